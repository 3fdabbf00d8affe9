/-! copy -/
theorem sub_pI {p : Nat} (hp : p ≤ 24) {c : Int32} (hc : 0 ≤ c) : (nI p - c).toInt = (p : Int) - c.toInt := by
  have h1 := (iLe _ _).mp hc
  have h2 := fb_rng' c
  rw [show (0 : Int32).toInt = 0 from rfl] at h1
  rw [Int32.toInt_sub, nI_toInt (by omega)]
  exact Int.bmod_eq_of_le (by omega) (by omega)
theorem sh_cp {σ τ : hw_St} (H : ∀ i, i < 4 → hv_Sh σ τ i) {i i3 a b m : Nat} (hi : i < 4) (hi3 : i3 < 4) (ha : a + m ≤ 24) (hb : b + m ≤ 24) {g : Nat → Int32} : ∀ i', i' < 4 → hv_Sh (hw_upA σ (64 + i3) (va_cpy (σ (64 + i)) (σ (64 + i3)) a b m)) (hw_upA (hw_upA τ 221 g) 216 (fun k => if 24 * i3 + b + 0 ≤ k ∧ k < 24 * i3 + b + m then τ 216 (24 * i + a + (k - (24 * i3 + b))) else τ 216 k)) i' := by
  intro i' hi'
  obtain ⟨e1, e2, e3, e4⟩ := H i' hi'
  refine ⟨?_, ?_, ?_, fun j hj => ?_⟩
  · rw [upA_row _ _ _ (by omega), upA_row _ _ _ (by decide), upA_row _ _ _ (by decide)]; exact e1
  · rw [upA_row _ _ _ (by decide), upA_row _ _ _ (by decide)]; exact e2
  · rw [upA_row _ _ _ (by omega), upA_row _ _ _ (by decide), upA_row _ _ _ (by decide)]; exact e3
  · rw [upA_self]
    by_cases e : i' = i3
    · subst e
      rw [upA_self]
      unfold va_cpy
      by_cases q : b ≤ j ∧ j < b + m
      · rw [if_pos q, if_pos (by omega), (H i hi).nu _ (by omega), show 24 * i + (a + (j - b)) = 24 * i + a + (24 * i' + j - (24 * i' + b)) by omega]
      · rw [if_neg q, if_neg (by omega)]; exact e4 j hj
    · rw [upA_row _ _ _ (by omega), if_neg (by omega)]; exact e4 j hj
theorem sim_copy : hw_sim5 hv_R F_X6_copy F_X7_copy := by
  intro a b c d m σ τ HR
  have HR' := HR
  obtain ⟨w, h, T, A, I, B, E⟩ := HR
  by_cases ha : 0 ≤ a ∧ a ≤ 3
  · by_cases hc : 0 ≤ c ∧ c ≤ 3
    · obtain ⟨i, hi, rfl⟩ := ix_to (m := 3) rfl ha.1 ha.2
      obtain ⟨i3, hi3, rfl⟩ := ix_to (m := 3) rfl hc.1 hc.2
      obtain ⟨k1, k2, k3, k4, k5⟩ := shF i (by omega)
      obtain ⟨l1, l2, l3, l4, l5⟩ := shF i3 (by omega)
      obtain ⟨e1, e2, ⟨p, p24, e3, e3'⟩, e4⟩ := E.sh i (by omega)
      obtain ⟨f1, f2, ⟨p3, q24, f3, f3'⟩, f4⟩ := E.sh i3 (by omega)
      have gi : hw_inb (nI i) 4 = true := inb_nI (by omega) (by decide)
      have ci : (nI i).toNatClampNeg = i := nI_clamp (by omega)
      have gi3 : hw_inb (nI i3) 4 = true := inb_nI (by omega) (by decide)
      have ci3 : (nI i3).toNatClampNeg = i3 := nI_clamp (by omega)
      by_cases hm : 0 ≤ τ 214 i
      · have nm : ¬ τ 214 i = -1 := (ms_iff e2).mp hm
        by_cases hm3 : 0 ≤ τ 214 i3
        · have nm3 : ¬ τ 214 i3 = -1 := (ms_iff f2).mp hm3
          have m6 : F_X6_copy (nI i) b (nI i3) d m σ = (if τ 214 i = τ 214 i3 then (hw_bd (F_X3_hasPlaces (60 + i) b m σ) (fun r16 s17 => if r16 = 0 then (some (-1000000013, s17)) else (hw_bd (F_X3_hasPlaces (60 + i3) d m s17) (fun r19 s20 => if r19 = 0 then (some (-1000000013, s20)) else (hw_gd (hw_cpo b d m 24 24) (hw_nm (hw_upA s20 (64 + i3) (va_cpy (s20 (64 + i)) (s20 (64 + i3)) b.toNatClampNeg d.toNatClampNeg m.toNatClampNeg)) (fun s26 => some (m, s26)))))))) else some (-1000000012, σ)) := by
            unfold F_X6_copy
            rw [X6_isSheet, hw_bd_s, if_pos ha, if_neg (by decide), X6_isSheet, hw_bd_s, if_pos hc, if_neg (by decide), hw_gd_t gi, ci, k1, hw_gd_t k2, hw_gd_t gi3, ci3, l1, hw_gd_t l2, X3_miss (by omega), hw_bd_s, e1, if_neg nm, if_pos rfl, X3_miss (by omega), hw_bd_s, f1, if_neg nm3, if_pos rfl, e1, k3, l3]
            simp only [hw_gd_t k4, hw_gd_t l4, k5, l5]
          have m7 : F_X7_copy (nI i) b (nI i3) d m τ = (if τ 214 i = τ 214 i3 then (if b < 0 then some (-1000000013, τ) else (if d < 0 then some (-1000000013, τ) else (if m < 0 then some (-1000000013, τ) else (if nI p - m < b then some (-1000000013, τ) else (if d ≤ nI p3 - m then L_X7_copy_103 130 (nI i) b (nI i3) d m 0 τ else some (-1000000013, τ)))))) else some (-1000000012, τ)) := by
            unfold F_X7_copy
            rw [X7_isSheet, hw_bd_s, if_pos ha, if_neg (by decide), X7_isSheet, hw_bd_s, if_pos hc, if_neg (by decide), hw_gd_t gi, ci, if_neg (iNlt.mpr hm), hw_gd_t gi3, ci3, if_pos hm3, hw_gd_t gi, hw_gd_t gi3, hw_gd_t gi, hw_gd_t gi3, e3', f3']
          rw [m6, m7]
          by_cases hs : τ 214 i = τ 214 i3
          · rw [if_pos hs, if_pos hs, X3_places (by omega) e3 p24, hw_bd_s]
            have z : (0 : Int32).toInt = 0 := rfl
            by_cases C : (0 ≤ b.toInt ∧ 0 ≤ m.toInt ∧ b.toInt + m.toInt ≤ p) ∧ (0 ≤ d.toInt ∧ 0 ≤ m.toInt ∧ d.toInt + m.toInt ≤ p3)
            · obtain ⟨C1, C3⟩ := C
              obtain ⟨x, hx, rfl⟩ := ix_to (a := b) (M := 24) (m := 24) rfl ((iLe _ _).mpr (by omega)) ((iLe _ _).mpr (by rw [show (24 : Int32).toInt = 24 from rfl]; omega))
              obtain ⟨y, hy, rfl⟩ := ix_to (a := d) (M := 24) (m := 24) rfl ((iLe _ _).mpr (by omega)) ((iLe _ _).mpr (by rw [show (24 : Int32).toInt = 24 from rfl]; omega))
              obtain ⟨n, hn, rfl⟩ := ix_to (a := m) (M := 24) (m := 24) rfl ((iLe _ _).mpr (by omega)) ((iLe _ _).mpr (by rw [show (24 : Int32).toInt = 24 from rfl]; omega))
              have c1 := C1
              have c3 := C3
              rw [nI_toInt (by omega), nI_toInt (by omega)] at c1 c3
              have o6 : hw_cpo (nI x) (nI y) (nI n) 24 24 = true := by
                unfold hw_cpo
                rw [nI_clamp (by omega), nI_clamp (by omega), nI_clamp (by omega)]
                exact decide_eq_true ⟨iNlt.mpr (nI_pos' (by omega)), iNlt.mpr (nI_pos' (by omega)), iNlt.mpr (nI_pos' (by omega)), by omega, by omega⟩
              have sp := sub_pI p24 (c := nI n) (nI_pos' (by omega))
              have sq := sub_pI q24 (c := nI n) (nI_pos' (by omega))
              have q1 : ¬ nI p - nI n < nI x := iNlt.mpr ((iLe _ _).mpr (by rw [sp]; omega))
              have q2 : nI y ≤ nI p3 - nI n := (iLe _ _).mpr (by rw [sq]; omega)
              rw [if_pos C1, if_neg (by decide), X3_places (by omega) f3 q24, hw_bd_s, if_pos C3, if_neg (by decide), hw_gd_t o6, hw_nm_s, nI_clamp (by omega), nI_clamp (by omega), nI_clamp (by omega), if_neg (iNlt.mpr (nI_pos' (by omega))), if_neg (iNlt.mpr (nI_pos' (by omega))), if_neg (iNlt.mpr (nI_pos' (by omega))), if_neg q1, if_pos q2, show L_X7_copy_103 130 (nI i) (nI x) (nI i3) (nI y) (nI n) 0 τ = _ from cp103 (by omega) (by omega) n 0 130 τ (by omega) (by omega), show L_X7_copy_140 130 (nI i3) (nI y) (nI n) 0 _ = _ from cp140 (by omega) (by omega) n 0 130 _ (by omega) (by omega), upA_self, upA_row _ _ _ (show 216 ≠ 221 by decide)]
              refine ⟨nI n, _, _, rfl, rfl, ?_⟩
              rw [show (fun k => if 24 * i3 + y + 0 ≤ k ∧ k < 24 * i3 + y + n then (if 0 ≤ k - (24 * i3 + y) ∧ k - (24 * i3 + y) < n then τ 216 (24 * i + x + (k - (24 * i3 + y))) else τ 221 (k - (24 * i3 + y))) else τ 216 k) = (fun k => if 24 * i3 + y + 0 ≤ k ∧ k < 24 * i3 + y + n then τ 216 (24 * i + x + (k - (24 * i3 + y))) else τ 216 k) from funext (fun k => by
                by_cases q : 24 * i3 + y + 0 ≤ k ∧ k < 24 * i3 + y + n
                · rw [if_pos q, if_pos q, if_pos (by omega)]
                · rw [if_neg q, if_neg q])]
              exact R_sh HR' (sh_cp E.sh (by omega) (by omega) (by omega) (by omega)) (fun t ht => upA_row _ _ _ (by omega)) (fun t _ _ g3 g4 => by rw [upA_row _ _ _ g3, upA_row _ _ _ g4])
            · refine ⟨-1000000013, σ, τ, ?_, ?_, HR'⟩
              · by_cases C1 : 0 ≤ b.toInt ∧ 0 ≤ m.toInt ∧ b.toInt + m.toInt ≤ p
                · rw [if_pos C1, if_neg (by decide), X3_places (by omega) f3 q24, hw_bd_s, if_neg (fun g => C ⟨C1, g⟩), if_pos rfl]
                · rw [if_neg C1, if_pos rfl]
              · by_cases h1 : b < 0
                · rw [if_pos h1]
                rw [if_neg h1]
                by_cases h2 : d < 0
                · rw [if_pos h2]
                rw [if_neg h2]
                by_cases h3 : m < 0
                · rw [if_pos h3]
                rw [if_neg h3]
                have g1 := (iLe _ _).mp (iNlt.mp h1)
                have g2 := (iLe _ _).mp (iNlt.mp h2)
                have g3 := (iLe _ _).mp (iNlt.mp h3)
                have sp := sub_pI p24 (iNlt.mp h3)
                have sq := sub_pI q24 (iNlt.mp h3)
                by_cases h4 : nI p - m < b
                · rw [if_pos h4]
                have g4 := (iLe _ _).mp (iNlt.mp h4)
                rw [if_neg h4, if_neg (fun g => by
                  have g5 := (iLe _ _).mp g
                  omega)]
          · rw [if_neg hs, if_neg hs]; exact ⟨_, σ, τ, rfl, rfl, HR'⟩
        · have nm3 : τ 214 i3 = -1 := Decidable.byContradiction (fun g => hm3 ((ms_iff f2).mpr g))
          refine ⟨-1000000011, σ, τ, ?_, ?_, HR'⟩
          · unfold F_X6_copy
            rw [X6_isSheet, hw_bd_s, if_pos ha, if_neg (by decide), X6_isSheet, hw_bd_s, if_pos hc, if_neg (by decide), hw_gd_t gi, ci, k1, hw_gd_t k2, hw_gd_t gi3, ci3, l1, hw_gd_t l2, X3_miss (by omega), hw_bd_s, e1, if_neg nm, if_pos rfl, X3_miss (by omega), hw_bd_s, f1, if_pos nm3, if_neg (by decide)]
          · unfold F_X7_copy
            rw [X7_isSheet, hw_bd_s, if_pos ha, if_neg (by decide), X7_isSheet, hw_bd_s, if_pos hc, if_neg (by decide), hw_gd_t gi, ci, if_neg (iNlt.mpr hm), hw_gd_t gi3, ci3, if_neg hm3]
      · have nm : τ 214 i = -1 := Decidable.byContradiction (fun g => hm ((ms_iff e2).mpr g))
        refine ⟨-1000000011, σ, τ, ?_, ?_, HR'⟩
        · unfold F_X6_copy
          rw [X6_isSheet, hw_bd_s, if_pos ha, if_neg (by decide), X6_isSheet, hw_bd_s, if_pos hc, if_neg (by decide), hw_gd_t gi, ci, k1, hw_gd_t k2, hw_gd_t gi3, ci3, l1, hw_gd_t l2, X3_miss (by omega), hw_bd_s, e1, if_pos nm, if_neg (by decide)]
        · unfold F_X7_copy
          rw [X7_isSheet, hw_bd_s, if_pos ha, if_neg (by decide), X7_isSheet, hw_bd_s, if_pos hc, if_neg (by decide), hw_gd_t gi, ci, if_pos (by rw [nm]; decide)]
    · refine ⟨-1000000001, σ, τ, ?_, ?_, HR'⟩
      · unfold F_X6_copy; rw [X6_isSheet, hw_bd_s, if_pos ha, if_neg (by decide), X6_isSheet, hw_bd_s, if_neg hc, if_pos rfl]
      · unfold F_X7_copy; rw [X7_isSheet, hw_bd_s, if_pos ha, if_neg (by decide), X7_isSheet, hw_bd_s, if_neg hc, if_pos rfl]
  · refine ⟨-1000000001, σ, τ, ?_, ?_, HR'⟩
    · unfold F_X6_copy; rw [X6_isSheet, hw_bd_s, if_neg ha, if_pos rfl]
    · unfold F_X7_copy; rw [X7_isSheet, hw_bd_s, if_neg ha, if_pos rfl]
