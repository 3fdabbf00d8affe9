/-! sheets -/
theorem shF : ∀ i, i < 4 → hw_el 14 i = 60 + i ∧ hw_gH (60 + i) 3 = true ∧ hw_fl (60 + i) 2 = 64 + i ∧ hw_gH (64 + i) 10 = true ∧ hw_ln (64 + i) = 24 := by decide
theorem X3_miss {i : Nat} (hi : i < 4) (s : hw_St) : F_X3_isMissing (60 + i) s = some (if s (60 + i) 0 = -1 then 1 else 0, s) := by
  unfold F_X3_isMissing
  rw [hw_gd_t (shF i hi).2.1]
  split <;> rfl
theorem ms_iff {x : Int32} (h : -1 ≤ x ∧ x ≤ 1) : (0 ≤ x) ↔ ¬ x = -1 := by
  have h1 := (iLe _ _).mp h.1
  rw [show (-1 : Int32).toInt = -1 from rfl] at h1
  rw [iLe, iEq, show (-1 : Int32).toInt = -1 from rfl, show (0 : Int32).toInt = 0 from rfl]
  omega
theorem s01 {x : Int32} (h : -1 ≤ x ∧ x ≤ 1) (h0 : 0 ≤ x) : x = 0 ∨ x = 1 := by
  obtain ⟨q, hq, rfl⟩ := ix_to (m := 1) rfl h0 h.2
  have c : q = 0 ∨ q = 1 := by omega
  rcases c with rfl | rfl
  · exact Or.inl rfl
  · exact Or.inr rfl
theorem ix24 {i j : Nat} : (24 : Int32) * nI i + nI j = nI (24 * i + j) := by rw [show (24 : Int32) = nI 24 from rfl, pk_mul, nI_add]
theorem X3_place {i p : Nat} (hi : i < 4) {s : hw_St} (hp : s (60 + i) 1 = nI p) (b : Int32) : F_X3_hasPlace (60 + i) b s = some (if 0 ≤ b ∧ b ≤ nI p - 1 then 1 else 0, s) := by
  unfold F_X3_hasPlace
  rw [hw_gd_t (shF i hi).2.1, X6_isWithin, hw_bd_s, hp, isbI]
theorem X3_num {i p j : Nat} (hi : i < 4) {s : hw_St} (hp : s (60 + i) 1 = nI p) (p24 : p ≤ 24) (hj : j < 24) : F_X3_hasNumber (60 + i) (nI j) s = some (if j < p ∧ ¬ s (64 + i) j = -1000000005 then 1 else 0, s) := by
  obtain ⟨k1, k2, k3, k4, k5⟩ := shF i hi
  unfold F_X3_hasNumber
  rw [hw_gd_t k2, X3_place hi hp, hw_bd_s]
  by_cases h : j < p
  · rw [if_pos ((ix_of (by omega)).mpr ⟨j, h, rfl⟩), if_neg (by decide), k3, hw_gd_t k4, k5, hw_gd_t (inb_nI hj (by decide)), nI_clamp (by omega)]
    by_cases g : s (64 + i) j = -1000000005
    · rw [if_pos g, if_neg (fun q => q.2 g)]
    · rw [if_neg g, if_pos ⟨h, g⟩]
  · have : ¬ (0 ≤ nI j ∧ nI j ≤ nI p - 1) := fun q => by
      obtain ⟨i2, h2, e⟩ := (ix_of (by omega)).mp q
      have := (iEq _ _).mp e
      rw [nI_toInt (by omega), nI_toInt (by omega)] at this
      omega
    rw [if_neg this, if_pos rfl, if_neg (fun q => h q.1)]
theorem R_sh {σ σ' τ τ' : hw_St} (HR : hv_R σ τ) (sh : ∀ i, i < 4 → hv_Sh σ' τ' i) (ks : ∀ t, (t < 60 ∨ 68 ≤ t) → σ' t = σ t) (kt : ∀ t, t ≠ 214 → t ≠ 215 → t ≠ 216 → t ≠ 221 → τ' t = τ t) : hv_R σ' τ' := by
  obtain ⟨w, h, T, A, I, B, E⟩ := HR
  have k200 : τ' 200 = τ 200 := kt 200 (by decide) (by decide) (by decide) (by decide)
  have k0 : σ' 0 = σ 0 := ks 0 (by omega)
  refine ⟨w, h, T, ?_, ?_, ?_, ?_, ?_, sh, fun i hi => ?_, ?_⟩
  · rw [kt 201 (by decide) (by decide) (by decide) (by decide)]
    exact Sc_keep A (ks _ (by omega)) (ks _ (by omega)) (ks _ (by omega)) (fun i hi => ks _ (by omega)) (fun t g1 g2 => ks t (by omega))
  · exact Im_keep I (by rw [k0]) (by rw [k200]) (kt 202 (by decide) (by decide) (by decide) (by decide)) (fun t ht => ks t (by omega))
  · intro x g1 g2; rw [ks x (by omega)]; exact B x g1 g2
  · obtain ⟨n, h1, h2, h3, h4⟩ := E.ta
    exact ⟨n, h1, by rw [k0]; exact h2, by rw [k200]; exact h3, by rw [ks 12 (by omega), kt 206 (by decide) (by decide) (by decide) (by decide)]; exact h4⟩
  · obtain ⟨n, h1, h2, h3, h4⟩ := E.te
    exact ⟨n, h1, by rw [k0]; exact h2, by rw [k200]; exact h3, by rw [ks 16 (by omega), kt 222 (by decide) (by decide) (by decide) (by decide)]; exact h4⟩
  · obtain ⟨e1, e2, e3, e4, e5⟩ := E.sl i hi
    have q7 : τ' 217 = τ 217 := kt 217 (by decide) (by decide) (by decide) (by decide)
    have q8 : τ' 218 = τ 218 := kt 218 (by decide) (by decide) (by decide) (by decide)
    have q9 : τ' 219 = τ 219 := kt 219 (by decide) (by decide) (by decide) (by decide)
    have q0 : τ' 220 = τ 220 := kt 220 (by decide) (by decide) (by decide) (by decide)
    refine ⟨?_, ?_, ?_, ?_, ?_⟩
    · rw [ks _ (by omega), q7]; exact e1
    · rw [q7]; exact e2
    · rw [ks _ (by omega), q7, q8, q9]; exact e3
    · rw [ks (78 + i) (by omega), ks (83 + i) (by omega), q7, q8, q0]; exact e4
    · rw [ks _ (by omega), q7, q8]; exact e5
  · exact ⟨by rw [kt 207 (by decide) (by decide) (by decide) (by decide)]; exact E.co.1, by rw [kt 208 (by decide) (by decide) (by decide) (by decide)]; exact E.co.2⟩
theorem sh_mark {σ τ : hw_St} (H : ∀ i, i < 4 → hv_Sh σ τ i) {i j : Nat} (hi : i < 4) (hj : j < 24) (v : Int32) : ∀ i', i' < 4 → hv_Sh (hw_up σ (64 + i) j v) (hw_up τ 216 (24 * i + j) v) i' := by
  intro i' hi'
  obtain ⟨e1, e2, e3, e4⟩ := H i' hi'
  refine ⟨?_, ?_, ?_, fun q hq => ?_⟩
  · rw [up_row _ _ _ _ (by omega), up_row _ _ _ _ (by decide)]; exact e1
  · rw [up_row _ _ _ _ (by decide)]; exact e2
  · rw [up_row _ _ _ _ (by omega), up_row _ _ _ _ (by decide)]; exact e3
  · rw [up_at, up_self]
    unfold upd
    by_cases e : i' = i
    · subst e
      rw [if_pos rfl]
      by_cases g : q = j
      · rw [if_pos g, if_pos (by omega)]
      · rw [if_neg g, if_neg (by omega)]; exact e4 q hq
    · rw [if_neg (by omega), if_neg (by omega)]; exact e4 q hq
theorem sim_mark : hw_sim3 hv_R F_X6_mark F_X7_mark := by
  intro a b c σ τ HR
  have HR' := HR
  obtain ⟨w, h, T, A, I, B, E⟩ := HR
  by_cases ha : 0 ≤ a ∧ a ≤ 3
  · obtain ⟨i, hi, rfl⟩ := ix_to (m := 3) rfl ha.1 ha.2
    obtain ⟨k1, k2, k3, k4, k5⟩ := shF i (by omega)
    obtain ⟨e1, e2, ⟨p, p24, e3, e3'⟩, e4⟩ := E.sh i (by omega)
    have gi : hw_inb (nI i) 4 = true := inb_nI (by omega) (by decide)
    have ci : (nI i).toNatClampNeg = i := nI_clamp (by omega)
    by_cases hm : 0 ≤ τ 214 i
    · have nm : ¬ τ 214 i = -1 := (ms_iff e2).mp hm
      by_cases hb : 0 ≤ b ∧ b ≤ nI p - 1
      · obtain ⟨j, hj, rfl⟩ := (ix_of (by omega)).mp hb
        have cj : (nI j).toNatClampNeg = j := nI_clamp (by omega)
        have gj : hw_inb (nI j) 24 = true := inb_nI (by omega) (by decide)
        have gc : hw_inb (nI (24 * i + j)) 96 = true := inb_nI (by omega) (by decide)
        have cc : (nI (24 * i + j)).toNatClampNeg = 24 * i + j := nI_clamp (by omega)
        have fin : ∀ v : Int32, hv_R (hw_up σ (64 + i) j v) (hw_up τ 216 (24 * i + j) v) := fun v => R_sh HR' (sh_mark E.sh (by omega) (by omega) v) (fun t ht => up_row _ _ _ _ (by omega)) (fun t _ _ g _ => up_row _ _ _ _ g)
        have m6 : F_X6_mark (nI i) (nI j) c σ = (if τ 214 i = 0 then (if c = -1000000005 then some (-1000000012, σ) else some (1, hw_up σ (64 + i) j c.toInt16.toInt32)) else (if c = -1000000005 then some (1, hw_up σ (64 + i) j c) else (hw_bd (F_X6_isWithin c (-99999) 99999 σ) (fun r13 s14 => if r13 = 0 then (some (-1000000001, s14)) else (B_X6_mark_90 (nI j) c (60 + i) s14))))) := by
          unfold F_X6_mark
          rw [X6_isSheet, hw_bd_s, if_pos ha, if_neg (by decide), hw_gd_t gi, ci, k1, hw_gd_t k2, X3_miss (by omega), hw_bd_s, e1, if_neg nm, if_pos rfl, X3_place (by omega) e3, hw_bd_s, if_pos hb, if_neg (by decide), e1, k3, hw_gd_t k4, k5, hw_gd_t gj, hw_nm_s, cj]
          unfold B_X6_mark_90
          rw [k3, hw_gd_t k4, k5, hw_gd_t gj, hw_nm_s, cj]
        have m7 : F_X7_mark (nI i) (nI j) c τ = (if τ 214 i = 0 then (if c = -1000000005 then some (-1000000012, τ) else B_X7_mark_59 (nI i) (nI j) c τ) else B_X7_mark_59 (nI i) (nI j) c τ) := by
          unfold F_X7_mark
          rw [X7_isSheet, hw_bd_s, if_pos ha, if_neg (by decide), hw_gd_t gi, ci, if_pos hm, hw_gd_t gi, X7_in, hw_bd_s, e3', if_pos hb, if_neg (by decide), hw_gd_t gi]
        have m9 : B_X7_mark_89 (nI i) (nI j) c τ = (if τ 214 i = 0 then some (1, hw_up τ 216 (24 * i + j) c.toInt16.toInt32) else some (1, hw_up τ 216 (24 * i + j) c)) := by
          unfold B_X7_mark_89 B_X7_mark_114
          rw [hw_gd_t gi, ci, ix24, hw_gd_t gc, hw_gd_t gc, hw_nm_s, hw_nm_s, cc]
        have m5 : B_X7_mark_59 (nI i) (nI j) c τ = (if τ 214 i = 1 then (if c = -1000000005 then B_X7_mark_89 (nI i) (nI j) c τ else (hw_bd (F_X7_in c (-99999) 99999 τ) (fun r16 s17 => if r16 = 0 then (some (-1000000001, s17)) else (B_X7_mark_89 (nI i) (nI j) c s17)))) else B_X7_mark_89 (nI i) (nI j) c τ) := by
          unfold B_X7_mark_59
          rw [hw_gd_t gi, ci]
        rw [m6, m7, m5, m9]
        rcases s01 e2 hm with h0 | h1
        · rw [if_pos h0, if_pos h0]
          by_cases hc : c = -1000000005
          · rw [if_pos hc, if_pos hc]; exact ⟨_, σ, τ, rfl, rfl, HR'⟩
          · rw [if_neg hc, if_neg hc, if_neg (by rw [h0]; decide), if_pos h0]; exact ⟨_, _, _, rfl, rfl, fin _⟩
        · have n0 : ¬ τ 214 i = 0 := by rw [h1]; decide
          rw [if_neg n0, if_neg n0, if_pos h1]
          by_cases hc : c = -1000000005
          · rw [if_pos hc, if_pos hc, if_neg n0]; exact ⟨_, _, _, rfl, rfl, fin _⟩
          · rw [if_neg hc, if_neg hc, X6_isWithin, hw_bd_s, X7_in, hw_bd_s]
            by_cases hr : -99999 ≤ c ∧ c ≤ 99999
            · rw [if_pos hr, if_neg (by decide), if_neg (by decide), m9, if_neg n0]
              unfold B_X6_mark_90
              rw [k3, hw_gd_t k4, k5, hw_gd_t gj, hw_nm_s, cj]
              exact ⟨_, _, _, rfl, rfl, fin _⟩
            · rw [if_neg hr, if_pos rfl, if_pos rfl]; exact ⟨_, σ, τ, rfl, rfl, HR'⟩
      · refine ⟨-1000000013, σ, τ, ?_, ?_, HR'⟩
        · unfold F_X6_mark
          rw [X6_isSheet, hw_bd_s, if_pos ha, if_neg (by decide), hw_gd_t gi, ci, k1, hw_gd_t k2, X3_miss (by omega), hw_bd_s, e1, if_neg nm, if_pos rfl, X3_place (by omega) e3, hw_bd_s, if_neg hb, if_pos rfl]
        · unfold F_X7_mark
          rw [X7_isSheet, hw_bd_s, if_pos ha, if_neg (by decide), hw_gd_t gi, ci, if_pos hm, hw_gd_t gi, X7_in, hw_bd_s, e3', if_neg hb, if_pos rfl]
    · have nm : τ 214 i = -1 := Decidable.byContradiction (fun g => hm ((ms_iff e2).mpr g))
      refine ⟨-1000000011, σ, τ, ?_, ?_, HR'⟩
      · unfold F_X6_mark
        rw [X6_isSheet, hw_bd_s, if_pos ha, if_neg (by decide), hw_gd_t gi, ci, k1, hw_gd_t k2, X3_miss (by omega), hw_bd_s, e1, if_pos nm, if_neg (by decide)]
      · unfold F_X7_mark
        rw [X7_isSheet, hw_bd_s, if_pos ha, if_neg (by decide), hw_gd_t gi, ci, if_neg hm]
  · refine ⟨-1000000001, σ, τ, ?_, ?_, HR'⟩
    · unfold F_X6_mark; rw [X6_isSheet, hw_bd_s, if_neg ha, if_pos rfl]
    · unfold F_X7_mark; rw [X7_isSheet, hw_bd_s, if_neg ha, if_pos rfl]
