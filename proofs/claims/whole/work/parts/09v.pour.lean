/-! pour -/
theorem po_tail {σ : hw_St} {i p : Nat} (hi : i < 4) (hp : σ (60 + i) 1 = nI p) (p24 : p ≤ 24) (v : Int32) : ∀ (d j n : Nat), j + d = 24 → p ≤ j → d < n → L_X6_pour_32 n (60 + i) v (nI j) σ = some (v, σ) := by
  intro d
  induction d with
  | zero =>
    intro j n hj hpj hn
    obtain ⟨n, rfl⟩ : ∃ q, n = q + 1 := ⟨n - 1, by omega⟩
    have : j = 24 := by omega
    subst this
    show S_X6_pour_32 (L_X6_pour_32 n) (60 + i) v (nI 24) σ = _
    unfold S_X6_pour_32
    rw [if_pos (by decide)]
  | succ d ih =>
    intro j n hj hpj hn
    obtain ⟨n, rfl⟩ : ∃ q, n = q + 1 := ⟨n - 1, by omega⟩
    show S_X6_pour_32 (L_X6_pour_32 n) (60 + i) v (nI j) σ = _
    unfold S_X6_pour_32
    rw [if_neg (show ¬ (24 : Int32) ≤ nI j from iNle.mpr (nI_lt (b := 24) (by omega) (by decide))), X3_num hi hp p24 (by omega), hw_bd_s, if_neg (show ¬ (j < p ∧ ¬ σ (64 + i) j = -1000000005) from fun g => by omega), if_pos rfl]
    unfold B_X6_pour_106
    rw [show nI j + 1 = nI (j + 1) from nI_add j 1]
    exact ih (j + 1) n (by omega) (by omega) (by omega)
theorem po_loop {i p : Nat} (hi : i < 4) (p24 : p ≤ 24) : ∀ (d j n : Nat) (v : Int32) (σ τ : hw_St), hv_R σ τ → τ 215 i = nI p → j + d = p → 24 - j < n → ∃ r σ' τ', L_X6_pour_32 n (60 + i) v (nI j) σ = some (r, σ') ∧ L_X7_pour_26 n (nI i) v (nI j) τ = some (r, τ') ∧ hv_R σ' τ' := by
  obtain ⟨k1, k2, k3, k4, k5⟩ := shF i hi
  have gi : hw_inb (nI i) 4 = true := inb_nI (by omega) (by decide)
  have ci : (nI i).toNatClampNeg = i := nI_clamp (by omega)
  intro d
  induction d with
  | zero =>
    intro j n v σ τ HR hp' hj hn
    have HR' := HR
    obtain ⟨w, h, T, A, I, B, E⟩ := HR
    obtain ⟨e1, e2, ⟨p2, q24, e3, e3'⟩, e4⟩ := E.sh i hi
    have : p2 = p := nI_inj' (by omega) (by omega) (e3'.symm.trans hp')
    subst this
    have : j = p2 := by omega
    subst this
    refine ⟨v, σ, τ, po_tail hi e3 p24 v (24 - j) j n (by omega) (Nat.le_refl _) (by omega), ?_, HR'⟩
    obtain ⟨n, rfl⟩ : ∃ q, n = q + 1 := ⟨n - 1, by omega⟩
    show S_X7_pour_26 (L_X7_pour_26 n) (nI i) v (nI j) τ = _
    unfold S_X7_pour_26
    rw [hw_gd_t gi, ci, hp', if_pos (Int32.le_refl _)]
  | succ d ih =>
    intro j n v σ τ HR hp' hj hn
    have HR' := HR
    obtain ⟨w, h, T, A, I, B, E⟩ := HR
    obtain ⟨e1, e2, ⟨p2, q24, e3, e3'⟩, e4⟩ := E.sh i hi
    have : p2 = p := nI_inj' (by omega) (by omega) (e3'.symm.trans hp')
    subst this
    obtain ⟨n, rfl⟩ : ∃ q, n = q + 1 := ⟨n - 1, by omega⟩
    have ej : nI j + 1 = nI (j + 1) := nI_add j 1
    have gj : hw_inb (nI j) 24 = true := inb_nI (by omega) (by decide)
    have cj : (nI j).toNatClampNeg = j := nI_clamp (by omega)
    have e5 : (5 : Int32) + nI j = nI (5 + j) := nI_add 5 j
    have g5 : hw_inb (nI (5 + j)) 1443 = true := inb_nI (by omega) (by decide)
    have c5 : (nI (5 + j)).toNatClampNeg = 5 + j := nI_clamp (by omega)
    have w3 : σ 3 j = τ 201 (5 + j) := A.wd j (by omega)
    by_cases hz : τ 216 (24 * i + j) = -1000000005
    · obtain ⟨r, σ', τ', f1, f2, f3⟩ := ih (j + 1) n v σ τ HR' hp' (by omega) (by omega)
      refine ⟨r, σ', τ', ?_, ?_, f3⟩
      · show S_X6_pour_32 (L_X6_pour_32 n) (60 + i) v (nI j) σ = _
        unfold S_X6_pour_32 B_X6_pour_106
        rw [if_neg (show ¬ (24 : Int32) ≤ nI j from iNle.mpr (nI_lt (b := 24) (by omega) (by decide))), X3_num hi e3 p24 (by omega), hw_bd_s, e4 j (by omega), if_neg (show ¬ (j < p2 ∧ ¬ τ 216 (24 * i + j) = -1000000005) from fun g => g.2 hz), if_pos rfl, ej, f1]
      · show S_X7_pour_26 (L_X7_pour_26 n) (nI i) v (nI j) τ = _
        unfold S_X7_pour_26 B_X7_pour_75 B_X7_pour_96
        have ei : hw_up τ 201 (5 + j) (τ 201 (5 + j)) = τ := by
          rw [up_upA, show upd (τ 201) (5 + j) (τ 201 (5 + j)) = τ 201 from funext (fun k => by
            unfold upd
            by_cases g : k = 5 + j
            · rw [if_pos g, g]
            · rw [if_neg g]), upA_id]
        rw [hw_gd_t gi, ci, hp', if_neg (iNle.mpr (nI_lt (by omega) (by omega))), ix24, hw_gd_t (inb_nI (i := 24 * i + j) (by omega) (by decide)), hw_nm_s, nI_clamp (by omega), if_pos hz, e5, hw_gd_t g5, hw_gd_t g5, c5, if_pos rfl, hw_nm_s, hw_gd_t g5, hw_nm_s, ei, ej, Int32.add_zero, f2]
    · have R1 : hv_R (hw_up σ 3 j (cl (τ 216 (24 * i + j)) 0 99)) (hw_up τ 201 (5 + j) (cl (τ 216 (24 * i + j)) 0 99)) := R_up (w := w) (h := h) (Nat.le_refl _) I B E (by omega) (Or.inl (by decide)) (Sc_wind A (by omega) (cl_in _ (by decide)))
      obtain ⟨r, σ', τ', f1, f2, f3⟩ := ih (j + 1) n (v + (if cl (τ 216 (24 * i + j)) 0 99 = τ 201 (5 + j) then 0 else 1)) _ _ R1 (by rw [up_row _ _ _ _ (by decide)]; exact hp') (by omega) (by omega)
      refine ⟨r, σ', τ', ?_, ?_, f3⟩
      · show S_X6_pour_32 (L_X6_pour_32 n) (60 + i) v (nI j) σ = _
        unfold S_X6_pour_32 B_X6_pour_104 B_X6_pour_106
        rw [if_neg (show ¬ (24 : Int32) ≤ nI j from iNle.mpr (nI_lt (b := 24) (by omega) (by decide))), X3_num hi e3 p24 (by omega), hw_bd_s, e4 j (by omega), if_pos (show j < p2 ∧ ¬ τ 216 (24 * i + j) = -1000000005 from ⟨by omega, hz⟩), if_neg (by decide), hw_gd_t gj, hw_nm_s, k3, hw_gd_t k4, k5, hw_gd_t gj, cj, e4 j (by omega), X6_within (by decide), hw_bd_s, hw_gd_t gj, hw_nm_s, hw_gd_t gj, up_self, upd_s, w3, hw_nm_s, hw_nm_s, ej]
        by_cases g : cl (τ 216 (24 * i + j)) 0 99 = τ 201 (5 + j)
        · rw [if_pos g] at f1 ⊢; exact f1
        · rw [if_neg g] at f1 ⊢; exact f1
      · show S_X7_pour_26 (L_X7_pour_26 n) (nI i) v (nI j) τ = _
        unfold S_X7_pour_26 B_X7_pour_75 B_X7_pour_96
        rw [hw_gd_t gi, ci, hp', if_neg (iNle.mpr (nI_lt (by omega) (by omega))), ix24, hw_gd_t (inb_nI (i := 24 * i + j) (by omega) (by decide)), hw_nm_s, nI_clamp (by omega), if_neg hz, X7_within, hw_bd_s, e5, hw_gd_t g5, c5]
        by_cases g : cl (τ 216 (24 * i + j)) 0 99 = τ 201 (5 + j)
        · rw [if_pos g, hw_nm_s, hw_gd_t g5, hw_nm_s, ej]
          rw [if_pos g] at f2; exact f2
        · rw [if_neg g, hw_nm_s, hw_gd_t g5, hw_nm_s, ej]
          rw [if_neg g] at f2; exact f2
theorem sim_pour : hw_sim1 hv_R F_X6_pour F_X7_pour := by
  intro a σ τ HR
  have HR' := HR
  obtain ⟨w, h, T, A, I, B, E⟩ := HR
  by_cases ha : 0 ≤ a ∧ a ≤ 3
  · obtain ⟨i, hi, rfl⟩ := ix_to (m := 3) rfl ha.1 ha.2
    obtain ⟨k1, k2, k3, k4, k5⟩ := shF i (by omega)
    obtain ⟨e1, e2, ⟨p, p24, e3, e3'⟩, e4⟩ := E.sh i (by omega)
    have gi : hw_inb (nI i) 4 = true := inb_nI (by omega) (by decide)
    have ci : (nI i).toNatClampNeg = i := nI_clamp (by omega)
    by_cases hm : 0 ≤ τ 214 i
    · have nm : ¬ τ 214 i = -1 := (ms_iff e2).mp hm
      obtain ⟨r, σ', τ', f1, f2, f3⟩ := po_loop (show i < 4 by omega) p24 p 0 130 0 σ τ HR' e3' (by omega) (by omega)
      refine ⟨r, σ', τ', ?_, ?_, f3⟩
      · unfold F_X6_pour
        rw [X6_isSheet, hw_bd_s, if_pos ha, if_neg (by decide), hw_gd_t gi, ci, k1, hw_gd_t k2, X3_miss (by omega), hw_bd_s, e1, if_neg nm, if_pos rfl]
        exact f1
      · unfold F_X7_pour
        rw [X7_isSheet, hw_bd_s, if_pos ha, if_neg (by decide), hw_gd_t gi, ci, if_pos hm]
        exact f2
    · have nm : τ 214 i = -1 := Decidable.byContradiction (fun g => hm ((ms_iff e2).mpr g))
      refine ⟨-1000000011, σ, τ, ?_, ?_, HR'⟩
      · unfold F_X6_pour
        rw [X6_isSheet, hw_bd_s, if_pos ha, if_neg (by decide), hw_gd_t gi, ci, k1, hw_gd_t k2, X3_miss (by omega), hw_bd_s, e1, if_pos nm, if_neg (by decide)]
      · unfold F_X7_pour
        rw [X7_isSheet, hw_bd_s, if_pos ha, if_neg (by decide), hw_gd_t gi, ci, if_neg hm]
  · refine ⟨-1000000001, σ, τ, ?_, ?_, HR'⟩
    · unfold F_X6_pour; rw [X6_isSheet, hw_bd_s, if_neg ha, if_pos rfl]
    · unfold F_X7_pour; rw [X7_isSheet, hw_bd_s, if_neg ha, if_pos rfl]
