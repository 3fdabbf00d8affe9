/-! the first states, and winds dealt -/
theorem R_init : hv_R hw_s0H hw_s0M := by
  refine ⟨0, 0, 0, ?_, Or.inl ⟨rfl, rfl⟩, ?_, ?_⟩
  · refine ⟨by decide, by decide, by decide, rfl, rfl, rfl, by decide, rfl, rfl, rfl, rfl, rfl, ?_, ?_, fun i hi => absurd hi (by omega), fun i hi => absurd hi (by omega), ?_, fun t ht => absurd ht (by omega)⟩
    · decide
    · decide
    · decide
  · intro x h1 h2
    have : ∀ x, x < 30 → 18 ≤ x → (hw_s0H x 5 = 0 ∨ hw_s0H x 5 = 1) := by decide
    exact this x h2 h1
  · refine ⟨⟨0, by decide, rfl, rfl, fun j hj => absurd hj (by omega)⟩, ⟨0, by decide, rfl, rfl, fun j hj => absurd hj (by omega)⟩, fun i hi => ?_, fun i hi => ?_, rfl, rfl⟩
    · have c : i = 0 ∨ i = 1 ∨ i = 2 ∨ i = 3 := by omega
      rcases c with rfl | rfl | rfl | rfl <;> exact ⟨rfl, by decide, ⟨0, by decide, rfl, rfl⟩, fun j _ => rfl⟩
    · have c : i = 0 ∨ i = 1 ∨ i = 2 ∨ i = 3 ∨ i = 4 := by omega
      rcases c with rfl | rfl | rfl | rfl | rfl <;> exact ⟨rfl, by decide, fun e => absurd e (by decide), fun e => absurd e (by decide), fun e => absurd e (by decide)⟩
theorem dl_step {σ τ : hw_St} (HR : hv_R σ τ) {q : Nat} (hq : q < 24) : ∃ v σ' τ', F_X2_drawWind 1 (nI q) σ = some (v, σ') ∧ (hw_gd (hw_inb (5 + (hw_rem ((nI q + 24) - 1) 24)) 1443) (hw_bd (F_X7_draw τ) (fun r10 s11 => hw_bd (F_X7_within (((τ 201 (5 + (hw_rem ((nI q + 24) - 1) 24)).toNatClampNeg) + (hw_rem r10 11)) - 5) 0 99 s11) (fun r12 s13 => hw_gd (hw_inb (5 + nI q) 1443) (hw_nm (hw_up s13 201 (5 + nI q).toNatClampNeg r12) (fun s14 => some (r12, s14))))))) = some (v, τ') ∧ hv_R σ' τ' := by
  obtain ⟨w, h, T, A, I, B, E⟩ := HR
  obtain ⟨s1, s2, s3, s4, s5, s6, s7, s8, -⟩ := scS (S := 1) (Or.inl rfl)
  have ep : hw_rem ((nI q + 24) - 1) 24 = nI ((q + 23) % 24) := by
    rw [show nI q + 24 = nI (q + 23 + 1) from nI_add q 24, nI_pred, show (24 : Int32) = nI 24 from rfl, rem_nI (by omega) (by decide) (by decide)]
  have hp : (q + 23) % 24 < 24 := Nat.mod_lt _ (by decide)
  have e5 : (5 : Int32) + nI ((q + 23) % 24) = nI (5 + (q + 23) % 24) := nI_add 5 _
  have e6 : (5 : Int32) + nI q = nI (5 + q) := nI_add 5 q
  have R1 : hv_R (hw_up σ 1 9 (τ 201 0 * 1103515245 + 12345)) (hw_up τ 201 0 (τ 201 0 * 1103515245 + 12345)) := R_up (w := w) (h := h) (Nat.le_refl _) I B E (by omega) (Or.inl (by decide)) (Sc_seed _ A)
  have hz : ∀ v : Int32, cl v 0 99 = cl v 0 99 := fun _ => rfl
  refine ⟨cl (τ 201 (5 + (q + 23) % 24) + hw_rem (hw_ushr (τ 201 0 * 1103515245 + 12345) 8) 11 - 5) 0 99, hw_up (hw_up σ 1 9 (τ 201 0 * 1103515245 + 12345)) 3 q (cl (τ 201 (5 + (q + 23) % 24) + hw_rem (hw_ushr (τ 201 0 * 1103515245 + 12345) 8) 11 - 5) 0 99), hw_up (hw_up τ 201 0 (τ 201 0 * 1103515245 + 12345)) 201 (5 + q) (cl (τ 201 (5 + (q + 23) % 24) + hw_rem (hw_ushr (τ 201 0 * 1103515245 + 12345) 8) 11 - 5) 0 99), ?_, ?_, ?_⟩
  · unfold F_X2_drawWind
    rw [hw_gd_t s1, hw_nm_s, A.s9, s4, hw_gd_t s7, s8, ep, hw_gd_t (inb_nI hp (by decide)), hw_nm_s, nI_clamp (by omega), up_row _ _ _ _ (show 1 + 2 ≠ 1 by decide), A.wd _ hp, up_self, upd_s, X6_within (by decide), hw_bd_s, hw_gd_t (inb_nI hq (by decide)), hw_nm_s, hw_gd_t (inb_nI hq (by decide)), nI_clamp (by omega), up_self, upd_s]
  · have ed : F_X7_draw τ = some (hw_ushr (τ 201 0 * 1103515245 + 12345) 8, hw_up τ 201 0 (τ 201 0 * 1103515245 + 12345)) := by
      unfold F_X7_draw
      rw [hw_gd_t (by decide), hw_gd_t (by decide), hw_nm_s, hw_gd_t (by decide), show (0 : Int32).toNatClampNeg = 0 from rfl, up_self, upd_s]
    rw [ep, e5, hw_gd_t (inb_nI (by omega) (by decide)), ed, hw_bd_s, nI_clamp (by omega), X7_within, hw_bd_s, e6, hw_gd_t (inb_nI (by omega) (by decide)), hw_nm_s, nI_clamp (by omega)]
  · obtain ⟨w2, h2, T2, A2, I2, B2, E2⟩ := R1
    exact R_up (w := w2) (h := h2) (Nat.le_refl _) I2 B2 E2 (by omega) (Or.inl (by decide)) (Sc_wind A2 hq (cl_in _ (by decide)))
theorem dl_loop {m c : Nat} (hm : m < 24) (hc : c ≤ 24) : ∀ (d j n : Nat) (v : Int32) (σ τ : hw_St), hv_R σ τ → j + d = c → d < n → ∃ r σ' τ', L_X6_deal_25 n (nI m) (nI c) v (nI j) σ = some (r, σ') ∧ L_X7_deal_25 n (nI m) (nI c) v (nI j) τ = some (r, τ') ∧ hv_R σ' τ' := by
  intro d
  induction d with
  | zero =>
    intro j n v σ τ HR hj hn
    obtain ⟨n, rfl⟩ : ∃ q, n = q + 1 := ⟨n - 1, by omega⟩
    have : j = c := by omega
    subst this
    refine ⟨v, σ, τ, ?_, ?_, HR⟩
    · show S_X6_deal_25 (L_X6_deal_25 n) (nI m) (nI j) v (nI j) σ = _
      unfold S_X6_deal_25
      rw [if_pos (Int32.le_refl _)]
    · show S_X7_deal_25 (L_X7_deal_25 n) (nI m) (nI j) v (nI j) τ = _
      unfold S_X7_deal_25
      rw [if_pos (Int32.le_refl _)]
  | succ d ih =>
    intro j n v σ τ HR hj hn
    obtain ⟨n, rfl⟩ : ∃ q, n = q + 1 := ⟨n - 1, by omega⟩
    have hq : (m + j) % 24 < 24 := Nat.mod_lt _ (by decide)
    have em : hw_rem (nI m + nI j) 24 = nI ((m + j) % 24) := by
      rw [nI_add, show (24 : Int32) = nI 24 from rfl, rem_nI (by omega) (by decide) (by decide)]
    obtain ⟨v1, σ1, τ1, e1, e2, HR1⟩ := dl_step HR hq
    obtain ⟨r, σ', τ', f1, f2, f3⟩ := ih (j + 1) n v1 σ1 τ1 HR1 (by omega) (by omega)
    have ej : nI j + 1 = nI (j + 1) := nI_add j 1
    refine ⟨r, σ', τ', ?_, ?_, f3⟩
    · show S_X6_deal_25 (L_X6_deal_25 n) (nI m) (nI c) v (nI j) σ = _
      unfold S_X6_deal_25
      rw [if_neg (iNle.mpr (nI_lt (by omega) (by omega))), em, e1, hw_bd_s, ej]
      exact f1
    · show S_X7_deal_25 (L_X7_deal_25 n) (nI m) (nI c) v (nI j) τ = _
      unfold S_X7_deal_25
      rw [if_neg (iNle.mpr (nI_lt (by omega) (by omega))), em, hw_nm_s]
      have ep : hw_rem ((nI ((m + j) % 24) + 24) - 1) 24 = nI (((m + j) % 24 + 23) % 24) := by
        rw [show nI ((m + j) % 24) + 24 = nI ((m + j) % 24 + 23 + 1) from nI_add _ 24, nI_pred, show (24 : Int32) = nI 24 from rfl, rem_nI (by omega) (by decide) (by decide)]
      have hp : ((m + j) % 24 + 23) % 24 < 24 := Nat.mod_lt _ (by decide)
      have e5 : (5 : Int32) + nI (((m + j) % 24 + 23) % 24) = nI (5 + ((m + j) % 24 + 23) % 24) := nI_add 5 _
      have e6 : (5 : Int32) + nI ((m + j) % 24) = nI (5 + (m + j) % 24) := nI_add 5 _
      have g1 : hw_inb (nI (5 + ((m + j) % 24 + 23) % 24)) 1443 = true := inb_nI (by omega) (by decide)
      have g2 : hw_inb (nI (5 + (m + j) % 24)) 1443 = true := inb_nI (by omega) (by decide)
      have ed : F_X7_draw τ = some (hw_ushr (τ 201 0 * 1103515245 + 12345) 8, hw_up τ 201 0 (τ 201 0 * 1103515245 + 12345)) := by
        unfold F_X7_draw
        rw [hw_gd_t (by decide), hw_gd_t (by decide), hw_nm_s, hw_gd_t (by decide), show (0 : Int32).toNatClampNeg = 0 from rfl, up_self, upd_s]
      rw [ep, e5, hw_gd_t g1, ed, hw_bd_s, X7_within, hw_bd_s, e6, hw_gd_t g2, hw_nm_s] at e2 ⊢
      simp only [Option.some.injEq, Prod.mk.injEq] at e2
      rw [e2.1, ej]
      rw [e2.1] at e2
      rw [e2.2]
      exact f2
theorem sim_deal : hw_sim2 hv_R F_X6_deal F_X7_deal := by
  intro a b σ τ HR
  by_cases ha : 0 ≤ a ∧ a ≤ 23
  · by_cases hb : 1 ≤ b ∧ b ≤ 24
    · obtain ⟨m, hm, rfl⟩ := ix_to (m := 23) rfl ha.1 ha.2
      obtain ⟨c, hc, rfl⟩ := ix_to (m := 24) rfl (Int32.le_trans (by decide) hb.1) hb.2
      obtain ⟨r, σ', τ', f1, f2, f3⟩ := dl_loop (show m < 24 by omega) hc c 0 130 0 σ τ HR (by omega) (by omega)
      refine ⟨r, σ', τ', ?_, ?_, f3⟩
      · unfold F_X6_deal
        rw [X6_isHour, hw_bd_s, if_pos ha, if_neg (by decide), X6_isWithin, hw_bd_s, if_pos hb, if_neg (by decide)]
        exact f1
      · unfold F_X7_deal
        rw [X7_isHour, hw_bd_s, if_pos ha, if_neg (by decide), X7_in, hw_bd_s, if_pos hb, if_neg (by decide)]
        exact f2
    · refine ⟨-1000000001, σ, τ, ?_, ?_, HR⟩
      · unfold F_X6_deal; rw [X6_isHour, hw_bd_s, if_pos ha, if_neg (by decide), X6_isWithin, hw_bd_s, if_neg hb, if_pos rfl]
      · unfold F_X7_deal; rw [X7_isHour, hw_bd_s, if_pos ha, if_neg (by decide), X7_in, hw_bd_s, if_neg hb, if_pos rfl]
  · refine ⟨-1000000001, σ, τ, ?_, ?_, HR⟩
    · unfold F_X6_deal; rw [X6_isHour, hw_bd_s, if_neg ha, if_pos rfl]
    · unfold F_X7_deal; rw [X7_isHour, hw_bd_s, if_neg ha, if_pos rfl]
