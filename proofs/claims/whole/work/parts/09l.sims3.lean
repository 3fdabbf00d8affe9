/-! winds, the limit, the seed -/
theorem Sc_wind {σ : hw_St} {N : Nat → Int32} {w h T q : Nat} {v : Int32} (H : hv_Sc σ 1 N w h T) (hq : q < 24) (hv : 0 ≤ v ∧ v ≤ 99) : hv_Sc (hw_up σ 3 q v) 1 (upd N (5 + q) v) w h T := by
  have hb := H.bw
  have o : ∀ j, (j < 5 ∨ 29 ≤ j) → upd N (5 + q) v j = N j := fun j hj => upd_n _ _ (by omega)
  have r : ∀ t, t ≠ 3 → hw_up σ 3 q v t = σ t := fun t ht => up_row _ _ _ _ ht
  have ro : ∀ i, rw_ (upd N (5 + q) v) i = rw_ N i := fun i => funext (fun k => o _ (by omega))
  refine ⟨H.bw, H.bh, H.bT, ?_, ?_, ?_, ?_, ?_, ?_, ?_, ?_, ?_, ?_, ?_, ?_, ?_, ?_, ?_⟩
  · rw [o _ (by omega)]; exact H.n1
  · rw [o _ (by omega)]; exact H.n2
  · rw [o _ (by omega)]; exact H.n4
  · rw [o _ (by omega)]; exact H.n3
  · rw [o _ (by omega), r _ (by omega)]; exact H.s9
  · rw [r _ (by omega)]; exact H.s6
  · rw [r _ (by omega)]; exact H.s7
  · rw [o _ (by omega), r _ (by omega)]; exact H.s8
  · rw [r _ (by omega)]; exact H.s5
  · intro k hk
    rw [show 1 + 2 = 3 from rfl, up_self]
    by_cases e : k = q
    · subst e; rw [upd_s, upd_s]
    · rw [upd_n _ _ e, upd_n _ _ (by omega)]; exact H.wd k hk
  · intro k hk
    by_cases e : k = q
    · subst e; rw [upd_s]; exact hv
    · rw [upd_n _ _ (by omega)]; exact H.wr k hk
  · intro i hi; rw [ro]; exact H.ww i hi
  · intro i hi k hk; rw [ro, r _ (by omega)]; exact H.wi i hi k hk
  · intro k hk
    rw [r _ (by omega), cn_at (fun j hj => o j (by omega))]; exact H.nw k hk
  · exact Txt_at (fun j hj => o j (by omega)) H.bT H.tx (fun t h1 h2 => r t (by omega))
theorem sim_windAt : hw_sim1 hv_R F_X6_windAt F_X7_windAt := by
  intro a σ τ HR
  have HR' := HR
  obtain ⟨w, h, T, A, I, B, E⟩ := HR
  by_cases ha : 0 ≤ a ∧ a ≤ 23
  · obtain ⟨q, hq, rfl⟩ := ix_to (m := 23) rfl ha.1 ha.2
    refine ⟨τ 201 (5 + q), σ, τ, ?_, ?_, HR'⟩
    · unfold F_X6_windAt
      rw [X6_isHour, hw_bd_s, if_pos ha, if_neg (by decide), hw_gd_t (inb_nI (by omega) (by decide)), nI_clamp (by omega), show σ 3 q = _ from A.wd q (by omega)]
    · unfold F_X7_windAt
      rw [X7_isHour, hw_bd_s, if_pos ha, if_neg (by decide), show (5 : Int32) + nI q = nI (5 + q) from nI_add 5 q, hw_gd_t (inb_nI (by omega) (by decide)), nI_clamp (by omega)]
  · refine ⟨-1000000001, σ, τ, ?_, ?_, HR'⟩
    · unfold F_X6_windAt; rw [X6_isHour, hw_bd_s, if_neg ha, if_pos rfl]
    · unfold F_X7_windAt; rw [X7_isHour, hw_bd_s, if_neg ha, if_pos rfl]
theorem sim_wind : hw_sim2 hv_R F_X6_wind F_X7_wind := by
  intro a b σ τ HR
  have HR' := HR
  obtain ⟨w, h, T, A, I, B, E⟩ := HR
  by_cases ha : 0 ≤ a ∧ a ≤ 23
  · by_cases hb : 0 ≤ b ∧ b ≤ 99
    · obtain ⟨q, hq, rfl⟩ := ix_to (m := 23) rfl ha.1 ha.2
      refine ⟨τ 201 (5 + q), hw_up σ 3 q b, hw_up τ 201 (5 + q) b, ?_, ?_, ?_⟩
      · unfold F_X6_wind
        rw [X6_isHour, hw_bd_s, if_pos ha, if_neg (by decide), X6_isWind, hw_bd_s, if_pos hb, if_neg (by decide), hw_gd_t (inb_nI (by omega) (by decide)), hw_nm_s, hw_gd_t (inb_nI (by omega) (by decide)), hw_nm_s, nI_clamp (by omega), show σ 3 q = _ from A.wd q (by omega)]
      · unfold F_X7_wind
        rw [X7_isHour, hw_bd_s, if_pos ha, if_neg (by decide), X7_isWind, hw_bd_s, if_pos hb, if_neg (by decide), show (5 : Int32) + nI q = nI (5 + q) from nI_add 5 q, X7_becomes (by omega), hw_bd_s]
      · exact R_up (w := w) (h := h) (Nat.le_refl _) I B E (by omega) (Or.inl (by decide)) (Sc_wind A (by omega) hb)
    · refine ⟨-1000000001, σ, τ, ?_, ?_, HR'⟩
      · unfold F_X6_wind; rw [X6_isHour, hw_bd_s, if_pos ha, if_neg (by decide), X6_isWind, hw_bd_s, if_neg hb, if_pos rfl]
      · unfold F_X7_wind; rw [X7_isHour, hw_bd_s, if_pos ha, if_neg (by decide), X7_isWind, hw_bd_s, if_neg hb, if_pos rfl]
  · refine ⟨-1000000001, σ, τ, ?_, ?_, HR'⟩
    · unfold F_X6_wind; rw [X6_isHour, hw_bd_s, if_neg ha, if_pos rfl]
    · unfold F_X7_wind; rw [X7_isHour, hw_bd_s, if_neg ha, if_pos rfl]
theorem Sc_lim {σ : hw_St} {N : Nat → Int32} {w h T : Nat} {v : Int32} (H : hv_Sc σ 1 N w h T) (hv : 0 ≤ v ∧ v ≤ 9999) : hv_Sc (hw_up σ 1 8 v) 1 (upd N 3 v) w h T := by
  have hb := H.bw
  have o : ∀ j, j ≠ 3 → upd N 3 v j = N j := fun j hj => upd_n _ _ hj
  have r : ∀ t, t ≠ 1 → hw_up σ 1 8 v t = σ t := fun t ht => up_row _ _ _ _ ht
  have s : ∀ k, k ≠ 8 → hw_up σ 1 8 v 1 k = σ 1 k := fun k hk => by rw [up_self, upd_n _ _ hk]
  have ro : ∀ i, rw_ (upd N 3 v) i = rw_ N i := fun i => funext (fun k => o _ (by omega))
  refine ⟨H.bw, H.bh, H.bT, ?_, ?_, ?_, ?_, ?_, ?_, ?_, ?_, ?_, ?_, ?_, ?_, ?_, ?_, ?_⟩
  · rw [o _ (by omega)]; exact H.n1
  · rw [o _ (by omega)]; exact H.n2
  · rw [o _ (by omega)]; exact H.n4
  · rw [upd_s]; exact hv
  · rw [o _ (by omega), s _ (by omega)]; exact H.s9
  · rw [s _ (by omega)]; exact H.s6
  · rw [s _ (by omega)]; exact H.s7
  · rw [up_self, upd_s, upd_s]
  · rw [s _ (by omega)]; exact H.s5
  · intro k hk; rw [o _ (by omega), r _ (by omega)]; exact H.wd k hk
  · intro k hk; rw [o _ (by omega)]; exact H.wr k hk
  · intro i hi; rw [ro]; exact H.ww i hi
  · intro i hi k hk; rw [ro, r _ (by omega)]; exact H.wi i hi k hk
  · intro k hk
    rw [r _ (by omega), cn_at (fun j hj => o j (by omega))]; exact H.nw k hk
  · exact Txt_at (fun j hj => o j (by omega)) H.bT H.tx (fun t h1 h2 => r t (by omega))
theorem Sc_seed {σ : hw_St} {N : Nat → Int32} {w h T : Nat} (v : Int32) (H : hv_Sc σ 1 N w h T) : hv_Sc (hw_up σ 1 9 v) 1 (upd N 0 v) w h T := by
  have hb := H.bw
  have o : ∀ j, j ≠ 0 → upd N 0 v j = N j := fun j hj => upd_n _ _ hj
  have r : ∀ t, t ≠ 1 → hw_up σ 1 9 v t = σ t := fun t ht => up_row _ _ _ _ ht
  have s : ∀ k, k ≠ 9 → hw_up σ 1 9 v 1 k = σ 1 k := fun k hk => by rw [up_self, upd_n _ _ hk]
  have ro : ∀ i, rw_ (upd N 0 v) i = rw_ N i := fun i => funext (fun k => o _ (by omega))
  refine ⟨H.bw, H.bh, H.bT, ?_, ?_, ?_, ?_, ?_, ?_, ?_, ?_, ?_, ?_, ?_, ?_, ?_, ?_, ?_⟩
  · rw [o _ (by omega)]; exact H.n1
  · rw [o _ (by omega)]; exact H.n2
  · rw [o _ (by omega)]; exact H.n4
  · rw [o _ (by omega)]; exact H.n3
  · rw [up_self, upd_s, upd_s]
  · rw [s _ (by omega)]; exact H.s6
  · rw [s _ (by omega)]; exact H.s7
  · rw [o _ (by omega), s _ (by omega)]; exact H.s8
  · rw [s _ (by omega)]; exact H.s5
  · intro k hk; rw [o _ (by omega), r _ (by omega)]; exact H.wd k hk
  · intro k hk; rw [o _ (by omega)]; exact H.wr k hk
  · intro i hi; rw [ro]; exact H.ww i hi
  · intro i hi k hk; rw [ro, r _ (by omega)]; exact H.wi i hi k hk
  · intro k hk
    rw [r _ (by omega), cn_at (fun j hj => o j (by omega))]; exact H.nw k hk
  · exact Txt_at (fun j hj => o j (by omega)) H.bT H.tx (fun t h1 h2 => r t (by omega))
theorem sim_limit : hw_sim1 hv_R F_X6_limit F_X7_limit := by
  intro a σ τ HR
  have HR' := HR
  obtain ⟨w, h, T, A, I, B, E⟩ := HR
  by_cases ha : 0 ≤ a ∧ a ≤ 9999
  · refine ⟨τ 201 3, hw_up σ 1 8 a, hw_up τ 201 3 a, ?_, ?_, ?_⟩
    · unfold F_X6_limit
      rw [X6_isWithin, hw_bd_s, if_pos ha, if_neg (by decide), hw_nm_s, hw_nm_s, A.s8]
    · unfold F_X7_limit
      rw [X7_in, hw_bd_s, if_pos ha, if_neg (by decide), show F_X7_becomes 3 a τ = _ from X7_becomes (k := 3) (by decide) a τ, hw_bd_s]
    · exact R_up (w := w) (h := h) (Nat.le_refl _) I B E (by omega) (Or.inl (by decide)) (Sc_lim A ha)
  · refine ⟨-1000000001, σ, τ, ?_, ?_, HR'⟩
    · unfold F_X6_limit; rw [X6_isWithin, hw_bd_s, if_neg ha, if_pos rfl]
    · unfold F_X7_limit; rw [X7_in, hw_bd_s, if_neg ha, if_pos rfl]
theorem sim_seed : hw_sim1 hv_R F_X6_seed F_X7_seed := by
  intro a σ τ HR
  obtain ⟨w, h, T, A, I, B, E⟩ := HR
  refine ⟨τ 201 0, hw_up σ 1 9 a, hw_up τ 201 0 a, ?_, ?_, ?_⟩
  · unfold F_X6_seed
    rw [hw_nm_s, hw_nm_s, A.s9]
  · unfold F_X7_seed
    rw [hw_gd_t (by decide), hw_nm_s, hw_gd_t (by decide), hw_nm_s]; rfl
  · exact R_up (w := w) (h := h) (Nat.le_refl _) I B E (by omega) (Or.inl (by decide)) (Sc_seed a A)
/-! texts told -/
theorem sim_why : hw_sim1 hv_R F_X6_why F_X7_why := by
  intro a σ τ HR
  have HR' := HR
  obtain ⟨w, h, T, A, I, B, E⟩ := HR
  by_cases ha : 0 ≤ a ∧ a ≤ 2
  · obtain ⟨q, hq, rfl⟩ := ix_to (m := 2) rfl ha.1 ha.2
    refine ⟨nwv (cn (τ 201) q T), σ, τ, ?_, ?_, HR'⟩
    · unfold F_X6_why
      rw [X6_isWithin, hw_bd_s, if_pos ha, if_neg (by decide), hw_gd_t (inb_nI (by omega) (by decide)), nI_clamp (by omega), show σ 7 q = _ from A.nw q (by omega)]
    · unfold F_X7_why
      rw [X7_in, hw_bd_s, if_pos ha, if_neg (by decide), X7_counts A.n4 A.bT, hw_bd_s]
      cases hc : cn (τ 201) q T with
      | none => rw [if_neg nge_m1]; rfl
      | some t =>
        have := cn_lt hc
        have hT := A.bT
        rw [if_pos (show (0 : Int32) ≤ cnv (some t) from nI_pos' (by omega))]; rfl
  · refine ⟨-1000000001, σ, τ, ?_, ?_, HR'⟩
    · unfold F_X6_why; rw [X6_isWithin, hw_bd_s, if_neg ha, if_pos rfl]
    · unfold F_X7_why; rw [X7_in, hw_bd_s, if_neg ha, if_pos rfl]
theorem sim_textTold : hw_sim2 hv_R F_X6_textTold F_X7_textTold := by
  intro a b σ τ HR
  have HR' := HR
  obtain ⟨w, h, T, A, I, B, E⟩ := HR
  have hT := A.bT
  have c4 : τ 201 (4 : Int32).toNatClampNeg = nI T := A.n4
  by_cases ha : ∃ t, t < T ∧ a = nI t
  · have ha2 := (ix_of (a := a) (n := T) (by omega)).mpr ha
    by_cases hb : 0 ≤ b ∧ b ≤ 1
    · obtain ⟨t, ht, rfl⟩ := ha
      obtain ⟨key, len, g⟩ := A.tx t ht
      by_cases h0 : b = 0
      · refine ⟨nI key, σ, τ, ?_, ?_, HR'⟩
        · unfold F_X6_textTold
          rw [X6_isWithin, hw_bd_s, A.s5, if_pos ha2, if_neg (by decide), X6_isWithin, hw_bd_s, if_pos hb, if_neg (by decide), if_pos h0, hw_gd_t (inb_nI (by omega) (by decide)), nI_clamp (by omega), el9 t (by omega), hw_gd_t (fl_law t (by omega)).2.2.2, g.2.1]
        · unfold F_X7_textTold
          rw [hw_gd_t (by decide), X7_in, hw_bd_s, c4, if_pos ha2, if_neg (by decide), X7_in, hw_bd_s, if_pos hb, if_neg (by decide), if_pos h0, ixT, hw_gd_t (inb_nI (by omega) (by decide)), nI_clamp (by omega), (Tm_len g.1).2.2]
      · refine ⟨τ 201 (72 + 2 * t), σ, τ, ?_, ?_, HR'⟩
        · unfold F_X6_textTold
          rw [X6_isWithin, hw_bd_s, A.s5, if_pos ha2, if_neg (by decide), X6_isWithin, hw_bd_s, if_pos hb, if_neg (by decide), if_neg h0, hw_gd_t (inb_nI (by omega) (by decide)), nI_clamp (by omega), el9 t (by omega), hw_gd_t (fl_law t (by omega)).2.2.2, g.2.2.1]
        · unfold F_X7_textTold
          rw [hw_gd_t (by decide), X7_in, hw_bd_s, c4, if_pos ha2, if_neg (by decide), X7_in, hw_bd_s, if_pos hb, if_neg (by decide), if_neg h0, ixT, show nI (71 + 2 * t) + 1 = nI (71 + 2 * t + 1) from nI_add _ 1, hw_gd_t (inb_nI (by omega) (by decide)), nI_clamp (by omega), show 71 + 2 * t + 1 = 72 + 2 * t from by omega]
    · refine ⟨-1000000001, σ, τ, ?_, ?_, HR'⟩
      · unfold F_X6_textTold
        rw [X6_isWithin, hw_bd_s, A.s5, if_pos ha2, if_neg (by decide), X6_isWithin, hw_bd_s, if_neg hb, if_pos rfl]
      · unfold F_X7_textTold
        rw [hw_gd_t (by decide), X7_in, hw_bd_s, c4, if_pos ha2, if_neg (by decide), X7_in, hw_bd_s, if_neg hb, if_pos rfl]
  · have ha2 : ¬ (0 ≤ a ∧ a ≤ nI T - 1) := fun g => ha ((ix_of (by omega)).mp g)
    refine ⟨-1000000001, σ, τ, ?_, ?_, HR'⟩
    · unfold F_X6_textTold; rw [X6_isWithin, hw_bd_s, A.s5, if_neg ha2, if_pos rfl]
    · unfold F_X7_textTold; rw [hw_gd_t (by decide), X7_in, hw_bd_s, c4, if_neg ha2, if_pos rfl]
