/-! tell -/
theorem sim_tell : hw_sim1 hv_R F_X6_tell F_X7_tell := by
  intro a σ τ HR
  have HR' := HR
  obtain ⟨w, h, T, A, I, B, E⟩ := HR
  obtain ⟨n, h1, h2, h3, h4⟩ := E.te
  by_cases hn : n = 60
  · subst hn
    refine ⟨-1000000003, σ, τ, ?_, ?_, HR'⟩
    · unfold F_X6_tell; rw [h2, if_neg (by decide)]
    · unfold F_X7_tell; rw [h3, if_pos (by decide)]
  · have hlt : nI n < 60 := nI_lt (b := 60) (by omega) (by decide)
    have hne : ¬ nI n = 60 := fun e => by rw [e] at hlt; exact absurd hlt (by decide)
    have en1 : nI n + 1 = nI (n + 1) := nI_add n 1
    refine ⟨nI (n + 1), hw_up (hw_up σ 16 n a) 0 11 (nI (n + 1)), hw_up (hw_up τ 222 n a) 200 36 (nI (n + 1)), ?_, ?_, ?_⟩
    · unfold F_X6_tell
      rw [h2, if_pos hlt, hw_gd_t (inb_nI (by omega) (by decide)), hw_nm_s, hw_nm_s, nI_clamp (by omega), up_row σ 16 n a (show 0 ≠ 16 by decide), h2, en1, up_self, upd_s]
    · unfold F_X7_tell
      rw [h3, if_neg hne, hw_gd_t (inb_nI (by omega) (by decide)), hw_nm_s, hw_nm_s, nI_clamp (by omega), up_row τ 222 n a (show 200 ≠ 222 by decide), h3, en1, up_self, upd_s]
    · have q : ∀ t, t ≠ 0 → t ≠ 16 → hw_up (hw_up σ 16 n a) 0 11 (nI (n + 1)) t = σ t := fun t g1 g2 => by rw [up_row _ _ _ _ g1, up_row _ _ _ _ g2]
      have p : ∀ t, t ≠ 200 → t ≠ 222 → hw_up (hw_up τ 222 n a) 200 36 (nI (n + 1)) t = τ t := fun t g1 g2 => by rw [up_row _ _ _ _ g1, up_row _ _ _ _ g2]
      have q0 : ∀ k, k ≠ 11 → hw_up (hw_up σ 16 n a) 0 11 (nI (n + 1)) 0 k = σ 0 k := fun k g => by rw [up_self, upd_n _ _ g, up_row _ _ _ _ (by decide)]
      have p0 : ∀ k, k ≠ 36 → hw_up (hw_up τ 222 n a) 200 36 (nI (n + 1)) 200 k = τ 200 k := fun k g => by rw [up_self, upd_n _ _ g, up_row _ _ _ _ (by decide)]
      refine ⟨w, h, T, ?_, ?_, ?_, ?_⟩
      · rw [p 201 (by decide) (by decide)]
        exact Sc_keep A (q _ (by omega) (by omega)) (q _ (by omega) (by omega)) (q _ (by omega) (by omega)) (fun i hi => q _ (by omega) (by omega)) (fun t g1 g2 => q t (by omega) (by omega))
      · exact Im_keep I (q0 3 (by decide)) (p0 3 (by decide)) (p 202 (by decide) (by decide)) (fun t ht => q t (by omega) (by omega))
      · intro x g1 g2; rw [q x (by omega) (by omega)]; exact B x g1 g2
      · refine ⟨?_, ?_, fun i hi => ?_, fun i hi => ?_, ?_⟩
        · obtain ⟨m, e1, e2, e3, e4⟩ := E.ta
          exact ⟨m, e1, by rw [q0 6 (by decide)]; exact e2, by rw [p0 10 (by decide)]; exact e3, by rw [q 12 (by decide) (by decide), p 206 (by decide) (by decide)]; exact e4⟩
        · refine ⟨n + 1, by omega, by rw [up_self, upd_s], by rw [up_self, upd_s], fun j hj => ?_⟩
          rw [up_row _ _ _ _ (show 16 ≠ 0 by decide), up_row _ _ _ _ (show 222 ≠ 200 by decide), up_self, up_self]
          by_cases e : j = n
          · subst e; rw [upd_s, upd_s]
          · rw [upd_n _ _ e, upd_n _ _ e]; exact h4 j (by omega)
        · obtain ⟨e1, e2, e3, e4⟩ := E.sh i hi
          refine ⟨?_, ?_, ?_, ?_⟩
          · rw [q _ (by omega) (by omega), p _ (by omega) (by omega)]; exact e1
          · rw [p _ (by omega) (by omega)]; exact e2
          · rw [q _ (by omega) (by omega), p _ (by omega) (by omega)]; exact e3
          · rw [q _ (by omega) (by omega), p _ (by omega) (by omega)]; exact e4
        · obtain ⟨e1, e2, e3, e4, e5⟩ := E.sl i hi
          refine ⟨?_, ?_, ?_, ?_, ?_⟩
          · rw [q _ (by omega) (by omega), p _ (by omega) (by omega)]; exact e1
          · rw [p _ (by omega) (by omega)]; exact e2
          · rw [q _ (by omega) (by omega), p 217 (by omega) (by omega), p 218 (by omega) (by omega), p 219 (by omega) (by omega)]; exact e3
          · rw [q (78 + i) (by omega) (by omega), q (83 + i) (by omega) (by omega), p 217 (by omega) (by omega), p 218 (by omega) (by omega), p 220 (by omega) (by omega)]; exact e4
          · rw [q _ (by omega) (by omega), p 217 (by omega) (by omega), p 218 (by omega) (by omega)]; exact e5
        · exact ⟨by rw [p 207 (by decide) (by decide)]; exact E.co.1, by rw [p 208 (by decide) (by decide)]; exact E.co.2⟩
/-! count -/
def hdc (N : Nat → Int32) : Nat → Int32
  | 0 => 0
  | n + 1 => hdc N n + rw_ N n 5
theorem hc6 {σ : hw_St} {N : Nat → Int32} {w h T : Nat} (A : hv_Sc σ 1 N w h T) : ∀ (d i n : Nat), i + d = w → d < n → L_X2_heldCount_4 n 1 (hdc N i) (nI i) σ = some (hdc N w, σ) := by
  have hb := A.bw
  obtain ⟨s1, s2, s3, s4, s5, s6, s7, s8, s9, s10, s11, s12⟩ := scS (S := 1) (Or.inl rfl)
  intro d
  induction d with
  | zero =>
    intro i n hi hn
    obtain ⟨n, rfl⟩ : ∃ m, n = m + 1 := ⟨n - 1, by omega⟩
    show S_X2_heldCount_4 (L_X2_heldCount_4 n) 1 (hdc N i) (nI i) σ = _
    unfold S_X2_heldCount_4
    have : i = w := by omega
    subst this
    rw [A.s6, if_pos (Int32.le_refl _)]
  | succ d ih =>
    intro i n hi hn
    obtain ⟨n, rfl⟩ : ∃ m, n = m + 1 := ⟨n - 1, by omega⟩
    show S_X2_heldCount_4 (L_X2_heldCount_4 n) 1 (hdc N i) (nI i) σ = _
    unfold S_X2_heldCount_4
    have h6 : i < 6 := by omega
    rw [A.s6, if_neg (iNle.mpr (nI_lt (by omega) (by omega))), s5, hw_gd_t s9, s10, hw_gd_t (inb_nI h6 (by decide)), nI_clamp (by omega), (elS (Or.inl rfl) h6).1, hw_gd_t (elS (Or.inl rfl) h6).2, A.wi i (by omega) 5 (by decide)]
    have e := ih (i + 1) n (by omega) (by omega)
    unfold B_X2_heldCount_30
    rw [hw_nm_s, hw_nm_s, show nI i + 1 = nI (i + 1) from nI_add i 1]
    rcases (A.ww i (by omega)).2.2.2.2.2 with e5 | e5
    · rw [if_pos e5]
      rw [show hdc N (i + 1) = hdc N i + 0 from by rw [← e5]; rfl] at e
      exact e
    · rw [if_neg (by rw [e5]; decide)]
      rw [show hdc N (i + 1) = hdc N i + 1 from by rw [← e5]; rfl] at e
      exact e
theorem hc7 {σ τ : hw_St} {w h T : Nat} (A : hv_Sc σ 1 (τ 201) w h T) : ∀ (d i n : Nat), i + d = w → d < n → L_X7_count_57 n (hdc (τ 201) i) (nI i) τ = some (hdc (τ 201) w, τ) := by
  have hb := A.bw
  have c1 : τ 201 (1 : Int32).toNatClampNeg = nI w := A.n1
  intro d
  induction d with
  | zero =>
    intro i n hi hn
    obtain ⟨n, rfl⟩ : ∃ m, n = m + 1 := ⟨n - 1, by omega⟩
    show S_X7_count_57 (L_X7_count_57 n) (hdc (τ 201) i) (nI i) τ = _
    unfold S_X7_count_57
    have : i = w := by omega
    subst this
    rw [hw_gd_t (by decide), c1, if_pos (Int32.le_refl _)]
  | succ d ih =>
    intro i n hi hn
    obtain ⟨n, rfl⟩ : ∃ m, n = m + 1 := ⟨n - 1, by omega⟩
    show S_X7_count_57 (L_X7_count_57 n) (hdc (τ 201) i) (nI i) τ = _
    unfold S_X7_count_57
    rw [hw_gd_t (by decide), c1, if_neg (iNle.mpr (nI_lt (by omega) (by omega))), show F_X7_of (nI i) 5 τ = _ from X7_of (k := 5) (by omega) (by decide) τ, hw_bd_s, hw_nm_s, show nI i + 1 = nI (i + 1) from nI_add i 1]
    exact ih (i + 1) n (by omega) (by omega)
theorem sim_count : hw_sim1 hv_R F_X6_count F_X7_count := by
  intro a σ τ HR
  have HR' := HR
  obtain ⟨w, h, T, A, I, B, E⟩ := HR
  have hb := A.bw
  have c1 : τ 201 (1 : Int32).toNatClampNeg = nI w := A.n1
  have c2 : τ 201 (2 : Int32).toNatClampNeg = nI h := A.n2
  have c4 : τ 201 (4 : Int32).toNatClampNeg = nI T := A.n4
  obtain ⟨n, -, t2, t3, -⟩ := E.te
  obtain ⟨m, -, u2, u3, -⟩ := E.ta
  have k6 : F_X2_heldCount 1 σ = some (hdc (τ 201) w, σ) := by
    unfold F_X2_heldCount
    rw [hw_gd_t (scS (S := 1) (Or.inl rfl)).1]
    exact hc6 A w 0 130 (by omega) (by omega)
  have k7 : L_X7_count_57 130 0 0 τ = some (hdc (τ 201) w, τ) := hc7 A w 0 130 (by omega) (by omega)
  unfold F_X6_count F_X7_count
  rw [k6, k7, hw_bd_s, hw_gd_t (by decide), hw_gd_t (by decide), hw_gd_t (by decide), hw_gd_t (by decide), hw_gd_t (by decide), c1, c2, c4, A.s6, A.s7, A.s8, A.s5, A.s9, t2, t3, u2, u3, show τ 201 (3 : Int32).toNatClampNeg = τ 201 3 from rfl, show τ 201 (0 : Int32).toNatClampNeg = τ 201 0 from rfl]
  by_cases h0 : a = 0
  · rw [if_pos h0, if_pos h0]; exact ⟨_, σ, τ, rfl, rfl, HR'⟩
  rw [if_neg h0, if_neg h0]
  by_cases h0 : a = 1
  · rw [if_pos h0, if_pos h0]; exact ⟨_, σ, τ, rfl, rfl, HR'⟩
  rw [if_neg h0, if_neg h0]
  by_cases h0 : a = 2
  · rw [if_pos h0, if_pos h0]; exact ⟨_, σ, τ, rfl, rfl, HR'⟩
  rw [if_neg h0, if_neg h0]
  by_cases h0 : a = 3
  · rw [if_pos h0, if_pos h0]; exact ⟨_, σ, τ, rfl, rfl, HR'⟩
  rw [if_neg h0, if_neg h0]
  by_cases h0 : a = 4
  · rw [if_pos h0, if_pos h0]; exact ⟨_, σ, τ, rfl, rfl, HR'⟩
  rw [if_neg h0, if_neg h0]
  by_cases h0 : a = 5
  · rw [if_pos h0, if_pos h0]; exact ⟨_, σ, τ, rfl, rfl, HR'⟩
  rw [if_neg h0, if_neg h0]
  by_cases h0 : a = 6
  · rw [if_pos h0, if_pos h0]; exact ⟨_, σ, τ, rfl, rfl, HR'⟩
  rw [if_neg h0, if_neg h0]
  by_cases h0 : a = 7
  · rw [if_pos h0, if_pos h0]; exact ⟨_, σ, τ, rfl, rfl, HR'⟩
  rw [if_neg h0, if_neg h0]
  exact ⟨_, σ, τ, rfl, rfl, HR'⟩
