/-! blown -/
theorem bl_loop {σ τ : hw_St} {w h T i : Nat} (A : hv_Sc σ 1 (τ 201) w h T) (hi : i < w) (b c : Int32) : ∀ (d j n : Nat) (l5 l6 l7 : Int32), j + d = 100 → d < n → ∃ r, L_X6_blown_41 n b c (18 + i) l5 l6 l7 (nI j) σ = some (r, σ) ∧ L_X7_blown_34 n (nI i) b c l5 l6 l7 (nI j) τ = some (r, τ) := by
  have h6 : i < 6 := Nat.lt_of_lt_of_le hi A.bw
  have hg : hw_gH (18 + i) 5 = true := (elS' i h6).1.2
  have hr : e7 (σ (18 + i)) (rw_ (τ 201) i) := W_rows A hi
  have hv := A.ww i hi
  have h1 : 1 ≤ σ (18 + i) 1 := by rw [hr 1 (by decide)]; exact hv.2.1.1
  intro d
  induction d with
  | zero =>
    intro j n l5 l6 l7 hj hn
    obtain ⟨n, rfl⟩ : ∃ q, n = q + 1 := ⟨n - 1, by omega⟩
    have : j = 100 := by omega
    subst this
    refine ⟨if c = 0 then l5 else if c = 1 then l6 else l7, ?_, ?_⟩
    · show S_X6_blown_41 (L_X6_blown_41 n) b c (18 + i) l5 l6 l7 (nI 100) σ = _
      unfold S_X6_blown_41
      rw [if_pos (by decide)]
      split
      · rfl
      · split <;> rfl
    · show S_X7_blown_34 (L_X7_blown_34 n) (nI i) b c l5 l6 l7 (nI 100) τ = _
      unfold S_X7_blown_34
      rw [if_pos (by decide)]
      split
      · rfl
      · split <;> rfl
  | succ d ih =>
    intro j n l5 l6 l7 hj hn
    obtain ⟨n, rfl⟩ : ∃ q, n = q + 1 := ⟨n - 1, by omega⟩
    have e6 : L_X6_blown_41 (n + 1) b c (18 + i) l5 l6 l7 (nI j) σ = (if wEd (rw_ (τ 201) i) (nI j) = b then (if l7 = 0 then (B_X6_blown_71 (L_X6_blown_41 n) b c (18 + i) l7 (nI j) (nI j) σ) else (B_X6_blown_71 (L_X6_blown_41 n) b c (18 + i) l7 (nI j) l5 σ)) else (B_X6_blown_80 (L_X6_blown_41 n) b c (18 + i) l5 l6 l7 (nI j) σ)) := by
      show S_X6_blown_41 (L_X6_blown_41 n) b c (18 + i) l5 l6 l7 (nI j) σ = _
      unfold S_X6_blown_41
      rw [if_neg (show ¬ (99 : Int32) < nI j from iNlt.mpr (nI_le (b := 99) (by omega) (by decide))), hw_gd_t hg, X5_eddy hg σ h1, hw_bd_s, ed_cg hr]
    have e7' : L_X7_blown_34 (n + 1) (nI i) b c l5 l6 l7 (nI j) τ = (if wEd (rw_ (τ 201) i) (nI j) = b then (if l7 = 0 then (B_X7_blown_64 (L_X7_blown_34 n) (nI i) b c l7 (nI j) (nI j) τ) else (B_X7_blown_64 (L_X7_blown_34 n) (nI i) b c l7 (nI j) l5 τ)) else (B_X7_blown_73 (L_X7_blown_34 n) (nI i) b c l5 l6 l7 (nI j) τ)) := by
      show S_X7_blown_34 (L_X7_blown_34 n) (nI i) b c l5 l6 l7 (nI j) τ = _
      unfold S_X7_blown_34
      rw [if_neg (show ¬ (100 : Int32) ≤ nI j from iNle.mpr (nI_lt (b := 100) (by omega) (by decide))), X7_eddy h6 τ hv.2.1.1, hw_bd_s]
    rw [e6, e7']
    unfold B_X6_blown_71 B_X7_blown_64 B_X6_blown_80 B_X7_blown_73
    rw [show nI j + 1 = nI (j + 1) from nI_add j 1]
    by_cases he : wEd (rw_ (τ 201) i) (nI j) = b
    · rw [if_pos he, if_pos he]
      by_cases h7 : l7 = 0
      · rw [if_pos h7, if_pos h7]; exact ih (j + 1) n _ _ _ (by omega) (by omega)
      · rw [if_neg h7, if_neg h7]; exact ih (j + 1) n _ _ _ (by omega) (by omega)
    · rw [if_neg he, if_neg he]; exact ih (j + 1) n _ _ _ (by omega) (by omega)
theorem sim_blown : hw_sim3 hv_R F_X6_blown F_X7_blown := by
  intro a b c σ τ HR
  have HR' := HR
  obtain ⟨w, h, T, A, I, B, E⟩ := HR
  by_cases ha : ∃ i, i < w ∧ a = nI i
  · obtain ⟨i, hi, rfl⟩ := ha
    by_cases hc : 0 ≤ c ∧ c ≤ 2
    · obtain ⟨r, e1, e2⟩ := bl_loop A hi b c 100 0 130 (-1000000005) (-1000000005) 0 (by omega) (by omega)
      refine ⟨r, σ, τ, ?_, ?_, HR'⟩
      · unfold F_X6_blown
        rw [wireAt_yes (Or.inl rfl) A hi, hw_bd_s, if_neg (by have := A.bw; omega), X6_isWithin, hw_bd_s, if_pos hc, if_neg (by decide)]
        exact e1
      · unfold F_X7_blown
        rw [isWire_yes A hi, hw_bd_s, if_neg (by decide), X7_in, hw_bd_s, if_pos hc, if_neg (by decide)]
        exact e2
    · refine ⟨-1000000001, σ, τ, ?_, ?_, HR'⟩
      · unfold F_X6_blown
        rw [wireAt_yes (Or.inl rfl) A hi, hw_bd_s, if_neg (by have := A.bw; omega), X6_isWithin, hw_bd_s, if_neg hc, if_pos rfl]
      · unfold F_X7_blown
        rw [isWire_yes A hi, hw_bd_s, if_neg (by decide), X7_in, hw_bd_s, if_neg hc, if_pos rfl]
  · refine ⟨-1000000001, σ, τ, ?_, ?_, HR'⟩
    · unfold F_X6_blown; rw [wireAt_no (Or.inl rfl) A ha, hw_bd_s, if_pos rfl]
    · unfold F_X7_blown; rw [isWire_no A ha, hw_bd_s, if_pos rfl]
