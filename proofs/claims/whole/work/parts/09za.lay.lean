/-! slots laid: what is kept, and the reference's loop -/
theorem R_sl {σ σ' τ τ' : hw_St} (HR : hv_R σ τ) (sl : ∀ i, i < 5 → hv_Sl σ' τ' i) (ks : ∀ t, t < 68 → σ' t = σ t) (kt : ∀ t, (t < 217 ∨ 221 ≤ t) → τ' t = τ t) : hv_R σ' τ' := by
  obtain ⟨w, h, T, A, I, B, E⟩ := HR
  have k200 : τ' 200 = τ 200 := kt 200 (by omega)
  have k0 : σ' 0 = σ 0 := ks 0 (by omega)
  refine ⟨w, h, T, ?_, ?_, ?_, ?_, ?_, fun i hi => ?_, sl, ?_⟩
  · rw [kt 201 (by omega)]
    exact Sc_keep A (ks _ (by omega)) (ks _ (by omega)) (ks _ (by omega)) (fun i hi => ks _ (by omega)) (fun t g1 g2 => ks t (by omega))
  · exact Im_keep I (by rw [k0]) (by rw [k200]) (kt 202 (by omega)) (fun t ht => ks t (by omega))
  · intro x g1 g2; rw [ks x (by omega)]; exact B x g1 g2
  · obtain ⟨n, h1, h2, h3, h4⟩ := E.ta
    exact ⟨n, h1, by rw [k0]; exact h2, by rw [k200]; exact h3, by rw [ks 12 (by omega), kt 206 (by omega)]; exact h4⟩
  · obtain ⟨n, h1, h2, h3, h4⟩ := E.te
    exact ⟨n, h1, by rw [k0]; exact h2, by rw [k200]; exact h3, by rw [ks 16 (by omega), kt 222 (by omega)]; exact h4⟩
  · obtain ⟨e1, e2, e3, e4⟩ := E.sh i hi
    refine ⟨?_, ?_, ?_, ?_⟩
    · rw [ks _ (by omega), kt 214 (by omega)]; exact e1
    · rw [kt 214 (by omega)]; exact e2
    · rw [ks _ (by omega), kt 215 (by omega)]; exact e3
    · rw [ks _ (by omega), kt 216 (by omega)]; exact e4
  · exact ⟨by rw [kt 207 (by omega)]; exact E.co.1, by rw [kt 208 (by omega)]; exact E.co.2⟩
theorem ly_no {v l3 l4 : Int32} (h : ¬ v = 2) (n : Nat) (l1 : Int32) (τ : hw_St) : L_X7_lay_134 (n + 1) l1 v l3 l4 0 τ = some (l4, τ) := by
  show S_X7_lay_134 (L_X7_lay_134 n) l1 v l3 l4 0 τ = _
  unfold S_X7_lay_134
  rw [if_neg (by decide), if_neg h]
theorem ly_two {i q : Nat} (hi : i < 5) (hq : q < 4) (l4 : Int32) : ∀ (d j n : Nat) (τ : hw_St), j + d = 24 → d < n → L_X7_lay_134 n (nI i) 2 (nI q) l4 (nI j) τ = some (l4, hw_upA τ 220 (fun k => if 24 * i + j ≤ k ∧ k < 24 * i + 24 then τ 216 (24 * q + (k - 24 * i)) else τ 220 k)) := by
  intro d
  induction d with
  | zero =>
    intro j n τ hj hn
    obtain ⟨n, rfl⟩ : ∃ q, n = q + 1 := ⟨n - 1, by omega⟩
    have : j = 24 := by omega
    subst this
    show S_X7_lay_134 (L_X7_lay_134 n) (nI i) 2 (nI q) l4 (nI 24) τ = _
    unfold S_X7_lay_134
    rw [if_pos (by decide), show (fun k => if 24 * i + 24 ≤ k ∧ k < 24 * i + 24 then τ 216 (24 * q + (k - 24 * i)) else τ 220 k) = τ 220 from funext (fun k => if_neg (by omega)), upA_id]
  | succ d ih =>
    intro j n τ hj hn
    obtain ⟨n, rfl⟩ : ∃ q, n = q + 1 := ⟨n - 1, by omega⟩
    show S_X7_lay_134 (L_X7_lay_134 n) (nI i) 2 (nI q) l4 (nI j) τ = _
    unfold S_X7_lay_134
    rw [if_neg (show ¬ (24 : Int32) ≤ nI j from iNle.mpr (nI_lt (b := 24) (by omega) (by decide))), if_pos rfl, ix24, hw_gd_t (inb_nI (i := 24 * q + j) (by omega) (by decide)), ix24, hw_gd_t (inb_nI (i := 24 * i + j) (by omega) (by decide)), hw_nm_s, nI_clamp (by omega), nI_clamp (by omega), show nI j + 1 = nI (j + 1) from nI_add j 1, ih (j + 1) n _ (by omega) (by omega), up_self, up_row _ _ _ _ (show 216 ≠ 220 by decide), up_upA, upA_upA]
    congr 3
    funext k
    unfold upd
    by_cases e : k = 24 * i + j
    · subst e
      rw [if_neg (by omega), if_pos rfl, if_pos ⟨Nat.le_refl _, by omega⟩, show 24 * i + j - 24 * i = j by omega]
    · rw [if_neg e]
      by_cases e2 : 24 * i + (j + 1) ≤ k ∧ k < 24 * i + 24
      · rw [if_pos e2, if_pos ⟨by omega, e2.2⟩]
      · rw [if_neg e2, if_neg (by omega)]
