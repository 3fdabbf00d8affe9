/-! a slot that is not touched; the class's copy of a sheet -/
theorem sl_oth {σ σ' τ τ' : hw_St} {i : Nat} (H : hv_Sl σ τ i) (k1 : σ' (68 + i) = σ (68 + i)) (k2 : σ' (73 + i) = σ (73 + i)) (k3 : σ' (78 + i) = σ (78 + i)) (k4 : σ' (83 + i) = σ (83 + i)) (m7 : τ' 217 i = τ 217 i) (m8 : τ' 218 i = τ 218 i) (m9 : τ' 219 i = τ 219 i) (m0 : ∀ j, j < 24 → τ' 220 (24 * i + j) = τ 220 (24 * i + j)) : hv_Sl σ' τ' i := by
  obtain ⟨e1, e2, e3, e4, e5⟩ := H
  refine ⟨?_, ?_, ?_, ?_, ?_⟩
  · rw [k1, m7]; exact e1
  · rw [m7]; exact e2
  · rw [k2, m7, m8, m9]; exact e3
  · rw [k3, k4, m7, m8]
    exact fun g => ⟨(e4 g).1, fun j hj => by rw [m0 j hj]; exact (e4 g).2 j hj⟩
  · rw [k1, m7, m8]; exact e5
theorem X3_bec {i q : Nat} (hi : i < 5) (hq : q < 4) (σ : hw_St) : F_X3_become (78 + i) (60 + q) σ = some ((), hw_upA (hw_upA σ (78 + i) (upd (upd (σ (78 + i)) 0 (σ (60 + q) 0)) 1 (σ (60 + q) 1))) (83 + i) (va_cpy (σ (64 + q)) (σ (83 + i)) 0 0 24)) := by
  obtain ⟨k1, k2, k3, k4, k5, k6, k7, k8, k9⟩ := slF i hi
  obtain ⟨l1, l2, l3, l4, l5⟩ := shF q hq
  unfold F_X3_become
  rw [hw_gd_t k6, hw_gd_t l2, hw_nm_s, up_upA σ (78 + i) 0 (σ (60 + q) 0), hw_nm_s, upA_row σ (78 + i) _ (show 60 + q ≠ 78 + i by omega), up_A, k7, l3, hw_gd_t l4, hw_gd_t k8, k9, l5, hw_gd_t (by decide), hw_nm_s, upA_row σ (78 + i) _ (show 64 + q ≠ 78 + i by omega), upA_row σ (78 + i) _ (show 83 + i ≠ 78 + i by omega)]
  rfl
