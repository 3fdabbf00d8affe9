/-! names and numbers -/
def nmv (key : Nat) (v : Int32) : Int32 := if key = 0 then (if v = 101 then 0 else if v = 111 then 1 else if v = 115 then 2 else -1) else if key = 1 then (if v = 97 then 0 else if v = 115 then 1 else -1) else (if v = 115 then 0 else if v = 108 then 1 else if v = 104 then 2 else -1)
theorem nmv_0 (v : Int32) : nmv 0 v = (if v = 101 then 0 else if v = 111 then 1 else if v = 115 then 2 else -1) := by unfold nmv; rw [if_pos rfl]
theorem nmv_1 (v : Int32) : nmv 1 v = (if v = 97 then 0 else if v = 115 then 1 else -1) := by unfold nmv; rw [if_neg (show ¬ (1 : Nat) = 0 by decide), if_pos rfl]
theorem nmv_2 (v : Int32) : nmv 2 v = (if v = 115 then 0 else if v = 108 then 1 else if v = 104 then 2 else -1) := by unfold nmv; rw [if_neg (show ¬ (2 : Nat) = 0 by decide), if_neg (show ¬ (2 : Nat) = 1 by decide)]
theorem X7_name {τ : hw_St} {key : Nat} (hk : key < 3) (h : τ 200 16 = nI key) (v : Int32) : F_X7_nameOf v τ = some (nmv key v, τ) := by
  unfold F_X7_nameOf
  rw [h]
  have c : key = 0 ∨ key = 1 ∨ key = 2 := by omega
  rcases c with rfl | rfl | rfl
  · rw [if_pos (show nI 0 = 0 from rfl), nmv_0]
    split
    · rfl
    · split
      · rfl
      · split <;> rfl
  · rw [if_neg (show ¬ nI 1 = 0 by decide), if_pos (show nI 1 = 1 from rfl), nmv_1]
    split
    · rfl
    · split <;> rfl
  · rw [if_neg (show ¬ nI 2 = 0 by decide), if_neg (show ¬ nI 2 = 1 by decide), nmv_2]
    split
    · rfl
    · split
      · rfl
      · split <;> rfl
theorem nmv_rng {key : Nat} (hk : key < 3) {v : Int32} (h : 0 ≤ nmv key v) : 0 ≤ 10000 + nmv key v ∧ 10000 + nmv key v ≤ nmx key := by
  have c : key = 0 ∨ key = 1 ∨ key = 2 := by omega
  rcases c with rfl | rfl | rfl
  · have d : nmv 0 v = 0 ∨ nmv 0 v = 1 ∨ nmv 0 v = 2 ∨ nmv 0 v = -1 := by
      rw [nmv_0]; split
      · exact Or.inl rfl
      · split
        · exact Or.inr (Or.inl rfl)
        · split
          · exact Or.inr (Or.inr (Or.inl rfl))
          · exact Or.inr (Or.inr (Or.inr rfl))
    rcases d with e | e | e | e <;> rw [e] at h ⊢
    · decide
    · decide
    · decide
    · exact absurd h (by decide)
  · have d : nmv 1 v = 0 ∨ nmv 1 v = 1 ∨ nmv 1 v = -1 := by
      rw [nmv_1]; split
      · exact Or.inl rfl
      · split
        · exact Or.inr (Or.inl rfl)
        · exact Or.inr (Or.inr rfl)
    rcases d with e | e | e <;> rw [e] at h ⊢
    · decide
    · decide
    · exact absurd h (by decide)
  · have d : nmv 2 v = 0 ∨ nmv 2 v = 1 ∨ nmv 2 v = 2 ∨ nmv 2 v = -1 := by
      rw [nmv_2]; split
      · exact Or.inl rfl
      · split
        · exact Or.inr (Or.inl rfl)
        · split
          · exact Or.inr (Or.inr (Or.inl rfl))
          · exact Or.inr (Or.inr (Or.inr rfl))
    rcases d with e | e | e | e <;> rw [e] at h ⊢
    · decide
    · decide
    · decide
    · exact absurd h (by decide)
/-! String constants -/
theorem str_len : ∀ i, i < 6 → hw_gS (900 + i) = true ∧ hw_gB (910 + i) = true ∧ hw_bl (910 + i) = [4, 4, 4, 3, 2, 3].getD i 0 := by decide
theorem X_lat {t : Nat} (h : hw_gS t = true) (s : hw_St) : F_J0_isLatin1_aae02 t s = some (1, s) := by
  unfold F_J0_isLatin1_aae02
  rw [hw_gd_t h, if_neg (by decide), if_pos rfl]
theorem X_len {t : Nat} (h : hw_gS t = true) (s : hw_St) : F_J0_length_8abf5 t s = some (nI (hw_bl (t + 10)) >>> ((0 : Int32) &&& 31), s) := by
  unfold F_J0_length_8abf5 F_J0_coder_7d493
  rw [hw_gd_t h, hw_gd_t h, if_neg (by decide), hw_bd_s]
theorem ioc_s {t : Nat} {l3 l4 : Int32} {j : Nat} (hj : j < hw_bl t) (hb : hw_bl t < 100) (h3 : nI j < l3) (n : Nat) (s : hw_St) : L_J1_indexOfChar_4cfef_7 (n + 1) t l3 l4 (nI j) s = if hw_by t j = l4 then some (nI j, s) else L_J1_indexOfChar_4cfef_7 n t l3 l4 (nI (j + 1)) s := by
  show S_J1_indexOfChar_4cfef_7 (L_J1_indexOfChar_4cfef_7 n) t l3 l4 (nI j) s = _
  unfold S_J1_indexOfChar_4cfef_7
  rw [if_neg (iNle.mpr h3), hw_gd_t (inb_nI hj (by omega)), nI_clamp (by omega), show nI j + 1 = nI (j + 1) from nI_add j 1]
theorem ioc_e {t : Nat} {l3 l4 : Int32} {j : Nat} (h3 : l3 ≤ nI j) (n : Nat) (s : hw_St) : L_J1_indexOfChar_4cfef_7 (n + 1) t l3 l4 (nI j) s = some (-1, s) := by
  show S_J1_indexOfChar_4cfef_7 (L_J1_indexOfChar_4cfef_7 n) t l3 l4 (nI j) s = _
  unfold S_J1_indexOfChar_4cfef_7
  rw [if_pos h3]
theorem X_idx {key : Nat} (hk : key < 3) {v : Int32} (h1 : 97 ≤ v) (h2 : v ≤ 122) (s : hw_St) : F_J0_indexOf_0f7a4 (903 + key) (hw_i2c v) s = some (nmv key v, s) := by
  obtain ⟨q, hq, rfl⟩ := ix_to (m := 122) rfl (Int32.le_trans (by decide) h1) h2
  have q97 : 97 ≤ q := by
    have := (iLe _ _).mp h1
    rw [nI_toInt (by omega), show (97 : Int32).toInt = 97 from rfl] at this
    omega
  have ci : hw_i2c (nI q) = nI q ∧ (nI q).toInt8.toInt32 = nI q := by
    have c : ∀ q, q < 123 → hw_i2c (nI q) = nI q ∧ (nI q).toInt8.toInt32 = nI q := by decide
    exact c q (by omega)
  have hS : hw_gS (903 + key) = true := by
    have := (str_len (3 + key) (by omega)).1
    rw [show 900 + (3 + key) = 903 + key by omega] at this
    exact this
  have hB : hw_gB (913 + key) = true := by
    have := (str_len (3 + key) (by omega)).2.1
    rw [show 910 + (3 + key) = 913 + key by omega] at this
    exact this
  rw [ci.1]
  unfold F_J0_indexOf_0f7a4 F_J0_indexOf_7cf53
  rw [hw_gd_t hS, hw_gd_t hS, X_lat hS, hw_bd_s, if_neg (by decide), X_len hS, hw_bd_s]
  unfold F_J1_indexOf_4cfef F_J1_canEncode_9a6ad
  rw [show 903 + key + 10 = 913 + key by omega, hw_gd_t hB, if_neg (nI_pos (by omega)), if_neg (show ¬ (255 : Int32) < nI q from iNlt.mpr (nI_le (b := 255) (by omega) (by decide))), hw_bd_s, if_neg (by decide), hw_nm_s, hw_nm_s]
  unfold F_J1_indexOfChar_4cfef
  rw [hw_gd_t hB, hw_nm_s, ci.2]
  have c : key = 0 ∨ key = 1 ∨ key = 2 := by omega
  rcases c with rfl | rfl | rfl
  · have e1 : hw_max (0 : Int32) 0 = 0 := by decide
    have e2 : hw_min (nI (hw_bl (913 + 0)) >>> ((0 : Int32) &&& 31)) (nI (hw_bl (913 + 0))) = nI 3 := by decide
    rw [e1, e2, if_pos (by decide), show L_J1_indexOfChar_4cfef_7 130 (913 + 0) (nI 3) (nI q) 0 s = _ from ioc_s (j := 0) (by decide) (by decide) (by decide) 129 s, show L_J1_indexOfChar_4cfef_7 129 (913 + 0) (nI 3) (nI q) (nI (0 + 1)) s = _ from ioc_s (j := 1) (by decide) (by decide) (by decide) 128 s, show L_J1_indexOfChar_4cfef_7 128 (913 + 0) (nI 3) (nI q) (nI (1 + 1)) s = _ from ioc_s (j := 2) (by decide) (by decide) (by decide) 127 s, show L_J1_indexOfChar_4cfef_7 127 (913 + 0) (nI 3) (nI q) (nI (2 + 1)) s = _ from ioc_e (j := 3) (by decide) 126 s, show hw_by (913 + 0) 0 = 101 from by decide, show hw_by (913 + 0) 1 = 111 from by decide, show hw_by (913 + 0) 2 = 115 from by decide, nmv_0]
    by_cases g1 : (101 : Int32) = nI q
    · rw [if_pos g1, if_pos g1.symm]; rfl
    · rw [if_neg g1, if_neg (show ¬ nI q = 101 from fun z => g1 z.symm)]
      by_cases g2 : (111 : Int32) = nI q
      · rw [if_pos g2, if_pos g2.symm]; rfl
      · rw [if_neg g2, if_neg (show ¬ nI q = 111 from fun z => g2 z.symm)]
        by_cases g3 : (115 : Int32) = nI q
        · rw [if_pos g3, if_pos g3.symm]; rfl
        · rw [if_neg g3, if_neg (show ¬ nI q = 115 from fun z => g3 z.symm)]; rfl
  · have e1 : hw_max (0 : Int32) 0 = 0 := by decide
    have e2 : hw_min (nI (hw_bl (913 + 1)) >>> ((0 : Int32) &&& 31)) (nI (hw_bl (913 + 1))) = nI 2 := by decide
    rw [e1, e2, if_pos (by decide), show L_J1_indexOfChar_4cfef_7 130 (913 + 1) (nI 2) (nI q) 0 s = _ from ioc_s (j := 0) (by decide) (by decide) (by decide) 129 s, show L_J1_indexOfChar_4cfef_7 129 (913 + 1) (nI 2) (nI q) (nI (0 + 1)) s = _ from ioc_s (j := 1) (by decide) (by decide) (by decide) 128 s, show L_J1_indexOfChar_4cfef_7 128 (913 + 1) (nI 2) (nI q) (nI (1 + 1)) s = _ from ioc_e (j := 2) (by decide) 127 s, show hw_by (913 + 1) 0 = 97 from by decide, show hw_by (913 + 1) 1 = 115 from by decide, nmv_1]
    by_cases g1 : (97 : Int32) = nI q
    · rw [if_pos g1, if_pos g1.symm]; rfl
    · rw [if_neg g1, if_neg (show ¬ nI q = 97 from fun z => g1 z.symm)]
      by_cases g2 : (115 : Int32) = nI q
      · rw [if_pos g2, if_pos g2.symm]; rfl
      · rw [if_neg g2, if_neg (show ¬ nI q = 115 from fun z => g2 z.symm)]; rfl
  · have e1 : hw_max (0 : Int32) 0 = 0 := by decide
    have e2 : hw_min (nI (hw_bl (913 + 2)) >>> ((0 : Int32) &&& 31)) (nI (hw_bl (913 + 2))) = nI 3 := by decide
    rw [e1, e2, if_pos (by decide), show L_J1_indexOfChar_4cfef_7 130 (913 + 2) (nI 3) (nI q) 0 s = _ from ioc_s (j := 0) (by decide) (by decide) (by decide) 129 s, show L_J1_indexOfChar_4cfef_7 129 (913 + 2) (nI 3) (nI q) (nI (0 + 1)) s = _ from ioc_s (j := 1) (by decide) (by decide) (by decide) 128 s, show L_J1_indexOfChar_4cfef_7 128 (913 + 2) (nI 3) (nI q) (nI (1 + 1)) s = _ from ioc_s (j := 2) (by decide) (by decide) (by decide) 127 s, show L_J1_indexOfChar_4cfef_7 127 (913 + 2) (nI 3) (nI q) (nI (2 + 1)) s = _ from ioc_e (j := 3) (by decide) 126 s, show hw_by (913 + 2) 0 = 115 from by decide, show hw_by (913 + 2) 1 = 108 from by decide, show hw_by (913 + 2) 2 = 104 from by decide, nmv_2]
    by_cases g1 : (115 : Int32) = nI q
    · rw [if_pos g1, if_pos g1.symm]; rfl
    · rw [if_neg g1, if_neg (show ¬ nI q = 115 from fun z => g1 z.symm)]
      by_cases g2 : (108 : Int32) = nI q
      · rw [if_pos g2, if_pos g2.symm]; rfl
      · rw [if_neg g2, if_neg (show ¬ nI q = 108 from fun z => g2 z.symm)]
        by_cases g3 : (104 : Int32) = nI q
        · rw [if_pos g3, if_pos g3.symm]; rfl
        · rw [if_neg g3, if_neg (show ¬ nI q = 104 from fun z => g3 z.symm)]; rfl
/-! numbers -/
theorem nI_sb' {a b : Nat} (h : b ≤ a) (ha : a < 100000) : nI a - nI b = nI (a - b) := by
  rw [iEq, pk_sub_toInt (by omega) (by omega), nI_toInt (by omega)]
  omega
theorem numv_n {b : Nat → Int32} {B f t : Nat} (h : ∀ j, f ≤ j → j < t → srt b B j = 2) : ∀ k, k ≤ 4 → f + k ≤ t → ∃ N, numv b f k = nI N ∧ N < 10 ^ k
  | 0, _, _ => ⟨0, rfl, by decide⟩
  | k + 1, hk, ht => by
    obtain ⟨N, e, hN⟩ := numv_n h k (by omega) (by omega)
    obtain ⟨-, d1, d2⟩ := srt_2.mp (h (f + k) (by omega) (by omega))
    obtain ⟨q, hq, eq⟩ := ix_to (m := 57) rfl (Int32.le_trans (by decide) d1) d2
    have q48 : 48 ≤ q := by
      have := (iLe _ _).mp d1
      rw [eq, nI_toInt (by omega), show (48 : Int32).toInt = 48 from rfl] at this
      omega
    have p : 10 ^ k ≤ 1000 := by
      have c : k = 0 ∨ k = 1 ∨ k = 2 ∨ k = 3 := by omega
      rcases c with rfl | rfl | rfl | rfl <;> decide
    refine ⟨10 * N + q - 48, ?_, ?_⟩
    · show 10 * numv b f k + b (f + k) - 48 = _
      rw [e, eq, show (10 : Int32) = nI 10 from rfl, pk_mul, nI_add, show (48 : Int32) = nI 48 from rfl, nI_sb' (by omega) (by omega)]
    · rw [Nat.pow_succ]; omega
theorem num_rng {b : Nat → Int32} {B f t : Nat} (h : ∀ j, f ≤ j → j < t → srt b B j = 2) (ht : t - f ≤ 4) (hf : f ≤ t) (key : Nat) : 0 ≤ numv b f (t - f) ∧ numv b f (t - f) ≤ nmx key := by
  obtain ⟨N, e, hN⟩ := numv_n h (t - f) ht (by omega)
  have p : 10 ^ (t - f) ≤ 10 ^ 4 := Nat.pow_le_pow_right (by decide) ht
  have p4 : (10 : Nat) ^ 4 = 10000 := by decide
  rw [e]
  refine ⟨nI_pos' (by omega), ?_⟩
  unfold nmx
  split
  · exact nI_le (b := 10001) (by omega) (by decide)
  · exact nI_le (b := 10002) (by omega) (by decide)
theorem rn_loop {σ τ : hw_St} {B f t : Nat} (H : TK σ τ B f t) (hd : ∀ j, f ≤ j → j < t → srt (τ 206) B j = 2) : ∀ (d k n : Nat), f + k + d = t → d < n → L_X1_readNumber_29 n (numv (τ 206) f k) (nI (f + k)) σ = B_X1_readNumber_66 (numv (τ 206) f (t - f)) σ := by
  obtain ⟨c0, c1, cB, cr, c2⟩ := H.C
  have tB := H.tB
  intro d
  induction d with
  | zero =>
    intro k n hk hn
    obtain ⟨n, rfl⟩ : ∃ q, n = q + 1 := ⟨n - 1, by omega⟩
    show S_X1_readNumber_29 (L_X1_readNumber_29 n) (numv (τ 206) f k) (nI (f + k)) σ = _
    unfold S_X1_readNumber_29
    rw [H.c5, show f + k = t by omega, if_pos (Int32.le_refl _), show t - f = k by omega]
  | succ d ih =>
    intro k n hk hn
    obtain ⟨n, rfl⟩ : ∃ q, n = q + 1 := ⟨n - 1, by omega⟩
    refine Eq.trans ?_ (ih (k + 1) n (by omega) (by omega))
    obtain ⟨-, d1, d2⟩ := srt_2.mp (hd (f + k) (by omega) (by omega))
    have eb : ((τ 206 (f + k)).toInt8.toInt32) = τ 206 (f + k) := (sby_eq (cr (f + k) (by omega)) ⟨Int32.le_trans (by decide) d1, Int32.le_trans d2 (by decide)⟩).mpr rfl
    show S_X1_readNumber_29 (L_X1_readNumber_29 n) (numv (τ 206) f k) (nI (f + k)) σ = _
    unfold S_X1_readNumber_29
    rw [H.c5, if_neg (iNle.mpr (nI_lt (by omega) (by omega))), c1, if_neg (iNle.mpr (nI_lt (by omega) (by omega))), c0, g12.2.2, hw_gd_t g12.1, g12.2.1, hw_gd_t (inb_nI (by omega) (by decide)), hw_nm_s, nI_clamp (by omega), c2 _ (by omega), eb, show nI (f + k) + 1 = nI (f + (k + 1)) from nI_add _ 1, Int32.mul_comm (numv (τ 206) f k) 10]
    rfl
