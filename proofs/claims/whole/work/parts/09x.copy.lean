/-! places copied from sheet to sheet: the reference's two loops -/
theorem cp140 {i b m : Nat} (hi : i < 4) (hb : b + m ≤ 24) : ∀ (d j n : Nat) (τ : hw_St), j + d = m → d < n → L_X7_copy_140 n (nI i) (nI b) (nI m) (nI j) τ = some (nI m, hw_upA τ 216 (fun k => if 24 * i + b + j ≤ k ∧ k < 24 * i + b + m then τ 221 (k - (24 * i + b)) else τ 216 k)) := by
  intro d
  induction d with
  | zero =>
    intro j n τ hj hn
    obtain ⟨n, rfl⟩ : ∃ q, n = q + 1 := ⟨n - 1, by omega⟩
    have : j = m := by omega
    subst this
    show S_X7_copy_140 (L_X7_copy_140 n) (nI i) (nI b) (nI j) (nI j) τ = _
    unfold S_X7_copy_140
    rw [if_pos (Int32.le_refl _), show (fun k => if 24 * i + b + j ≤ k ∧ k < 24 * i + b + j then τ 221 (k - (24 * i + b)) else τ 216 k) = τ 216 from funext (fun k => if_neg (by omega)), upA_id]
  | succ d ih =>
    intro j n τ hj hn
    obtain ⟨n, rfl⟩ : ∃ q, n = q + 1 := ⟨n - 1, by omega⟩
    show S_X7_copy_140 (L_X7_copy_140 n) (nI i) (nI b) (nI m) (nI j) τ = _
    unfold S_X7_copy_140
    rw [if_neg (iNle.mpr (nI_lt (by omega) (by omega))), hw_gd_t (inb_nI (by omega) (by decide)), ix24, nI_add (24 * i + b) j, hw_gd_t (inb_nI (by omega) (by decide)), hw_nm_s, nI_clamp (by omega), nI_clamp (by omega), show nI j + 1 = nI (j + 1) from nI_add j 1, ih (j + 1) n _ (by omega) (by omega), up_self, up_row _ _ _ _ (show 221 ≠ 216 by decide), up_upA, upA_upA]
    congr 3
    funext k
    unfold upd
    by_cases e : k = 24 * i + b + j
    · subst e
      rw [if_neg (by omega), if_pos rfl, if_pos ⟨Nat.le_refl _, by omega⟩, show 24 * i + b + j - (24 * i + b) = j by omega]
    · rw [if_neg e]
      by_cases e2 : 24 * i + b + (j + 1) ≤ k ∧ k < 24 * i + b + m
      · rw [if_pos e2, if_pos ⟨by omega, e2.2⟩]
      · rw [if_neg e2, if_neg (by omega)]
theorem cp103 {i a i3 b m : Nat} (hi : i < 4) (ha : a + m ≤ 24) : ∀ (d j n : Nat) (τ : hw_St), j + d = m → d < n → L_X7_copy_103 n (nI i) (nI a) (nI i3) (nI b) (nI m) (nI j) τ = L_X7_copy_140 130 (nI i3) (nI b) (nI m) 0 (hw_upA τ 221 (fun k => if j ≤ k ∧ k < m then τ 216 (24 * i + a + k) else τ 221 k)) := by
  intro d
  induction d with
  | zero =>
    intro j n τ hj hn
    obtain ⟨n, rfl⟩ : ∃ q, n = q + 1 := ⟨n - 1, by omega⟩
    have : j = m := by omega
    subst this
    show S_X7_copy_103 (L_X7_copy_103 n) (nI i) (nI a) (nI i3) (nI b) (nI j) (nI j) τ = _
    unfold S_X7_copy_103
    rw [if_pos (Int32.le_refl _), show (fun k => if j ≤ k ∧ k < j then τ 216 (24 * i + a + k) else τ 221 k) = τ 221 from funext (fun k => if_neg (by omega)), upA_id]
  | succ d ih =>
    intro j n τ hj hn
    obtain ⟨n, rfl⟩ : ∃ q, n = q + 1 := ⟨n - 1, by omega⟩
    show S_X7_copy_103 (L_X7_copy_103 n) (nI i) (nI a) (nI i3) (nI b) (nI m) (nI j) τ = _
    unfold S_X7_copy_103
    rw [if_neg (iNle.mpr (nI_lt (by omega) (by omega))), ix24, nI_add (24 * i + a) j, hw_gd_t (inb_nI (by omega) (by decide)), hw_gd_t (inb_nI (by omega) (by decide)), hw_nm_s, nI_clamp (by omega), nI_clamp (by omega), show nI j + 1 = nI (j + 1) from nI_add j 1, ih (j + 1) n _ (by omega) (by omega), up_self, up_row _ _ _ _ (show 216 ≠ 221 by decide), up_upA, upA_upA]
    congr 2
    funext k
    unfold upd
    by_cases e : k = j
    · subst e
      rw [if_neg (by omega), if_pos rfl, if_pos ⟨Nat.le_refl _, by omega⟩]
    · rw [if_neg e]
      by_cases e2 : j + 1 ≤ k ∧ k < m
      · rw [if_pos e2, if_pos ⟨by omega, e2.2⟩]
      · rw [if_neg e2, if_neg (by omega)]
theorem X3_places {i p : Nat} (hi : i < 4) {s : hw_St} (hp : s (60 + i) 1 = nI p) (p24 : p ≤ 24) (a c : Int32) : F_X3_hasPlaces (60 + i) a c s = some (if 0 ≤ a.toInt ∧ 0 ≤ c.toInt ∧ a.toInt + c.toInt ≤ p then 1 else 0, s) := by
  unfold F_X3_hasPlaces
  rw [hw_gd_t (shF i hi).2.1, hp]
  have z : (0 : Int32).toInt = 0 := rfl
  have hpI : (nI p).toInt = p := nI_toInt (by omega)
  by_cases h1 : a < 0
  · have := (iLt _ _).mp h1
    rw [if_pos h1, if_neg (by omega)]
  rw [if_neg h1]
  by_cases h2 : c < 0
  · have := (iLt _ _).mp h2
    rw [if_pos h2, if_neg (by omega)]
  rw [if_neg h2]
  have g1 := (iLe _ _).mp (iNlt.mp h1)
  have g2 := (iLe _ _).mp (iNlt.mp h2)
  by_cases h3 : nI p < a
  · have := (iLt _ _).mp h3
    rw [if_pos h3, if_neg (by omega)]
  rw [if_neg h3]
  have g3 := (iLe _ _).mp (iNlt.mp h3)
  obtain ⟨q, hq, rfl⟩ := ix_to (m := p) hpI (iNlt.mp h1) (iNlt.mp h3)
  have hqI : (nI q).toInt = q := nI_toInt (by omega)
  have hs : (nI p - nI q).toInt = (p : Int) - q := pk_sub_toInt (by omega) (by omega)
  by_cases h4 : nI p - nI q < c
  · have := (iLt _ _).mp h4
    rw [if_pos h4, if_neg (by omega)]
  · have := (iLe _ _).mp (iNlt.mp h4)
    rw [if_neg h4, if_pos ⟨by omega, by omega, by omega⟩]
