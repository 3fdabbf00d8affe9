/-! the key word -/
theorem first_nb {σ τ σ' : hw_St} {B p : Nat} (H : PreT σ τ B p 0) (e : F_X1_step σ = some ((), σ')) : σ' 13 4 = 0 := by
  obtain ⟨C, h10, hp, hs0, h3, h5, h11, e1, e2⟩ := H
  obtain ⟨f, t, K⟩ := Tok_ex (τ 206) hp
  obtain ⟨σ2, a1, b3, b4, b5⟩ := X1_step C hs0 h3 h5 hp K
  rw [e] at a1
  have : σ' = σ2 := (Prod.mk.inj (Option.some.inj a1)).2
  rw [this, b4, if_neg (fun z => by omega)]
def kc (w j : Nat) : Int32 := hw_by (910 + w) j
theorem kc_f : ∀ w, w < 3 → ∀ k, k < 4 → hw_isc (hw_i2c (hw_by (910 + w) k &&& 255)) = true ∧ hw_i2c (hw_by (910 + w) k &&& 255) = kc w k ∧ hw_isc (kc w k) = true ∧ (0 ≤ kc w k ∧ kc w k ≤ 127) := by decide
theorem kc_l : ∀ w, w < 3 → hw_gS (900 + w) = true ∧ hw_gB (910 + w) = true ∧ hw_bl (910 + w) = 4 ∧ nI (hw_bl (900 + w + 10)) >>> ((0 : Int32) &&& 31) = nI 4 := by decide
theorem kc_8 : ∀ w, w < 4 → hw_s0M 208 w = nI (4 * w) := by decide
theorem kc_7 : ∀ w, w < 3 → ∀ k, k < 4 → hw_s0M 207 (4 * w + k) = kc w k := by decide
abbrev W4 (b : Nat → Int32) (f w : Nat) : Prop := b (f + 0) = kc w 0 ∧ b (f + 1) = kc w 1 ∧ b (f + 2) = kc w 2 ∧ b (f + 3) = kc w 3
theorem X_char {w k : Nat} (hw : w < 3) (hk : k < 4) (s : hw_St) : F_J0_charAt_5068e (900 + w) (nI k) s = some (kc w k, s) := by
  obtain ⟨l1, l2, l3, l4⟩ := kc_l w hw
  obtain ⟨c1, c2, c3, c4⟩ := kc_f w hw k hk
  unfold F_J0_charAt_5068e F_J1_charAt_3b067 F_J0_checkIndex_df160
  rw [hw_gd_t l1, X_lat l1, hw_bd_s, if_neg (by decide), show 900 + w + 10 = 910 + w by omega, hw_gd_t l2, l3, if_neg (nI_pos (by omega)), if_pos (nI_lt hk (by decide)), hw_bd_s, hw_gd_t (inb_nI hk (by decide)), nI_clamp (by omega), hw_gd_t c1, hw_bd_s, c2, hw_gd_t c3]
theorem iw_s {σ τ : hw_St} {B f t : Nat} (H : TK σ τ B f t) (h4 : t - f = 4) {w : Nat} (hw : w < 3) {k : Nat} (hk : k < 4) (n : Nat) : L_X1_isWord_28 (n + 1) (900 + w) (nI k) σ = if τ 206 (f + k) = kc w k then L_X1_isWord_28 n (900 + w) (nI (k + 1)) σ else some (0, σ) := by
  obtain ⟨c0, c1, cB, cr, c2⟩ := H.C
  have tB := H.tB
  obtain ⟨l1, l2, l3, l4⟩ := kc_l w hw
  have e := sby_eq (cr (f + k) (by omega)) (kc_f w hw k hk).2.2.2
  show S_X1_isWord_28 (L_X1_isWord_28 n) (900 + w) (nI k) σ = _
  unfold S_X1_isWord_28
  rw [X_len l1, hw_bd_s, l4, if_neg (iNle.mpr (nI_lt hk (by decide))), c1, H.c6, show nI f + nI k = nI (f + k) from nI_add _ _, if_neg (iNle.mpr (nI_lt (by omega) (by omega))), c0, g12.2.2, hw_gd_t g12.1, g12.2.1, hw_gd_t (inb_nI (by omega) (by decide)), X_char hw hk, hw_bd_s, nI_clamp (by omega), c2 (f + k) (by omega), show nI k + 1 = nI (k + 1) from nI_add k 1]
  by_cases z : τ 206 (f + k) = kc w k
  · rw [if_pos (e.mpr z), if_pos z]
  · rw [if_neg (fun y => z (e.mp y)), if_neg z]
theorem iw_e {w : Nat} (hw : w < 3) (n : Nat) (σ : hw_St) : L_X1_isWord_28 (n + 1) (900 + w) (nI 4) σ = some (1, σ) := by
  obtain ⟨l1, l2, l3, l4⟩ := kc_l w hw
  show S_X1_isWord_28 (L_X1_isWord_28 n) (900 + w) (nI 4) σ = _
  unfold S_X1_isWord_28
  rw [X_len l1, hw_bd_s, l4, if_pos (Int32.le_refl _)]
theorem X1_word {σ τ : hw_St} {B f t : Nat} (H : TK σ τ B f t) {w : Nat} (hw : w < 3) : F_X1_isWord (900 + w) σ = some (if srt (τ 206) B f = 1 ∧ t - f = 4 ∧ W4 (τ 206) f w then 1 else 0, σ) := by
  obtain ⟨l1, l2, l3, l4⟩ := kc_l w hw
  have ft := H.ft
  have tB := H.tB
  have B9 := H.B9
  unfold F_X1_isWord
  rw [hw_gd_t l1]
  by_cases s : srt (τ 206) B f = 1
  · rw [if_pos (show σ 13 3 = 1 from (TK_c3 H (k := 1) (by decide)).mpr s), X_len l1, hw_bd_s, l4, H.c5, H.c6, nI_sb ft (by omega)]
    by_cases h4 : t - f = 4
    · rw [h4, if_pos rfl, show L_X1_isWord_28 130 (900 + w) 0 σ = _ from iw_s H h4 hw (k := 0) (by decide) 129, iw_s H h4 hw (k := 0 + 1) (by decide) 128, iw_s H h4 hw (k := 0 + 1 + 1) (by decide) 127, iw_s H h4 hw (k := 0 + 1 + 1 + 1) (by decide) 126, show L_X1_isWord_28 126 (900 + w) (nI (0 + 1 + 1 + 1 + 1)) σ = _ from iw_e hw 125 σ]
      by_cases z : W4 (τ 206) f w
      · rw [if_pos z.1, if_pos z.2.1, if_pos z.2.2.1, if_pos z.2.2.2, if_pos ⟨s, rfl, z⟩]
      · rw [if_neg (show ¬ (srt (τ 206) B f = 1 ∧ 4 = 4 ∧ W4 (τ 206) f w) from fun y => z y.2.2)]
        by_cases z0 : τ 206 (f + 0) = kc w 0
        · rw [if_pos z0]
          by_cases z1 : τ 206 (f + (0 + 1)) = kc w (0 + 1)
          · rw [if_pos z1]
            by_cases z2 : τ 206 (f + (0 + 1 + 1)) = kc w (0 + 1 + 1)
            · rw [if_pos z2, if_neg (fun z3 => z ⟨z0, z1, z2, z3⟩)]
            · rw [if_neg z2]
          · rw [if_neg z1]
        · rw [if_neg z0]
    · rw [if_neg (nI_ne (by omega) (by decide) h4), if_neg (fun y => h4 y.2.1)]
  · rw [if_neg (fun z : σ 13 3 = 1 => s ((TK_c3 H (k := 1) (by decide)).mp z)), if_neg (fun y => s y.1)]
theorem tk55_s {σ τ : hw_St} {B f t : Nat} (H : TK σ τ B f t) (co : hv_Co τ) (h4 : t - f = 4) {w : Nat} (hw : w < 3) {k : Nat} (hk : k < 4) (w12 : Int32 → hw_St → Option (Int32 × hw_St)) (n : Nat) : L_X7_takesKey_55 w12 (n + 1) (nI w) (nI 4) 1 (nI k) τ = if τ 206 (f + k) = kc w k then L_X7_takesKey_55 w12 n (nI w) (nI 4) 1 (nI (k + 1)) τ else L_X7_takesKey_55 w12 n (nI w) (nI 4) 0 (nI (k + 1)) τ := by
  have tB := H.tB
  have B9 := H.B9
  show S_X7_takesKey_55 w12 (L_X7_takesKey_55 w12 n) (nI w) (nI 4) 1 (nI k) τ = _
  unfold S_X7_takesKey_55 B_X7_takesKey_99
  rw [if_neg (iNle.mpr (nI_lt hk (by decide))), if_neg (by decide), H.m12, show nI f + nI k = nI (f + k) from nI_add _ _, hw_gd_t (inb_nI (by omega) (by decide)), hw_gd_t (inb_nI (by omega) (by decide)), co.2, nI_clamp (show w < _ by omega), kc_8 w (by omega), show nI (4 * w) + nI k = nI (4 * w + k) from nI_add _ _, hw_gd_t (inb_nI (by omega) (by decide)), co.1, nI_clamp (show f + k < _ by omega), nI_clamp (show 4 * w + k < _ by omega), kc_7 w hw k hk, show nI k + 1 = nI (k + 1) from nI_add k 1]
theorem tk55_0 (w12 : Int32 → hw_St → Option (Int32 × hw_St)) (n : Nat) (l1 l2 l4 : Int32) (τ : hw_St) : L_X7_takesKey_55 w12 (n + 1) l1 l2 0 l4 τ = w12 (l1 + 1) τ := by
  show S_X7_takesKey_55 w12 (L_X7_takesKey_55 w12 n) l1 l2 0 l4 τ = _
  unfold S_X7_takesKey_55 B_X7_takesKey_106
  rw [if_pos rfl]
  split <;> rfl
theorem tk12_s {σ τ : hw_St} {B f t : Nat} (H : TK σ τ B f t) (co : hv_Co τ) {w : Nat} (hw : w < 3) (n : Nat) : L_X7_takesKey_12 (n + 1) (nI w) τ = if t - f = 4 ∧ W4 (τ 206) f w then (hw_bd (F_X7_go (hw_up τ 200 16 (nI w))) (fun _ s16 => some ((1 : Int32), s16))) else L_X7_takesKey_12 n (nI (w + 1)) τ := by
  have tB := H.tB
  have B9 := H.B9
  have ft := H.ft
  show S_X7_takesKey_12 (L_X7_takesKey_12 n) (nI w) τ = _
  unfold S_X7_takesKey_12 B_X7_takesKey_51
  have d4 : hw_s0M 208 (w + 1) - hw_s0M 208 w = nI 4 := by
    rw [kc_8 (w + 1) (by omega), kc_8 w (by omega), nI_sb (by omega) (by omega), show 4 * (w + 1) - 4 * w = 4 by omega]
  rw [if_neg (show ¬ (3 : Int32) ≤ nI w from iNle.mpr (nI_lt (b := 3) hw (by decide))), show nI w + 1 = nI (w + 1) from nI_add w 1, hw_gd_t (inb_nI (by omega) (by decide)), hw_gd_t (inb_nI (by omega) (by decide)), hw_nm_s, co.2, nI_clamp (show w + 1 < _ by omega), nI_clamp (show w < _ by omega), d4, H.m11, H.m12, nI_sb ft (by omega)]
  by_cases h4 : t - f = 4
  · rw [h4, if_pos rfl, show L_X7_takesKey_55 (L_X7_takesKey_12 n) 130 (nI w) (nI 4) 1 0 τ = _ from tk55_s H co h4 hw (k := 0) (by decide) _ 129, tk55_s H co h4 hw (k := 0 + 1) (by decide) _ 128, tk55_s H co h4 hw (k := 0 + 1 + 1) (by decide) _ 127, tk55_s H co h4 hw (k := 0 + 1 + 1 + 1) (by decide) _ 126, tk55_0, tk55_0, tk55_0, tk55_0, show nI w + 1 = nI (w + 1) from nI_add w 1]
    have en : L_X7_takesKey_55 (L_X7_takesKey_12 n) 126 (nI w) (nI 4) 1 (nI (0 + 1 + 1 + 1 + 1)) τ = hw_bd (F_X7_go (hw_up τ 200 16 (nI w))) (fun _ s16 => some ((1 : Int32), s16)) := by
      show S_X7_takesKey_55 (L_X7_takesKey_12 n) (L_X7_takesKey_55 (L_X7_takesKey_12 n) 125) (nI w) (nI 4) 1 (nI 4) τ = _
      unfold S_X7_takesKey_55 B_X7_takesKey_106
      rw [if_pos (Int32.le_refl _), if_neg (by decide), hw_nm_s]
    rw [en]
    by_cases z : W4 (τ 206) f w
    · rw [if_pos z.1, if_pos z.2.1, if_pos z.2.2.1, if_pos z.2.2.2, if_pos ⟨rfl, z⟩]
    · rw [if_neg (show ¬ (4 = 4 ∧ W4 (τ 206) f w) from fun y => z y.2)]
      by_cases z0 : τ 206 (f + 0) = kc w 0
      · rw [if_pos z0]
        by_cases z1 : τ 206 (f + (0 + 1)) = kc w (0 + 1)
        · rw [if_pos z1]
          by_cases z2 : τ 206 (f + (0 + 1 + 1)) = kc w (0 + 1 + 1)
          · rw [if_pos z2, if_neg (fun z3 => z ⟨z0, z1, z2, z3⟩)]
          · rw [if_neg z2]
        · rw [if_neg z1]
      · rw [if_neg z0]
  · rw [if_neg (nI_ne (by decide) (by omega) (fun z => h4 z.symm)), show L_X7_takesKey_55 (L_X7_takesKey_12 n) 130 (nI w) (nI 4) 0 0 τ = _ from tk55_0 _ 129 _ _ _ τ, if_neg (fun y => h4 y.1), show nI w + 1 = nI (w + 1) from nI_add w 1]
/-- both find the same key word, or none -/
theorem key_both {σ τ : hw_St} {B f t : Nat} (H : TK σ τ B f t) (co : hv_Co τ) (nb : σ 13 4 = 0) : (∃ key, key < 3 ∧ ¬ srt (τ 206) B f = 0 ∧ F_X1_keyHere σ = some (nI key, σ) ∧ F_X7_takesKey τ = hw_bd (F_X7_go (hw_up τ 200 16 (nI key))) (fun _ s16 => some ((1 : Int32), s16))) ∨ (F_X1_keyHere σ = some (-1000000005, σ) ∧ F_X7_takesKey τ = some (0, τ)) := by
  have kh : F_X1_keyHere σ = (if srt (τ 206) B f = 1 ∧ t - f = 4 ∧ W4 (τ 206) f 0 then some (0, σ) else if srt (τ 206) B f = 1 ∧ t - f = 4 ∧ W4 (τ 206) f 1 then some (1, σ) else if srt (τ 206) B f = 1 ∧ t - f = 4 ∧ W4 (τ 206) f 2 then some (2, σ) else some (-1000000005, σ)) := by
    unfold F_X1_keyHere
    rw [show F_X1_isWord 900 σ = _ from X1_word H (w := 0) (by decide), hw_bd_s, show F_X1_isWord 901 σ = _ from X1_word H (w := 1) (by decide), hw_bd_s, show F_X1_isWord 902 σ = _ from X1_word H (w := 2) (by decide), hw_bd_s]
    by_cases z0 : srt (τ 206) B f = 1 ∧ t - f = 4 ∧ W4 (τ 206) f 0
    · rw [if_pos z0, if_pos z0, if_neg (by decide)]
    · rw [if_neg z0, if_neg z0, if_pos rfl]
      by_cases z1 : srt (τ 206) B f = 1 ∧ t - f = 4 ∧ W4 (τ 206) f 1
      · rw [if_pos z1, if_pos z1, if_neg (by decide)]
      · rw [if_neg z1, if_neg z1, if_pos rfl]
        by_cases z2 : srt (τ 206) B f = 1 ∧ t - f = 4 ∧ W4 (τ 206) f 2
        · rw [if_pos z2, if_pos z2, if_neg (by decide)]
        · rw [if_neg z2, if_neg z2, if_pos rfl]
  rw [kh]
  unfold F_X7_takesKey
  by_cases s : srt (τ 206) B f = 1
  · have t1 : τ 200 13 = 1 := by rw [(H.s1 s).2.1, if_pos nb]
    have s0 : ¬ srt (τ 206) B f = 0 := by omega
    rw [if_pos t1, show L_X7_takesKey_12 130 0 τ = _ from tk12_s H co (w := 0) (by decide) 129, tk12_s H co (w := 0 + 1) (by decide) 128, tk12_s H co (w := 0 + 1 + 1) (by decide) 127]
    have en : L_X7_takesKey_12 127 (nI (0 + 1 + 1 + 1)) τ = some (0, τ) := by
      show S_X7_takesKey_12 (L_X7_takesKey_12 126) (nI 3) τ = _
      unfold S_X7_takesKey_12
      rw [if_pos (by decide)]
    rw [en]
    by_cases z0 : t - f = 4 ∧ W4 (τ 206) f 0
    · exact Or.inl ⟨0, by decide, s0, by rw [if_pos ⟨s, z0⟩]; rfl, by rw [if_pos z0]⟩
    · rw [if_neg z0, if_neg (fun y => z0 y.2)]
      by_cases z1 : t - f = 4 ∧ W4 (τ 206) f 1
      · exact Or.inl ⟨1, by decide, s0, by rw [if_pos ⟨s, z1⟩]; rfl, by rw [if_pos z1]⟩
      · rw [if_neg z1, if_neg (fun y => z1 y.2)]
        by_cases z2 : t - f = 4 ∧ W4 (τ 206) f 2
        · exact Or.inl ⟨2, by decide, s0, by rw [if_pos ⟨s, z2⟩]; rfl, by rw [if_pos z2]⟩
        · exact Or.inr ⟨by rw [if_neg (fun y => z2 y.2)], by rw [if_neg z2]⟩
  · have t1 : ¬ τ 200 13 = 1 := fun z => by
      have sl := srt_le (τ 206) B f
      have c : srt (τ 206) B f = 0 ∨ srt (τ 206) B f = 2 ∨ srt (τ 206) B f = 3 := by omega
      rcases c with y | y | y
      · rw [H.s0 y] at z; exact absurd z (by decide)
      · rw [(H.s2 y).2.2.1] at z
        split at z <;> exact absurd z (by decide)
      · rw [(H.s3 y).2.1] at z; exact absurd z (by decide)
    exact Or.inr ⟨by rw [if_neg (fun y => s y.1), if_neg (fun y => s y.1), if_neg (fun y => s y.1)], by rw [if_neg t1]⟩
