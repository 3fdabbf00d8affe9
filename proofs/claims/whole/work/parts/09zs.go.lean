/-! the reference's step to the next token -/
theorem up_idk {τ : hw_St} {t k : Nat} {v : Int32} (h : τ t k = v) : hw_up τ t k v = τ := by
  rw [up_upA, ← h, hq_ui, upA_id]
theorem nI_sb {a b : Nat} (h : b ≤ a) (ha : a < 1000) : nI a - nI b = nI (a - b) := by
  rw [iEq, pk_sub_toInt (by omega) (by omega), nI_toInt (by omega)]
  omega
theorem up_sw (ρ : hw_St) (t : Nat) {k j : Nat} (h : j ≠ k) (v a v' c : Int32) : hw_up (hw_up (hw_up (hw_up ρ t k v) t j a) t k v') t j c = hw_up (hw_up ρ t k v') t j c := by
  funext x y
  simp only [up_at]
  by_cases e : x = t
  · simp only [if_pos e]
    by_cases e1 : y = j
    · simp only [if_pos e1]
    · simp only [if_neg e1]
      by_cases e2 : y = k
      · simp only [if_pos e2]
      · simp only [if_neg e2]
  · simp only [if_neg e]
def numv (b : Nat → Int32) (f : Nat) : Nat → Int32
  | 0 => 0
  | k + 1 => 10 * numv b f k + b (f + k) - 48
theorem go0 {τ : hw_St} {B f : Nat} (hB : B ≤ 96) (h10 : τ 200 10 = nI B) (hf : f ≤ B) (h4 : f = B ∨ ¬ τ 206 f = 32) : ∀ (d p n : Nat), p + d = f → d < n → (∀ j, p ≤ j → j < f → τ 206 j = 32) → L_X7_go_0 n (hw_up τ 200 11 (nI p)) = B_X7_go_38 (hw_up τ 200 11 (nI f)) := by
  have r1 : ∀ p, hw_up τ 200 11 (nI p) 200 11 = nI p := fun p => by rw [up_self, upd_s]
  have r0 : ∀ p, hw_up τ 200 11 (nI p) 200 10 = nI B := fun p => by rw [up_self, upd_n _ _ (by decide)]; exact h10
  have r6 : ∀ p, hw_up τ 200 11 (nI p) 206 = τ 206 := fun p => up_row _ _ _ _ (by decide)
  intro d
  induction d with
  | zero =>
    intro p n hp hn hj
    obtain ⟨n, rfl⟩ : ∃ q, n = q + 1 := ⟨n - 1, by omega⟩
    have : p = f := by omega
    subst this
    show S_X7_go_0 (L_X7_go_0 n) (hw_up τ 200 11 (nI p)) = _
    unfold S_X7_go_0
    rw [r0, r1]
    by_cases q : p = B
    · rw [if_pos (by rw [q]; exact Int32.le_refl _)]
    · have n32 : ¬ τ 206 p = 32 := by rcases h4 with e | e; exact absurd e q; exact e
      rw [if_neg (iNle.mpr (nI_lt (by omega) (by omega))), hw_gd_t (inb_nI (by omega) (by decide)), r6, nI_clamp (by omega), if_neg n32]
  | succ d ih =>
    intro p n hp hn hj
    obtain ⟨n, rfl⟩ : ∃ q, n = q + 1 := ⟨n - 1, by omega⟩
    show S_X7_go_0 (L_X7_go_0 n) (hw_up τ 200 11 (nI p)) = _
    unfold S_X7_go_0
    rw [r0, r1, if_neg (iNle.mpr (nI_lt (by omega) (by omega))), hw_gd_t (inb_nI (by omega) (by decide)), r6, nI_clamp (by omega), if_pos (hj p (Nat.le_refl _) (by omega)), hw_nm_s, show nI p + 1 = nI (p + 1) from nI_add p 1, up_up]
    exact ih (p + 1) n (by omega) (by omega) (fun j g1 g2 => hj j (by omega) g2)
theorem go93 {τ : hw_St} {B t : Nat} (hB : B ≤ 96) (h10 : τ 200 10 = nI B) (ht : t ≤ B) (h4 : ¬ srt (τ 206) B t = 1) (l1 : Int32) : ∀ (d p n : Nat), p + d = t → d < n → (∀ j, p ≤ j → j < t → srt (τ 206) B j = 1) → L_X7_go_93 n l1 (hw_up τ 200 11 (nI p)) = (if l1 = 0 then B_X7_go_127 1 (hw_up τ 200 11 (nI t)) else B_X7_go_127 4 (hw_up τ 200 11 (nI t))) := by
  have r1 : ∀ p, hw_up τ 200 11 (nI p) 200 11 = nI p := fun p => by rw [up_self, upd_s]
  have r0 : ∀ p, hw_up τ 200 11 (nI p) 200 10 = nI B := fun p => by rw [up_self, upd_n _ _ (by decide)]; exact h10
  have r6 : ∀ p, hw_up τ 200 11 (nI p) 206 = τ 206 := fun p => up_row _ _ _ _ (by decide)
  intro d
  induction d with
  | zero =>
    intro p n hp hn hj
    obtain ⟨n, rfl⟩ : ∃ q, n = q + 1 := ⟨n - 1, by omega⟩
    have : p = t := by omega
    subst this
    show S_X7_go_93 (L_X7_go_93 n) l1 (hw_up τ 200 11 (nI p)) = _
    unfold S_X7_go_93
    rw [r1, X7_letter hB (r0 p) (by omega), hw_bd_s, r6, if_neg h4, if_pos rfl]
  | succ d ih =>
    intro p n hp hn hj
    obtain ⟨n, rfl⟩ : ∃ q, n = q + 1 := ⟨n - 1, by omega⟩
    show S_X7_go_93 (L_X7_go_93 n) l1 (hw_up τ 200 11 (nI p)) = _
    unfold S_X7_go_93
    rw [r1, X7_letter hB (r0 p) (by omega), hw_bd_s, r6, if_pos (hj p (Nat.le_refl _) (by omega)), if_neg (by decide), hw_nm_s, r1, show nI p + 1 = nI (p + 1) from nI_add p 1, up_up]
    exact ih (p + 1) n (by omega) (by omega) (fun j g1 g2 => hj j (by omega) g2)
def vqn (b : Nat → Int32) (f q : Nat) : Int32 := if q - f ≤ 4 then numv b f (q - f) else numv b f 4
theorem go170 {τ : hw_St} {B f t : Nat} (hB : B ≤ 96) (h10 : τ 200 10 = nI B) (h12 : τ 200 12 = nI f) (ht : t ≤ B) (h4 : ¬ srt (τ 206) B t = 2) (l1 : Int32) : ∀ (d p n : Nat), f ≤ p → p + d = t → d < n → (∀ j, p ≤ j → j < t → srt (τ 206) B j = 2) → L_X7_go_170 n l1 (hw_up (hw_up τ 200 14 (vqn (τ 206) f p)) 200 11 (nI p)) = (if l1 = 0 ∧ t - f ≤ 4 then B_X7_go_261 2 (hw_up (hw_up τ 200 14 (vqn (τ 206) f t)) 200 11 (nI t)) else B_X7_go_261 4 (hw_up (hw_up τ 200 14 (vqn (τ 206) f t)) 200 11 (nI t))) := by
  have r1 : ∀ v p, hw_up (hw_up τ 200 14 v) 200 11 (nI p) 200 11 = nI p := fun v p => by rw [up_self, upd_s]
  have r0 : ∀ v p, hw_up (hw_up τ 200 14 v) 200 11 (nI p) 200 10 = nI B := fun v p => by rw [up_self, upd_n _ _ (by decide), up_self, upd_n _ _ (by decide)]; exact h10
  have r2 : ∀ v p, hw_up (hw_up τ 200 14 v) 200 11 (nI p) 200 12 = nI f := fun v p => by rw [up_self, upd_n _ _ (by decide), up_self, upd_n _ _ (by decide)]; exact h12
  have r4 : ∀ v p, hw_up (hw_up τ 200 14 v) 200 11 (nI p) 200 14 = v := fun v p => by rw [up_self, upd_n _ _ (by decide), up_self, upd_s]
  have r6 : ∀ v p, hw_up (hw_up τ 200 14 v) 200 11 (nI p) 206 = τ 206 := fun v p => by rw [up_row _ _ _ _ (by decide), up_row _ _ _ _ (by decide)]
  intro d
  induction d with
  | zero =>
    intro p n hfp hp hn hj
    obtain ⟨n, rfl⟩ : ∃ q, n = q + 1 := ⟨n - 1, by omega⟩
    have : p = t := by omega
    subst this
    show S_X7_go_170 (L_X7_go_170 n) l1 _ = _
    unfold S_X7_go_170 B_X7_go_256
    rw [r1, X7_figure hB (r0 _ p) (by omega), hw_bd_s, r6, if_neg h4, if_pos rfl, r1, r2, nI_sb hfp (by omega)]
    by_cases z : l1 = 0
    · rw [if_pos z]
      by_cases y : p - f ≤ 4
      · rw [if_pos (show nI (p - f) ≤ 4 from nI_le (b := 4) y (by decide)), if_pos ⟨z, y⟩]
      · rw [if_neg (show ¬ nI (p - f) ≤ 4 from iNle.mpr (nI_lt (a := 4) (by omega) (by omega))), if_neg (fun w => y w.2)]
    · rw [if_neg z, if_neg (fun w => z w.1)]
  | succ d ih =>
    intro p n hfp hp hn hj
    obtain ⟨n, rfl⟩ : ∃ q, n = q + 1 := ⟨n - 1, by omega⟩
    refine Eq.trans ?_ (ih (p + 1) n (by omega) (by omega) (by omega) (fun j g1 g2 => hj j (by omega) g2))
    show S_X7_go_170 (L_X7_go_170 n) l1 _ = _
    unfold S_X7_go_170 B_X7_go_222
    rw [r1, X7_figure hB (r0 _ p) (by omega), hw_bd_s, r6, if_pos (hj p (Nat.le_refl _) (by omega)), if_neg (by decide), r1, r2, nI_sb hfp (by omega), r4, nI_clamp (by omega), hw_gd_t (inb_nI (by omega) (by decide)), hw_nm_s, hw_nm_s, hw_nm_s, hw_nm_s]
    have rs : ∀ v w, hw_up (hw_up (hw_up τ 200 14 v) 200 11 (nI p)) 200 14 w 200 11 = nI p := fun v w => by rw [up_self, upd_n _ _ (by decide)]; exact r1 v p
    rw [rs, rs, show nI p + 1 = nI (p + 1) from nI_add p 1, up_sw _ _ (by decide), up_sw _ _ (by decide)]
    by_cases y : p - f < 4
    · rw [if_neg (show ¬ (4 : Int32) ≤ nI (p - f) from iNle.mpr (nI_lt (b := 4) y (by decide)))]
      have : vqn (τ 206) f (p + 1) = 10 * vqn (τ 206) f p + τ 206 p - 48 := by
        unfold vqn
        rw [if_pos (by omega), if_pos (by omega), show p + 1 - f = (p - f) + 1 by omega]
        show 10 * numv (τ 206) f (p - f) + τ 206 (f + (p - f)) - 48 = _
        rw [show f + (p - f) = p by omega]
      rw [this]
    · rw [if_pos (show (4 : Int32) ≤ nI (p - f) from nI_le (a := 4) (by omega) (by omega))]
      have : vqn (τ 206) f (p + 1) = vqn (τ 206) f p := by
        unfold vqn
        rw [if_neg (by omega)]
        by_cases w : p - f ≤ 4
        · rw [if_pos w, show p - f = 4 by omega]
        · rw [if_neg w]
      rw [this]
/-- what the reference says of a token; e: where the last word ended -/
def goC (τ τ' : hw_St) (B f t : Nat) (e : Int32) : Prop := τ' 200 11 = nI t ∧ τ' 200 12 = nI f ∧ (srt (τ 206) B f = 0 → τ' 200 13 = 0) ∧ (srt (τ 206) B f = 3 → τ' 200 13 = 3 ∧ τ' 200 14 = τ 206 f ∧ τ' 200 15 = e) ∧ (srt (τ 206) B f = 1 → τ' 200 13 = (if nI f = e then 4 else 1) ∧ τ' 200 14 = τ 206 f ∧ τ' 200 15 = nI t) ∧ (srt (τ 206) B f = 2 → τ' 200 13 = (if ¬ nI f = e ∧ t - f ≤ 4 then 2 else 4) ∧ (t - f ≤ 4 → τ' 200 14 = numv (τ 206) f (t - f)) ∧ τ' 200 15 = nI t) ∧ (∀ k, (k < 11 ∨ 15 < k) → τ' 200 k = τ 200 k) ∧ ∀ x, x ≠ 200 → τ' x = τ x
theorem X7_go {τ : hw_St} {B p f t : Nat} {e : Int32} (hB : B ≤ 96) (h10 : τ 200 10 = nI B) (h11 : τ 200 11 = nI p) (h15 : τ 200 15 = e) (hp : p ≤ B) (K : Tok (τ 206) B p f t) : ∃ τ', F_X7_go τ = some ((), τ') ∧ goC τ τ' B f t e := by
  obtain ⟨k1, k2, k3, k4, k5, k6, k7⟩ := K
  have sl := srt_le (τ 206) B f
  have st : F_X7_go τ = B_X7_go_38 (hw_up τ 200 11 (nI f)) := by
    unfold F_X7_go
    have := go0 hB h10 k2 k4 (f - p) p 130 (by omega) (by omega) k3
    rw [up_idk h11] at this
    exact this
  rw [st]
  unfold B_X7_go_38
  rw [hw_nm_s]
  generalize hw : hw_up (hw_up τ 200 11 (nI f)) 200 12 (hw_up τ 200 11 (nI f) 200 11) = ρ
  have q11 : ρ 200 11 = nI f := by rw [← hw, up_self, upd_n _ _ (by decide), up_self, upd_s]
  have q12 : ρ 200 12 = nI f := by rw [← hw, up_self, upd_s, up_self, upd_s]
  have qk : ∀ k, k ≠ 11 → k ≠ 12 → ρ 200 k = τ 200 k := fun k g1 g2 => by rw [← hw, up_self, upd_n _ _ g2, up_self, upd_n _ _ g1]
  have qx : ∀ x, x ≠ 200 → ρ x = τ x := fun x g => by rw [← hw, up_row _ _ _ _ g, up_row _ _ _ _ g]
  have q10 : ρ 200 10 = nI B := by rw [qk 10 (by decide) (by decide)]; exact h10
  have q15 : ρ 200 15 = e := by rw [qk 15 (by decide) (by decide)]; exact h15
  have q6 : ρ 206 = τ 206 := qx 206 (by decide)
  rw [q12, q15]
  have main : ∀ l1 : Int32, (l1 = 0 ↔ ¬ nI f = e) → ∃ τ', B_X7_go_62 l1 ρ = some ((), τ') ∧ goC τ τ' B f t e := by
    intro l1 hl
    unfold B_X7_go_62
    rw [q12, q10]
    have c : srt (τ 206) B f = 0 ∨ srt (τ 206) B f = 1 ∨ srt (τ 206) B f = 2 ∨ srt (τ 206) B f = 3 := by omega
    rcases c with s | s | s | s
    · have fB : f = B := by have := srt_0.mp s; omega
      rw [if_pos (by rw [fB]), hw_nm_s]
      refine ⟨hw_up ρ 200 13 0, rfl, ?_, ?_, ?_, ?_, ?_, ?_, ?_, ?_⟩
      · rw [up_self, upd_n _ _ (by decide), k5 s]; exact q11
      · rw [up_self, upd_n _ _ (by decide)]; exact q12
      · intro _; rw [up_self, upd_s]
      · intro z; omega
      · intro z; omega
      · intro z; omega
      · intro k g; rw [up_self, upd_n _ _ (by omega)]; exact qk k (by omega) (by omega)
      · intro x g; rw [up_row _ _ _ _ g]; exact qx x g
    · have fB := (srt_1.mp s).1
      obtain ⟨g1, g2, g3, g4⟩ := k7 (Or.inl s)
      rw [s] at g3 g4
      have lp : L_X7_go_93 130 l1 ρ = (if l1 = 0 then B_X7_go_127 1 (hw_up ρ 200 11 (nI t)) else B_X7_go_127 4 (hw_up ρ 200 11 (nI t))) := by
        have := go93 hB q10 g2 (by rw [q6]; exact g4) l1 (t - f) f 130 (by omega) (by omega) (fun j h1 h2 => by rw [q6]; exact g3 j h1 h2)
        rw [up_idk q11] at this
        exact this
      rw [if_neg (nI_ne (by omega) (by omega) (by omega)), X7_letter hB q10 (by omega), hw_bd_s, q6, if_pos s, if_neg (by decide), lp]
      have fin : ∀ v : Int32, v = (if nI f = e then 4 else 1) → ∃ τ', B_X7_go_127 v (hw_up ρ 200 11 (nI t)) = some ((), τ') ∧ goC τ τ' B f t e := fun v hv => by
        unfold B_X7_go_127
        rw [hw_nm_s]
        have a12 : hw_up (hw_up ρ 200 11 (nI t)) 200 13 v 200 12 = nI f := by rw [up_self, upd_n _ _ (by decide), up_self, upd_n _ _ (by decide)]; exact q12
        have a6 : hw_up (hw_up ρ 200 11 (nI t)) 200 13 v 206 = τ 206 := by rw [up_row _ _ _ _ (by decide), up_row _ _ _ _ (by decide)]; exact q6
        rw [a12, hw_gd_t (inb_nI (by omega) (by decide)), hw_nm_s, hw_nm_s, a6, nI_clamp (by omega)]
        have a11 : hw_up (hw_up (hw_up ρ 200 11 (nI t)) 200 13 v) 200 14 (τ 206 f) 200 11 = nI t := by rw [up_self, upd_n _ _ (by decide), up_self, upd_n _ _ (by decide), up_self, upd_s]
        rw [a11]
        refine ⟨_, rfl, ?_, ?_, ?_, ?_, ?_, ?_, ?_, ?_⟩
        · rw [up_self, upd_n _ _ (by decide)]; exact a11
        · rw [up_self, upd_n _ _ (by decide), up_self, upd_n _ _ (by decide)]; exact a12
        · intro z; omega
        · intro z; omega
        · intro _
          refine ⟨?_, ?_, ?_⟩
          · rw [up_self, upd_n _ _ (by decide), up_self, upd_n _ _ (by decide), up_self, upd_s]; exact hv
          · rw [up_self, upd_n _ _ (by decide), up_self, upd_s]
          · rw [up_self, upd_s]
        · intro z; omega
        · intro k g
          rw [up_self, upd_n _ _ (by omega), up_self, upd_n _ _ (by omega), up_self, upd_n _ _ (by omega), up_self, upd_n _ _ (by omega)]; exact qk k (by omega) (by omega)
        · intro x g
          rw [up_row _ _ _ _ g, up_row _ _ _ _ g, up_row _ _ _ _ g, up_row _ _ _ _ g]; exact qx x g
      by_cases z : l1 = 0
      · rw [if_pos z]; exact fin 1 (by rw [if_neg (hl.mp z)])
      · rw [if_neg z]; exact fin 4 (by rw [if_pos (Decidable.byContradiction (fun y => z (hl.mpr y)))])
    · have fB := (srt_2.mp s).1
      obtain ⟨g1, g2, g3, g4⟩ := k7 (Or.inr s)
      rw [s] at g3 g4
      have lp : L_X7_go_170 130 l1 (hw_up ρ 200 14 0) = (if l1 = 0 ∧ t - f ≤ 4 then B_X7_go_261 2 (hw_up (hw_up ρ 200 14 (vqn (τ 206) f t)) 200 11 (nI t)) else B_X7_go_261 4 (hw_up (hw_up ρ 200 14 (vqn (τ 206) f t)) 200 11 (nI t))) := by
        have := go170 hB q10 q12 g2 (by rw [q6]; exact g4) l1 (t - f) f 130 (by omega) (by omega) (by omega) (fun j h1 h2 => by rw [q6]; exact g3 j h1 h2)
        rw [q6, show vqn (τ 206) f f = 0 from by unfold vqn; rw [if_pos (by omega), show f - f = 0 by omega]; rfl, up_idk (show hw_up ρ 200 14 0 200 11 = nI f by rw [up_self, upd_n _ _ (by decide)]; exact q11)] at this
        exact this
      have n1 : ¬ srt (τ 206) B f = 1 := by omega
      rw [if_neg (nI_ne (by omega) (by omega) (by omega)), X7_letter hB q10 (by omega), hw_bd_s, q6, if_neg n1, if_pos rfl, q12, X7_figure hB q10 (by omega), hw_bd_s, q6, if_pos s, if_neg (by decide), hw_nm_s, lp]
      have fin : ∀ v : Int32, v = (if ¬ nI f = e ∧ t - f ≤ 4 then 2 else 4) → ∃ τ', B_X7_go_261 v (hw_up (hw_up ρ 200 14 (vqn (τ 206) f t)) 200 11 (nI t)) = some ((), τ') ∧ goC τ τ' B f t e := fun v hv => by
        unfold B_X7_go_261
        have a11 : hw_up (hw_up (hw_up ρ 200 14 (vqn (τ 206) f t)) 200 11 (nI t)) 200 13 v 200 11 = nI t := by rw [up_self, upd_n _ _ (by decide), up_self, upd_s]
        rw [hw_nm_s, hw_nm_s, a11]
        refine ⟨_, rfl, ?_, ?_, ?_, ?_, ?_, ?_, ?_, ?_⟩
        · rw [up_self, upd_n _ _ (by decide)]; exact a11
        · rw [up_self, upd_n _ _ (by decide), up_self, upd_n _ _ (by decide), up_self, upd_n _ _ (by decide), up_self, upd_n _ _ (by decide)]; exact q12
        · intro z; omega
        · intro z; omega
        · intro z; omega
        · intro _
          refine ⟨?_, fun y => ?_, ?_⟩
          · rw [up_self, upd_n _ _ (by decide), up_self, upd_s]; exact hv
          · rw [up_self, upd_n _ _ (by decide), up_self, upd_n _ _ (by decide), up_self, upd_n _ _ (by decide), up_self, upd_s]
            unfold vqn
            rw [if_pos y]
          · rw [up_self, upd_s]
        · intro k g
          rw [up_self, upd_n _ _ (by omega), up_self, upd_n _ _ (by omega), up_self, upd_n _ _ (by omega), up_self, upd_n _ _ (by omega)]; exact qk k (by omega) (by omega)
        · intro x g
          rw [up_row _ _ _ _ g, up_row _ _ _ _ g, up_row _ _ _ _ g, up_row _ _ _ _ g]; exact qx x g
      by_cases z : l1 = 0 ∧ t - f ≤ 4
      · rw [if_pos z]; exact fin 2 (by rw [if_pos ⟨hl.mp z.1, z.2⟩])
      · rw [if_neg z]; exact fin 4 (by rw [if_neg (fun y => z ⟨hl.mpr y.1, y.2⟩)])
    · have fB : f < B := by
        rcases Nat.lt_or_ge f B with g | g
        · exact g
        · have := (srt_0 (b := τ 206)).mpr g; omega
      have n1 : ¬ srt (τ 206) B f = 1 := by omega
      have n2 : ¬ srt (τ 206) B f = 2 := by omega
      rw [if_neg (nI_ne (by omega) (by omega) (by omega)), X7_letter hB q10 (by omega), hw_bd_s, q6, if_neg n1, if_pos rfl, q12, X7_figure hB q10 (by omega), hw_bd_s, q6, if_neg n2, if_pos rfl, hw_nm_s]
      have a12 : hw_up ρ 200 13 3 200 12 = nI f := by rw [up_self, upd_n _ _ (by decide)]; exact q12
      have a6 : hw_up ρ 200 13 3 206 = τ 206 := by rw [up_row _ _ _ _ (by decide)]; exact q6
      rw [a12, hw_gd_t (inb_nI (by omega) (by decide)), hw_nm_s, hw_nm_s, a6, nI_clamp (by omega)]
      have a11 : hw_up (hw_up ρ 200 13 3) 200 14 (τ 206 f) 200 11 = nI f := by rw [up_self, upd_n _ _ (by decide), up_self, upd_n _ _ (by decide)]; exact q11
      rw [a11, show nI f + 1 = nI (f + 1) from nI_add f 1]
      refine ⟨_, rfl, ?_, ?_, ?_, ?_, ?_, ?_, ?_, ?_⟩
      · rw [up_self, upd_s, k6 s]
      · rw [up_self, upd_n _ _ (by decide), up_self, upd_n _ _ (by decide)]; exact a12
      · intro z; omega
      · intro _
        refine ⟨?_, ?_, ?_⟩
        · rw [up_self, upd_n _ _ (by decide), up_self, upd_n _ _ (by decide), up_self, upd_s]
        · rw [up_self, upd_n _ _ (by decide), up_self, upd_s]
        · rw [up_self, upd_n _ _ (by decide), up_self, upd_n _ _ (by decide), up_self, upd_n _ _ (by decide)]; exact q15
      · intro z; omega
      · intro z; omega
      · intro k g
        rw [up_self, upd_n _ _ (by omega), up_self, upd_n _ _ (by omega), up_self, upd_n _ _ (by omega)]; exact qk k (by omega) (by omega)
      · intro x g
        rw [up_row _ _ _ _ g, up_row _ _ _ _ g, up_row _ _ _ _ g]; exact qx x g
  by_cases z : nI f = e
  · rw [if_pos z]; exact main 1 ⟨fun y => absurd y (by decide), fun y => absurd z y⟩
  · rw [if_neg z]; exact main 0 ⟨fun _ => z, fun _ => rfl⟩
