/-! small methods, both sides -/
theorem X6_isWithin (a b c : Int32) (s : hw_St) : F_X6_isWithin a b c s = some (if b ≤ a ∧ a ≤ c then 1 else 0, s) := by
  unfold F_X6_isWithin
  by_cases h : a < b
  · rw [if_pos h, if_neg (fun g => absurd h (iNlt.mpr g.1))]
  · rw [if_neg h]
    by_cases h2 : c < a
    · rw [if_pos h2, if_neg (fun g => absurd h2 (iNlt.mpr g.2))]
    · rw [if_neg h2, if_pos ⟨iNlt.mp h, iNlt.mp h2⟩]
theorem X7_in (a b c : Int32) (s : hw_St) : F_X7_in a b c s = some (if b ≤ a ∧ a ≤ c then 1 else 0, s) := X6_isWithin a b c s
def cl (v lo hi : Int32) : Int32 := if lo ≤ v then (if v ≤ hi then v else hi) else lo
theorem X7_within (v lo hi : Int32) (s : hw_St) : F_X7_within v lo hi s = some (cl v lo hi, s) := by
  unfold F_X7_within cl
  by_cases h : lo ≤ v
  · rw [if_pos h, if_pos h]
    by_cases h2 : v ≤ hi
    · rw [if_pos h2, if_pos h2]
    · rw [if_neg h2, if_neg h2]
  · rw [if_neg h, if_neg h]
theorem cl_mm {v lo hi : Int32} (h : lo ≤ hi) : hw_max lo (hw_min hi v) = cl v lo hi := by
  unfold hw_max hw_min cl
  have e := (iLe _ _).mp h
  by_cases h1 : v < hi
  · rw [if_pos h1]
    have e1 := (iLt _ _).mp h1
    by_cases h2 : lo < v
    · have e2 := (iLt _ _).mp h2
      rw [if_pos h2, if_pos ((iLe _ _).mpr (by omega)), if_pos ((iLe _ _).mpr (by omega))]
    · have e2 : ¬ lo.toInt < v.toInt := fun g => h2 ((iLt _ _).mpr g)
      rw [if_neg h2]
      by_cases h3 : lo ≤ v
      · have e3 := (iLe _ _).mp h3
        rw [if_pos h3, if_pos ((iLe _ _).mpr (by omega)), iEq]; omega
      · rw [if_neg h3]
  · rw [if_neg h1]
    have e1 : ¬ v.toInt < hi.toInt := fun g => h1 ((iLt _ _).mpr g)
    have h3 : lo ≤ v := (iLe _ _).mpr (by omega)
    rw [if_pos h3]
    by_cases h2 : lo < hi
    · rw [if_pos h2]
      by_cases h4 : v ≤ hi
      · have e4 := (iLe _ _).mp h4
        rw [if_pos h4, iEq]; omega
      · rw [if_neg h4]
    · have e2 : ¬ lo.toInt < hi.toInt := fun g => h2 ((iLt _ _).mpr g)
      rw [if_neg h2]
      by_cases h4 : v ≤ hi
      · have e4 := (iLe _ _).mp h4
        rw [if_pos h4, iEq]; omega
      · rw [if_neg h4, iEq]; omega
theorem X6_within {v lo hi : Int32} (h : lo ≤ hi) (s : hw_St) : F_X6_within v lo hi s = some (cl v lo hi, s) := by
  unfold F_X6_within
  rw [cl_mm h]
theorem cl_in (v : Int32) {lo hi : Int32} (h : lo ≤ hi) : lo ≤ cl v lo hi ∧ cl v lo hi ≤ hi := by
  unfold cl
  by_cases h1 : lo ≤ v
  · rw [if_pos h1]
    by_cases h2 : v ≤ hi
    · rw [if_pos h2]; exact ⟨h1, h2⟩
    · rw [if_neg h2]; exact ⟨h, Int32.le_refl _⟩
  · rw [if_neg h1]; exact ⟨Int32.le_refl _, h⟩
theorem max0_cl {v hi : Int32} (h : v ≤ hi) (h0 : 0 ≤ hi) : hw_max 0 v = cl v 0 hi := by
  have e : hw_min hi v = v := by
    unfold hw_min
    by_cases h1 : v < hi
    · rw [if_pos h1]
    · rw [if_neg h1, iEq]
      have e1 : ¬ v.toInt < hi.toInt := fun g => h1 ((iLt _ _).mpr g)
      have e2 := (iLe _ _).mp h
      omega
  rw [← cl_mm h0, e]
theorem isbI (c : Prop) [Decidable c] (s : hw_St) : hw_gd (hw_isb (if c then (1 : Int32) else 0)) (some ((if c then (1 : Int32) else 0), s)) = some ((if c then (1 : Int32) else 0), s) := hw_gd_t isb_if
theorem X6_isKind (a : Int32) (s : hw_St) : F_X6_isKind a s = some (if 0 ≤ a ∧ a ≤ 5 then 1 else 0, s) := by unfold F_X6_isKind; rw [X6_isWithin, hw_bd_s, isbI]
theorem X6_isThick (a : Int32) (s : hw_St) : F_X6_isThick a s = some (if 1 ≤ a ∧ a ≤ 9 then 1 else 0, s) := by unfold F_X6_isThick; rw [X6_isWithin, hw_bd_s, isbI]
theorem X6_isOwn (a : Int32) (s : hw_St) : F_X6_isOwn a s = some (if 1 ≤ a ∧ a ≤ 999 then 1 else 0, s) := by unfold F_X6_isOwn; rw [X6_isWithin, hw_bd_s, isbI]
theorem X6_isHour (a : Int32) (s : hw_St) : F_X6_isHour a s = some (if 0 ≤ a ∧ a ≤ 23 then 1 else 0, s) := by unfold F_X6_isHour; rw [X6_isWithin, hw_bd_s, isbI]
theorem X6_isWind (a : Int32) (s : hw_St) : F_X6_isWind a s = some (if 0 ≤ a ∧ a ≤ 99 then 1 else 0, s) := by unfold F_X6_isWind; rw [X6_isWithin, hw_bd_s, isbI]
theorem X6_isSheet (a : Int32) (s : hw_St) : F_X6_isSheet a s = some (if 0 ≤ a ∧ a ≤ 3 then 1 else 0, s) := by unfold F_X6_isSheet; rw [X6_isWithin, hw_bd_s, isbI]
theorem X6_isSlot (a : Int32) (s : hw_St) : F_X6_isSlot a s = some (if 0 ≤ a ∧ a ≤ 4 then 1 else 0, s) := by unfold F_X6_isSlot; rw [X6_isWithin, hw_bd_s, isbI]
theorem X7_isHour (a : Int32) (s : hw_St) : F_X7_isHour a s = some (if 0 ≤ a ∧ a ≤ 23 then 1 else 0, s) := by unfold F_X7_isHour; rw [X7_in, hw_bd_s, isbI]
theorem X7_isWind (a : Int32) (s : hw_St) : F_X7_isWind a s = some (if 0 ≤ a ∧ a ≤ 99 then 1 else 0, s) := by unfold F_X7_isWind; rw [X7_in, hw_bd_s, isbI]
theorem X7_isSheet (a : Int32) (s : hw_St) : F_X7_isSheet a s = some (if 0 ≤ a ∧ a ≤ 3 then 1 else 0, s) := by unfold F_X7_isSheet; rw [X7_in, hw_bd_s, isbI]
theorem X7_isSlot (a : Int32) (s : hw_St) : F_X7_isSlot a s = some (if 0 ≤ a ∧ a ≤ 4 then 1 else 0, s) := by unfold F_X7_isSlot; rw [X7_in, hw_bd_s, isbI]
theorem X7_isWire (a : Int32) (s : hw_St) : F_X7_isWire a s = some (if 0 ≤ a ∧ a ≤ s 201 1 - 1 then 1 else 0, s) := by
  unfold F_X7_isWire
  rw [hw_gd_t (by decide), X7_in, hw_bd_s, isbI]; rfl
/-- what may be set: 1 thick, 2 own, 3 loss, 4 swing -/
def canS (what v : Int32) : Prop := (what = 1 ∧ 1 ≤ v ∧ v ≤ 9) ∨ (what = 2 ∧ 1 ≤ v ∧ v ≤ 999) ∨ (what = 3 ∧ 0 ≤ v ∧ v ≤ 9) ∨ (what = 4 ∧ 0 ≤ v ∧ v ≤ 9999)
theorem X6_canBeSet (a v : Int32) (s : hw_St) : ∃ r, F_X6_canBeSet a v s = some (r, s) ∧ (r = 0 ↔ ¬ canS a v) := by
  unfold F_X6_canBeSet canS
  by_cases h1 : a = 1
  · subst h1
    rw [if_pos rfl, X6_isThick, hw_bd_s, isbI]
    refine ⟨_, rfl, ?_⟩
    rw [if01_0]
    simp
  · rw [if_neg h1]
    by_cases h2 : a = 2
    · subst h2
      rw [if_pos rfl, X6_isOwn, hw_bd_s, isbI]
      refine ⟨_, rfl, ?_⟩
      rw [if01_0]
      simp
    · rw [if_neg h2]
      by_cases h3 : a = 3
      · subst h3
        rw [if_pos rfl, X6_isWithin, hw_bd_s, isbI]
        refine ⟨_, rfl, ?_⟩
        rw [if01_0]
        simp
      · rw [if_neg h3]
        by_cases h4 : a = 4
        · subst h4
          rw [if_pos rfl, X6_isWithin, hw_bd_s, isbI]
          refine ⟨_, rfl, ?_⟩
          rw [if01_0]
          simp
        · rw [if_neg h4]
          exact ⟨0, rfl, by simp [h1, h2, h3, h4]⟩
theorem X7_isPart1 (v : Int32) (s : hw_St) : F_X7_isPart 1 v s = some (if 1 ≤ v ∧ v ≤ 9 then 1 else 0, s) := by
  unfold F_X7_isPart B_X7_isPart_11
  rw [if_neg (by decide), if_pos rfl]
  unfold B_X7_isPart_21 B_X7_isPart_40
  rw [X7_in, hw_bd_s, isbI]
theorem X7_isPart2 (v : Int32) (s : hw_St) : F_X7_isPart 2 v s = some (if 1 ≤ v ∧ v ≤ 999 then 1 else 0, s) := by
  unfold F_X7_isPart B_X7_isPart_11
  rw [if_neg (by decide), if_neg (by decide), if_neg (by decide), if_pos rfl]
  unfold B_X7_isPart_40
  rw [X7_in, hw_bd_s, isbI]
theorem X7_isPart3 (v : Int32) (s : hw_St) : F_X7_isPart 3 v s = some (if 0 ≤ v ∧ v ≤ 9 then 1 else 0, s) := by
  unfold F_X7_isPart B_X7_isPart_11
  rw [if_pos (by decide), if_neg (by decide), if_pos rfl]
  unfold B_X7_isPart_21 B_X7_isPart_40
  rw [X7_in, hw_bd_s, isbI]
theorem X7_isPart4 (v : Int32) (s : hw_St) : F_X7_isPart 4 v s = some (if 0 ≤ v ∧ v ≤ 9999 then 1 else 0, s) := by
  unfold F_X7_isPart B_X7_isPart_11
  rw [if_pos (by decide), if_neg (by decide), if_neg (by decide), if_neg (by decide)]
  unfold B_X7_isPart_40
  rw [X7_in, hw_bd_s, isbI]
/-! kinds under one another -/
def undr (k a : Int32) : Prop := a = 0 ∨ k = a ∨ (a = 1 ∧ k = 3) ∨ (a = 2 ∧ k = 4)
theorem X7_isUnder (k a : Int32) (s : hw_St) : ∃ r, F_X7_isUnder k a s = some (r, s) ∧ (r = 0 ↔ ¬ undr k a) := by
  unfold F_X7_isUnder B_X7_isUnder_19 B_X7_isUnder_29 undr
  by_cases h0 : a = 0
  · rw [if_pos h0]; exact ⟨1, rfl, by simp [h0]⟩
  · rw [if_neg h0]
    by_cases h1 : k = a
    · rw [if_pos h1]; exact ⟨1, rfl, by simp [h1]⟩
    · rw [if_neg h1]
      by_cases h2 : a = 1
      · rw [if_pos h2]
        by_cases h3 : k = 3
        · rw [if_pos h3]; exact ⟨1, rfl, by simp [h2, h3]⟩
        · rw [if_neg h3, if_neg (by subst h2; decide)]; exact ⟨0, rfl, by subst h2; simp [h3, h1]⟩
      · rw [if_neg h2]
        by_cases h3 : a = 2
        · rw [if_pos h3]
          by_cases h4 : k = 4
          · rw [if_pos h4]; exact ⟨1, rfl, by simp [h3, h4]⟩
          · rw [if_neg h4]; exact ⟨0, rfl, by simp [h0, h1, h2, h4]⟩
        · rw [if_neg h3]; exact ⟨0, rfl, by simp [h0, h1, h2, h3]⟩
theorem ok_L (n : Nat) (a k l3 : Int32) (s : hw_St) : L_X6_isOfKind_4 (n + 1) a k l3 s = if 6 ≤ l3 then some (0, s) else (if 0 ≤ k ∧ k ≤ 5 then (if k = a then some (1, s) else hw_gd (hw_inb k 6) (L_X6_isOfKind_4 n a (hw_ka.getD k.toNatClampNeg 0) (l3 + 1) s)) else some (0, s)) := by
  show S_X6_isOfKind_4 (L_X6_isOfKind_4 n) a k l3 s = _
  unfold S_X6_isOfKind_4
  by_cases h : 6 ≤ l3
  · rw [if_pos h, if_pos h]
  · rw [if_neg h, if_neg h, X6_isKind, hw_bd_s]
    by_cases h2 : 0 ≤ k ∧ k ≤ 5
    · rw [if_pos h2, if_neg (by decide), if_pos h2]; rfl
    · rw [if_neg h2, if_pos rfl, if_neg h2]
theorem ok_none (n : Nat) (a l3 : Int32) (s : hw_St) (h : ¬ 6 ≤ l3) : L_X6_isOfKind_4 (n + 1) a (-1000000005) l3 s = some (0, s) := by
  rw [ok_L, if_neg h, if_neg (by decide)]
theorem ok_0 (n : Nat) (a l3 : Int32) (s : hw_St) (h : ¬ 6 ≤ l3) (h2 : ¬ 6 ≤ l3 + 1) : L_X6_isOfKind_4 (n + 2) a 0 l3 s = some (if 0 = a then 1 else 0, s) := by
  rw [ok_L, if_neg h, if_pos (by decide)]
  by_cases e : 0 = a
  · rw [if_pos e, if_pos e]
  · rw [if_neg e, if_neg e, hw_gd_t (by decide)]
    exact ok_none n a (l3 + 1) s h2
theorem ok_1 (n : Nat) (a l3 : Int32) (k : Int32) (hk : k = 1 ∨ k = 2 ∨ k = 5) (s : hw_St) (h : ¬ 6 ≤ l3) (h2 : ¬ 6 ≤ l3 + 1) (h3 : ¬ 6 ≤ l3 + 1 + 1) : L_X6_isOfKind_4 (n + 3) a k l3 s = some (if k = a ∨ 0 = a then 1 else 0, s) := by
  have hv : (0 ≤ k ∧ k ≤ 5) ∧ hw_inb k 6 = true ∧ hw_ka.getD k.toNatClampNeg 0 = 0 := by rcases hk with rfl | rfl | rfl <;> decide
  rw [ok_L, if_neg h, if_pos hv.1]
  by_cases e : k = a
  · rw [if_pos e, if_pos (Or.inl e)]
  · rw [if_neg e, hw_gd_t hv.2.1, hv.2.2, ok_0 n a (l3 + 1) s h2 h3]
    by_cases e2 : 0 = a
    · rw [if_pos e2, if_pos (Or.inr e2)]
    · rw [if_neg e2, if_neg (fun g => g.elim e e2)]
theorem X6_isOfKind {k : Int32} (hk : 0 ≤ k ∧ k ≤ 5) (a : Int32) (s : hw_St) : ∃ r, F_X6_isOfKind k a s = some (r, s) ∧ (r = 0 ↔ ¬ undr k a) := by
  unfold F_X6_isOfKind undr
  obtain ⟨i, hi, rfl⟩ := ix_to (m := 5) rfl hk.1 hk.2
  have c : i = 0 ∨ i = 1 ∨ i = 2 ∨ i = 3 ∨ i = 4 ∨ i = 5 := by omega
  rcases c with rfl | rfl | rfl | rfl | rfl | rfl
  · refine ⟨_, ok_0 128 a 0 s (by decide) (by decide), ?_⟩
    rw [if01_0]
    show ¬ (nI 0 = a) ↔ _
    constructor
    · intro h g
      rcases g with g | g | ⟨g, g2⟩ | ⟨g, g2⟩
      · exact h g.symm
      · exact h g
      · exact absurd g2 (by decide)
      · exact absurd g2 (by decide)
    · intro h g
      exact h (Or.inr (Or.inl g))
  · refine ⟨_, ok_1 127 a 0 1 (by decide) s (by decide) (by decide) (by decide), ?_⟩
    rw [if01_0]
    constructor
    · intro h g
      rcases g with g | g | ⟨g, g2⟩ | ⟨g, g2⟩
      · exact h (Or.inr g.symm)
      · exact h (Or.inl g)
      · exact absurd g2 (by decide)
      · exact absurd g2 (by decide)
    · intro h g
      rcases g with g | g
      · exact h (Or.inr (Or.inl g))
      · exact h (Or.inl g.symm)
  · refine ⟨_, ok_1 127 a 0 2 (by decide) s (by decide) (by decide) (by decide), ?_⟩
    rw [if01_0]
    constructor
    · intro h g
      rcases g with g | g | ⟨g, g2⟩ | ⟨g, g2⟩
      · exact h (Or.inr g.symm)
      · exact h (Or.inl g)
      · exact absurd g2 (by decide)
      · exact absurd g2 (by decide)
    · intro h g
      rcases g with g | g
      · exact h (Or.inr (Or.inl g))
      · exact h (Or.inl g.symm)
  · rw [show (130 : Nat) = 129 + 1 from rfl, ok_L, if_neg (by decide), if_pos (by decide)]
    by_cases e : nI 3 = a
    · rw [if_pos e]; exact ⟨1, rfl, by simp [e]⟩
    · rw [if_neg e, hw_gd_t (by decide)]
      refine ⟨_, ok_1 126 a (0 + 1) 1 (by decide) s (by decide) (by decide) (by decide), ?_⟩
      rw [if01_0]
      constructor
      · intro h g
        rcases g with g | g | ⟨g, g2⟩ | ⟨g, g2⟩
        · exact h (Or.inr g.symm)
        · exact e g
        · exact h (Or.inl g.symm)
        · exact absurd g2 (by decide)
      · intro h g
        rcases g with g | g
        · exact h (Or.inr (Or.inr (Or.inl ⟨g.symm, rfl⟩)))
        · exact h (Or.inl g.symm)
  · rw [show (130 : Nat) = 129 + 1 from rfl, ok_L, if_neg (by decide), if_pos (by decide)]
    by_cases e : nI 4 = a
    · rw [if_pos e]; exact ⟨1, rfl, by simp [e]⟩
    · rw [if_neg e, hw_gd_t (by decide)]
      refine ⟨_, ok_1 126 a (0 + 1) 2 (by decide) s (by decide) (by decide) (by decide), ?_⟩
      rw [if01_0]
      constructor
      · intro h g
        rcases g with g | g | ⟨g, g2⟩ | ⟨g, g2⟩
        · exact h (Or.inr g.symm)
        · exact e g
        · exact absurd g2 (by decide)
        · exact h (Or.inl g.symm)
      · intro h g
        rcases g with g | g
        · exact h (Or.inr (Or.inr (Or.inr ⟨g.symm, rfl⟩)))
        · exact h (Or.inl g.symm)
  · refine ⟨_, ok_1 127 a 0 5 (by decide) s (by decide) (by decide) (by decide), ?_⟩
    rw [if01_0]
    constructor
    · intro h g
      rcases g with g | g | ⟨g, g2⟩ | ⟨g, g2⟩
      · exact h (Or.inr g.symm)
      · exact h (Or.inl g)
      · exact absurd g2 (by decide)
      · exact absurd g2 (by decide)
    · intro h g
      rcases g with g | g
      · exact h (Or.inr (Or.inl g))
      · exact h (Or.inl g.symm)
