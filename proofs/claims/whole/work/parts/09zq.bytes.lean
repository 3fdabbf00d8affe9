/-! bytes of a tape, their sorts -/
theorem sby {x : Int32} (h : 0 ≤ x ∧ x ≤ 255) : x.toInt8.toInt32.toInt = if x.toInt < 128 then x.toInt else x.toInt - 256 := by
  have h1 := (iLe _ _).mp h.1
  have h2 := (iLe _ _).mp h.2
  rw [show (0 : Int32).toInt = 0 from rfl] at h1
  rw [show (255 : Int32).toInt = 255 from rfl] at h2
  rw [Int8.toInt_toInt32, Int32.toInt_toInt8, Int.bmod_def]
  split <;> split <;> omega
/-- a byte is a sign c of the first half -/
theorem sby_eq {x c : Int32} (h : 0 ≤ x ∧ x ≤ 255) (hc : 0 ≤ c ∧ c ≤ 127) : x.toInt8.toInt32 = c ↔ x = c := by
  have e := sby h
  have h1 := (iLe _ _).mp h.1
  have h2 := (iLe _ _).mp h.2
  have g1 := (iLe _ _).mp hc.1
  have g2 := (iLe _ _).mp hc.2
  rw [show (0 : Int32).toInt = 0 from rfl] at h1 g1
  rw [show (255 : Int32).toInt = 255 from rfl] at h2
  rw [show (127 : Int32).toInt = 127 from rfl] at g2
  rw [iEq, iEq, e]
  split <;> omega
def srt (b : Nat → Int32) (B j : Nat) : Nat := if j < B then (if 97 ≤ b j ∧ b j ≤ 122 then 1 else if 48 ≤ b j ∧ b j ≤ 57 then 2 else 3) else 0
theorem srt_le (b : Nat → Int32) (B j : Nat) : srt b B j ≤ 3 := by
  unfold srt
  split
  · split
    · decide
    · split <;> decide
  · decide
theorem srt_0 {b : Nat → Int32} {B j : Nat} : srt b B j = 0 ↔ B ≤ j := by
  unfold srt
  constructor
  · intro h
    split at h
    · split at h
      · cases h
      · split at h <;> cases h
    · omega
  · intro h; rw [if_neg (by omega)]
theorem srt_1 {b : Nat → Int32} {B j : Nat} : srt b B j = 1 ↔ j < B ∧ 97 ≤ b j ∧ b j ≤ 122 := by
  unfold srt
  constructor
  · intro h
    split at h
    · next h1 =>
      split at h
      · next h2 => exact ⟨h1, h2⟩
      · split at h <;> cases h
    · cases h
  · intro h; rw [if_pos h.1, if_pos h.2]
theorem srt_2 {b : Nat → Int32} {B j : Nat} : srt b B j = 2 ↔ j < B ∧ 48 ≤ b j ∧ b j ≤ 57 := by
  unfold srt
  constructor
  · intro h
    split at h
    · next h1 =>
      split at h
      · cases h
      · split at h
        · next h3 => exact ⟨h1, h3⟩
        · cases h
    · cases h
  · intro h
    have n : ¬ (97 ≤ b j ∧ b j ≤ 122) := fun g => by
      have a1 := (iLe _ _).mp g.1
      have a2 := (iLe _ _).mp h.2.2
      rw [show (97 : Int32).toInt = 97 from rfl] at a1
      rw [show (57 : Int32).toInt = 57 from rfl] at a2
      omega
    rw [if_pos h.1, if_neg n, if_pos h.2]
/-- the class's reader stands over the tape b of B bytes -/
def tkC (σ : hw_St) (b : Nat → Int32) (B : Nat) : Prop := σ 13 0 = nI 12 ∧ σ 13 1 = nI B ∧ B ≤ 96 ∧ (∀ j, j < B → 0 ≤ b j ∧ b j ≤ 255) ∧ ∀ j, j < B → σ 12 j = (b j).toInt8.toInt32
theorem tkC_k {σ σ' : hw_St} {b : Nat → Int32} {B : Nat} (C : tkC σ b B) (h0 : σ' 13 0 = σ 13 0) (h1 : σ' 13 1 = σ 13 1) (h2 : σ' 12 = σ 12) : tkC σ' b B := ⟨by rw [h0]; exact C.1, by rw [h1]; exact C.2.1, C.2.2.1, C.2.2.2.1, by rw [h2]; exact C.2.2.2.2⟩
theorem g12 : hw_gH 12 11 = true ∧ hw_ln 12 = 96 ∧ (nI 12).toNatClampNeg = 12 := by decide
theorem X1_sort {σ : hw_St} {b : Nat → Int32} {B : Nat} (C : tkC σ b B) {j : Nat} (hj : j ≤ 96) : F_X1_sortAt (nI j) σ = some (nI (srt b B j), σ) := by
  obtain ⟨c0, c1, cB, cr, c2⟩ := C
  unfold F_X1_sortAt srt
  rw [if_neg (show ¬ nI j < 0 from nI_pos (by omega)), c1]
  by_cases h : j < B
  · rw [if_pos (show nI j < nI B from nI_lt h (by omega)), if_pos h, c0, g12.2.2, hw_gd_t g12.1, g12.2.1, hw_gd_t (inb_nI (by omega) (by decide)), hw_nm_s, nI_clamp (by omega), c2 j h]
    have e := sby (cr j h)
    have h1 := (iLe _ _).mp (cr j h).1
    have h2 := (iLe _ _).mp (cr j h).2
    rw [show (0 : Int32).toInt = 0 from rfl] at h1
    rw [show (255 : Int32).toInt = 255 from rfl] at h2
    generalize (b j).toInt8.toInt32 = x at e ⊢
    generalize b j = v at e h1 h2 ⊢
    unfold B_X1_sortAt_35
    have l97 : (97 : Int32).toInt = 97 := rfl
    have l122 : (122 : Int32).toInt = 122 := rfl
    have l48 : (48 : Int32).toInt = 48 := rfl
    have l57 : (57 : Int32).toInt = 57 := rfl
    by_cases q1 : 97 ≤ v ∧ v ≤ 122
    · have a1 := (iLe _ _).mp q1.1
      have a2 := (iLe _ _).mp q1.2
      rw [l97] at a1
      rw [l122] at a2
      rw [if_pos (by omega)] at e
      rw [if_neg (iNlt.mpr ((iLe _ _).mpr (by omega))), if_neg (iNlt.mpr ((iLe _ _).mpr (by omega))), if_pos q1]; rfl
    · rw [if_neg q1]
      by_cases q2 : 48 ≤ v ∧ v ≤ 57
      · have a1 := (iLe _ _).mp q2.1
        have a2 := (iLe _ _).mp q2.2
        rw [l48] at a1
        rw [l57] at a2
        rw [if_pos (by omega)] at e
        rw [if_pos ((iLt _ _).mpr (by omega)), if_neg (iNlt.mpr ((iLe _ _).mpr (by omega))), if_neg (iNlt.mpr ((iLe _ _).mpr (by omega))), if_pos q2]; rfl
      · rw [if_neg q2]
        rw [iLe, iLe, l97, l122] at q1
        rw [iLe, iLe, l48, l57] at q2
        by_cases p1 : x < 97
        · rw [if_pos p1]
          by_cases p2 : x < 48
          · rw [if_pos p2]; rfl
          · have b1 := (iLt _ _).mp p1
            have b2 := (iLe _ _).mp (iNlt.mp p2)
            rw [l97] at b1
            rw [l48] at b2
            rw [if_neg p2, if_pos ((iLt _ _).mpr (by rw [l57]; split at e <;> omega))]; rfl
        · have b1 := (iLe _ _).mp (iNlt.mp p1)
          rw [l97] at b1
          rw [if_neg p1, if_pos ((iLt _ _).mpr (by rw [l122]; split at e <;> omega)), if_neg (iNlt.mpr ((iLe _ _).mpr (by rw [l48]; omega))), if_pos ((iLt _ _).mpr (by rw [l57]; omega))]; rfl
  · rw [if_neg (iNlt.mpr (nI_le (by omega) (by omega))), if_neg h]; rfl
theorem X7_letter {τ : hw_St} {B : Nat} (hB : B ≤ 96) (h10 : τ 200 10 = nI B) {j : Nat} (hj : j ≤ 96) : F_X7_isLetter (nI j) τ = some (if srt (τ 206) B j = 1 then 1 else 0, τ) := by
  unfold F_X7_isLetter
  rw [h10]
  by_cases h : B ≤ j
  · rw [if_pos (nI_le h (by omega)), if_neg (fun z => by have := (srt_1.mp z).1; omega)]
  · rw [if_neg (iNle.mpr (nI_lt (by omega) (by omega))), hw_gd_t (inb_nI (by omega) (by decide)), nI_clamp (by omega), hw_gd_t (inb_nI (by omega) (by decide))]
    by_cases p1 : τ 206 j < 97
    · rw [if_pos p1, if_neg (fun z => absurd p1 (iNlt.mpr (srt_1.mp z).2.1))]
    · rw [if_neg p1]
      by_cases p2 : 122 < τ 206 j
      · rw [if_pos p2, if_neg (fun z => absurd p2 (iNlt.mpr (srt_1.mp z).2.2))]
      · rw [if_neg p2, if_pos (srt_1.mpr ⟨by omega, iNlt.mp p1, iNlt.mp p2⟩)]
theorem X7_figure {τ : hw_St} {B : Nat} (hB : B ≤ 96) (h10 : τ 200 10 = nI B) {j : Nat} (hj : j ≤ 96) : F_X7_isFigure (nI j) τ = some (if srt (τ 206) B j = 2 then 1 else 0, τ) := by
  unfold F_X7_isFigure
  rw [h10]
  by_cases h : B ≤ j
  · rw [if_pos (nI_le h (by omega)), if_neg (fun z => by have := (srt_2.mp z).1; omega)]
  · rw [if_neg (iNle.mpr (nI_lt (by omega) (by omega))), hw_gd_t (inb_nI (by omega) (by decide)), nI_clamp (by omega), hw_gd_t (inb_nI (by omega) (by decide))]
    by_cases p1 : τ 206 j < 48
    · rw [if_pos p1, if_neg (fun z => absurd p1 (iNlt.mpr (srt_2.mp z).2.1))]
    · rw [if_neg p1]
      by_cases p2 : 57 < τ 206 j
      · rw [if_pos p2, if_neg (fun z => absurd p2 (iNlt.mpr (srt_2.mp z).2.2))]
      · rw [if_neg p2, if_pos (srt_2.mpr ⟨by omega, iNlt.mp p1, iNlt.mp p2⟩)]
/-! tokens -/
def Tok (b : Nat → Int32) (B p f t : Nat) : Prop := p ≤ f ∧ f ≤ B ∧ (∀ j, p ≤ j → j < f → b j = 32) ∧ (f = B ∨ ¬ b f = 32) ∧ (srt b B f = 0 → t = f) ∧ (srt b B f = 3 → t = f + 1) ∧ ((srt b B f = 1 ∨ srt b B f = 2) → f < t ∧ t ≤ B ∧ (∀ j, f ≤ j → j < t → srt b B j = srt b B f) ∧ ¬ srt b B t = srt b B f)
theorem Tok_f (b : Nat → Int32) (B : Nat) : ∀ (d p : Nat), p + d = B → ∃ f, p ≤ f ∧ f ≤ B ∧ (∀ j, p ≤ j → j < f → b j = 32) ∧ (f = B ∨ ¬ b f = 32)
  | 0, p, h => ⟨p, Nat.le_refl _, by omega, fun j h1 h2 => absurd h2 (by omega), Or.inl (by omega)⟩
  | d + 1, p, h => by
    by_cases e : b p = 32
    · obtain ⟨f, h1, h2, h3, h4⟩ := Tok_f b B d (p + 1) (by omega)
      refine ⟨f, by omega, h2, fun j g1 g2 => ?_, h4⟩
      by_cases q : j = p
      · rw [q]; exact e
      · exact h3 j (by omega) g2
    · exact ⟨p, Nat.le_refl _, by omega, fun j h1 h2 => absurd h2 (by omega), Or.inr e⟩
theorem Tok_t (b : Nat → Int32) (B s : Nat) (hs : s ≠ 0) : ∀ (d p : Nat), p + d = B → ∃ t, p ≤ t ∧ t ≤ B ∧ (∀ j, p ≤ j → j < t → srt b B j = s) ∧ ¬ srt b B t = s
  | 0, p, h => ⟨p, Nat.le_refl _, by omega, fun j h1 h2 => absurd h2 (by omega), by rw [srt_0.mpr (by omega)]; exact fun z => hs z.symm⟩
  | d + 1, p, h => by
    by_cases e : srt b B p = s
    · obtain ⟨f, h1, h2, h3, h4⟩ := Tok_t b B s hs d (p + 1) (by omega)
      refine ⟨f, by omega, h2, fun j g1 g2 => ?_, h4⟩
      by_cases q : j = p
      · rw [q]; exact e
      · exact h3 j (by omega) g2
    · exact ⟨p, Nat.le_refl _, by omega, fun j h1 h2 => absurd h2 (by omega), e⟩
theorem Tok_ex (b : Nat → Int32) {B p : Nat} (h : p ≤ B) : ∃ f t, Tok b B p f t := by
  obtain ⟨f, h1, h2, h3, h4⟩ := Tok_f b B (B - p) p (by omega)
  have q := srt_le b B f
  by_cases e0 : srt b B f = 0
  · exact ⟨f, f, h1, h2, h3, h4, fun _ => rfl, fun z => absurd z (by omega), fun z => by omega⟩
  · by_cases e3 : srt b B f = 3
    · exact ⟨f, f + 1, h1, h2, h3, h4, fun z => absurd z e0, fun _ => rfl, fun z => by omega⟩
    · have fB : f < B := by
        rcases Nat.lt_or_ge f B with g | g
        · exact g
        · exact absurd (srt_0.mpr g) e0
      obtain ⟨t, g1, g2, g3, g4⟩ := Tok_t b B (srt b B f) e0 (B - f) f (by omega)
      refine ⟨f, t, h1, h2, h3, h4, fun z => absurd z e0, fun z => absurd z e3, fun _ => ⟨?_, g2, g3, g4⟩⟩
      rcases Nat.lt_or_ge f t with g | g
      · exact g
      · exact absurd rfl (by rw [show t = f by omega] at g4; exact g4)
