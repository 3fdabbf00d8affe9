/-! both readers at the same token -/
def TK (σ τ : hw_St) (B f t : Nat) : Prop := tkC σ (τ 206) B ∧ τ 200 10 = nI B ∧ f ≤ B ∧ t ≤ B ∧ f ≤ t ∧ σ 13 3 = nI (srt (τ 206) B f) ∧ (σ 13 4 = 0 ∨ σ 13 4 = 1) ∧ σ 13 5 = nI t ∧ σ 13 6 = nI f ∧ τ 200 11 = nI t ∧ τ 200 12 = nI f ∧ (srt (τ 206) B f = 0 → τ 200 13 = 0) ∧ (srt (τ 206) B f = 3 → t = f + 1 ∧ τ 200 13 = 3 ∧ τ 200 14 = τ 206 f ∧ (τ 200 15).toInt < t) ∧ (srt (τ 206) B f = 1 → f < t ∧ τ 200 13 = (if σ 13 4 = 0 then 1 else 4) ∧ τ 200 14 = τ 206 f ∧ τ 200 15 = nI t) ∧ (srt (τ 206) B f = 2 → f < t ∧ (∀ j, f ≤ j → j < t → srt (τ 206) B j = 2) ∧ τ 200 13 = (if σ 13 4 = 0 ∧ t - f ≤ 4 then 2 else 4) ∧ (t - f ≤ 4 → τ 200 14 = numv (τ 206) f (t - f)) ∧ τ 200 15 = nI t)
theorem TK.C {σ τ : hw_St} {B f t : Nat} (H : TK σ τ B f t) : tkC σ (τ 206) B := H.1
theorem TK.B9 {σ τ : hw_St} {B f t : Nat} (H : TK σ τ B f t) : B ≤ 96 := H.1.2.2.1
theorem TK.ta {σ τ : hw_St} {B f t : Nat} (H : TK σ τ B f t) : τ 200 10 = nI B := H.2.1
theorem TK.fB {σ τ : hw_St} {B f t : Nat} (H : TK σ τ B f t) : f ≤ B := H.2.2.1
theorem TK.tB {σ τ : hw_St} {B f t : Nat} (H : TK σ τ B f t) : t ≤ B := H.2.2.2.1
theorem TK.ft {σ τ : hw_St} {B f t : Nat} (H : TK σ τ B f t) : f ≤ t := H.2.2.2.2.1
theorem TK.c3 {σ τ : hw_St} {B f t : Nat} (H : TK σ τ B f t) : σ 13 3 = nI (srt (τ 206) B f) := H.2.2.2.2.2.1
theorem TK.c4 {σ τ : hw_St} {B f t : Nat} (H : TK σ τ B f t) : σ 13 4 = 0 ∨ σ 13 4 = 1 := H.2.2.2.2.2.2.1
theorem TK.c5 {σ τ : hw_St} {B f t : Nat} (H : TK σ τ B f t) : σ 13 5 = nI t := H.2.2.2.2.2.2.2.1
theorem TK.c6 {σ τ : hw_St} {B f t : Nat} (H : TK σ τ B f t) : σ 13 6 = nI f := H.2.2.2.2.2.2.2.2.1
theorem TK.m11 {σ τ : hw_St} {B f t : Nat} (H : TK σ τ B f t) : τ 200 11 = nI t := H.2.2.2.2.2.2.2.2.2.1
theorem TK.m12 {σ τ : hw_St} {B f t : Nat} (H : TK σ τ B f t) : τ 200 12 = nI f := H.2.2.2.2.2.2.2.2.2.2.1
theorem TK.s0 {σ τ : hw_St} {B f t : Nat} (H : TK σ τ B f t) : srt (τ 206) B f = 0 → τ 200 13 = 0 := H.2.2.2.2.2.2.2.2.2.2.2.1
theorem TK.s3 {σ τ : hw_St} {B f t : Nat} (H : TK σ τ B f t) : srt (τ 206) B f = 3 → t = f + 1 ∧ τ 200 13 = 3 ∧ τ 200 14 = τ 206 f ∧ (τ 200 15).toInt < t := H.2.2.2.2.2.2.2.2.2.2.2.2.1
theorem TK.s1 {σ τ : hw_St} {B f t : Nat} (H : TK σ τ B f t) : srt (τ 206) B f = 1 → f < t ∧ τ 200 13 = (if σ 13 4 = 0 then 1 else 4) ∧ τ 200 14 = τ 206 f ∧ τ 200 15 = nI t := H.2.2.2.2.2.2.2.2.2.2.2.2.2.1
theorem TK.s2 {σ τ : hw_St} {B f t : Nat} (H : TK σ τ B f t) : srt (τ 206) B f = 2 → f < t ∧ (∀ j, f ≤ j → j < t → srt (τ 206) B j = 2) ∧ τ 200 13 = (if σ 13 4 = 0 ∧ t - f ≤ 4 then 2 else 4) ∧ (t - f ≤ 4 → τ 200 14 = numv (τ 206) f (t - f)) ∧ τ 200 15 = nI t := H.2.2.2.2.2.2.2.2.2.2.2.2.2.2
theorem TK_keep {σ τ σ' τ' : hw_St} {B f t : Nat} (H : TK σ τ B f t) (k13 : σ' 13 = σ 13) (k12 : σ' 12 = σ 12) (k6 : τ' 206 = τ 206) (k2 : ∀ k, 10 ≤ k → k ≤ 15 → τ' 200 k = τ 200 k) : TK σ' τ' B f t := by
  unfold TK tkC
  rw [k13, k12, k6, k2 10 (by omega) (by omega), k2 11 (by omega) (by omega), k2 12 (by omega) (by omega), k2 13 (by omega) (by omega), k2 14 (by omega) (by omega), k2 15 (by omega) (by omega)]
  exact H
def PreT (σ τ : hw_St) (B p s0 : Nat) : Prop := tkC σ (τ 206) B ∧ τ 200 10 = nI B ∧ p ≤ B ∧ s0 ≤ 3 ∧ σ 13 3 = nI s0 ∧ σ 13 5 = nI p ∧ τ 200 11 = nI p ∧ ((s0 = 1 ∨ s0 = 2) → τ 200 15 = nI p) ∧ (¬ (s0 = 1 ∨ s0 = 2) → (τ 200 15).toInt < p)
theorem TK_pre {σ τ : hw_St} {B f t : Nat} (H : TK σ τ B f t) (h : ¬ srt (τ 206) B f = 0) : PreT σ τ B t (srt (τ 206) B f) := by
  have sl := srt_le (τ 206) B f
  refine ⟨H.C, H.ta, H.tB, sl, H.c3, H.c5, H.m11, fun z => ?_, fun z => ?_⟩
  · rcases z with z | z
    · exact (H.s1 z).2.2.2
    · exact (H.s2 z).2.2.2.2
  · exact (H.s3 (by omega)).2.2.2
theorem go_step {σ τ : hw_St} {B p s0 : Nat} (H : PreT σ τ B p s0) : ∃ σ' τ' f t, F_X1_step σ = some ((), σ') ∧ F_X7_go τ = some ((), τ') ∧ TK σ' τ' B f t ∧ p ≤ f ∧ (∀ k, k < 3 → σ' 13 k = σ 13 k) ∧ (∀ x, x ≠ 13 → σ' x = σ x) ∧ (∀ k, (k < 11 ∨ 15 < k) → τ' 200 k = τ 200 k) ∧ (∀ x, x ≠ 200 → τ' x = τ x) := by
  obtain ⟨C, h10, hp, hs0, h3, h5, h11, e1, e2⟩ := H
  have cB := C.2.2.1
  obtain ⟨f, t, K⟩ := Tok_ex (τ 206) hp
  obtain ⟨σ', a1, b3, b4, b5, b6, b7, b8⟩ := X1_step C hs0 h3 h5 hp K
  obtain ⟨τ', c1, d1, d2, d3, d4, d5, d6, d7, d8⟩ := X7_go cB h10 h11 rfl hp K
  obtain ⟨k1, k2, k3, k4, k5, k6, k7⟩ := K
  have q6 : τ' 206 = τ 206 := d8 206 (by decide)
  have sl := srt_le (τ 206) B f
  have cl : (nI f = τ 200 15) ↔ ((s0 = 1 ∨ s0 = 2) ∧ f = p) := by
    by_cases z : s0 = 1 ∨ s0 = 2
    · rw [e1 z]
      constructor
      · intro y
        refine ⟨z, ?_⟩
        rcases Nat.lt_trichotomy f p with g | g | g
        · exact absurd y (nI_ne (by omega) (by omega) (by omega))
        · exact g
        · exact absurd y (nI_ne (by omega) (by omega) (by omega))
      · intro y; rw [y.2]
    · constructor
      · intro y
        have := e2 z
        rw [← y, nI_toInt (by omega)] at this
        omega
      · intro y; exact absurd y.1 z
  have el : (τ 200 15).toInt ≤ p := by
    by_cases z : s0 = 1 ∨ s0 = 2
    · rw [e1 z, nI_toInt (by omega)]; omega
    · have := e2 z; omega
  have tB : t ≤ B := by
    have c : srt (τ 206) B f = 0 ∨ srt (τ 206) B f = 1 ∨ srt (τ 206) B f = 2 ∨ srt (τ 206) B f = 3 := by omega
    rcases c with s | s | s | s
    · rw [k5 s]; exact k2
    · exact (k7 (Or.inl s)).2.1
    · exact (k7 (Or.inr s)).2.1
    · have : ¬ B ≤ f := fun z => by have := (srt_0 (b := τ 206)).mpr z; omega
      rw [k6 s]; omega
  have ft : f ≤ t := by
    have c : srt (τ 206) B f = 0 ∨ srt (τ 206) B f = 1 ∨ srt (τ 206) B f = 2 ∨ srt (τ 206) B f = 3 := by omega
    rcases c with s | s | s | s
    · rw [k5 s]; exact Nat.le_refl _
    · have := (k7 (Or.inl s)).1; omega
    · have := (k7 (Or.inr s)).1; omega
    · rw [k6 s]; omega
  refine ⟨σ', τ', f, t, a1, c1, ?_, k1, b7, b8, d7, d8⟩
  unfold TK
  rw [q6]
  refine ⟨tkC_k C (b7 0 (by omega)) (b7 1 (by omega)) (b8 12 (by decide)), by rw [d7 10 (by omega)]; exact h10, k2, tB, ft, b3, ?_, b5, b6, d1, d2, d3, fun s => ?_, fun s => ?_, fun s => ?_⟩
  · rw [b4]; split
    · exact Or.inr rfl
    · exact Or.inl rfl
  · obtain ⟨g1, g2, g3⟩ := d4 s
    refine ⟨k6 s, g1, g2, ?_⟩
    rw [g3, k6 s]; omega
  · obtain ⟨g1, g2, g3⟩ := d5 s
    refine ⟨(k7 (Or.inl s)).1, ?_, g2, g3⟩
    rw [g1, b4]
    by_cases z : (s0 = 1 ∨ s0 = 2) ∧ f = p
    · rw [if_pos (cl.mpr z), if_pos z, if_neg (by decide)]
    · rw [if_neg (fun y => z (cl.mp y)), if_neg z, if_pos rfl]
  · obtain ⟨g1, g2, g3⟩ := d6 s
    obtain ⟨w1, w2, w3, w4⟩ := k7 (Or.inr s)
    refine ⟨w1, fun j h1 h2 => by rw [w3 j h1 h2, s], ?_, g2, g3⟩
    rw [g1, b4]
    by_cases z : (s0 = 1 ∨ s0 = 2) ∧ f = p
    · rw [if_neg (fun y => y.1 (cl.mpr z)), if_pos z, if_neg (fun y => absurd y.1 (by decide))]
    · rw [if_neg z]
      by_cases y : t - f ≤ 4
      · rw [if_pos ⟨fun x => z (cl.mp x), y⟩, if_pos ⟨rfl, y⟩]
      · rw [if_neg (fun x => y x.2), if_neg (fun x => y x.2)]
/-! signs -/
theorem TK_lt {σ τ : hw_St} {B f t : Nat} (H : TK σ τ B f t) (h : ¬ srt (τ 206) B f = 0) : f < B := by
  rcases Nat.lt_or_ge f B with g | g
  · exact g
  · exact absurd (srt_0.mpr g) h
theorem TK_c3 {σ τ : hw_St} {B f t : Nat} (H : TK σ τ B f t) {k : Nat} (hk : k < 4) : σ 13 3 = nI k ↔ srt (τ 206) B f = k := by
  have sl := srt_le (τ 206) B f
  rw [H.c3]
  constructor
  · intro z
    rcases Nat.lt_trichotomy (srt (τ 206) B f) k with g | g | g
    · exact absurd z (nI_ne (by omega) (by omega) (by omega))
    · exact g
    · exact absurd z (nI_ne (by omega) (by omega) (by omega))
  · intro z; rw [z]
theorem TK_m3 {σ τ : hw_St} {B f t : Nat} (H : TK σ τ B f t) : τ 200 13 = 3 ↔ srt (τ 206) B f = 3 := by
  have sl := srt_le (τ 206) B f
  constructor
  · intro z
    have c : srt (τ 206) B f = 0 ∨ srt (τ 206) B f = 1 ∨ srt (τ 206) B f = 2 ∨ srt (τ 206) B f = 3 := by omega
    rcases c with s | s | s | s
    · rw [H.s0 s] at z; exact absurd z (by decide)
    · rw [(H.s1 s).2.1] at z
      split at z <;> exact absurd z (by decide)
    · rw [(H.s2 s).2.2.1] at z
      split at z <;> exact absurd z (by decide)
    · exact s
  · intro s; exact (H.s3 s).2.1
theorem TK_m0 {σ τ : hw_St} {B f t : Nat} (H : TK σ τ B f t) : τ 200 13 = 0 ↔ srt (τ 206) B f = 0 := by
  have sl := srt_le (τ 206) B f
  constructor
  · intro z
    have c : srt (τ 206) B f = 0 ∨ srt (τ 206) B f = 1 ∨ srt (τ 206) B f = 2 ∨ srt (τ 206) B f = 3 := by omega
    rcases c with s | s | s | s
    · exact s
    · rw [(H.s1 s).2.1] at z
      split at z <;> exact absurd z (by decide)
    · rw [(H.s2 s).2.2.1] at z
      split at z <;> exact absurd z (by decide)
    · rw [(H.s3 s).2.1] at z; exact absurd z (by decide)
  · exact H.s0
theorem X1_byte {σ τ : hw_St} {B f t : Nat} (H : TK σ τ B f t) (h : f < B) : F_X1_byteHere σ = some ((τ 206 f).toInt8.toInt32, σ) := by
  obtain ⟨c0, c1, cB, cr, c2⟩ := H.C
  unfold F_X1_byteHere
  rw [H.c6, c1, c0, if_neg (nI_pos (by omega)), if_neg (iNle.mpr (nI_lt h (by omega))), g12.2.2, hw_gd_t g12.1, g12.2.1, hw_gd_t (inb_nI (by omega) (by decide)), nI_clamp (by omega), c2 f h]
theorem X1_sign {σ τ : hw_St} {B f t : Nat} (H : TK σ τ B f t) {c : Int32} (hc : 0 ≤ c ∧ c ≤ 127) : F_X1_isSign c σ = some (if srt (τ 206) B f = 3 ∧ τ 206 f = c then 1 else 0, σ) := by
  unfold F_X1_isSign
  by_cases s : srt (τ 206) B f = 3
  · have fB := TK_lt H (by omega)
    have e := sby_eq (H.C.2.2.2.1 f fB) hc
    rw [if_pos (show σ 13 3 = 3 from (TK_c3 H (k := 3) (by decide)).mpr s), X1_byte H fB, hw_bd_s]
    by_cases z : τ 206 f = c
    · rw [if_pos (e.mpr z), if_pos ⟨s, z⟩]
    · rw [if_neg (fun y => z (e.mp y)), if_neg (fun y => z y.2)]
  · rw [if_neg (fun z : σ 13 3 = 3 => s ((TK_c3 H (k := 3) (by decide)).mp z)), if_neg (fun z => s z.1)]
def sgv (s : Nat) (v : Int32) : Int32 := if s = 3 then (if v = 38 then -2 else if v = 42 then -8 else if v = 43 then -6 else if v = 45 then -7 else if v = 47 then -9 else if v = 60 then -3 else if v = 61 then -4 else if v = 62 then -5 else if v = 124 then -1 else 0) else 0
theorem X7_sgn {σ τ : hw_St} {B f t : Nat} (H : TK σ τ B f t) : F_X7_signHere τ = some (sgv (srt (τ 206) B f) (τ 206 f), τ) := by
  unfold F_X7_signHere sgv
  by_cases s : srt (τ 206) B f = 3
  · rw [if_pos ((TK_m3 H).mpr s), if_pos s, (H.s3 s).2.2.1]
    repeat' split
    all_goals rfl
  · rw [if_neg (fun z => s ((TK_m3 H).mp z)), if_neg s]
def rk (c : Int32) : Nat := if c = -1 then 1 else if c = -2 then 2 else if c < -5 then (if c < -7 then (if c < -9 then 6 else 5) else 4) else 3
theorem X7_rank (c : Int32) (τ : hw_St) : F_X7_rank c τ = some (nI (rk c), τ) := by
  unfold F_X7_rank rk
  repeat' split
  all_goals rfl
/-- a class's byte for a sign -/
def chv (c : Int32) : Int32 := if c = -10 then 33 else if c = -1 then 124 else if c = -2 then 38 else if c = -3 then 60 else if c = -4 then 61 else if c = -5 then 62 else if c = -6 then 43 else if c = -7 then 45 else if c = -8 then 42 else 47
theorem sgv_ch {s : Nat} {v : Int32} (h : ¬ sgv s v = 0) : s = 3 ∧ v = chv (sgv s v) ∧ (-9 ≤ sgv s v ∧ sgv s v ≤ -1) := by
  unfold sgv at h ⊢
  by_cases e : s = 3
  · rw [if_pos e] at h ⊢
    refine ⟨e, ?_⟩
    repeat' split
    all_goals first
      | (next q => subst q; decide)
      | (exfalso; revert h; simp_all)
  · rw [if_neg e] at h; exact absurd rfl h
