/-! the levels one by one -/
theorem rk1 {s : Nat} {v : Int32} : (¬ sgv s v = 0 ∧ rk (sgv s v) = 1) ↔ (s = 3 ∧ v = 124) := by
  constructor
  · intro h
    obtain ⟨h1, h2, h3⟩ := sgv_ch h.1
    refine ⟨h1, ?_⟩
    generalize sgv s v = c at h h2 h3
    rcases signs h3.1 h3.2 with rfl | rfl | rfl | rfl | rfl | rfl | rfl | rfl | rfl
    · exact h2.trans (by decide)
    all_goals exact absurd h.2 (by decide)
  · rintro ⟨rfl, rfl⟩; decide
theorem rk2 {s : Nat} {v : Int32} : (¬ sgv s v = 0 ∧ rk (sgv s v) = 2) ↔ (s = 3 ∧ v = 38) := by
  constructor
  · intro h
    obtain ⟨h1, h2, h3⟩ := sgv_ch h.1
    refine ⟨h1, ?_⟩
    generalize sgv s v = c at h h2 h3
    rcases signs h3.1 h3.2 with rfl | rfl | rfl | rfl | rfl | rfl | rfl | rfl | rfl
    · exact absurd h.2 (by decide)
    · exact h2.trans (by decide)
    all_goals exact absurd h.2 (by decide)
  · rintro ⟨rfl, rfl⟩; decide
theorem rk3 {s : Nat} {v : Int32} : (¬ sgv s v = 0 ∧ rk (sgv s v) = 3) ↔ (s = 3 ∧ (v = 60 ∨ v = 61 ∨ v = 62)) := by
  constructor
  · intro h
    obtain ⟨h1, h2, h3⟩ := sgv_ch h.1
    refine ⟨h1, ?_⟩
    generalize sgv s v = c at h h2 h3
    rcases signs h3.1 h3.2 with rfl | rfl | rfl | rfl | rfl | rfl | rfl | rfl | rfl
    · exact absurd h.2 (by decide)
    · exact absurd h.2 (by decide)
    · exact Or.inl (h2.trans (by decide))
    · exact Or.inr (Or.inl (h2.trans (by decide)))
    · exact Or.inr (Or.inr (h2.trans (by decide)))
    all_goals exact absurd h.2 (by decide)
  · rintro ⟨rfl, rfl | rfl | rfl⟩ <;> decide
theorem rk4 {s : Nat} {v : Int32} : (¬ sgv s v = 0 ∧ rk (sgv s v) = 4) ↔ (s = 3 ∧ (v = 43 ∨ v = 45)) := by
  constructor
  · intro h
    obtain ⟨h1, h2, h3⟩ := sgv_ch h.1
    refine ⟨h1, ?_⟩
    generalize sgv s v = c at h h2 h3
    rcases signs h3.1 h3.2 with rfl | rfl | rfl | rfl | rfl | rfl | rfl | rfl | rfl
    · exact absurd h.2 (by decide)
    · exact absurd h.2 (by decide)
    · exact absurd h.2 (by decide)
    · exact absurd h.2 (by decide)
    · exact absurd h.2 (by decide)
    · exact Or.inl (h2.trans (by decide))
    · exact Or.inr (h2.trans (by decide))
    all_goals exact absurd h.2 (by decide)
  · rintro ⟨rfl, rfl | rfl⟩ <;> decide
theorem rk5 {s : Nat} {v : Int32} : (¬ sgv s v = 0 ∧ rk (sgv s v) = 5) ↔ (s = 3 ∧ (v = 42 ∨ v = 47)) := by
  constructor
  · intro h
    obtain ⟨h1, h2, h3⟩ := sgv_ch h.1
    refine ⟨h1, ?_⟩
    generalize sgv s v = c at h h2 h3
    rcases signs h3.1 h3.2 with rfl | rfl | rfl | rfl | rfl | rfl | rfl | rfl | rfl
    · exact absurd h.2 (by decide)
    · exact absurd h.2 (by decide)
    · exact absurd h.2 (by decide)
    · exact absurd h.2 (by decide)
    · exact absurd h.2 (by decide)
    · exact absurd h.2 (by decide)
    · exact absurd h.2 (by decide)
    · exact Or.inl (h2.trans (by decide))
    · exact Or.inr (h2.trans (by decide))
  · rintro ⟨rfl, rfl | rfl⟩ <;> decide
/-- at the loop's bound no sign comes -/
theorem no_sg {σ0 τ0 σ τ : hw_St} {T key B : Nat} {RC RCr St : List Int32} {f t at_ : Nat} (H : PR σ0 τ0 σ τ T key B RC RCr St f t at_) (h : 96 ≤ f) : sgv (srt (τ 206) B f) (τ 206 f) = 0 := by
  have h1 := H.tk.fB
  have h2 := H.tk.B9
  rw [srt_0.mpr (by omega)]; rfl
theorem lv0 {σ0 τ0 : hw_St} {T key B n : Nat} (hT : T ≤ 14) (Sub : Lv σ0 τ0 T key B n 1) : Lv σ0 τ0 T key B (n + 1) 0 := by
  intro a b σ τ W RC f t at_ m d ha hb hn H hl hW vW cW ht0 t01 hm wf
  rw [R_X1_0]
  unfold F_X1_readOr
  refine lv_whole (w := 0) hT (by omega) (by omega) Sub ha hb (by omega) hW vW cW (L_X1_readOr_13 (R_X1 n)) ?_ H hl ht0 t01 hm wf
  intro k i σ τ RC RCr St f t at_ H hi
  show S_X1_readOr_13 (R_X1 n) (L_X1_readOr_13 (R_X1 n) k) (nI a) (nI b) (nI i) σ = _
  unfold S_X1_readOr_13
  by_cases h96 : 96 ≤ i
  · rw [if_pos (show (96 : Int32) ≤ nI i from nI_le (a := 96) h96 (by have := H.tk.fB; have := H.tk.B9; omega)), if_neg (fun z => z.1 (no_sg H (by omega)))]
  · rw [if_neg (show ¬ (96 : Int32) ≤ nI i from iNle.mpr (nI_lt (b := 96) (by omega) (by decide))), X1_sign H.tk (by decide), hw_bd_s]
    by_cases q : srt (τ 206) B f = 3 ∧ τ 206 f = 124
    · have q' := rk1.mpr q
      rw [if_pos q, if_neg (by decide), if_pos q', show nI i + 1 = nI (i + 1) from nI_add i 1, ← (sgv_ch q'.1).2.1, q.2]
    · rw [if_neg q, if_pos rfl, if_neg (fun z => q (rk1.mp z))]
theorem lv1 {σ0 τ0 : hw_St} {T key B n : Nat} (hT : T ≤ 14) (Sub : Lv σ0 τ0 T key B n 2) : Lv σ0 τ0 T key B (n + 1) 1 := by
  intro a b σ τ W RC f t at_ m d ha hb hn H hl hW vW cW ht0 t01 hm wf
  rw [R_X1_1]
  unfold F_X1_readAnd
  refine lv_whole (w := 1) hT (by omega) (by omega) Sub ha hb (by omega) hW vW cW (L_X1_readAnd_13 (R_X1 n)) ?_ H hl ht0 t01 hm wf
  intro k i σ τ RC RCr St f t at_ H hi
  show S_X1_readAnd_13 (R_X1 n) (L_X1_readAnd_13 (R_X1 n) k) (nI a) (nI b) (nI i) σ = _
  unfold S_X1_readAnd_13
  by_cases h96 : 96 ≤ i
  · rw [if_pos (show (96 : Int32) ≤ nI i from nI_le (a := 96) h96 (by have := H.tk.fB; have := H.tk.B9; omega)), if_neg (fun z => z.1 (no_sg H (by omega)))]
  · rw [if_neg (show ¬ (96 : Int32) ≤ nI i from iNle.mpr (nI_lt (b := 96) (by omega) (by decide))), X1_sign H.tk (by decide), hw_bd_s]
    by_cases q : srt (τ 206) B f = 3 ∧ τ 206 f = 38
    · have q' := rk2.mpr q
      rw [if_pos q, if_neg (by decide), if_pos q', show nI i + 1 = nI (i + 1) from nI_add i 1, ← (sgv_ch q'.1).2.1, q.2]
    · rw [if_neg q, if_pos rfl, if_neg (fun z => q (rk2.mp z))]
theorem byte_ch {σ0 τ0 σ τ : hw_St} {T key B : Nat} {RC RCr St : List Int32} {f t at_ : Nat} (H : PR σ0 τ0 σ τ T key B RC RCr St f t at_) (h0 : ¬ sgv (srt (τ 206) B f) (τ 206 f) = 0) : F_X1_byteHere σ = some (chv (sgv (srt (τ 206) B f) (τ 206 f)), σ) := by
  obtain ⟨h1, h2, h3⟩ := sgv_ch h0
  have fB := TK_lt H.tk (by omega)
  rw [X1_byte H.tk fB]
  have c : 0 ≤ chv (sgv (srt (τ 206) B f) (τ 206 f)) ∧ chv (sgv (srt (τ 206) B f) (τ 206 f)) ≤ 127 := by
    generalize sgv (srt (τ 206) B f) (τ 206 f) = c at h3
    rcases signs h3.1 h3.2 with rfl | rfl | rfl | rfl | rfl | rfl | rfl | rfl | rfl <;> decide
  rw [(sby_eq (H.tk.C.2.2.2.1 f fB) c).mpr h2]
theorem lv3 {σ0 τ0 : hw_St} {T key B n : Nat} (hT : T ≤ 14) (Sub : Lv σ0 τ0 T key B n 4) : Lv σ0 τ0 T key B (n + 1) 3 := by
  intro a b σ τ W RC f t at_ m d ha hb hn H hl hW vW cW ht0 t01 hm wf
  rw [R_X1_3]
  unfold F_X1_readSum
  refine lv_whole (w := 3) hT (by omega) (by omega) Sub ha hb (by omega) hW vW cW (L_X1_readSum_13 (R_X1 n)) ?_ H hl ht0 t01 hm wf
  intro k i σ τ RC RCr St f t at_ H hi
  show S_X1_readSum_13 (R_X1 n) (L_X1_readSum_13 (R_X1 n) k) (nI a) (nI b) (nI i) σ = _
  unfold S_X1_readSum_13
  by_cases h96 : 96 ≤ i
  · rw [if_pos (show (96 : Int32) ≤ nI i from nI_le (a := 96) h96 (by have := H.tk.fB; have := H.tk.B9; omega)), if_neg (fun z => z.1 (no_sg H (by omega)))]
  · rw [if_neg (show ¬ (96 : Int32) ≤ nI i from iNle.mpr (nI_lt (b := 96) (by omega) (by decide))), X1_sign H.tk (by decide), hw_bd_s, X1_sign H.tk (by decide), hw_bd_s]
    unfold B_X1_readSum_37
    rw [show nI i + 1 = nI (i + 1) from nI_add i 1]
    by_cases q1 : srt (τ 206) B f = 3 ∧ τ 206 f = 43
    · have q' := rk4.mpr ⟨q1.1, Or.inl q1.2⟩
      rw [if_pos q1, if_neg (by decide), if_pos q', byte_ch H q'.1, hw_bd_s]
    · rw [if_neg q1, if_pos rfl]
      by_cases q2 : srt (τ 206) B f = 3 ∧ τ 206 f = 45
      · have q' := rk4.mpr ⟨q2.1, Or.inr q2.2⟩
        rw [if_pos q2, if_neg (by decide), if_pos q', byte_ch H q'.1, hw_bd_s]
      · rw [if_neg q2, if_pos rfl, if_neg (fun z => by
          obtain ⟨y1, y2⟩ := rk4.mp z
          rcases y2 with y | y
          · exact q1 ⟨y1, y⟩
          · exact q2 ⟨y1, y⟩)]
theorem lv4 {σ0 τ0 : hw_St} {T key B n : Nat} (hT : T ≤ 14) (Sub : Lv σ0 τ0 T key B n 5) : Lv σ0 τ0 T key B (n + 1) 4 := by
  intro a b σ τ W RC f t at_ m d ha hb hn H hl hW vW cW ht0 t01 hm wf
  rw [R_X1_4]
  unfold F_X1_readTerm
  refine lv_whole (w := 4) hT (by omega) (by omega) Sub ha hb (by omega) hW vW cW (L_X1_readTerm_13 (R_X1 n)) ?_ H hl ht0 t01 hm wf
  intro k i σ τ RC RCr St f t at_ H hi
  show S_X1_readTerm_13 (R_X1 n) (L_X1_readTerm_13 (R_X1 n) k) (nI a) (nI b) (nI i) σ = _
  unfold S_X1_readTerm_13
  by_cases h96 : 96 ≤ i
  · rw [if_pos (show (96 : Int32) ≤ nI i from nI_le (a := 96) h96 (by have := H.tk.fB; have := H.tk.B9; omega)), if_neg (fun z => z.1 (no_sg H (by omega)))]
  · rw [if_neg (show ¬ (96 : Int32) ≤ nI i from iNle.mpr (nI_lt (b := 96) (by omega) (by decide))), X1_sign H.tk (by decide), hw_bd_s, X1_sign H.tk (by decide), hw_bd_s]
    unfold B_X1_readTerm_37
    rw [show nI i + 1 = nI (i + 1) from nI_add i 1]
    by_cases q1 : srt (τ 206) B f = 3 ∧ τ 206 f = 42
    · have q' := rk5.mpr ⟨q1.1, Or.inl q1.2⟩
      rw [if_pos q1, if_neg (by decide), if_pos q', byte_ch H q'.1, hw_bd_s]
    · rw [if_neg q1, if_pos rfl]
      by_cases q2 : srt (τ 206) B f = 3 ∧ τ 206 f = 47
      · have q' := rk5.mpr ⟨q2.1, Or.inr q2.2⟩
        rw [if_pos q2, if_neg (by decide), if_pos q', byte_ch H q'.1, hw_bd_s]
      · rw [if_neg q2, if_pos rfl, if_neg (fun z => by
          obtain ⟨y1, y2⟩ := rk5.mp z
          rcases y2 with y | y
          · exact q1 ⟨y1, y⟩
          · exact q2 ⟨y1, y⟩)]
theorem lv2 {σ0 τ0 : hw_St} {T key B n : Nat} (hT : T ≤ 14) (Sub : Lv σ0 τ0 T key B n 3) : Lv σ0 τ0 T key B (n + 1) 2 := by
  intro a b σ τ W RC f t at_ m d ha hb hn H hl hW vW cW ht0 t01 hm wf
  rw [R_X1_2]
  unfold F_X1_readTest
  obtain ⟨ok, σ1, e1, e2⟩ := Sub a b σ τ W RC f t at_ m d ha hb (by omega) H hl (cls_mono (by omega) hW) vW cW (fun z => absurd z (by omega)) t01 hm wf
  rw [e1, hw_bd_s]
  rcases e2 with ⟨hok, τ', P', RCr', f', t', at', m', y1, y2, y3, y4, y5, y6, y7, y8, y9, y10, y11⟩ | ⟨hok, τ', y1, y2⟩
  · rw [hok, if_neg (by decide), X1_sign y2.tk (by decide), hw_bd_s, X1_sign y2.tk (by decide), hw_bd_s, X1_sign y2.tk (by decide), hw_bd_s]
    rw [cW] at y1
    have tz : τ' 211 a = 0 := by rw [y9 (by omega)]; exact ht0 (by omega)
    have okp : okP 2 P' := fun x hx => by have := y4 x hx; exact ⟨this.1, this.2.1, by omega, this.2.2.2⟩
    by_cases q : ¬ sgv (srt (τ' 206) B f') (τ' 206 f') = 0 ∧ rk (sgv (srt (τ' 206) B f') (τ' 206 f')) = 3
    · obtain ⟨σ2, ok2, σ3, z1, z2, z3⟩ := op_one hT (by omega) Sub ha hb (by omega) hW vW cW y2 y3 okp y5 y6 y10 rfl q.1 q.2 (fun _ => tz)
      have X : B_X1_readTest_38 (R_X1 n) (nI a) (nI b) σ1 = (if ok2 = 0 then some (0, σ3) else hw_gd (hw_gH (σ3 13 2).toNatClampNeg 0) (hw_bd (F_X0_putSign (σ3 13 2).toNatClampNeg (chv (sgv (srt (τ' 206) B f') (τ' 206 f'))) σ3) (fun _ s23 => some (1, s23)))) := by
        unfold B_X1_readTest_38
        rw [byte_ch y2 q.1, hw_bd_s, z1, hw_bd_s, z2, hw_bd_s]
      have Y : (if (if srt (τ' 206) B f' = 3 ∧ τ' 206 f' = 60 then (1 : Int32) else 0) = 0 then (if (if srt (τ' 206) B f' = 3 ∧ τ' 206 f' = 61 then (1 : Int32) else 0) = 0 then (if (if srt (τ' 206) B f' = 3 ∧ τ' 206 f' = 62 then (1 : Int32) else 0) = 0 then (some ((1 : Int32), σ1)) else (B_X1_readTest_38 (R_X1 n) (nI a) (nI b) σ1)) else (B_X1_readTest_38 (R_X1 n) (nI a) (nI b) σ1)) else (B_X1_readTest_38 (R_X1 n) (nI a) (nI b) σ1)) = B_X1_readTest_38 (R_X1 n) (nI a) (nI b) σ1 := by
        obtain ⟨p1, p2⟩ := rk3.mp q
        by_cases c1 : srt (τ' 206) B f' = 3 ∧ τ' 206 f' = 60
        · rw [if_pos c1, if_neg (by decide)]
        · rw [if_neg c1, if_pos rfl]
          by_cases c2 : srt (τ' 206) B f' = 3 ∧ τ' 206 f' = 61
          · rw [if_pos c2, if_neg (by decide)]
          · rw [if_neg c2, if_pos rfl]
            by_cases c3 : srt (τ' 206) B f' = 3 ∧ τ' 206 f' = 62
            · rw [if_pos c3, if_neg (by decide)]
            · exfalso
              rcases p2 with g | g | g
              · exact c1 ⟨p1, g⟩
              · exact c2 ⟨p1, g⟩
              · exact c3 ⟨p1, g⟩
      rw [Y, X]
      rcases z3 with ⟨hok2, σ4, τ3, P3, R3, f3, t3, at3, m3, x1, x2, x3, x4, x5, x6, x7, x8, x9, x10, x11, x12, x13⟩ | ⟨hok2, τ3, x1, x2⟩
      · rw [hok2, if_neg (by decide)]
        have y1' : hw_gd (hw_gH (σ3 13 2).toNatClampNeg 0) (hw_bd (F_X0_putSign (σ3 13 2).toNatClampNeg (chv (sgv (srt (τ' 206) B f') (τ' 206 f'))) σ3) (fun _ s23 => some ((1 : Int32), s23))) = some (1, σ4) := by
          by_cases g : hw_gH (σ3 13 2).toNatClampNeg 0 = true
          · rw [hw_gd_t g] at x1 ⊢; rw [x1, hw_bd_s]
          · unfold hw_gd at x1; rw [if_neg g] at x1; cases x1
        refine ⟨1, σ4, y1', Or.inl ⟨rfl, τ3, P3, R3, f3, t3, at3, m3, by rw [cW]; exact y1.trans x2, x3, x4, x5, x6, x7, by omega, fun q hq => (x9 q hq).trans (y8 q hq), fun z => absurd z (by omega), x12, ?_⟩⟩
        rcases x13 with g | g | g
        · exact Or.inl g
        · by_cases g3 : rk (sgv (srt (τ3 206) B f3) (τ3 206 f3)) = 3
          · exact Or.inr (Or.inr ⟨g3, by omega, x11 rfl⟩)
          · exact Or.inr (Or.inl (by omega))
        · exact absurd g.2.1 (by omega)
      · rw [hok2, if_pos rfl]
        exact ⟨0, σ3, rfl, Or.inr ⟨rfl, τ3, y1.trans x1, x2⟩⟩
    · have nq : ∀ v, v = 60 ∨ v = 61 ∨ v = 62 → ¬ (srt (τ' 206) B f' = 3 ∧ τ' 206 f' = v) := fun v hv z => q (rk3.mpr ⟨z.1, by rw [z.2]; exact hv⟩)
      rw [if_neg (nq 60 (Or.inl rfl)), if_pos rfl, if_neg (nq 61 (Or.inr (Or.inl rfl))), if_pos rfl, if_neg (nq 62 (Or.inr (Or.inr rfl))), if_pos rfl]
      refine ⟨1, σ1, rfl, Or.inl ⟨rfl, τ', P', RCr', f', t', at', m', by rw [cW]; exact y1, y2, y3, okp, y5, y6, y7, y8, fun z => absurd z (by omega), y10, ?_⟩⟩
      rcases y11 with g | g | g
      · exact Or.inl g
      · by_cases g0 : sgv (srt (τ' 206) B f') (τ' 206 f') = 0
        · exact Or.inl g0
        · exact Or.inr (Or.inl (by
            have : ¬ rk (sgv (srt (τ' 206) B f') (τ' 206 f')) = 3 := fun x => q ⟨g0, x⟩
            omega))
      · exact absurd g.2.1 (by omega)
  · rw [hok, if_pos rfl]
    exact ⟨0, σ1, rfl, Or.inr ⟨rfl, τ', y1, y2⟩⟩
