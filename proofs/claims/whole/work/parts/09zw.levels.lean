/-! levels of a text -/
def PF (σ0 τ0 σ τ : hw_St) (T : Nat) : Prop := (∃ f, f ≤ 96 ∧ σ 13 6 = nI f ∧ τ 200 12 = nI f) ∧ (∀ x, x ≠ 13 → x ≠ 30 + T → x ≠ 45 + T → σ x = σ0 x) ∧ (∀ x, x ≠ 200 → x ≠ 209 → x ≠ 210 → x ≠ 211 → τ x = τ0 x) ∧ (∀ k, (k < 11 ∨ 23 < k ∨ 17 ≤ k ∧ k ≤ 19 ∨ k = 22) → τ 200 k = τ0 200 k)
theorem PR_PF {σ0 τ0 σ τ : hw_St} {T key B : Nat} {RC RCr St : List Int32} {f t at_ : Nat} (H : PR σ0 τ0 σ τ T key B RC RCr St f t at_) : PF σ0 τ0 σ τ T := ⟨⟨f, by have := H.tk.fB; have := H.tk.B9; omega, H.tk.c6, H.tk.m12⟩, H.fs, H.ft, H.f2⟩
def okP (w : Nat) (P : List Int32) : Prop := ∀ x, x ∈ P → ¬ x = -11 ∧ ¬ x = -10 ∧ w + 1 ≤ rk x ∧ rk x < 6
def exi (w : Nat) (sg tst : Int32) : Prop := sg = 0 ∨ rk sg < w + 1 ∨ (rk sg = 3 ∧ w ≤ 2 ∧ tst = 1)
/-- what a level's reading comes to on both sides -/
def Res (σ0 τ0 : hw_St) (T key B : Nat) (w a : Nat) (W : List Int32) (d : Nat) (tst : Nat → Int32) (f : Nat) (X Y : Option (Int32 × hw_St)) : Prop := ∃ ok σ', X = some (ok, σ') ∧ ((ok = 1 ∧ ∃ τ' P RCr f' t' at_ m', Y = L_X7_takesE_28 m' (nI a) (nI (cntN W)) 0 τ' ∧ PR σ0 τ0 σ' τ' T key B (List.reverseAux P RCr) RCr (P ++ W) f' t' at_ ∧ RCr.length + (P ++ W).length ≤ f' ∧ okP w P ∧ wfr (nmx key) (List.reverseAux P RCr) (d + 1) ∧ B + 2 ≤ m' + f' ∧ f < f' ∧ (∀ q, q < a → τ' 211 q = tst q) ∧ (3 ≤ w → τ' 211 a = tst a) ∧ (τ' 211 a = 0 ∨ τ' 211 a = 1) ∧ exi w (sgv (srt (τ' 206) B f') (τ' 206 f')) (τ' 211 a)) ∨ (ok = 0 ∧ ∃ τ', Y = some (0, τ') ∧ PF σ0 τ0 σ' τ' T))
def Lv (σ0 τ0 : hw_St) (T key B : Nat) (n w : Nat) : Prop := ∀ (a b : Nat) (σ τ : hw_St) (W RC : List Int32) (f t at_ m d : Nat), a ≤ 8 → b ≤ 8 → 6 * (8 - a) + (8 - b) + (5 - w) < n → PR σ0 τ0 σ τ T key B RC RC W f t at_ → RC.length + W.length ≤ f → cls (w + 1) W → vst W → cntN W = b → (w ≤ 2 → τ 211 a = 0) → (τ 211 a = 0 ∨ τ 211 a = 1) → B + 2 ≤ m + f → wfr (nmx key) RC d → Res σ0 τ0 T key B w a W d (τ 211) f (R_X1 n w (nI a) (nI b) σ) (L_X7_takesE_28 m (nI a) (nI b) 1 τ)
theorem cnt_sg {c : Int32} (h : -9 ≤ c ∧ c ≤ -1) (W : List Int32) : cntN (c :: W) = cntN W := by
  show cntN W + (if c = -10 then 1 else 0) = cntN W
  rw [if_neg (rk_sg h).2.2]
  rfl
theorem vst_sg {c : Int32} (h : -9 ≤ c ∧ c ≤ -1) {W : List Int32} (hW : vst W) : vst (c :: W) := fun x hx => by
  rcases List.mem_cons.mp hx with g | g
  · rw [g]; exact Or.inr (Or.inr (rk_sg h).1)
  · exact hW x g
theorem cls_mono {r r' : Nat} (h : r ≤ r') : ∀ {W : List Int32}, cls r W → cls r' W
  | [], _ => trivial
  | _ :: _, g => by rcases g with e | e; exact Or.inl e; exact Or.inr (by omega)
/-- one sign of a level, and what comes behind it -/
theorem op_one {σ0 τ0 : hw_St} {T key B n w : Nat} (hT : T ≤ 14) (hw : w ≤ 4) (Sub : Lv σ0 τ0 T key B n (w + 1)) {a b : Nat} (ha : a ≤ 8) (hb : b ≤ 8) (hn : 6 * (8 - a) + (8 - b) + (5 - (w + 1)) < n) {W : List Int32} (hW : cls (w + 1) W) (vW : vst W) (cW : cntN W = b) {σ τ : hw_St} {P RCr : List Int32} {f t at_ m d : Nat} (H : PR σ0 τ0 σ τ T key B (List.reverseAux P RCr) RCr (P ++ W) f t at_) (hl : RCr.length + (P ++ W).length ≤ f) (hP : okP w P) (wf : wfr (nmx key) (List.reverseAux P RCr) (d + 1)) (hm : B + 2 ≤ m + f) (t01 : τ 211 a = 0 ∨ τ 211 a = 1) {sg : Int32} (hsg : sgv (srt (τ 206) B f) (τ 206 f) = sg) (h0 : ¬ sg = 0) (hr : rk sg = w + 1) (h3 : rk sg = 3 → τ 211 a = 0) : ∃ σ1 ok σ2, F_X1_step σ = some ((), σ1) ∧ R_X1 n (w + 1) (nI a) (nI b) σ1 = some (ok, σ2) ∧ ((ok = 1 ∧ ∃ σ3 τ' P' RCr' f' t' at' m', hw_gd (hw_gH (σ2 13 2).toNatClampNeg 0) (F_X0_putSign (σ2 13 2).toNatClampNeg (chv sg) σ2) = some ((), σ3) ∧ L_X7_takesE_28 m (nI a) (nI b) 0 τ = L_X7_takesE_28 m' (nI a) (nI b) 0 τ' ∧ PR σ0 τ0 σ3 τ' T key B (List.reverseAux P' RCr') RCr' (P' ++ W) f' t' at' ∧ RCr'.length + (P' ++ W).length ≤ f' ∧ okP w P' ∧ wfr (nmx key) (List.reverseAux P' RCr') (d + 1) ∧ B + 2 ≤ m' + f' ∧ f < f' ∧ (∀ q, q < a → τ' 211 q = τ 211 q) ∧ (3 ≤ w → τ' 211 a = τ 211 a) ∧ (w = 2 → τ' 211 a = 1) ∧ (τ' 211 a = 0 ∨ τ' 211 a = 1) ∧ exi (w + 1) (sgv (srt (τ' 206) B f') (τ' 206 f')) (τ' 211 a)) ∨ (ok = 0 ∧ ∃ τ', L_X7_takesE_28 m (nI a) (nI b) 0 τ = some (0, τ') ∧ PF σ0 τ0 σ2 τ' T)) := by
  have hch := sgv_ch (by rw [hsg]; exact h0)
  rw [hsg] at hch
  have sgr := hch.2.2
  have ns : ¬ srt (τ 206) B f = 0 := by omega
  have fB := TK_lt H.tk ns
  have B9 := H.tk.B9
  obtain ⟨m, rfl⟩ : ∃ q, m = q + 1 := ⟨m - 1, by omega⟩
  obtain ⟨σ1, τ1, f1, t1, g1, g2, g3, g4, g5⟩ := sgn_step H hT hl hsg h0 (fun x hx => ⟨(hP x hx).1, by rw [hr]; exact (hP x hx).2.2.1⟩) (by rw [hr]; exact hW) ha h3 t01 (nI b) m
  have ta : τ1 211 a = (if rk sg = 3 then 1 else if rk sg < 3 then 0 else τ 211 a) := by rw [g5, upd_s]
  have tq : ∀ q, q < a → τ1 211 q = τ 211 q := fun q hq => by rw [g5, upd_n _ _ (by omega)]
  have ta01 : τ1 211 a = 0 ∨ τ1 211 a = 1 := by
    rw [ta]; split
    · exact Or.inr rfl
    · split
      · exact Or.inl rfl
      · exact t01
  have len1 : (List.reverseAux P RCr).length + (sg :: W).length ≤ f1 := by
    rw [rAux_len, List.length_cons]; rw [List.length_append] at hl; omega
  obtain ⟨ok, σ2, r1, r2⟩ := Sub a b σ1 τ1 (sg :: W) (List.reverseAux P RCr) f1 t1 at_ m (d + 1) ha hb hn g3 len1 (Or.inr (by omega)) (vst_sg sgr vW) (by rw [cnt_sg sgr]; exact cW) (fun z => by rw [ta, if_neg (by omega), if_pos (by omega)]) ta01 (by omega) wf
  refine ⟨σ1, ok, σ2, g1, r1, ?_⟩
  rcases r2 with ⟨hok, τ', P2, RCr2, f2, t2, at2, m2, y1, y2, y3, y4, y5, y6, y7, y8, y9, y10, y11⟩ | ⟨hok, τ', y1, y2⟩
  · refine Or.inl ⟨hok, ?_⟩
    have len2 : (List.reverseAux P2 RCr2).length < 96 := by
      have q1 := y2.tk.fB
      have q2 := y2.tk.B9
      rw [List.length_append, List.length_cons] at y3
      rw [rAux_len]; omega
    obtain ⟨σ3, z1, z2⟩ := PR_sign y2 hT len2 (Or.inr sgr)
    have lw : P2 ++ sg :: W = (P2 ++ [sg]) ++ W := by rw [List.append_assoc]; rfl
    rw [← rAux_app, lw] at z2
    rw [lw] at y3
    rw [cnt_sg sgr, cW] at y1
    refine ⟨σ3, τ', P2 ++ [sg], RCr2, f2, t2, at2, m2, z1, g2.trans y1, z2, y3, ?_, ?_, y6, by omega, fun q hq => (y8 q hq).trans (tq q hq), fun hw3 => ?_, fun hw2 => ?_, y10, y11⟩
    · intro x hx
      rcases List.mem_append.mp hx with g | g
      · have := y4 x g; exact ⟨this.1, this.2.1, by omega, this.2.2.2⟩
      · rcases List.mem_cons.mp g with e | e
        · rw [e]; exact ⟨(rk_sg sgr).2.1, (rk_sg sgr).2.2, by omega, (rk_sg sgr).1⟩
        · cases e
    · rw [rAux_app]
      exact Or.inr (Or.inr ⟨sgr, by omega, y5⟩)
    · rw [y9 (by omega), ta, if_neg (by omega), if_neg (by omega)]
    · rw [y9 (by omega), ta, if_pos (by omega)]
  · exact Or.inr ⟨hok, τ', g2.trans y1, y2⟩
/-- a level that goes on as long as its sign comes -/
theorem lv_loop {σ0 τ0 : hw_St} {T key B n w : Nat} (hT : T ≤ 14) (hw : w ≤ 4) (hw2 : ¬ w = 2) (Sub : Lv σ0 τ0 T key B n (w + 1)) {a b : Nat} (ha : a ≤ 8) (hb : b ≤ 8) (hn : 6 * (8 - a) + (8 - b) + (5 - (w + 1)) < n) {W : List Int32} (hW : cls (w + 1) W) (vW : vst W) (cW : cntN W = b) {d : Nat} (LL : Nat → Int32 → Int32 → Int32 → hw_St → Option (Int32 × hw_St)) (hstep : ∀ (k i : Nat) (σ τ : hw_St) (RC RCr St : List Int32) (f t at_ : Nat), PR σ0 τ0 σ τ T key B RC RCr St f t at_ → i ≤ f → LL (k + 1) (nI a) (nI b) (nI i) σ = if ¬ sgv (srt (τ 206) B f) (τ 206 f) = 0 ∧ rk (sgv (srt (τ 206) B f) (τ 206 f)) = w + 1 then hw_bd (F_X1_step σ) (fun _ s => hw_bd (R_X1 n (w + 1) (nI a) (nI b) s) (fun r s' => if r = 0 then some (0, s') else hw_gd (hw_gH (s' 13 2).toNatClampNeg 0) (hw_bd (F_X0_putSign (s' 13 2).toNatClampNeg (chv (sgv (srt (τ 206) B f) (τ 206 f))) s') (fun _ s'' => LL k (nI a) (nI b) (nI (i + 1)) s'')))) else some (1, σ)) : ∀ (D k i : Nat) (σ τ : hw_St) (P RCr : List Int32) (f t at_ m : Nat), B - f ≤ D → D < k → i ≤ f → PR σ0 τ0 σ τ T key B (List.reverseAux P RCr) RCr (P ++ W) f t at_ → RCr.length + (P ++ W).length ≤ f → okP w P → wfr (nmx key) (List.reverseAux P RCr) (d + 1) → B + 2 ≤ m + f → (τ 211 a = 0 ∨ τ 211 a = 1) → exi (w + 1) (sgv (srt (τ 206) B f) (τ 206 f)) (τ 211 a) → ∀ f0, f0 < f → Res σ0 τ0 T key B w a W d (τ 211) f0 (LL k (nI a) (nI b) (nI i) σ) (L_X7_takesE_28 m (nI a) (nI b) 0 τ) := by
  intro D
  induction D with
  | zero =>
    intro k i σ τ P RCr f t at_ m hD hk hi H hl hP wf hm t01 hex f0 hf0
    obtain ⟨k, rfl⟩ : ∃ q, k = q + 1 := ⟨k - 1, by omega⟩
    have s0 : srt (τ 206) B f = 0 := srt_0.mpr (by omega)
    have sg0 : sgv (srt (τ 206) B f) (τ 206 f) = 0 := by rw [s0]; rfl
    refine ⟨1, σ, ?_, Or.inl ⟨rfl, τ, P, RCr, f, t, at_, m, by rw [cW], H, hl, hP, wf, hm, hf0, fun _ _ => rfl, fun _ => rfl, t01, Or.inl sg0⟩⟩
    rw [hstep k i σ τ _ _ _ f t at_ H hi, if_neg (fun z => z.1 sg0)]
  | succ D ih =>
    intro k i σ τ P RCr f t at_ m hD hk hi H hl hP wf hm t01 hex f0 hf0
    obtain ⟨k, rfl⟩ : ∃ q, k = q + 1 := ⟨k - 1, by omega⟩
    rw [hstep k i σ τ _ _ _ f t at_ H hi]
    generalize hsg : sgv (srt (τ 206) B f) (τ 206 f) = sg at hex
    by_cases q : ¬ sg = 0 ∧ rk sg = w + 1
    · rw [if_pos q]
      have h3 : rk sg = 3 → τ 211 a = 0 := fun z => absurd (by omega : w = 2) hw2
      obtain ⟨σ1, ok, σ2, e1, e2, e3⟩ := op_one hT hw Sub ha hb hn hW vW cW H hl hP wf hm t01 hsg q.1 q.2 h3
      rw [e1, hw_bd_s, e2, hw_bd_s]
      rcases e3 with ⟨hok, σ3, τ', P', RCr', f', t', at', m', y1, y2, y3, y4, y5, y6, y7, y8, y9, y10, y11, y12, y13⟩ | ⟨hok, τ', y1, y2⟩
      · rw [hok, if_neg (by decide)]
        have y1' : hw_gd (hw_gH (σ2 13 2).toNatClampNeg 0) (hw_bd (F_X0_putSign (σ2 13 2).toNatClampNeg (chv sg) σ2) (fun _ s'' => LL k (nI a) (nI b) (nI (i + 1)) s'')) = LL k (nI a) (nI b) (nI (i + 1)) σ3 := by
          by_cases g : hw_gH (σ2 13 2).toNatClampNeg 0 = true
          · rw [hw_gd_t g] at y1 ⊢; rw [y1, hw_bd_s]
          · unfold hw_gd at y1; rw [if_neg g] at y1; cases y1
        rw [y1']
        obtain ⟨ok2, σ4, x1, x2⟩ := ih k (i + 1) σ3 τ' P' RCr' f' t' at' m' (by omega) (by omega) (by omega) y3 y4 y5 y6 y7 y12 y13 f0 (by omega)
        refine ⟨ok2, σ4, x1, ?_⟩
        rcases x2 with ⟨h1, τ3, P3, R3, f3, t3, at3, m3, v1, v2, v3, v4, v5, v6, v7, v8, v9, v10, v11⟩ | ⟨h1, τ3, v1, v2⟩
        · exact Or.inl ⟨h1, τ3, P3, R3, f3, t3, at3, m3, y2.trans v1, v2, v3, v4, v5, v6, v7, fun q hq => (v8 q hq).trans (y9 q hq), fun z => (v9 z).trans (y10 z), v10, v11⟩
        · exact Or.inr ⟨h1, τ3, y2.trans v1, v2⟩
      · rw [hok, if_pos rfl]
        exact ⟨0, σ2, rfl, Or.inr ⟨rfl, τ', y1, y2⟩⟩
    · rw [if_neg q]
      refine ⟨1, σ, rfl, Or.inl ⟨rfl, τ, P, RCr, f, t, at_, m, by rw [cW], H, hl, hP, wf, hm, hf0, fun _ _ => rfl, fun _ => rfl, t01, ?_⟩⟩
      rw [hsg]
      rcases hex with z | z | z
      · exact Or.inl z
      · by_cases y : sg = 0
        · exact Or.inl y
        · exact Or.inr (Or.inl (by
            have : ¬ rk sg = w + 1 := fun x => q ⟨y, x⟩
            omega))
      · exact Or.inr (Or.inr ⟨z.1, by omega, z.2.2⟩)
/-- the whole level: first what lies below it, then its loop -/
theorem lv_whole {σ0 τ0 : hw_St} {T key B n w : Nat} (hT : T ≤ 14) (hw : w ≤ 4) (hw2 : ¬ w = 2) (Sub : Lv σ0 τ0 T key B n (w + 1)) {a b : Nat} (ha : a ≤ 8) (hb : b ≤ 8) (hn : 6 * (8 - a) + (8 - b) + (5 - (w + 1)) < n) {W RC : List Int32} (hW : cls (w + 1) W) (vW : vst W) (cW : cntN W = b) {d : Nat} (LL : Nat → Int32 → Int32 → Int32 → hw_St → Option (Int32 × hw_St)) (hstep : ∀ (k i : Nat) (σ τ : hw_St) (RC RCr St : List Int32) (f t at_ : Nat), PR σ0 τ0 σ τ T key B RC RCr St f t at_ → i ≤ f → LL (k + 1) (nI a) (nI b) (nI i) σ = if ¬ sgv (srt (τ 206) B f) (τ 206 f) = 0 ∧ rk (sgv (srt (τ 206) B f) (τ 206 f)) = w + 1 then hw_bd (F_X1_step σ) (fun _ s => hw_bd (R_X1 n (w + 1) (nI a) (nI b) s) (fun r s' => if r = 0 then some (0, s') else hw_gd (hw_gH (s' 13 2).toNatClampNeg 0) (hw_bd (F_X0_putSign (s' 13 2).toNatClampNeg (chv (sgv (srt (τ 206) B f) (τ 206 f))) s') (fun _ s'' => LL k (nI a) (nI b) (nI (i + 1)) s'')))) else some (1, σ)) {σ τ : hw_St} {f t at_ m : Nat} (H : PR σ0 τ0 σ τ T key B RC RC W f t at_) (hl : RC.length + W.length ≤ f) (ht0 : w ≤ 2 → τ 211 a = 0) (t01 : τ 211 a = 0 ∨ τ 211 a = 1) (hm : B + 2 ≤ m + f) (wf : wfr (nmx key) RC d) : Res σ0 τ0 T key B w a W d (τ 211) f (hw_bd (R_X1 n (w + 1) (nI a) (nI b) σ) (fun r1 s2 => if r1 = 0 then (some ((0), s2)) else (LL 130 (nI a) (nI b) 0 s2))) (L_X7_takesE_28 m (nI a) (nI b) 1 τ) := by
  obtain ⟨ok, σ1, e1, e2⟩ := Sub a b σ τ W RC f t at_ m d ha hb hn H hl (cls_mono (by omega) hW) vW cW (fun z => ht0 (by omega)) t01 hm wf
  rw [e1, hw_bd_s]
  rcases e2 with ⟨hok, τ', P', RCr', f', t', at', m', y1, y2, y3, y4, y5, y6, y7, y8, y9, y10, y11⟩ | ⟨hok, τ', y1, y2⟩
  · rw [hok, if_neg (by decide)]
    have B9 := y2.tk.B9
    obtain ⟨ok2, σ4, x1, x2⟩ := lv_loop hT hw hw2 Sub ha hb hn hW vW cW LL hstep (B - f') 130 0 σ1 τ' P' RCr' f' t' at' m' (Nat.le_refl _) (by omega) (by omega) y2 y3 (fun x hx => by have := y4 x hx; exact ⟨this.1, this.2.1, by omega, this.2.2.2⟩) y5 y6 y10 y11 f y7
    rw [cW] at y1
    refine ⟨ok2, σ4, x1, ?_⟩
    rcases x2 with ⟨h1, τ3, P3, R3, f3, t3, at3, m3, v1, v2, v3, v4, v5, v6, v7, v8, v9, v10, v11⟩ | ⟨h1, τ3, v1, v2⟩
    · exact Or.inl ⟨h1, τ3, P3, R3, f3, t3, at3, m3, y1.trans v1, v2, v3, v4, v5, v6, v7, fun q hq => (v8 q hq).trans (y8 q hq), fun z => (v9 z).trans (y9 (by omega)), v10, v11⟩
    · exact Or.inr ⟨h1, τ3, y1.trans v1, v2⟩
  · rw [hok, if_pos rfl]
    exact ⟨0, σ1, rfl, Or.inr ⟨rfl, τ', y1, y2⟩⟩
