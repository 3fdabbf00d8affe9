/-! signs before a piece -/
theorem ntl_n (W : List Int32) : ntl (-10 :: W) = ntl W := by
  show (if (-10 : Int32) = -10 then ntl W else -10 :: W) = _
  rw [if_pos rfl]
theorem nhd_n (W : List Int32) : nhd (-10 :: W) = -10 :: nhd W := by
  show (if (-10 : Int32) = -10 then -10 :: nhd W else []) = _
  rw [if_pos rfl]
theorem cnt_n (W : List Int32) : cntN (-10 :: W) = cntN W + 1 := by
  show cntN W + (if (-10 : Int32) = -10 then 1 else 0) = _
  rw [if_pos rfl]
theorem cnt_o (W : List Int32) : cntN (-11 :: W) = cntN W := by
  show cntN W + (if (-11 : Int32) = -10 then 1 else 0) = _
  rw [if_neg (by decide)]; rfl
def PcR (σ0 τ0 : hw_St) (T key B : Nat) (a : Nat) (W : List Int32) (d : Nat) (tst : Nat → Int32) (f : Nat) (X Y : Option (Int32 × hw_St)) : Prop := ∃ ok σ', X = some (ok, σ') ∧ ((ok = 1 ∧ ∃ τ' RC' f' t' at' m', Y = L_X7_takesE_28 m' (nI a) (nI (cntN (ntl W))) 0 τ' ∧ PR σ0 τ0 σ' τ' T key B RC' (List.reverseAux (nhd W) RC') (ntl W) f' t' at' ∧ RC'.length + W.length ≤ f' ∧ wfr (nmx key) RC' (d + 1) ∧ B + 2 ≤ m' + f' ∧ f < f' ∧ (∀ q, q ≤ a → τ' 211 q = tst q)) ∨ (ok = 0 ∧ ∃ τ', Y = some (0, τ') ∧ PF σ0 τ0 σ' τ' T))
theorem pc_not {σ0 τ0 : hw_St} {T key B : Nat} (hT : T ≤ 14) {n : Nat} (Sub : Pcs σ0 τ0 T key B n) {a b : Nat} {σ τ : hw_St} {W RC : List Int32} {f t at_ m d : Nat} (ha : a ≤ 8) (hb : b < 8) (hn : 6 * (8 - a) + (8 - b) < n + 1) (H : PR σ0 τ0 σ τ T key B RC RC W f t at_) (hl : RC.length + W.length ≤ f) (vW : vst W) (cW : cntN W = b) (hm : B + 2 ≤ m + f) (wf : wfr (nmx key) RC d) (s : srt (τ 206) B f = 3) (v33 : τ 206 f = 33) : PcR σ0 τ0 T key B a W d (τ 211) f (R_X1 (n + 1) 5 (nI a) (nI b) σ) (L_X7_takesE_28 m (nI a) (nI b) 1 τ) := by
  have fB := TK_lt H.tk (by omega)
  have B9 := H.tk.B9
  obtain ⟨m, rfl⟩ : ∃ q, m = q + 1 := ⟨m - 1, by omega⟩
  have ns : ¬ srt (τ 206) B f = 0 := by omega
  obtain ⟨p1, p2⟩ := push7 H.h7 H.w7 (-10)
  have H2 : PR σ0 τ0 σ (hw_up (hw_up τ 210 W.length (-10)) 200 23 (nI (W.length + 1))) T key B RC RC (-10 :: W) f t at_ := by
    refine PR_ref H (by rw [up_self, upd_n _ _ (by decide), up_row _ _ _ _ (by decide)]; exact H.n7) (by rw [up_row _ _ _ _ (by decide), up_row _ _ _ _ (by decide)]; exact H.s7) p1 p2 (fun k h1 h2 => ?_) (fun x h1 h2 h3 h4 => ?_)
    · rw [up_self, upd_n _ _ h2, up_row _ _ _ _ (by decide)]
    · rw [up_row _ _ _ _ h1, up_row _ _ _ _ h3]
  have q6 : hw_up (hw_up τ 210 W.length (-10)) 200 23 (nI (W.length + 1)) 206 = τ 206 := by rw [up_row _ _ _ _ (by decide), up_row _ _ _ _ (by decide)]
  obtain ⟨σ1, τ1, f1, t1, g1, g2, g3, g4, g5⟩ := PR_go H2 (by rw [q6]; exact ns) hT
  have g5' : τ1 211 = τ 211 := by rw [g5, up_row _ _ _ _ (by decide), up_row _ _ _ _ (by decide)]
  have r7 : L_X7_takesE_28 (m + 1) (nI a) (nI b) 1 τ = L_X7_takesE_28 m (nI a) (nI (b + 1)) 1 τ1 := by
    show S_X7_takesE_28 (L_X7_takesE_28 m) (nI a) (nI b) 1 τ = _
    unfold S_X7_takesE_28 B_X7_takesE_39 B_X7_takesE_172
    rw [if_neg (by decide), if_neg (by decide), if_pos ((TK_m3 H.tk).mpr s), if_pos (by rw [(H.tk.s3 s).2.2.1]; exact v33), if_neg (show ¬ (8 : Int32) ≤ nI b from iNle.mpr (nI_lt (b := 8) hb (by decide))), H.h7, hw_gd_t (inb_nI (by omega) (by decide)), hw_nm_s, hw_nm_s, nI_clamp (by omega), up_row _ _ _ _ (show 200 ≠ 210 by decide), H.h7, show nI W.length + 1 = nI (W.length + 1) from nI_add _ 1, g2, hw_bd_s, X7_nots (St := -10 :: W) (by rw [List.length_cons]; omega) g3.h7 g3.w7, hw_bd_s, cnt_n, cW]
  obtain ⟨ok, σ2, e1, e2⟩ := Sub a (b + 1) σ1 τ1 (-10 :: W) RC f1 t1 at_ m d ha (by omega) (by omega) g3 (by rw [List.length_cons]; omega) (fun x hx => by
    rcases List.mem_cons.mp hx with z | z
    · exact Or.inr (Or.inl z)
    · exact vW x z) (by rw [cnt_n, cW]) (by omega) wf
  have c5 : R_X1 (n + 1) 5 (nI a) (nI b) σ = (if ok = 0 then some (0, σ2) else hw_gd (hw_gH (σ2 13 2).toNatClampNeg 0) (hw_bd (F_X0_putSign (σ2 13 2).toNatClampNeg (33) σ2) (fun _ s15 => some ((1), s15)))) := by
    rw [R_X1_5]
    unfold F_X1_readPiece
    rw [if_neg (fun z : σ 13 3 = 2 => by have := (TK_c3 H.tk (k := 2) (by decide)).mp z; omega), if_neg (fun z : σ 13 3 = 1 => by have := (TK_c3 H.tk (k := 1) (by decide)).mp z; omega), X1_sign H.tk (by decide), hw_bd_s, if_pos (show srt (τ 206) B f = 3 ∧ τ 206 f = 33 from ⟨s, v33⟩), if_neg (show ¬ (1 : Int32) = 0 by decide), if_neg (show ¬ (8 : Int32) ≤ nI b from iNle.mpr (nI_lt (b := 8) hb (by decide))), g1, hw_bd_s, show nI b + 1 = nI (b + 1) from nI_add b 1, e1, hw_bd_s]
  rw [c5, r7]
  rcases e2 with ⟨hok, τ', RC', f', t', at', m', y1, y2, y3, y4, y5, y6, y7⟩ | ⟨hok, τ', y1, y2⟩
  · rw [ntl_n, nhd_n] at y2
    rw [ntl_n] at y1
    rw [List.length_cons] at y3
    obtain ⟨σ3, z1, z2⟩ := PR_sign y2 hT (by have := y2.tk.fB; have := y2.tk.B9; omega) (c := -10) (Or.inl rfl)
    refine ⟨1, σ3, ?_, Or.inl ⟨rfl, τ', -10 :: RC', f', t', at', m', y1, z2, by rw [List.length_cons]; omega, Or.inr (Or.inl ⟨rfl, by omega, y4⟩), y5, by omega, fun q hq => by rw [y7 q hq, g5']⟩⟩
    rw [hok, if_neg (by decide)]
    rw [show chv (-10) = 33 from by decide] at z1
    by_cases g : hw_gH (σ2 13 2).toNatClampNeg 0 = true
    · rw [hw_gd_t g] at z1 ⊢; rw [z1, hw_bd_s]
    · unfold hw_gd at z1; rw [if_neg g] at z1; cases z1
  · exact ⟨0, σ2, by rw [hok, if_pos rfl], Or.inr ⟨rfl, τ', y1, y2⟩⟩
/-- nothing goes on here -/
theorem stop0 {σ0 τ0 σ τ : hw_St} {T key B : Nat} {RC RCr St : List Int32} {f t at_ : Nat} (H : PR σ0 τ0 σ τ T key B RC RCr St f t at_) (ns : ¬ srt (τ 206) B f = 0) {a : Nat} (ha : a ≤ 8) (h41 : (srt (τ 206) B f = 3 ∧ τ 206 f = 41) → a = 0) (hex : exi 0 (sgv (srt (τ 206) B f) (τ 206 f)) (τ 211 a)) (b : Int32) (m : Nat) : L_X7_takesE_28 (m + 1) (nI a) b 0 τ = some (0, τ) := by
  have h237 : B_X7_takesE_237 (L_X7_takesE_28 m) (nI a) b τ = some (0, τ) := by
    unfold B_X7_takesE_237
    rw [X7_sgn H.tk, hw_bd_s]
    rcases hex with z | z | z
    · rw [if_pos z]
    · have := rk_pos (sgv (srt (τ 206) B f) (τ 206 f)); omega
    · by_cases y : sgv (srt (τ 206) B f) (τ 206 f) = 0
      · rw [if_pos y]
      · rw [if_neg y, X7_rank, hw_bd_s, z.1, if_pos (show nI 3 = 3 from rfl), hw_gd_t (inb_nI (by omega) (by decide)), nI_clamp (by omega), if_neg (by rw [z.2.2]; decide)]
  show S_X7_takesE_28 (L_X7_takesE_28 m) (nI a) b 0 τ = _
  unfold S_X7_takesE_28 B_X7_takesE_39
  rw [if_pos rfl, if_neg (fun z => ns ((TK_m0 H.tk).mp z)), if_pos rfl, h237]
  by_cases s : srt (τ 206) B f = 3
  · rw [if_pos ((TK_m3 H.tk).mpr s)]
    by_cases q : τ 206 f = 41
    · rw [if_pos (by rw [(H.tk.s3 s).2.2.1]; exact q), if_pos (by rw [h41 ⟨s, q⟩]; decide)]
    · rw [if_neg (by rw [(H.tk.s3 s).2.2.1]; exact q)]
  · rw [if_neg (fun z => s ((TK_m3 H.tk).mp z))]
theorem pc_par {σ0 τ0 : hw_St} {T key B : Nat} (hT : T ≤ 14) {n : Nat} (Sub : Lv σ0 τ0 T key B n 0) {a b : Nat} {σ τ : hw_St} {W RC : List Int32} {f t at_ m d : Nat} (ha : a < 8) (hb : b ≤ 8) (hn : 6 * (8 - a) + (8 - b) < n + 1) (H : PR σ0 τ0 σ τ T key B RC RC W f t at_) (hl : RC.length + W.length ≤ f) (vW : vst W) (cW : cntN W = b) (hm : B + 2 ≤ m + f) (wf : wfr (nmx key) RC d) (s : srt (τ 206) B f = 3) (v40 : τ 206 f = 40) : PcR σ0 τ0 T key B a W d (τ 211) f (R_X1 (n + 1) 5 (nI a) (nI b) σ) (L_X7_takesE_28 m (nI a) (nI b) 1 τ) := by
  have fB := TK_lt H.tk (by omega)
  have B9 := H.tk.B9
  obtain ⟨m, rfl⟩ : ∃ q, m = q + 1 := ⟨m - 1, by omega⟩
  have ns : ¬ srt (τ 206) B f = 0 := by omega
  obtain ⟨p1, p2⟩ := push7 H.h7 H.w7 (-11)
  generalize hρ : hw_up (hw_up (hw_up τ 210 W.length (-11)) 200 23 (nI (W.length + 1))) 211 (a + 1) 0 = ρ
  have H2 : PR σ0 τ0 σ ρ T key B RC RC (-11 :: W) f t at_ := by
    rw [← hρ]
    refine PR_ref H (by rw [up_row _ _ _ _ (by decide), up_self, upd_n _ _ (by decide), up_row _ _ _ _ (by decide)]; exact H.n7) (by rw [up_row _ _ _ _ (by decide), up_row _ _ _ _ (by decide), up_row _ _ _ _ (by decide)]; exact H.s7) (by rw [up_row _ _ _ _ (by decide)]; exact p1) (by rw [up_row _ _ _ _ (by decide)]; exact p2) (fun k h1 h2 => ?_) (fun x h1 h2 h3 h4 => ?_)
    · rw [up_row _ _ _ _ (by decide), up_self, upd_n _ _ h2, up_row _ _ _ _ (by decide)]
    · rw [up_row _ _ _ _ h4, up_row _ _ _ _ h1, up_row _ _ _ _ h3]
  have q6 : ρ 206 = τ 206 := by rw [← hρ, up_row _ _ _ _ (by decide), up_row _ _ _ _ (by decide), up_row _ _ _ _ (by decide)]
  have q11 : ρ 211 = upd (τ 211) (a + 1) 0 := by rw [← hρ, up_self, up_row _ _ _ _ (by decide), up_row _ _ _ _ (by decide)]
  obtain ⟨σ1, τ1, f1, t1, g1, g2, g3, g4, g5⟩ := PR_go H2 (by rw [q6]; exact ns) hT
  rw [q11] at g5
  have na : nI a + 1 = nI (a + 1) := nI_add a 1
  have r7 : L_X7_takesE_28 (m + 1) (nI a) (nI b) 1 τ = L_X7_takesE_28 m (nI (a + 1)) (nI b) 1 τ1 := by
    show S_X7_takesE_28 (L_X7_takesE_28 m) (nI a) (nI b) 1 τ = _
    unfold S_X7_takesE_28 B_X7_takesE_39 B_X7_takesE_97 B_X7_takesE_172
    have e14 : τ 200 14 = 40 := by rw [(H.tk.s3 s).2.2.1]; exact v40
    rw [if_neg (by decide), if_neg (by decide), if_pos ((TK_m3 H.tk).mpr s), if_neg (by rw [e14]; decide), if_pos ((TK_m3 H.tk).mpr s), if_pos e14, if_neg (show ¬ (8 : Int32) ≤ nI a from iNle.mpr (nI_lt (b := 8) ha (by decide))), H.h7, hw_gd_t (inb_nI (by omega) (by decide)), hw_nm_s, hw_nm_s, nI_clamp (by omega), up_row _ _ _ _ (show 200 ≠ 210 by decide), H.h7, show nI W.length + 1 = nI (W.length + 1) from nI_add _ 1, na, hw_gd_t (inb_nI (by omega) (by decide)), hw_nm_s, nI_clamp (by omega), nar0, hρ, g2, hw_bd_s, X7_nots (St := -11 :: W) (by rw [List.length_cons]; omega) g3.h7 g3.w7, hw_bd_s, cnt_o, cW]
  have t1a : τ1 211 (a + 1) = 0 := by rw [g5, upd_s]
  obtain ⟨ok, σ2, e1, e2⟩ := Sub (a + 1) b σ1 τ1 (-11 :: W) RC f1 t1 at_ m d (by omega) hb (by omega) g3 (by rw [List.length_cons]; omega) (Or.inl rfl) (fun x hx => by
    rcases List.mem_cons.mp hx with z | z
    · exact Or.inl z
    · exact vW x z) (by rw [cnt_o, cW]) (fun _ => t1a) (Or.inl t1a) (by omega) wf
  have c5 : R_X1 (n + 1) 5 (nI a) (nI b) σ = (if ok = 0 then (some ((0), σ2)) else (hw_bd (F_X1_isSign (41) σ2) (fun r29 s30 => if r29 = 0 then (some ((0), s30)) else (hw_bd (F_X1_step s30) (fun _ s33 => some ((1), s33)))))) := by
    rw [R_X1_5]
    unfold F_X1_readPiece B_X1_readPiece_69
    have n33 : ¬ (srt (τ 206) B f = 3 ∧ τ 206 f = 33) := fun z => by rw [v40] at z; exact absurd z.2 (by decide)
    rw [if_neg (fun z : σ 13 3 = 2 => by have := (TK_c3 H.tk (k := 2) (by decide)).mp z; omega), if_neg (fun z : σ 13 3 = 1 => by have := (TK_c3 H.tk (k := 1) (by decide)).mp z; omega), X1_sign H.tk (by decide), hw_bd_s, if_neg n33, if_pos rfl, X1_sign H.tk (by decide), hw_bd_s, if_pos (show srt (τ 206) B f = 3 ∧ τ 206 f = 40 from ⟨s, v40⟩), if_neg (show ¬ (1 : Int32) = 0 by decide), if_neg (show ¬ (8 : Int32) ≤ nI a from iNle.mpr (nI_lt (b := 8) ha (by decide))), g1, hw_bd_s, na, e1, hw_bd_s]
  rw [c5, r7]
  rcases e2 with ⟨hok, τ', P, RCr, f', t', at', m', y1, y2, y3, y4, y5, y6, y7, y8, y9, y10, y11⟩ | ⟨hok, τ', y1, y2⟩
  · rw [cnt_o, cW] at y1
    have B9' := y2.tk.B9
    have fB' := y2.tk.fB
    rw [hok, if_neg (show ¬ (1 : Int32) = 0 by decide), X1_sign y2.tk (by decide), hw_bd_s, y1]
    obtain ⟨m', rfl⟩ : ∃ q, m' = q + 1 := ⟨m' - 1, by omega⟩
    have hl2 : RCr.length + (P ++ -11 :: W).length ≤ 96 := by omega
    -- what settling all leaves
    obtain ⟨τ2, s1, s2, s3, s4, s5, s6, s7⟩ := X7_set (r := 0) (τ := τ') (P := P) (W := -11 :: W) (RCr := RCr) (by decide) (Or.inl rfl) (fun x hx => ⟨(y4 x hx).1, by omega⟩) hl2 y2.n7 y2.s7 y2.h7 y2.w7
    by_cases q : srt (τ' 206) B f' = 3 ∧ τ' 206 f' = 41
    · rw [if_pos q, if_neg (show ¬ (1 : Int32) = 0 by decide)]
      -- the open one away
      generalize hκ : hw_up τ2 200 23 (nI W.length) = κ
      have app := nh_app W
      have hlen : (nhd W ++ ntl W).length = W.length := by rw [app]
      have k20 : κ 200 20 = nI (List.reverseAux P RCr).length := by rw [← hκ, up_self, upd_n _ _ (by decide)]; exact s2
      have k9 : κ 209 = τ2 209 := by rw [← hκ, up_row _ _ _ _ (by decide)]
      have k10 : κ 210 = τ2 210 := by rw [← hκ, up_row _ _ _ _ (by decide)]
      have k23 : κ 200 23 = nI W.length := by rw [← hκ, up_self, upd_s]
      have lenR : (List.reverseAux P RCr).length + W.length + 1 ≤ 96 := by rw [rAux_len]; rw [List.length_append, List.length_cons] at hl2; omega
      obtain ⟨τ3, x1, x2, x3, x4, x5, x6, x7⟩ := X7_set (r := 6) (τ := κ) (P := nhd W) (W := ntl W) (RCr := List.reverseAux P RCr) (by decide) (ntl_cls W vW) (fun x hx => by rw [nhd_all W x hx]; decide) (by rw [hlen]; omega) k20 (by rw [k9]; exact s3) (by rw [hlen]; exact k23) (by rw [app, k10]; exact s5.2)
      have H3 : PR σ0 τ0 σ2 τ3 T key B (List.reverseAux P RCr) (List.reverseAux (nhd W) (List.reverseAux P RCr)) (ntl W) f' t' at' := by
        refine PR_ref y2 x2 x3 x4 x5 (fun k h1 h2 => ?_) (fun x h1 h2 h3 h4 => ?_)
        · rw [x6 k h1 h2, ← hκ, up_self, upd_n _ _ h2, s6 k h1 h2]
        · rw [x7 x h1 h2, ← hκ, up_row _ _ _ _ h1, s7 x h1 h2]
      have q36 : τ3 206 = τ' 206 := by rw [x7 206 (by decide) (by decide), ← hκ, up_row _ _ _ _ (by decide), s7 206 (by decide) (by decide)]
      have q311 : τ3 211 = τ' 211 := by rw [x7 211 (by decide) (by decide), ← hκ, up_row _ _ _ _ (by decide), s7 211 (by decide) (by decide)]
      obtain ⟨σ4, τ4, f4, t4, u1, u2, u3, u4, u5⟩ := PR_go H3 (by rw [q36]; omega) hT
      refine ⟨1, σ4, by rw [u1, hw_bd_s], Or.inl ⟨rfl, τ4, List.reverseAux P RCr, f4, t4, at', m', ?_, u3, ?_, y5, by omega, by omega, fun j hj => ?_⟩⟩
      · show S_X7_takesE_28 (L_X7_takesE_28 m') (nI (a + 1)) (nI b) 0 τ' = _
        unfold S_X7_takesE_28 B_X7_takesE_39
        have e14 : τ' 200 14 = 41 := by rw [(y2.tk.s3 q.1).2.2.1]; exact q.2
        have pa : nI (a + 1) + -1 = nI a := by rw [← Int32.sub_eq_add_neg]; exact nI_pred a
        have p23 : τ2 200 23 - 1 = nI W.length := by rw [s4]; exact nI_pred W.length
        rw [if_pos rfl, if_neg (fun z => by have := (TK_m0 y2.tk).mp z; omega), if_pos rfl, if_pos ((TK_m3 y2.tk).mpr q.1), if_pos e14, if_neg (show ¬ nI (a + 1) ≤ 0 from iNle.mpr (nI_lt (a := 0) (by omega) (by omega))), show F_X7_settle 0 τ' = _ from s1, hw_bd_s, hw_nm_s, p23, hκ, show F_X7_settle 6 κ = _ from x1, hw_bd_s, X7_nots (St := ntl W) (by have h9 := hlen; rw [List.length_append] at h9; omega) x4 x5, hw_bd_s, u2, hw_bd_s, pa]
      · rw [rAux_len]; rw [List.length_append, List.length_cons] at y3; omega
      · rw [u5, q311, y8 j (by omega), g5, upd_n _ _ (by omega)]
    · rw [if_neg q, if_pos rfl]
      by_cases z0 : srt (τ' 206) B f' = 0
      · refine ⟨0, σ2, rfl, Or.inr ⟨rfl, τ2, ?_, ?_⟩⟩
        · show S_X7_takesE_28 (L_X7_takesE_28 m') (nI (a + 1)) (nI b) 0 τ' = _
          unfold S_X7_takesE_28
          rw [if_pos rfl, if_pos ((TK_m0 y2.tk).mpr z0), show F_X7_settle 0 τ' = _ from s1, hw_bd_s, if_neg (show ¬ nI (a + 1) = 0 from nI_ne (b := 0) (by omega) (by decide) (by omega))]
        · obtain ⟨⟨fx, w1, w2, w3⟩, w4, w5, w6⟩ := PR_PF y2
          exact ⟨⟨fx, w1, w2, by rw [s6 12 (by decide) (by decide)]; exact w3⟩, w4, fun x h1 h2 h3 h4 => by rw [s7 x h1 h2]; exact w5 x h1 h2 h3 h4, fun k hk => by rw [s6 k (by omega) (by omega)]; exact w6 k hk⟩
      · exact ⟨0, σ2, rfl, Or.inr ⟨rfl, τ', stop0 y2 z0 (by omega) (fun z => absurd z q) y11 (nI b) m', PR_PF y2⟩⟩
  · exact ⟨0, σ2, by rw [hok, if_pos rfl], Or.inr ⟨rfl, τ', y1, y2⟩⟩
theorem pc_bad {σ0 τ0 : hw_St} {T key B : Nat} (n : Nat) {a b : Nat} {σ τ : hw_St} {W RC : List Int32} {f t at_ m d : Nat} (ha : a ≤ 8) (hb : b ≤ 8) (H : PR σ0 τ0 σ τ T key B RC RC W f t at_) (hm : B + 2 ≤ m + f) (s1 : ¬ srt (τ 206) B f = 1) (s2 : ¬ srt (τ 206) B f = 2) (n1 : ¬ (srt (τ 206) B f = 3 ∧ τ 206 f = 33 ∧ b < 8)) (n2 : ¬ (srt (τ 206) B f = 3 ∧ τ 206 f = 40 ∧ a < 8)) : PcR σ0 τ0 T key B a W d (τ 211) f (R_X1 (n + 1) 5 (nI a) (nI b) σ) (L_X7_takesE_28 m (nI a) (nI b) 1 τ) := by
  have fB := H.tk.fB
  have B9 := H.tk.B9
  have sl := srt_le (τ 206) B f
  obtain ⟨m, rfl⟩ : ∃ q, m = q + 1 := ⟨m - 1, by omega⟩
  refine ⟨0, σ, ?_, Or.inr ⟨rfl, τ, ?_, PR_PF H⟩⟩
  · have b69 : B_X1_readPiece_69 (R_X1 n) (nI a) (nI b) σ = some (0, σ) := by
      unfold B_X1_readPiece_69
      rw [X1_sign H.tk (by decide), hw_bd_s]
      by_cases q : srt (τ 206) B f = 3 ∧ τ 206 f = 40
      · rw [if_pos q, if_neg (show ¬ (1 : Int32) = 0 by decide), if_pos (show (8 : Int32) ≤ nI a from nI_le (a := 8) (by
          rcases Nat.lt_or_ge a 8 with g | g
          · exact absurd ⟨q.1, q.2, g⟩ n2
          · exact g) (by omega))]
      · rw [if_neg q, if_pos rfl]
    rw [R_X1_5]
    unfold F_X1_readPiece
    rw [if_neg (fun z : σ 13 3 = 2 => s2 ((TK_c3 H.tk (k := 2) (by decide)).mp z)), if_neg (fun z : σ 13 3 = 1 => s1 ((TK_c3 H.tk (k := 1) (by decide)).mp z)), X1_sign H.tk (by decide), hw_bd_s, b69]
    by_cases q : srt (τ 206) B f = 3 ∧ τ 206 f = 33
    · rw [if_pos q, if_neg (show ¬ (1 : Int32) = 0 by decide), if_pos (show (8 : Int32) ≤ nI b from nI_le (a := 8) (by
        rcases Nat.lt_or_ge b 8 with g | g
        · exact absurd ⟨q.1, q.2, g⟩ n1
        · exact g) (by omega))]
    · rw [if_neg q, if_pos rfl]
  · have c : srt (τ 206) B f = 0 ∨ srt (τ 206) B f = 3 := by omega
    have tk : τ 200 13 = 0 ∨ τ 200 13 = 3 := by
      rcases c with z | z
      · exact Or.inl ((TK_m0 H.tk).mpr z)
      · exact Or.inr ((TK_m3 H.tk).mpr z)
    rw [want_part H ha hb n1 n2 m, part_no (by rcases tk with z | z <;> rw [z] <;> decide) (by rcases tk with z | z <;> rw [z] <;> decide), hw_bd_s, if_pos rfl]
theorem all_lv {σ0 τ0 : hw_St} {T key B : Nat} (hT : T ≤ 14) (hk : key < 3) : ∀ n, (∀ w, w ≤ 5 → Lv σ0 τ0 T key B n w) ∧ Pcs σ0 τ0 T key B n
  | 0 => ⟨fun w _ a b σ τ W RC f t at_ m d _ _ h => absurd h (by omega), fun a b σ τ W RC f t at_ m d _ _ h => absurd h (by omega)⟩
  | n + 1 => by
    obtain ⟨hL, hP⟩ := all_lv hT hk n
    have P1 : Pcs σ0 τ0 T key B (n + 1) := by
      intro a b σ τ W RC f t at_ m d ha hb hn H hl vW cW hm wf
      by_cases s2 : srt (τ 206) B f = 2
      · exact pc_num hT n ha hb H hl vW hm wf s2
      · by_cases s1 : srt (τ 206) B f = 1
        · exact pc_name hT hk n ha hb H hl vW hm wf s1
        · by_cases n1 : srt (τ 206) B f = 3 ∧ τ 206 f = 33 ∧ b < 8
          · exact pc_not hT hP ha n1.2.2 hn H hl vW cW hm wf n1.1 n1.2.1
          · by_cases n2 : srt (τ 206) B f = 3 ∧ τ 206 f = 40 ∧ a < 8
            · exact pc_par hT (hL 0 (by omega)) n2.2.2 hb hn H hl vW cW hm wf n2.1 n2.2.1
            · exact pc_bad n ha hb H hm s1 s2 n1 n2
    refine ⟨fun w hw => ?_, P1⟩
    have c : w = 0 ∨ w = 1 ∨ w = 2 ∨ w = 3 ∨ w = 4 ∨ w = 5 := by omega
    rcases c with rfl | rfl | rfl | rfl | rfl | rfl
    · exact lv0 hT (hL 1 (by omega))
    · exact lv1 hT (hL 2 (by omega))
    · exact lv2 hT (hL 3 (by omega))
    · exact lv3 hT (hL 4 (by omega))
    · exact lv4 hT (hL 5 (by omega))
    · intro a b σ τ W RC f t at_ m d ha hb hn H hl hW vW cW ht0 t01 hm wf
      obtain ⟨ok, σ', e1, e2⟩ := P1 a b σ τ W RC f t at_ m d ha hb (by omega) H hl vW cW hm wf
      obtain ⟨n1, n2⟩ := nhd_cls (by decide) hW
      refine ⟨ok, σ', e1, ?_⟩
      rcases e2 with ⟨hok, τ', RC', f', t', at', m', y1, y2, y3, y4, y5, y6, y7⟩ | ⟨hok, τ', y1, y2⟩
      · rw [n2] at y1
        rw [n1, n2] at y2
        refine Or.inl ⟨hok, τ', [], RC', f', t', at', m', y1, y2, y3, (fun x hx => by cases hx), y4, y5, y6, fun q hq => y7 q (by omega), fun _ => y7 a (by omega), by rw [y7 a (by omega)]; exact t01, ?_⟩
        by_cases z : sgv (srt (τ' 206) B f') (τ' 206 f') = 0
        · exact Or.inl z
        · exact Or.inr (Or.inl (rk_sg (sgv_ch z).2.2).1)
      · exact Or.inr ⟨hok, τ', y1, y2⟩
