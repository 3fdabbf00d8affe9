/-! a leaf taken by both -/
theorem leaf {σ0 τ0 σ τ : hw_St} {T key B : Nat} {RC W : List Int32} {f t at_ : Nat} (H : PR σ0 τ0 σ τ T key B RC RC W f t at_) (hT : T ≤ 14) (hl : RC.length + W.length ≤ f) (ns : ¬ srt (τ 206) B f = 0) (vW : vst W) {v : Int32} (hv : 0 ≤ v) (a : Int32) (m : Nat) : ∃ σ' τ' f' t', hw_gd (hw_gH (σ 13 2).toNatClampNeg 0) (hw_bd (F_X0_putLeaf (σ 13 2).toNatClampNeg v σ) (fun _ s13 => hw_bd (F_X1_step s13) (fun _ s15 => some ((1 : Int32), s15)))) = some (1, σ') ∧ hw_bd (B_X7_takesPart_87 v (τ 200 20) τ) (fun r60 s61 => if r60 = 0 then (some ((0 : Int32), s61)) else (B_X7_takesE_172 (L_X7_takesE_28 m) a 0 s61)) = L_X7_takesE_28 m a (nI (cntN (ntl W))) 0 τ' ∧ PR σ0 τ0 σ' τ' T key B (v :: RC) (List.reverseAux (nhd W) (v :: RC)) (ntl W) f' t' (at_ + 1) ∧ f < f' ∧ τ' 211 = τ 211 := by
  have fB := TK_lt H.tk ns
  have B9 := H.tk.B9
  obtain ⟨f1, f2, f3, f4⟩ := fl_law T (by omega)
  have app := nh_app W
  have hlen : (nhd W ++ ntl W).length = W.length := by rw [app]
  -- the class
  generalize hσ : hw_up (hw_up (hw_up σ (45 + T) RC.length v) (30 + T) 3 (nI (RC.length + 1))) (30 + T) 1 (nI (at_ + 1)) = σ1
  have r : ∀ x, x ≠ 30 + T → x ≠ 45 + T → σ1 x = σ x := fun x h1 h2 => by rw [← hσ, up_row _ _ _ _ h1, up_row _ _ _ _ h1, up_row _ _ _ _ h2]
  have cput : F_X0_putLeaf (30 + T) v σ = some ((), σ1) := by
    unfold F_X0_putLeaf
    rw [hw_gd_t f4, X0_put hT H.n6 (by omega), hw_bd_s, hw_nm_s]
    have a1 : hw_up (hw_up σ (45 + T) RC.length v) (30 + T) 3 (nI (RC.length + 1)) (30 + T) 1 = nI at_ := by rw [up_self, upd_n _ _ (by decide), up_row _ _ _ _ (by omega)]; exact H.a6
    rw [a1, show nI at_ + 1 = nI (at_ + 1) from nI_add _ 1, hσ]
  -- the reference
  generalize hρ : hw_up (hw_up (hw_up τ 209 RC.length v) 200 20 (nI (RC.length + 1))) 200 21 (nI (at_ + 1)) = ρ
  have q20 : ρ 200 20 = nI (v :: RC).length := by rw [← hρ, up_self, upd_n _ _ (by decide), up_self, upd_s]; rfl
  have q21 : ρ 200 21 = nI (at_ + 1) := by rw [← hρ, up_self, upd_s]
  have qk : ∀ k, k ≠ 20 → k ≠ 21 → ρ 200 k = τ 200 k := fun k h1 h2 => by rw [← hρ, up_self, upd_n _ _ h2, up_self, upd_n _ _ h1, up_row _ _ _ _ (by decide)]
  have q9 : ρ 209 = upd (τ 209) RC.length v := by rw [← hρ, up_row _ _ _ _ (by decide), up_row _ _ _ _ (by decide), up_self]
  have qx : ∀ x, x ≠ 200 → x ≠ 209 → ρ x = τ x := fun x h1 h2 => by rw [← hρ, up_row _ _ _ _ h1, up_row _ _ _ _ h1, up_row _ _ _ _ h2]
  obtain ⟨τ2, s1, s2, s3, s4, s5, s6, s7⟩ := X7_set (r := 6) (τ := ρ) (P := nhd W) (W := ntl W) (RCr := v :: RC) (by decide) (ntl_cls W vW) (fun x hx => by rw [nhd_all W x hx]; decide) (by rw [hlen, List.length_cons]; omega) q20 (by rw [q9]; exact ⟨upd_s _ _ _, stk_upd (Nat.le_refl _) H.s7⟩) (by rw [hlen, qk 23 (by decide) (by decide)]; exact H.h7) (by rw [app, qx 210 (by decide) (by decide)]; exact H.w7)
  have H2 : PR σ0 τ0 σ1 τ2 T key B (v :: RC) (List.reverseAux (nhd W) (v :: RC)) (ntl W) f t (at_ + 1) := by
    refine ⟨TK_keep H.tk (r 13 (by omega) (by omega)) (r 12 (by omega) (by omega)) (by rw [s7 206 (by decide) (by decide), qx 206 (by decide) (by decide)]) (fun k h1 h2 => by rw [s6 k (by omega) (by omega), qk k (by omega) (by omega)]), ?_, ?_, ?_, ?_, ?_, ?_, s2, s3, ?_, s4, s5, ?_, ?_, ?_⟩
    · rw [r 13 (by omega) (by omega)]; exact H.c2
    · rw [← hσ, up_self, upd_n _ _ (by decide), up_self, upd_n _ _ (by decide), up_row _ _ _ _ (by omega)]; exact H.k6
    · rw [s6 16 (by decide) (by decide), qk 16 (by decide) (by decide)]; exact H.k7
    · rw [← hσ, up_self, upd_n _ _ (by decide), up_self, upd_s]; rfl
    · rw [← hσ, up_row _ _ _ _ (by omega), up_row _ _ _ _ (by omega), up_self]
      show upd (σ (45 + T)) RC.length v (RC.map en).length = en v ∧ stk (upd (σ (45 + T)) RC.length v) (RC.map en)
      have l : (RC.map en).length = RC.length := List.length_map ..
      exact ⟨by rw [l, upd_s, en_pos hv], stk_upd (by rw [l]; exact Nat.le_refl _) H.s6⟩
    · rw [← hσ, up_self, upd_s]
    · rw [s6 21 (by decide) (by decide)]; exact q21
    · intro x h1 h2 h3; rw [r x h2 h3]; exact H.fs x h1 h2 h3
    · intro x h1 h2 h3 h4; rw [s7 x h1 h2, qx x h1 h2]; exact H.ft x h1 h2 h3 h4
    · intro k hk; rw [s6 k (by omega) (by omega), qk k (by omega) (by omega)]; exact H.f2 k hk
  have q6 : τ2 206 = τ 206 := by rw [s7 206 (by decide) (by decide), qx 206 (by decide) (by decide)]
  obtain ⟨σ', τ', f', t', g1, g2, g3, g4, g5⟩ := PR_go H2 (by rw [q6]; exact ns) hT
  refine ⟨σ', τ', f', t', ?_, ?_, g3, g4, ?_⟩
  · rw [H.c2, nI_clamp (by omega), hw_gd_t f4, cput, hw_bd_s, g1, hw_bd_s]
  · unfold B_X7_takesPart_87 B_X7_takesE_172
    have e20 : hw_up τ 209 RC.length v 200 20 = nI RC.length := by rw [up_row _ _ _ _ (by decide)]; exact H.n7
    have e21 : hw_up (hw_up τ 209 RC.length v) 200 20 (nI (RC.length + 1)) 200 21 = nI at_ := by rw [up_self, upd_n _ _ (by decide), up_row _ _ _ _ (by decide)]; exact H.a7
    rw [H.n7, hw_gd_t (inb_nI (by omega) (by decide)), nI_clamp (by omega), hw_nm_s, hw_nm_s, hw_nm_s, e20, show nI RC.length + 1 = nI (RC.length + 1) from nI_add _ 1, e21, show nI at_ + 1 = nI (at_ + 1) from nI_add _ 1, hρ, show F_X7_settle 6 ρ = _ from s1, hw_bd_s, g2, hw_bd_s, hw_bd_s, if_neg (by decide), X7_nots (St := ntl W) (by have h9 := hlen; rw [List.length_append] at h9; omega) g3.h7 g3.w7, hw_bd_s]
  · rw [g5, s7 211 (by decide) (by decide), qx 211 (by decide) (by decide)]
/-- the reference tries a part -/
theorem want_part {σ0 τ0 σ τ : hw_St} {T key B : Nat} {RC RCr St : List Int32} {f t at_ : Nat} (H : PR σ0 τ0 σ τ T key B RC RCr St f t at_) {a b : Nat} (ha : a ≤ 8) (hb : b ≤ 8) (n1 : ¬ (srt (τ 206) B f = 3 ∧ τ 206 f = 33 ∧ b < 8)) (n2 : ¬ (srt (τ 206) B f = 3 ∧ τ 206 f = 40 ∧ a < 8)) (m : Nat) : L_X7_takesE_28 (m + 1) (nI a) (nI b) 1 τ = hw_bd (F_X7_takesPart τ) (fun r60 s61 => if r60 = 0 then (some ((0 : Int32), s61)) else (B_X7_takesE_172 (L_X7_takesE_28 m) (nI a) 0 s61)) := by
  show S_X7_takesE_28 (L_X7_takesE_28 m) (nI a) (nI b) 1 τ = _
  have h97 : B_X7_takesE_97 (L_X7_takesE_28 m) (nI a) 1 τ = B_X7_takesE_158 (L_X7_takesE_28 m) (nI a) τ := by
    unfold B_X7_takesE_97
    by_cases s : srt (τ 206) B f = 3
    · rw [if_pos ((TK_m3 H.tk).mpr s)]
      by_cases q : τ 206 f = 40
      · rw [if_pos (by rw [(H.tk.s3 s).2.2.1]; exact q), if_pos (show (8 : Int32) ≤ nI a from nI_le (a := 8) (by
          rcases Nat.lt_or_ge a 8 with g | g
          · exact absurd ⟨s, q, g⟩ n2
          · exact g) (by omega))]
      · rw [if_neg (by rw [(H.tk.s3 s).2.2.1]; exact q)]
    · rw [if_neg (fun z => s ((TK_m3 H.tk).mp z))]
  unfold S_X7_takesE_28 B_X7_takesE_39
  rw [if_neg (by decide), if_neg (by decide), h97]
  unfold B_X7_takesE_158
  by_cases s : srt (τ 206) B f = 3
  · rw [if_pos ((TK_m3 H.tk).mpr s)]
    by_cases q : τ 206 f = 33
    · rw [if_pos (by rw [(H.tk.s3 s).2.2.1]; exact q), if_pos (show (8 : Int32) ≤ nI b from nI_le (a := 8) (by
        rcases Nat.lt_or_ge b 8 with g | g
        · exact absurd ⟨s, q, g⟩ n1
        · exact g) (by omega))]
    · rw [if_neg (by rw [(H.tk.s3 s).2.2.1]; exact q)]
  · rw [if_neg (fun z => s ((TK_m3 H.tk).mp z))]
theorem part_no {τ : hw_St} (h1 : ¬ τ 200 13 = 1) (h2 : ¬ τ 200 13 = 2) : F_X7_takesPart τ = some (0, τ) := by
  unfold F_X7_takesPart B_X7_takesPart_36 B_X7_takesPart_37
  rw [if_neg h1, if_neg h2, if_pos rfl]
/-! pieces -/
def Pcs (σ0 τ0 : hw_St) (T key B : Nat) (n : Nat) : Prop := ∀ (a b : Nat) (σ τ : hw_St) (W RC : List Int32) (f t at_ m d : Nat), a ≤ 8 → b ≤ 8 → 6 * (8 - a) + (8 - b) < n → PR σ0 τ0 σ τ T key B RC RC W f t at_ → RC.length + W.length ≤ f → vst W → cntN W = b → B + 2 ≤ m + f → wfr (nmx key) RC d → ∃ ok σ', R_X1 n 5 (nI a) (nI b) σ = some (ok, σ') ∧ ((ok = 1 ∧ ∃ τ' RC' f' t' at' m', L_X7_takesE_28 m (nI a) (nI b) 1 τ = L_X7_takesE_28 m' (nI a) (nI (cntN (ntl W))) 0 τ' ∧ PR σ0 τ0 σ' τ' T key B RC' (List.reverseAux (nhd W) RC') (ntl W) f' t' at' ∧ RC'.length + W.length ≤ f' ∧ wfr (nmx key) RC' (d + 1) ∧ B + 2 ≤ m' + f' ∧ f < f' ∧ (∀ q, q ≤ a → τ' 211 q = τ 211 q)) ∨ (ok = 0 ∧ ∃ τ', L_X7_takesE_28 m (nI a) (nI b) 1 τ = some (0, τ') ∧ PF σ0 τ0 σ' τ' T))
theorem pc_num {σ0 τ0 : hw_St} {T key B : Nat} (hT : T ≤ 14) (n : Nat) {a b : Nat} {σ τ : hw_St} {W RC : List Int32} {f t at_ m d : Nat} (ha : a ≤ 8) (hb : b ≤ 8) (H : PR σ0 τ0 σ τ T key B RC RC W f t at_) (hl : RC.length + W.length ≤ f) (vW : vst W) (hm : B + 2 ≤ m + f) (wf : wfr (nmx key) RC d) (s : srt (τ 206) B f = 2) : ∃ ok σ', R_X1 (n + 1) 5 (nI a) (nI b) σ = some (ok, σ') ∧ ((ok = 1 ∧ ∃ τ' RC' f' t' at' m', L_X7_takesE_28 m (nI a) (nI b) 1 τ = L_X7_takesE_28 m' (nI a) (nI (cntN (ntl W))) 0 τ' ∧ PR σ0 τ0 σ' τ' T key B RC' (List.reverseAux (nhd W) RC') (ntl W) f' t' at' ∧ RC'.length + W.length ≤ f' ∧ wfr (nmx key) RC' (d + 1) ∧ B + 2 ≤ m' + f' ∧ f < f' ∧ (∀ q, q ≤ a → τ' 211 q = τ 211 q)) ∨ (ok = 0 ∧ ∃ τ', L_X7_takesE_28 m (nI a) (nI b) 1 τ = some (0, τ') ∧ PF σ0 τ0 σ' τ' T)) := by
  have fB := TK_lt H.tk (by omega)
  have B9 := H.tk.B9
  have tB := H.tk.tB
  obtain ⟨g1, g2, g3, g4, g5⟩ := H.tk.s2 s
  obtain ⟨m, rfl⟩ : ∃ q, m = q + 1 := ⟨m - 1, by omega⟩
  have c5 : R_X1 (n + 1) 5 (nI a) (nI b) σ = hw_bd (F_X1_readNumber σ) (fun r18 s19 => hw_gd (hw_isb r18) (some (r18, s19))) := by
    rw [R_X1_5]
    unfold F_X1_readPiece
    rw [if_pos (show σ 13 3 = 2 from (TK_c3 H.tk (k := 2) (by decide)).mpr s)]
  have wp := want_part H ha hb (fun z => by omega) (fun z => by omega) m
  by_cases q : σ 13 4 = 0 ∧ t - f ≤ 4
  · rw [if_pos q] at g3
    have rg := num_rng g2 q.2 (by omega) key
    obtain ⟨σ', τ', f', t', e1, e2, e3, e4, e5⟩ := leaf H hT hl (by omega) vW rg.1 (nI a) m
    have sz : nI t - nI f = nI (t - f) := nI_sb (by omega) (by omega)
    refine ⟨1, σ', ?_, Or.inl ⟨rfl, τ', _ :: RC, f', t', at_ + 1, m, ?_, e3, by rw [List.length_cons]; omega, Or.inl ⟨rg.1, rg.2, d, rfl, wf⟩, by omega, e4, fun q _ => by rw [e5]⟩⟩
    · rw [c5]
      unfold F_X1_readNumber
      have lp := rn_loop H.tk g2 (t - f) 0 130 (by omega) (by omega)
      rw [if_pos q.1, H.tk.c5, H.tk.c6, sz, if_pos (show nI (t - f) ≤ 4 from nI_le (b := 4) q.2 (by decide)), hw_nm_s, show L_X1_readNumber_29 130 0 (nI f) σ = _ from lp]
      unfold B_X1_readNumber_66
      rw [e1, hw_bd_s, hw_gd_t isb_1]
    · rw [wp]
      unfold F_X7_takesPart B_X7_takesPart_36 B_X7_takesPart_37 B_X7_takesPart_52
      rw [if_neg (by rw [g3]; decide), if_pos g3, if_pos g3, g4 q.2]
      exact e2
  · rw [if_neg q] at g3
    refine ⟨0, σ, ?_, Or.inr ⟨rfl, τ, ?_, PR_PF H⟩⟩
    · rw [c5]
      unfold F_X1_readNumber
      have sz : nI t - nI f = nI (t - f) := nI_sb (by omega) (by omega)
      by_cases z : σ 13 4 = 0
      · rw [if_pos z, H.tk.c5, H.tk.c6, sz, if_neg (show ¬ nI (t - f) ≤ 4 from iNle.mpr (nI_lt (a := 4) (by
          rcases Nat.lt_or_ge 4 (t - f) with y | y
          · exact y
          · exact absurd ⟨z, y⟩ q) (by omega))), hw_bd_s, hw_gd_t isb_0]
      · rw [if_neg z, hw_bd_s, hw_gd_t isb_0]
    · rw [wp, part_no (by rw [g3]; decide) (by rw [g3]; decide), hw_bd_s, if_pos rfl]
theorem pc_name {σ0 τ0 : hw_St} {T key B : Nat} (hT : T ≤ 14) (hk : key < 3) (n : Nat) {a b : Nat} {σ τ : hw_St} {W RC : List Int32} {f t at_ m d : Nat} (ha : a ≤ 8) (hb : b ≤ 8) (H : PR σ0 τ0 σ τ T key B RC RC W f t at_) (hl : RC.length + W.length ≤ f) (vW : vst W) (hm : B + 2 ≤ m + f) (wf : wfr (nmx key) RC d) (s : srt (τ 206) B f = 1) : ∃ ok σ', R_X1 (n + 1) 5 (nI a) (nI b) σ = some (ok, σ') ∧ ((ok = 1 ∧ ∃ τ' RC' f' t' at' m', L_X7_takesE_28 m (nI a) (nI b) 1 τ = L_X7_takesE_28 m' (nI a) (nI (cntN (ntl W))) 0 τ' ∧ PR σ0 τ0 σ' τ' T key B RC' (List.reverseAux (nhd W) RC') (ntl W) f' t' at' ∧ RC'.length + W.length ≤ f' ∧ wfr (nmx key) RC' (d + 1) ∧ B + 2 ≤ m' + f' ∧ f < f' ∧ (∀ q, q ≤ a → τ' 211 q = τ 211 q)) ∨ (ok = 0 ∧ ∃ τ', L_X7_takesE_28 m (nI a) (nI b) 1 τ = some (0, τ') ∧ PF σ0 τ0 σ' τ' T)) := by
  have fB := TK_lt H.tk (by omega)
  have B9 := H.tk.B9
  have tB := H.tk.tB
  obtain ⟨fl1, fl2, fl3, fl4⟩ := fl_law T (by omega)
  obtain ⟨g1, g3, g4, g5⟩ := H.tk.s1 s
  obtain ⟨-, d1, d2⟩ := srt_1.mp s
  obtain ⟨m, rfl⟩ : ∃ q, m = q + 1 := ⟨m - 1, by omega⟩
  have sz : nI t - nI f = nI (t - f) := nI_sb (by omega) (by omega)
  have eb : (τ 206 f).toInt8.toInt32 = τ 206 f := (sby_eq (H.tk.C.2.2.2.1 f fB) ⟨Int32.le_trans (by decide) d1, Int32.le_trans d2 (by decide)⟩).mpr rfl
  generalize hx : (if t - f = 1 then nmv key (τ 206 f) else -1) = x
  have c5 : R_X1 (n + 1) 5 (nI a) (nI b) σ = hw_bd (B_X1_readName_60 x σ) (fun r16 s17 => hw_gd (hw_isb r16) (some (r16, s17))) := by
    rw [R_X1_5]
    unfold F_X1_readPiece
    rw [if_neg (fun z : σ 13 3 = 2 => by have := (TK_c3 H.tk (k := 2) (by decide)).mp z; omega), if_pos (show σ 13 3 = 1 from (TK_c3 H.tk (k := 1) (by decide)).mpr s)]
    have nm : F_X1_readName σ = B_X1_readName_60 x σ := by
      have b33 : B_X1_readName_33 (903 + key) σ = B_X1_readName_60 x σ := by
        unfold B_X1_readName_33
        rw [H.tk.c5, H.tk.c6, sz, ← hx]
        by_cases q : t - f = 1
        · rw [q, if_pos (show nI 1 = 1 from rfl), X1_byte H.tk fB, hw_bd_s, eb, X_idx hk d1 d2, hw_bd_s, if_pos rfl]
        · rw [if_neg (show ¬ nI (t - f) = 1 from nI_ne (b := 1) (by omega) (by decide) q), if_neg q]
      unfold F_X1_readName
      rw [H.c2, nI_clamp (by omega), hw_gd_t fl4, H.k6]
      have c : key = 0 ∨ key = 1 ∨ key = 2 := by omega
      rcases c with e | e | e
      · rw [if_pos (show nI key = 0 by rw [e]; rfl)]; rw [e] at b33; exact b33
      · rw [if_neg (show ¬ nI key = 0 by rw [e]; decide), if_pos (show nI key = 1 by rw [e]; rfl)]; rw [e] at b33; exact b33
      · rw [if_neg (show ¬ nI key = 0 by rw [e]; decide), if_neg (show ¬ nI key = 1 by rw [e]; decide)]; rw [e] at b33; exact b33
    rw [nm]
  have wp := want_part H ha hb (fun z => by omega) (fun z => by omega) m
  by_cases q : σ 13 4 = 0 ∧ 0 ≤ x
  · rw [if_pos q.1] at g3
    have q1 : t - f = 1 := by
      by_cases z : t - f = 1
      · exact z
      · rw [if_neg z] at hx; rw [← hx] at q; exact absurd q.2 (by decide)
    rw [if_pos q1] at hx
    have rg := nmv_rng hk (by rw [hx]; exact q.2)
    rw [hx] at rg
    obtain ⟨σ', τ', f', t', e1, e2, e3, e4, e5⟩ := leaf H hT hl (by omega) vW rg.1 (nI a) m
    refine ⟨1, σ', ?_, Or.inl ⟨rfl, τ', _ :: RC, f', t', at_ + 1, m, ?_, e3, by rw [List.length_cons]; omega, Or.inl ⟨rg.1, rg.2, d, rfl, wf⟩, by omega, e4, fun q _ => by rw [e5]⟩⟩
    · rw [c5]
      unfold B_X1_readName_60
      rw [if_pos q.1, if_pos q.2, e1, hw_bd_s, hw_gd_t isb_1]
    · rw [wp]
      unfold F_X7_takesPart B_X7_takesPart_36 B_X7_takesPart_37 B_X7_takesPart_52
      rw [if_pos g3, H.tk.m11, H.tk.m12, sz, q1, if_pos (show nI 1 = 1 from rfl), g4, X7_name hk H.k7, hw_bd_s, hx, if_neg (iNlt.mpr q.2), if_neg (by rw [g3]; decide), if_neg (by decide), if_neg (by rw [g3]; decide), g4, X7_name hk H.k7, hw_bd_s, hx]
      exact e2
  · refine ⟨0, σ, ?_, Or.inr ⟨rfl, τ, ?_, PR_PF H⟩⟩
    · rw [c5]
      unfold B_X1_readName_60
      by_cases z : σ 13 4 = 0
      · rw [if_pos z, if_neg (fun y => q ⟨z, y⟩), hw_bd_s, hw_gd_t isb_0]
      · rw [if_neg z, hw_bd_s, hw_gd_t isb_0]
    · rw [wp]
      by_cases z : σ 13 4 = 0
      · rw [if_pos z] at g3
        have n2 : ¬ τ 200 13 = 2 := by rw [g3]; decide
        have tp : F_X7_takesPart τ = some (0, τ) := by
          unfold F_X7_takesPart B_X7_takesPart_36 B_X7_takesPart_37
          rw [if_pos g3, H.tk.m11, H.tk.m12, sz]
          by_cases q1 : t - f = 1
          · rw [if_pos q1] at hx
            rw [q1, if_pos (show nI 1 = 1 from rfl), g4, X7_name hk H.k7, hw_bd_s, hx, if_pos (iNle.mp (fun y => q ⟨z, y⟩)), if_neg n2, if_pos rfl]
          · rw [if_neg (show ¬ nI (t - f) = 1 from nI_ne (b := 1) (by omega) (by decide) q1), if_neg n2, if_pos rfl]
        rw [tp, hw_bd_s, if_pos rfl]
      · rw [if_neg z] at g3
        rw [part_no (by rw [g3]; decide) (by rw [g3]; decide), hw_bd_s, if_pos rfl]
