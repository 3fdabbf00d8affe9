/-! a tape read through by both -/
theorem text_parse {σ τ : hw_St} {T B : Nat} (hT : T ≤ 14) (hB : B ≤ 96) (h10 : τ 200 10 = nI B) (hby : ∀ j, j < B → σ 12 j = (τ 206 j).toInt8.toInt32 ∧ 0 ≤ τ 206 j ∧ τ 206 j ≤ 255) (co : hv_Co τ) : ∃ r σ' τ', F_X1_takesIn 12 (nI B) (30 + T) σ = some (r, σ') ∧ F_X7_text τ = B_X7_text_33 r τ' ∧ ((r = 0 ∧ PF σ τ σ' τ' T) ∨ (r = 1 ∧ ∃ key RC f t at_, key < 3 ∧ PR σ τ σ' τ' T key B RC RC [] f t at_ ∧ RC.length ≤ 96 ∧ wfr (nmx key) RC 1)) := by
  obtain ⟨fl1, fl2, fl3, fl4⟩ := fl_law T (by omega)
  have mn : hw_min (nI B) (nI (hw_ln 12)) = nI B := by
    rw [g12.2.1]
    unfold hw_min
    rw [if_neg (iNlt.mpr (nI_le (by omega) (by decide)))]
  generalize hσa : hw_up (hw_up (hw_up (hw_up (hw_up σ 13 0 (nI 12)) 13 1 (nI B)) 13 2 (nI (30 + T))) 13 3 0) 13 5 0 = σa
  generalize hτa : hw_up (hw_up τ 200 11 0) 200 15 (-1) = τa
  have a0 : σa 13 0 = nI 12 := by rw [← hσa]; simp only [up_self, upd_s, upd_n _ _ (show 0 ≠ 5 by decide), upd_n _ _ (show 0 ≠ 3 by decide), upd_n _ _ (show 0 ≠ 2 by decide), upd_n _ _ (show 0 ≠ 1 by decide)]
  have a1 : σa 13 1 = nI B := by rw [← hσa]; simp only [up_self, upd_s, upd_n _ _ (show 1 ≠ 5 by decide), upd_n _ _ (show 1 ≠ 3 by decide), upd_n _ _ (show 1 ≠ 2 by decide)]
  have a2 : σa 13 2 = nI (30 + T) := by rw [← hσa]; simp only [up_self, upd_s, upd_n _ _ (show 2 ≠ 5 by decide), upd_n _ _ (show 2 ≠ 3 by decide)]
  have a3 : σa 13 3 = nI 0 := by rw [← hσa]; simp only [up_self, upd_s, upd_n _ _ (show 3 ≠ 5 by decide)]; rfl
  have a5 : σa 13 5 = nI 0 := by rw [← hσa]; simp only [up_self, upd_s]; rfl
  have ax : ∀ x, x ≠ 13 → σa x = σ x := fun x hx => by rw [← hσa]; simp only [up_row _ _ _ _ hx]
  have b11 : τa 200 11 = nI 0 := by rw [← hτa]; simp only [up_self, upd_s, upd_n _ _ (show 11 ≠ 15 by decide)]; rfl
  have b15 : τa 200 15 = -1 := by rw [← hτa, up_self, upd_s]
  have bk : ∀ k, k ≠ 11 → k ≠ 15 → τa 200 k = τ 200 k := fun k h1 h2 => by rw [← hτa, up_self, upd_n _ _ h2, up_self, upd_n _ _ h1]
  have bx : ∀ x, x ≠ 200 → τa x = τ x := fun x hx => by rw [← hτa, up_row _ _ _ _ hx, up_row _ _ _ _ hx]
  have q6 : τa 206 = τ 206 := bx 206 (by decide)
  have Pa : PreT σa τa B 0 0 := by
    refine ⟨⟨a0, a1, hB, ?_, ?_⟩, by rw [bk 10 (by decide) (by decide)]; exact h10, by omega, by decide, a3, a5, b11, fun z => by omega, fun _ => by rw [b15]; decide⟩
    · intro j hj; rw [q6]; exact (hby j hj).2
    · intro j hj; rw [q6, ax 12 (by decide)]; exact (hby j hj).1
  obtain ⟨σ1, τ1, f, t, c1, c2, K1, -, c5, c6, c7, c8⟩ := go_step Pa
  have nb := first_nb Pa c1
  have co1 : hv_Co τ1 := ⟨by rw [c8 207 (by decide), bx 207 (by decide)]; exact co.1, by rw [c8 208 (by decide), bx 208 (by decide)]; exact co.2⟩
  have x1 : ∀ x, x ≠ 13 → σ1 x = σ x := fun x hx => by rw [c6 x hx, ax x hx]
  have y1 : ∀ x, x ≠ 200 → τ1 x = τ x := fun x hx => by rw [c8 x hx, bx x hx]
  have z1 : ∀ k, (k < 11 ∨ 15 < k) → τ1 200 k = τ 200 k := fun k hk => by rw [c7 k hk, bk k (by omega) (by omega)]
  have s13 : σ1 13 2 = nI (30 + T) := by rw [c5 2 (by decide)]; exact a2
  have t6 : F_X1_takesIn 12 (nI B) (30 + T) σ = hw_bd (F_X1_keyHere σ1) (fun r8 s9 => if r8 = (-1000000005) then (some ((0), s9)) else (hw_gd (hw_gH (s9 13 2).toNatClampNeg 0) (hw_bd (F_X0_begin (s9 13 2).toNatClampNeg r8 s9) (fun _ s14 => hw_bd (F_X1_step s14) (fun _ s16 => hw_bd (R_X1 90 0 (0) (0) s16) (fun r17 s18 => if r17 = 0 then (some ((0), s18)) else (if (s18 13 3) = 0 then (some ((1), s18)) else (some ((0), s18))))))))) := by
    unfold F_X1_takesIn
    rw [hw_gd_t g12.1, hw_gd_t fl4, hw_nm_s, hw_nm_s, hw_nm_s, hw_nm_s, hw_nm_s, mn, hσa, c1, hw_bd_s]
  have t7 : F_X7_text τ = hw_bd (F_X7_takesKey τ1) (fun r5 s6 => if r5 = 0 then (B_X7_text_32 s6) else (hw_bd (F_X7_takesE s6) (fun r8 s9 => if r8 = 0 then (B_X7_text_32 s9) else (B_X7_text_33 (1) s9)))) := by
    unfold F_X7_text
    rw [hw_nm_s, hw_nm_s, hτa, c2, hw_bd_s]
  rcases key_both K1 co1 nb with ⟨key, hk, ns, k1, k2⟩ | ⟨k1, k2⟩
  · have nk : ¬ nI key = -1000000005 := fun z => by
      have := nI_pos' (n := key) (by omega)
      rw [z] at this
      exact absurd this (by decide)
    generalize hσ2 : hw_up (hw_up (hw_up σ1 (30 + T) 0 (nI key)) (30 + T) 1 0) (30 + T) 3 0 = σ2
    have d0 : σ2 (30 + T) 0 = nI key := by rw [← hσ2]; simp only [up_self, upd_s, upd_n _ _ (show 0 ≠ 3 by decide), upd_n _ _ (show 0 ≠ 1 by decide)]
    have d1 : σ2 (30 + T) 1 = nI 0 := by rw [← hσ2]; simp only [up_self, upd_s, upd_n _ _ (show 1 ≠ 3 by decide)]; rfl
    have d3 : σ2 (30 + T) 3 = nI 0 := by rw [← hσ2]; simp only [up_self, upd_s]; rfl
    have dx : ∀ x, x ≠ 30 + T → σ2 x = σ1 x := fun x hx => by rw [← hσ2]; simp only [up_row _ _ _ _ hx]
    generalize hτ2 : hw_up τ1 200 16 (nI key) = τ2
    have e16 : τ2 200 16 = nI key := by rw [← hτ2, up_self, upd_s]
    have ek : ∀ k, k ≠ 16 → τ2 200 k = τ1 200 k := fun k hk => by rw [← hτ2, up_self, upd_n _ _ hk]
    have ex : ∀ x, x ≠ 200 → τ2 x = τ1 x := fun x hx => by rw [← hτ2, up_row _ _ _ _ hx]
    have K2 : TK σ2 τ2 B f t := TK_keep K1 (dx 13 (by omega)) (dx 12 (by omega)) (ex 206 (by decide)) (fun k h1 h2 => ek k (by omega))
    obtain ⟨σ3, τ3, f3, t3, g1, g2, K3, -, g5, g6, g7, g8⟩ := go_step (TK_pre K2 (by rw [ex 206 (by decide)]; exact ns))
    generalize hτ4 : hw_up (hw_up (hw_up (hw_up τ3 200 20 0) 200 21 0) 200 23 0) 211 0 0 = τ4
    have i20 : τ4 200 20 = nI 0 := by rw [← hτ4, up_row _ _ _ _ (by decide)]; simp only [up_self, upd_s, upd_n _ _ (show 20 ≠ 23 by decide), upd_n _ _ (show 20 ≠ 21 by decide)]; rfl
    have i21 : τ4 200 21 = nI 0 := by rw [← hτ4, up_row _ _ _ _ (by decide)]; simp only [up_self, upd_s, upd_n _ _ (show 21 ≠ 23 by decide)]; rfl
    have i23 : τ4 200 23 = nI 0 := by rw [← hτ4, up_row _ _ _ _ (by decide)]; simp only [up_self, upd_s]; rfl
    have ik : ∀ k, k ≠ 20 → k ≠ 21 → k ≠ 23 → τ4 200 k = τ3 200 k := fun k h1 h2 h3 => by rw [← hτ4, up_row _ _ _ _ (by decide)]; simp only [up_self, upd_n _ _ h1, upd_n _ _ h2, upd_n _ _ h3]
    have ix : ∀ x, x ≠ 200 → x ≠ 211 → τ4 x = τ3 x := fun x h1 h2 => by rw [← hτ4, up_row _ _ _ _ h2]; simp only [up_row _ _ _ _ h1]
    have i11 : τ4 211 0 = 0 := by rw [← hτ4, up_self, upd_s]
    have H0 : PR σ τ σ3 τ4 T key B [] [] [] f3 t3 0 := by
      refine ⟨TK_keep K3 rfl rfl (ix 206 (by decide) (by decide)) (fun k h1 h2 => ik k (by omega) (by omega) (by omega)), ?_, ?_, ?_, ?_, trivial, ?_, i20, trivial, i21, i23, trivial, ?_, ?_, ?_⟩
      · rw [g5 2 (by decide), dx 13 (by omega)]; exact s13
      · rw [g6 _ (by omega)]; exact d0
      · rw [ik 16 (by decide) (by decide) (by decide), g7 16 (by omega)]; exact e16
      · rw [g6 _ (by omega)]; exact d3
      · rw [g6 _ (by omega)]; exact d1
      · intro x h1 h2 h3; rw [g6 x h1, dx x h2, x1 x h1]
      · intro x h1 h2 h3 h4; rw [ix x h1 h4, g8 x h1, ex x h1, y1 x h1]
      · intro k hk; rw [ik k (by omega) (by omega) (by omega), g7 k (by omega), ek k (by omega), z1 k (by omega)]
    have B9 := K3.B9
    obtain ⟨ok, σ4, r1, r2⟩ := (all_lv hT hk 90).1 0 (by omega) 0 0 σ3 τ4 [] [] f3 t3 0 130 0 (by omega) (by omega) (by omega) H0 (by simp) trivial (fun x hx => by cases hx) rfl (fun _ => i11) (Or.inl i11) (by omega) rfl
    have t6' : F_X1_takesIn 12 (nI B) (30 + T) σ = (if ok = 0 then (some ((0), σ4)) else (if (σ4 13 3) = 0 then (some ((1), σ4)) else (some ((0), σ4)))) := by
      rw [t6, k1, hw_bd_s, if_neg nk, s13, nI_clamp (by omega), hw_gd_t fl4]
      unfold F_X0_begin
      rw [hw_gd_t fl4, hw_nm_s, hw_nm_s, hw_nm_s, hσ2, hw_bd_s, g1, hw_bd_s, show R_X1 90 0 0 0 σ3 = _ from r1, hw_bd_s]
    have t7' : F_X7_text τ = hw_bd (L_X7_takesE_28 130 (nI 0) (nI 0) 1 τ4) (fun r8 s9 => if r8 = 0 then (B_X7_text_32 s9) else (B_X7_text_33 (1) s9)) := by
      rw [t7, k2, hτ2, g2, hw_bd_s, hw_bd_s, if_neg (by decide)]
      unfold F_X7_takesE
      rw [hw_nm_s, hw_nm_s, hw_nm_s, hw_gd_t (by decide), hw_nm_s, nar0, show ((0 : Int32).toNatClampNeg) = 0 from rfl, hτ4]
      rfl
    rcases r2 with ⟨hok, τ', P, RCr, f', t', at', m', y1, y2, y3, y4, y5, y6, y7, y8, y9, y10, y11⟩ | ⟨hok, τ', y1, y2⟩
    · have fB' := y2.tk.fB
      have B9' := y2.tk.B9
      obtain ⟨m', rfl⟩ : ∃ q, m' = q + 1 := ⟨m' - 1, by omega⟩
      by_cases z0 : srt (τ' 206) B f' = 0
      · obtain ⟨τ5, s1, s2, s3, s4, s5, s6, s7⟩ := X7_set (r := 0) (τ := τ') (P := P) (W := []) (RCr := RCr) (by decide) trivial (fun x hx => ⟨(y4 x hx).1, by omega⟩) (by omega) y2.n7 y2.s7 y2.h7 y2.w7
        have H5 : PR σ τ σ4 τ5 T key B (List.reverseAux P RCr) (List.reverseAux P RCr) [] f' t' at' := PR_ref y2 s2 s3 s4 s5 s6 (fun x h1 h2 h3 h4 => s7 x h1 h2)
        refine ⟨1, σ4, τ5, ?_, ?_, Or.inr ⟨rfl, key, List.reverseAux P RCr, f', t', at', hk, H5, ?_, y5⟩⟩
        · rw [t6', hok, if_neg (show ¬ (1 : Int32) = 0 by decide), if_pos (show σ4 13 3 = 0 from (TK_c3 y2.tk (k := 0) (by decide)).mpr z0)]
        · have e : L_X7_takesE_28 (m' + 1) (nI 0) (nI (cntN [])) 0 τ' = some (1, τ5) := by
            show S_X7_takesE_28 (L_X7_takesE_28 m') (nI 0) (nI 0) 0 τ' = _
            unfold S_X7_takesE_28
            rw [if_pos rfl, if_pos ((TK_m0 y2.tk).mpr z0), show F_X7_settle 0 τ' = _ from s1, hw_bd_s, if_pos (show nI 0 = 0 from rfl)]
          rw [t7', y1, e, hw_bd_s, if_neg (by decide)]
        · rw [rAux_len]; rw [List.length_append] at y3; omega
      · refine ⟨0, σ4, τ', ?_, ?_, Or.inl ⟨rfl, PR_PF y2⟩⟩
        · rw [t6', hok, if_neg (show ¬ (1 : Int32) = 0 by decide), if_neg (fun z : σ4 13 3 = 0 => z0 ((TK_c3 y2.tk (k := 0) (by decide)).mp z))]
        · rw [t7', y1, stop0 y2 z0 (by omega) (fun _ => rfl) y11 _ m', hw_bd_s, if_pos rfl]
          rfl
    · refine ⟨0, σ4, τ', by rw [t6', hok, if_pos rfl], ?_, Or.inl ⟨rfl, y2⟩⟩
      rw [t7', y1, hw_bd_s, if_pos rfl]
      rfl
  · refine ⟨0, σ1, τ1, ?_, ?_, Or.inl ⟨rfl, ⟨f, by have := K1.fB; omega, K1.c6, K1.m12⟩, fun x h1 _ _ => x1 x h1, fun x h1 _ _ _ => y1 x h1, fun k hk => z1 k (by omega)⟩⟩
    · rw [t6, k1, hw_bd_s, if_pos rfl]
    · rw [t7, k2, hw_bd_s, if_pos rfl]
      rfl
