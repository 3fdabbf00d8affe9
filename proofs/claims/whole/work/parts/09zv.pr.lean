/-! a text half read: both sides -/
def PR (σ0 τ0 σ τ : hw_St) (T key B : Nat) (RC RCr St : List Int32) (f t at_ : Nat) : Prop := (TK σ τ B f t) ∧ (σ 13 2 = nI (30 + T)) ∧ (σ (30 + T) 0 = nI key) ∧ (τ 200 16 = nI key) ∧ (σ (30 + T) 3 = nI RC.length) ∧ (stk (σ (45 + T)) (RC.map en)) ∧ (σ (30 + T) 1 = nI at_) ∧ (τ 200 20 = nI RCr.length) ∧ (stk (τ 209) RCr) ∧ (τ 200 21 = nI at_) ∧ (τ 200 23 = nI St.length) ∧ (stk (τ 210) St) ∧ (∀ x, x ≠ 13 → x ≠ 30 + T → x ≠ 45 + T → σ x = σ0 x) ∧ (∀ x, x ≠ 200 → x ≠ 209 → x ≠ 210 → x ≠ 211 → τ x = τ0 x) ∧ (∀ k, (k < 11 ∨ 23 < k ∨ 17 ≤ k ∧ k ≤ 19 ∨ k = 22) → τ 200 k = τ0 200 k)
theorem PR.tk {σ0 τ0 σ τ : hw_St} {T key B : Nat} {RC RCr St : List Int32} {f t at_ : Nat} (H : PR σ0 τ0 σ τ T key B RC RCr St f t at_) : TK σ τ B f t := H.1
theorem PR.c2 {σ0 τ0 σ τ : hw_St} {T key B : Nat} {RC RCr St : List Int32} {f t at_ : Nat} (H : PR σ0 τ0 σ τ T key B RC RCr St f t at_) : σ 13 2 = nI (30 + T) := H.2.1
theorem PR.k6 {σ0 τ0 σ τ : hw_St} {T key B : Nat} {RC RCr St : List Int32} {f t at_ : Nat} (H : PR σ0 τ0 σ τ T key B RC RCr St f t at_) : σ (30 + T) 0 = nI key := H.2.2.1
theorem PR.k7 {σ0 τ0 σ τ : hw_St} {T key B : Nat} {RC RCr St : List Int32} {f t at_ : Nat} (H : PR σ0 τ0 σ τ T key B RC RCr St f t at_) : τ 200 16 = nI key := H.2.2.2.1
theorem PR.n6 {σ0 τ0 σ τ : hw_St} {T key B : Nat} {RC RCr St : List Int32} {f t at_ : Nat} (H : PR σ0 τ0 σ τ T key B RC RCr St f t at_) : σ (30 + T) 3 = nI RC.length := H.2.2.2.2.1
theorem PR.s6 {σ0 τ0 σ τ : hw_St} {T key B : Nat} {RC RCr St : List Int32} {f t at_ : Nat} (H : PR σ0 τ0 σ τ T key B RC RCr St f t at_) : stk (σ (45 + T)) (RC.map en) := H.2.2.2.2.2.1
theorem PR.a6 {σ0 τ0 σ τ : hw_St} {T key B : Nat} {RC RCr St : List Int32} {f t at_ : Nat} (H : PR σ0 τ0 σ τ T key B RC RCr St f t at_) : σ (30 + T) 1 = nI at_ := H.2.2.2.2.2.2.1
theorem PR.n7 {σ0 τ0 σ τ : hw_St} {T key B : Nat} {RC RCr St : List Int32} {f t at_ : Nat} (H : PR σ0 τ0 σ τ T key B RC RCr St f t at_) : τ 200 20 = nI RCr.length := H.2.2.2.2.2.2.2.1
theorem PR.s7 {σ0 τ0 σ τ : hw_St} {T key B : Nat} {RC RCr St : List Int32} {f t at_ : Nat} (H : PR σ0 τ0 σ τ T key B RC RCr St f t at_) : stk (τ 209) RCr := H.2.2.2.2.2.2.2.2.1
theorem PR.a7 {σ0 τ0 σ τ : hw_St} {T key B : Nat} {RC RCr St : List Int32} {f t at_ : Nat} (H : PR σ0 τ0 σ τ T key B RC RCr St f t at_) : τ 200 21 = nI at_ := H.2.2.2.2.2.2.2.2.2.1
theorem PR.h7 {σ0 τ0 σ τ : hw_St} {T key B : Nat} {RC RCr St : List Int32} {f t at_ : Nat} (H : PR σ0 τ0 σ τ T key B RC RCr St f t at_) : τ 200 23 = nI St.length := H.2.2.2.2.2.2.2.2.2.2.1
theorem PR.w7 {σ0 τ0 σ τ : hw_St} {T key B : Nat} {RC RCr St : List Int32} {f t at_ : Nat} (H : PR σ0 τ0 σ τ T key B RC RCr St f t at_) : stk (τ 210) St := H.2.2.2.2.2.2.2.2.2.2.2.1
theorem PR.fs {σ0 τ0 σ τ : hw_St} {T key B : Nat} {RC RCr St : List Int32} {f t at_ : Nat} (H : PR σ0 τ0 σ τ T key B RC RCr St f t at_) : ∀ x, x ≠ 13 → x ≠ 30 + T → x ≠ 45 + T → σ x = σ0 x := H.2.2.2.2.2.2.2.2.2.2.2.2.1
theorem PR.ft {σ0 τ0 σ τ : hw_St} {T key B : Nat} {RC RCr St : List Int32} {f t at_ : Nat} (H : PR σ0 τ0 σ τ T key B RC RCr St f t at_) : ∀ x, x ≠ 200 → x ≠ 209 → x ≠ 210 → x ≠ 211 → τ x = τ0 x := H.2.2.2.2.2.2.2.2.2.2.2.2.2.1
theorem PR.f2 {σ0 τ0 σ τ : hw_St} {T key B : Nat} {RC RCr St : List Int32} {f t at_ : Nat} (H : PR σ0 τ0 σ τ T key B RC RCr St f t at_) : ∀ k, (k < 11 ∨ 23 < k ∨ 17 ≤ k ∧ k ≤ 19 ∨ k = 22) → τ 200 k = τ0 200 k := H.2.2.2.2.2.2.2.2.2.2.2.2.2.2
theorem PR_go {σ0 τ0 σ τ : hw_St} {T key B : Nat} {RC RCr St : List Int32} {f t at_ : Nat} (H : PR σ0 τ0 σ τ T key B RC RCr St f t at_) (h : ¬ srt (τ 206) B f = 0) (hT : T ≤ 14) : ∃ σ' τ' f' t', F_X1_step σ = some ((), σ') ∧ F_X7_go τ = some ((), τ') ∧ PR σ0 τ0 σ' τ' T key B RC RCr St f' t' at_ ∧ f < f' ∧ τ' 211 = τ 211 := by
  have sl := srt_le (τ 206) B f
  have ft : f < t := by
    have c : srt (τ 206) B f = 1 ∨ srt (τ 206) B f = 2 ∨ srt (τ 206) B f = 3 := by omega
    rcases c with s | s | s
    · exact (H.tk.s1 s).1
    · exact (H.tk.s2 s).1
    · have := (H.tk.s3 s).1; omega
  obtain ⟨σ', τ', f', t', e1, e2, e3, e4, e5, e6, e7, e8⟩ := go_step (TK_pre H.tk h)
  refine ⟨σ', τ', f', t', e1, e2, ⟨e3, ?_, ?_, ?_, ?_, ?_, ?_, ?_, ?_, ?_, ?_, ?_, ?_, ?_, ?_⟩, by omega, e8 211 (by decide)⟩
  · rw [e5 2 (by decide)]; exact H.c2
  · rw [e6 _ (by omega)]; exact H.k6
  · rw [e7 16 (by omega)]; exact H.k7
  · rw [e6 _ (by omega)]; exact H.n6
  · rw [e6 _ (by omega)]; exact H.s6
  · rw [e6 _ (by omega)]; exact H.a6
  · rw [e7 20 (by omega)]; exact H.n7
  · rw [e8 209 (by decide)]; exact H.s7
  · rw [e7 21 (by omega)]; exact H.a7
  · rw [e7 23 (by omega)]; exact H.h7
  · rw [e8 210 (by decide)]; exact H.w7
  · intro x h1 h2 h3; rw [e6 x h1]; exact H.fs x h1 h2 h3
  · intro x h1 h2 h3 h4; rw [e8 x h1]; exact H.ft x h1 h2 h3 h4
  · intro k hk; rw [e7 k (by omega)]; exact H.f2 k hk
/-- only the reference's code and waiting signs change -/
theorem PR_ref {σ0 τ0 σ τ τ' : hw_St} {T key B : Nat} {RC RCr St RCr' St' : List Int32} {f t at_ : Nat} (H : PR σ0 τ0 σ τ T key B RC RCr St f t at_) (n7 : τ' 200 20 = nI RCr'.length) (s7 : stk (τ' 209) RCr') (h7 : τ' 200 23 = nI St'.length) (w7 : stk (τ' 210) St') (hk : ∀ k, k ≠ 20 → k ≠ 23 → τ' 200 k = τ 200 k) (hx : ∀ x, x ≠ 200 → x ≠ 209 → x ≠ 210 → x ≠ 211 → τ' x = τ x) : PR σ0 τ0 σ τ' T key B RC RCr' St' f t at_ := by
  refine ⟨TK_keep H.tk rfl rfl (hx 206 (by decide) (by decide) (by decide) (by decide)) (fun k h1 h2 => hk k (by omega) (by omega)), H.c2, H.k6, ?_, H.n6, H.s6, H.a6, n7, s7, ?_, h7, w7, H.fs, ?_, ?_⟩
  · rw [hk 16 (by decide) (by decide)]; exact H.k7
  · rw [hk 21 (by decide) (by decide)]; exact H.a7
  · intro x h1 h2 h3 h4; rw [hx x h1 h2 h3 h4]; exact H.ft x h1 h2 h3 h4
  · intro k g; rw [hk k (by omega) (by omega)]; exact H.f2 k g
/-! the class writes -/
theorem X0_put {T n : Nat} (hT : T ≤ 14) {σ : hw_St} (h3 : σ (30 + T) 3 = nI n) (hn : n < 96) (v : Int32) : F_X0_put (30 + T) v σ = some ((), hw_up (hw_up σ (45 + T) n v) (30 + T) 3 (nI (n + 1))) := by
  obtain ⟨f1, f2, f3, f4⟩ := fl_law T (by omega)
  unfold F_X0_put
  rw [hw_gd_t f4, f1, hw_gd_t f2, f3, h3, if_neg (show ¬ nI 96 ≤ nI n from iNle.mpr (nI_lt hn (by decide))), hw_gd_t (inb_nI hn (by decide)), hw_nm_s, hw_nm_s, nI_clamp (by omega), up_row _ _ _ _ (show 30 + T ≠ 45 + T by omega), h3, show nI n + 1 = nI (n + 1) from nI_add n 1]
theorem en_ch {c : Int32} (h : c = -10 ∨ (-9 ≤ c ∧ c ≤ -1)) : 20000 + chv c = en c := by
  rcases h with rfl | h
  · decide
  · rcases signs h.1 h.2 with rfl | rfl | rfl | rfl | rfl | rfl | rfl | rfl | rfl <;> decide
/-- the class writes a sign -/
theorem PR_sign {σ0 τ0 σ τ : hw_St} {T key B : Nat} {RC RCr St : List Int32} {f t at_ : Nat} (H : PR σ0 τ0 σ τ T key B RC RCr St f t at_) (hT : T ≤ 14) (hn : RC.length < 96) {c : Int32} (hc : c = -10 ∨ (-9 ≤ c ∧ c ≤ -1)) : ∃ σ', hw_gd (hw_gH (σ 13 2).toNatClampNeg 0) (F_X0_putSign (σ 13 2).toNatClampNeg (chv c) σ) = some ((), σ') ∧ PR σ0 τ0 σ' τ T key B (c :: RC) RCr St f t at_ := by
  obtain ⟨f1, f2, f3, f4⟩ := fl_law T (by omega)
  refine ⟨hw_up (hw_up σ (45 + T) RC.length (en c)) (30 + T) 3 (nI (RC.length + 1)), ?_, ?_⟩
  · rw [H.c2, nI_clamp (by omega), hw_gd_t f4]
    unfold F_X0_putSign
    rw [hw_gd_t f4, X0_put hT H.n6 hn, hw_bd_s, en_ch hc]
  · have r : ∀ x, x ≠ 30 + T → x ≠ 45 + T → hw_up (hw_up σ (45 + T) RC.length (en c)) (30 + T) 3 (nI (RC.length + 1)) x = σ x := fun x h1 h2 => by rw [up_row _ _ _ _ h1, up_row _ _ _ _ h2]
    have r3 : ∀ k, k ≠ 3 → hw_up (hw_up σ (45 + T) RC.length (en c)) (30 + T) 3 (nI (RC.length + 1)) (30 + T) k = σ (30 + T) k := fun k hk => by rw [up_self, upd_n _ _ hk, up_row _ _ _ _ (by omega)]
    refine ⟨TK_keep H.tk (r 13 (by omega) (by omega)) (r 12 (by omega) (by omega)) rfl (fun _ _ _ => rfl), ?_, ?_, H.k7, ?_, ?_, ?_, H.n7, H.s7, H.a7, H.h7, H.w7, ?_, H.ft, H.f2⟩
    · rw [r 13 (by omega) (by omega)]; exact H.c2
    · rw [r3 0 (by decide)]; exact H.k6
    · rw [up_self, upd_s]; rfl
    · rw [up_row _ _ _ _ (by omega), up_self]
      show upd (σ (45 + T)) RC.length (en c) (RC.map en).length = en c ∧ stk (upd (σ (45 + T)) RC.length (en c)) (RC.map en)
      have l : (RC.map en).length = RC.length := List.length_map ..
      exact ⟨by rw [l, upd_s], stk_upd (by rw [l]; exact Nat.le_refl _) H.s6⟩
    · rw [r3 1 (by decide)]; exact H.a6
    · intro x h1 h2 h3; rw [r x h2 h3]; exact H.fs x h1 h2 h3
/-! the reference waits with a sign -/
theorem push7 {τ : hw_St} {St : List Int32} (h7 : τ 200 23 = nI St.length) (w7 : stk (τ 210) St) (c : Int32) : (hw_up (hw_up τ 210 St.length c) 200 23 (nI (St.length + 1))) 200 23 = nI (c :: St).length ∧ stk ((hw_up (hw_up τ 210 St.length c) 200 23 (nI (St.length + 1))) 210) (c :: St) := by
  refine ⟨by rw [up_self, upd_s]; rfl, ?_⟩
  rw [up_row _ _ _ _ (by decide), up_self]
  exact ⟨upd_s _ _ _, stk_upd (Nat.le_refl _) w7⟩
theorem nar0 : vp_nar .boolean 0 = 0 := by decide
theorem nar1 : vp_nar .boolean 1 = 1 := by decide
theorem nar01 {v : Int32} (h : v = 0 ∨ v = 1) : vp_nar .boolean v = v := by rcases h with rfl | rfl; exact nar0; exact nar1
theorem rk_le (c : Int32) : rk c ≤ 6 := by
  unfold rk
  repeat' split
  all_goals decide
theorem rk_pos (c : Int32) : 1 ≤ rk c := by
  unfold rk
  repeat' split
  all_goals decide
theorem rk_sg {c : Int32} (h : -9 ≤ c ∧ c ≤ -1) : rk c < 6 ∧ ¬ c = -11 ∧ ¬ c = -10 := by
  rcases signs h.1 h.2 with rfl | rfl | rfl | rfl | rfl | rfl | rfl | rfl | rfl <;> decide
theorem b305 {σ0 τ0 σ τ : hw_St} {T key B : Nat} {P W RCr : List Int32} {f t at_ : Nat} (H : PR σ0 τ0 σ τ T key B (List.reverseAux P RCr) RCr (P ++ W) f t at_) (hT : T ≤ 14) (hl : RCr.length + (P ++ W).length ≤ f) {sg : Int32} (hs : ¬ srt (τ 206) B f = 0) (hP : ∀ x, x ∈ P → ¬ x = -11 ∧ rk sg ≤ rk x) (hW : cls (rk sg) W) {a : Nat} (ha : a ≤ 8) (b : Int32) {k0 : Int32} (h01 : k0 = 0 ∨ k0 = 1) (m : Nat) : ∃ σ1 τ1 f1 t1, F_X1_step σ = some ((), σ1) ∧ B_X7_takesE_305 (L_X7_takesE_28 m) (nI a) b sg k0 (nI a) τ = L_X7_takesE_28 m (nI a) b 1 τ1 ∧ PR σ0 τ0 σ1 τ1 T key B (List.reverseAux P RCr) (List.reverseAux P RCr) (sg :: W) f1 t1 at_ ∧ f < f1 ∧ τ1 211 = upd (τ 211) a k0 := by
  have fB := TK_lt H.tk hs
  have B9 := H.tk.B9
  generalize hρ : hw_up τ 211 a k0 = ρ
  have r : ∀ x, x ≠ 211 → ρ x = τ x := fun x hx => by rw [← hρ, up_row _ _ _ _ hx]
  obtain ⟨τ2, s1, s2, s3, s4, s5, s6, s7⟩ := X7_set (τ := ρ) (rk_le sg) hW hP (show RCr.length + (P ++ W).length ≤ 96 by omega) (by rw [r 200 (by decide)]; exact H.n7) (by rw [r 209 (by decide)]; exact H.s7) (by rw [r 200 (by decide)]; exact H.h7) (by rw [r 210 (by decide)]; exact H.w7)
  have hlW : W.length < 96 := by rw [List.length_append] at hl; omega
  obtain ⟨p1, p2⟩ := push7 s4 s5 sg
  have H2 : PR σ0 τ0 σ (hw_up (hw_up τ2 210 W.length sg) 200 23 (nI (W.length + 1))) T key B (List.reverseAux P RCr) (List.reverseAux P RCr) (sg :: W) f t at_ := by
    refine PR_ref H (by rw [up_self, upd_n _ _ (by decide), up_row _ _ _ _ (by decide)]; exact s2) (by rw [up_row _ _ _ _ (by decide), up_row _ _ _ _ (by decide)]; exact s3) p1 p2 (fun k h1 h2 => ?_) (fun x h1 h2 h3 h4 => ?_)
    · rw [up_self, upd_n _ _ h2, up_row _ _ _ _ (by decide), s6 k h1 h2, r 200 (by decide)]
    · rw [up_row _ _ _ _ h1, up_row _ _ _ _ h3, s7 x h1 h2, r x h4]
  have q6 : hw_up (hw_up τ2 210 W.length sg) 200 23 (nI (W.length + 1)) 206 = τ 206 := by rw [up_row _ _ _ _ (by decide), up_row _ _ _ _ (by decide), s7 206 (by decide) (by decide), r 206 (by decide)]
  obtain ⟨σ1, τ1, f1, t1, g1, g2, g3, g4, g5⟩ := PR_go H2 (by rw [q6]; exact hs) hT
  refine ⟨σ1, τ1, f1, t1, g1, ?_, g3, g4, ?_⟩
  · unfold B_X7_takesE_305
    rw [hw_gd_t (inb_nI (by omega) (by decide)), hw_nm_s, nI_clamp (by omega), nar01 h01, hρ, X7_rank, hw_bd_s, s1, hw_bd_s, s4, hw_gd_t (inb_nI (by omega) (by decide)), hw_nm_s, hw_nm_s, nI_clamp (by omega), up_row _ _ _ _ (show 200 ≠ 210 by decide), s4, show nI W.length + 1 = nI (W.length + 1) from nI_add _ 1, g2, hw_bd_s]
  · rw [g5, up_row _ _ _ _ (by decide), up_row _ _ _ _ (by decide), s7 211 (by decide) (by decide), ← hρ, up_self]
/-- the reference takes a sign -/
theorem sgn_step {σ0 τ0 σ τ : hw_St} {T key B : Nat} {P W RCr : List Int32} {f t at_ : Nat} (H : PR σ0 τ0 σ τ T key B (List.reverseAux P RCr) RCr (P ++ W) f t at_) (hT : T ≤ 14) (hl : RCr.length + (P ++ W).length ≤ f) {sg : Int32} (hsg : sgv (srt (τ 206) B f) (τ 206 f) = sg) (h0 : ¬ sg = 0) (hP : ∀ x, x ∈ P → ¬ x = -11 ∧ rk sg ≤ rk x) (hW : cls (rk sg) W) {a : Nat} (ha : a ≤ 8) (h3 : rk sg = 3 → τ 211 a = 0) (t01 : τ 211 a = 0 ∨ τ 211 a = 1) (b : Int32) (m : Nat) : ∃ σ1 τ1 f1 t1, F_X1_step σ = some ((), σ1) ∧ L_X7_takesE_28 (m + 1) (nI a) b 0 τ = L_X7_takesE_28 m (nI a) b 1 τ1 ∧ PR σ0 τ0 σ1 τ1 T key B (List.reverseAux P RCr) (List.reverseAux P RCr) (sg :: W) f1 t1 at_ ∧ f < f1 ∧ τ1 211 = upd (τ 211) a (if rk sg = 3 then 1 else if rk sg < 3 then 0 else τ 211 a) := by
  have hs3 := (sgv_ch (by rw [hsg]; exact h0)).1
  have ns : ¬ srt (τ 206) B f = 0 := by omega
  have k01 : (if rk sg = 3 then (1 : Int32) else if rk sg < 3 then 0 else τ 211 a) = 0 ∨ (if rk sg = 3 then (1 : Int32) else if rk sg < 3 then 0 else τ 211 a) = 1 := by
    split
    · exact Or.inr rfl
    · split
      · exact Or.inl rfl
      · exact t01
  obtain ⟨σ1, τ1, f1, t1, g1, g2, g3, g4, g5⟩ := b305 H hT hl ns hP hW ha b k01 m
  refine ⟨σ1, τ1, f1, t1, g1, ?_, g3, g4, g5⟩
  refine Eq.trans ?_ g2
  have n41 : ¬ τ 200 14 = 41 := fun z => by
    rw [(H.tk.s3 hs3).2.2.1] at z
    rw [z, hs3] at hsg
    exact h0 (hsg.symm.trans (by decide))
  show S_X7_takesE_28 (L_X7_takesE_28 m) (nI a) b 0 τ = _
  unfold S_X7_takesE_28 B_X7_takesE_39
  rw [if_pos rfl, if_neg (fun z => ns ((TK_m0 H.tk).mp z)), if_pos rfl, if_pos ((TK_m3 H.tk).mpr hs3), if_neg n41]
  unfold B_X7_takesE_237
  rw [X7_sgn H.tk, hw_bd_s, hsg, if_neg h0, X7_rank, hw_bd_s]
  have rp := rk_pos sg
  have rl := rk_le sg
  unfold B_X7_takesE_268 B_X7_takesE_300 B_X7_takesE_304
  have ca : (nI a).toNatClampNeg = a := nI_clamp (by omega)
  have ga : hw_inb (nI a) 10 = true := inb_nI (by omega) (by decide)
  simp only [hw_gd_t ga, X7_rank, hw_bd_s, ca]
  by_cases e3 : rk sg = 3
  · rw [e3, if_pos (show nI 3 = 3 from rfl), if_pos (h3 e3), if_pos (show nI 3 = 3 from rfl), if_pos rfl]
  · have ne : ¬ nI (rk sg) = 3 := nI_ne (b := 3) (by omega) (by decide) e3
    rw [if_neg ne, if_neg ne, if_neg e3]
    by_cases e2 : rk sg < 3
    · rw [if_pos (show nI (rk sg) ≤ 3 from nI_le (b := 3) (by omega) (by decide)), if_pos e2]
    · rw [if_neg (show ¬ nI (rk sg) ≤ 3 from iNle.mpr (nI_lt (a := 3) (by omega) (by omega))), if_neg e2]
      rcases t01 with z | z
      · rw [if_pos z, z]
      · rw [if_neg (by rw [z]; decide), z]
