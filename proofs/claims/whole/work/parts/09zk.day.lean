/-! day, life -/
theorem bec11' {σ : hw_St} {y : Nat} (hy : hw_gH y 5 = true) (hne : y ≠ 11) (hb : σ y 5 = 0 ∨ σ y 5 = 1) : ∃ f', F_X5_become 11 y σ = some ((), nf σ 11 (σ 10) f') ∧ e7 f' (σ y) := by
  have := bec11 hy hne (σ 10) (σ 11) hb
  rw [← nf_s σ (by decide)] at this
  exact this
theorem dayv_cg {N : Nat → Int32} {T h : Nat} {f g : Nat → Int32} (e : e7 f g) (v : Int32) : dayv N T h f v = dayv N T h g v := by
  unfold dayv
  rw [dC_cg e, dM_cg e, dF_cg e 24 6 (by decide)]
theorem sim_day : hw_sim2 hv_R F_X6_day F_X7_day := by
  intro a b σ τ HR
  have HR' := HR
  obtain ⟨w, h, T, A, I, B, E⟩ := HR
  have hb6 := A.bw
  by_cases ha : ∃ i, i < w ∧ a = nI i
  · obtain ⟨i, hi, rfl⟩ := ha
    have h6 : i < 6 := by omega
    have hv := A.ww i hi
    by_cases hc : 0 ≤ b ∧ b ≤ 2
    · obtain ⟨f, e1, e2⟩ := bec11' (σ := σ) (elS' i h6).1.2 (by omega) (B _ (by omega) (by omega))
      have e3 : e7 f (rw_ (τ 201) i) := fun k hk => by rw [e2 k hk]; exact W_rows A hi k hk
      obtain ⟨g', e4⟩ := X6_day A (W_cg e3 hv) b (σ 10)
      obtain ⟨τ', f1, f2, f3, f4, f5, f6, -⟩ := X7_day h6 (Sc_Mc A) A.bh A.n2 hv
      refine ⟨dayv (τ 201) T h (rw_ (τ 201) i) b, nf σ 11 g' (dF (τ 201) T h f 24), τ', ?_, ?_, R_kq HR' f2 f3 (fun t h1 h2 => nf_o _ g' _ h2 h1)⟩
      · unfold F_X6_day
        rw [wireAt_yes (Or.inl rfl) A hi, hw_bd_s, if_neg (by omega), X6_isWithin, hw_bd_s, if_pos hc, if_neg (by decide), show 12 + 6 * 1 + i = 18 + i from rfl, e1, hw_bd_s, e4, hw_bd_s, dayv_cg e3]
      · unfold F_X7_day
        rw [isWire_yes A hi, hw_bd_s, if_neg (by decide), X7_in, hw_bd_s, if_pos hc, if_neg (by decide), f1, hw_bd_s, f4, f5, f6]
        unfold dayv
        split
        · rfl
        · split <;> rfl
    · refine ⟨-1000000001, σ, τ, ?_, ?_, HR'⟩
      · unfold F_X6_day
        rw [wireAt_yes (Or.inl rfl) A hi, hw_bd_s, if_neg (by omega), X6_isWithin, hw_bd_s, if_neg hc, if_pos rfl]
      · unfold F_X7_day
        rw [isWire_yes A hi, hw_bd_s, if_neg (by decide), X7_in, hw_bd_s, if_neg hc, if_pos rfl]
  · refine ⟨-1000000001, σ, τ, ?_, ?_, HR'⟩
    · unfold F_X6_day; rw [wireAt_no (Or.inl rfl) A ha, hw_bd_s, if_pos rfl]
    · unfold F_X7_day; rw [isWire_no A ha, hw_bd_s, if_pos rfl]
theorem lf_77 {i : Nat} (hi : i < 6) {N : Nat → Int32} {τ : hw_St} (h4 : ∀ k, k < 7 → τ 204 k = N (29 + 7 * i + k)) (o : onI i N (τ 201)) (l : Int32) : B_X7_life_77 (nI i) l τ = some (if 500 < l then -1000000005 else l, hw_upA τ 201 N) := by
  unfold B_X7_life_77
  rw [X7_puts hi h4 o, hw_bd_s]
  split <;> rfl
theorem lf_loop {σ τ : hw_St} {N : Nat → Int32} {w h T : Nat} (A : hv_Sc σ 1 N w h T) {i : Nat} (hi : i < w) {f : Nat → Int32} (e : e7 f (rw_ N i)) (b : Int32) : ∀ (d j n : Nat) (g : Nat → Int32) (τ' : hw_St), j + d = 500 → d + 1 < n → onI i N (τ' 201) → rw_ (τ' 201) i = dF N T h (rw_ N i) j → (∀ k, k < 7 → τ' 204 k = N (29 + 7 * i + k)) → kq τ τ' → ∃ r g' f' τ'', L_X6_life_37 n b (nI j) (nf σ 11 g (dF N T h f j)) = some (r, nf σ 11 g' f') ∧ L_X7_life_28 n (nI i) b (nI j) τ' = some (r, τ'') ∧ kq τ τ'' ∧ τ'' 201 = N := by
  have hb6 := A.bw
  have h6 : i < 6 := by omega
  have hv := A.ww i hi
  have hvf : hv_W f := W_cg e hv
  have ed : ∀ j, e7 (dF N T h f j) (dF N T h (rw_ N i) j) := dF_cg e
  intro d
  induction d with
  | zero =>
    intro j n g τ' hj hn o r h4 kk
    obtain ⟨n, rfl⟩ : ∃ q, n = q + 1 + 1 := ⟨n - 2, by omega⟩
    have : j = 500 := by omega
    subst this
    have c6 : L_X6_life_37 (n + 1 + 1) b (nI 500) (nf σ 11 g (dF N T h f 500)) = (if dF N T h (rw_ N i) 500 6 < b then (some ((-1000000005), nf σ 11 g (dF N T h f 500))) else (some ((500), nf σ 11 g (dF N T h f 500)))) := by
      show S_X6_life_37 (L_X6_life_37 (n + 1)) b (nI 500) _ = _
      unfold S_X6_life_37
      rw [if_pos (by decide), nf_x, ed 500 6 (by decide)]
    have c7 : L_X7_life_28 (n + 1 + 1) (nI i) b (nI 500) τ' = (if b ≤ dF N T h (rw_ N i) 500 6 then some (500, hw_upA τ' 201 N) else (hw_bd (F_X7_ticks (nI i) (dW N h 500) τ') (fun r15 s16 => L_X7_life_28 (n + 1) (nI i) b (nI 501) s16))) := by
      show S_X7_life_28 (L_X7_life_28 (n + 1)) (nI i) b (nI 500) _ = _
      unfold S_X7_life_28
      have e0 : (5 : Int32) + hw_rem (τ' 201 (2 : Int32).toNatClampNeg + nI 500) 24 = nI (5 + (h + 500) % 24) := ixH A.bh (by omega) (by rw [onI_ag h6 o 2 (by omega)]; exact A.n2)
      rw [if_neg (by decide), show F_X7_of (nI i) 6 τ' = _ from X7_of h6 (k := 6) (by decide) τ', hw_bd_s, r, lf_77 h6 h4 o, if_neg (show ¬ (500 : Int32) < nI 500 by decide), hw_gd_t (by decide), e0, hw_gd_t (inb_nI (by omega) (by decide)), nI_clamp (by omega), onI_ag h6 o _ (by omega), show nI 500 + 1 = nI 501 from nI_add 500 1]
      rfl
    by_cases q : dF N T h (rw_ N i) 500 6 < b
    · obtain ⟨N', a1, b1, t1, o1, -⟩ := tk7 h6 (Sc_Mc A) o (by rw [r]; exact dF_W hv 500) (dW N h 500)
      refine ⟨-1000000005, g, _, hw_upA (mf τ' N' a1 b1) 201 N, by rw [c6, if_pos q], ?_, kq_tr (kq_tr kk (kq_mf _ _ _ _)) (kq_upA _ _ (by omega)), upA_self _ _ _⟩
      rw [c7, if_neg (iNle.mpr q), t1, hw_bd_s]
      show S_X7_life_28 (L_X7_life_28 n) (nI i) b (nI 501) _ = _
      unfold S_X7_life_28
      rw [if_pos (by decide), lf_77 (N := N) h6 (by rw [mf_o _ _ _ _ (by decide) (by decide) (by decide)]; exact h4) (by rw [mf_201]; exact o1), if_pos (by decide)]
    · refine ⟨500, g, _, hw_upA τ' 201 N, by rw [c6, if_neg q], ?_, kq_tr kk (kq_upA _ _ (by omega)), upA_self _ _ _⟩
      rw [c7, if_pos (iNlt.mp q)]
  | succ d ih =>
    intro j n g τ' hj hn o r h4 kk
    obtain ⟨n, rfl⟩ : ∃ q, n = q + 1 := ⟨n - 1, by omega⟩
    have c6 : L_X6_life_37 (n + 1) b (nI j) (nf σ 11 g (dF N T h f j)) = (if dF N T h (rw_ N i) j 6 < b then (hw_bd (F_X2_blowOn 1 11 (dW N h j) (nf σ 11 g (dF N T h f j))) (fun r14 s15 => L_X6_life_37 n b (nI (j + 1)) s15)) else (some (nI j, nf σ 11 g (dF N T h f j)))) := by
      show S_X6_life_37 (L_X6_life_37 n) b (nI j) _ = _
      unfold S_X6_life_37
      rw [if_neg (show ¬ (500 : Int32) ≤ nI j from iNle.mpr (nI_lt (b := 500) (by omega) (by decide))), nf_x, ed j 6 (by decide), wind6 (Or.inl rfl) A (by omega), hw_bd_s, show nI j + 1 = nI (j + 1) from nI_add j 1]
    have c7 : L_X7_life_28 (n + 1) (nI i) b (nI j) τ' = (if b ≤ dF N T h (rw_ N i) j 6 then some (nI j, hw_upA τ' 201 N) else (hw_bd (F_X7_ticks (nI i) (dW N h j) τ') (fun r15 s16 => L_X7_life_28 n (nI i) b (nI (j + 1)) s16))) := by
      show S_X7_life_28 (L_X7_life_28 n) (nI i) b (nI j) _ = _
      unfold S_X7_life_28
      have nl : ¬ (500 : Int32) < nI j := iNlt.mpr (nI_le (b := 500) (by omega) (by decide))
      have e0 : (5 : Int32) + hw_rem (τ' 201 (2 : Int32).toNatClampNeg + nI j) 24 = nI (5 + (h + j) % 24) := ixH A.bh (by omega) (by rw [onI_ag h6 o 2 (by omega)]; exact A.n2)
      rw [if_neg nl, show F_X7_of (nI i) 6 τ' = _ from X7_of h6 (k := 6) (by decide) τ', hw_bd_s, r, lf_77 h6 h4 o, if_neg nl, hw_gd_t (by decide), e0, hw_gd_t (inb_nI (by omega) (by decide)), nI_clamp (by omega), onI_ag h6 o _ (by omega), show nI j + 1 = nI (j + 1) from nI_add j 1]
      rfl
    by_cases q : dF N T h (rw_ N i) j 6 < b
    · obtain ⟨N', a1, b1, t1, o1, r1⟩ := tk7 h6 (Sc_Mc A) o (by rw [r]; exact dF_W hv j) (dW N h j)
      rw [r] at r1
      obtain ⟨g1, t6⟩ := th6 (Or.inl rfl) (Sc_Lc A) (dF_W (N := N) (T := T) (h := h) hvf j) (dW N h j) g
      obtain ⟨r', g', f', τ'', k1, k2, k3, k4⟩ := ih (j + 1) n g1 (mf τ' N' a1 b1) (by omega) (by omega) (by rw [mf_201]; exact o1) (by rw [mf_201]; exact r1) (by rw [mf_o _ _ _ _ (by decide) (by decide) (by decide)]; exact h4) (kq_tr kk (kq_mf _ _ _ _))
      refine ⟨r', g', f', τ'', ?_, ?_, k3, k4⟩
      · rw [c6, if_pos q, t6, hw_bd_s]; exact k1
      · rw [c7, if_neg (iNle.mpr q), t1, hw_bd_s]; exact k2
    · refine ⟨nI j, g, _, hw_upA τ' 201 N, by rw [c6, if_neg q], ?_, kq_tr kk (kq_upA _ _ (by omega)), upA_self _ _ _⟩
      rw [c7, if_pos (iNlt.mp q)]
theorem sim_life : hw_sim2 hv_R F_X6_life F_X7_life := by
  intro a b σ τ HR
  have HR' := HR
  obtain ⟨w, h, T, A, I, B, E⟩ := HR
  have hb6 := A.bw
  by_cases ha : ∃ i, i < w ∧ a = nI i
  · obtain ⟨i, hi, rfl⟩ := ha
    have h6 : i < 6 := by omega
    have hv := A.ww i hi
    by_cases hc : 0 ≤ b ∧ b ≤ 99999
    · obtain ⟨f, e1, e2⟩ := bec11' (σ := σ) (elS' i h6).1.2 (by omega) (B _ (by omega) (by omega))
      have e3 : e7 f (rw_ (τ 201) i) := fun k hk => by rw [e2 k hk]; exact W_rows A hi k hk
      obtain ⟨g, e4, e5⟩ := X7_thinks h6 τ
      have q201 : hw_upA τ 204 g 201 = τ 201 := upA_row _ _ _ (by decide)
      obtain ⟨r, g', f', τ'', k1, k2, k3, k4⟩ := lf_loop (τ := τ) A hi e3 b 500 0 600 (σ 10) (hw_upA τ 204 g) (by omega) (by omega) (by rw [q201]; exact fun _ _ => rfl) (by rw [q201]; rfl) (by rw [upA_self]; exact e5) (kq_upA _ _ (by omega))
      refine ⟨r, nf σ 11 g' f', τ'', ?_, ?_, R_kq HR' k3 k4 (fun t h1 h2 => nf_o _ g' f' h2 h1)⟩
      · unfold F_X6_life
        rw [wireAt_yes (Or.inl rfl) A hi, hw_bd_s, if_neg (by omega), X6_isWithin, hw_bd_s, if_pos hc, if_neg (by decide), show 12 + 6 * 1 + i = 18 + i from rfl, e1, hw_bd_s]
        exact k1
      · unfold F_X7_life
        rw [isWire_yes A hi, hw_bd_s, if_neg (by decide), X7_in, hw_bd_s, if_pos hc, if_neg (by decide), e4, hw_bd_s]
        exact k2
    · refine ⟨-1000000001, σ, τ, ?_, ?_, HR'⟩
      · unfold F_X6_life
        rw [wireAt_yes (Or.inl rfl) A hi, hw_bd_s, if_neg (by omega), X6_isWithin, hw_bd_s, if_neg hc, if_pos rfl]
      · unfold F_X7_life
        rw [isWire_yes A hi, hw_bd_s, if_neg (by decide), X7_in, hw_bd_s, if_neg hc, if_pos rfl]
  · refine ⟨-1000000001, σ, τ, ?_, ?_, HR'⟩
    · unfold F_X6_life; rw [wireAt_no (Or.inl rfl) A ha, hw_bd_s, if_pos rfl]
    · unfold F_X7_life; rw [isWire_no A ha, hw_bd_s, if_pos rfl]
