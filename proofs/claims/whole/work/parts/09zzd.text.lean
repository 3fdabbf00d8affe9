/-! a text kept -/
theorem stk_en {g h : Nat → Int32} : ∀ (RC : List Int32), stk g (RC.map en) → stk h RC → ∀ j, j < RC.length → g j = en (h j)
  | [], _, _, j, hj => absurd hj (by simp)
  | x :: R, s1, s2, j, hj => by
    have e1 : g (R.map en).length = en x := s1.1
    rw [List.length_map] at e1
    by_cases q : j = R.length
    · rw [q, e1, show h R.length = x from s2.1]
    · exact stk_en R s1.2 s2.2 j (by simp only [List.length_cons] at hj; omega)
def cpT (T len : Nat) (c : Nat → Int32) (k : Nat) (M : Nat → Int32) : Nat → Int32 := fun q => if 99 + 96 * T + k ≤ q ∧ q < 99 + 96 * T + len then c (q - (99 + 96 * T)) else M q
theorem tx_loop {T len : Nat} (hT : T < 14) (hl : len ≤ 96) {τ : hw_St} (h20 : τ 200 20 = nI len) : ∀ (d k n : Nat) (M : Nat → Int32), k + d = len → d < n → M 4 = nI T → L_X7_text_115 n (nI T) (nI k) (hw_upA τ 201 M) = some (nI T, hw_upA τ 201 (upd (cpT T len (τ 209) k M) 4 (nI (T + 1)))) := by
  intro d
  induction d with
  | zero =>
    intro k n M hk hn h4
    obtain ⟨n, rfl⟩ : ∃ q, n = q + 1 := ⟨n - 1, by omega⟩
    have : k = len := by omega
    subst this
    show S_X7_text_115 (L_X7_text_115 n) (nI T) (nI k) _ = _
    unfold S_X7_text_115
    rw [upA_row _ _ _ (show 200 ≠ 201 by decide), h20, if_pos (Int32.le_refl _), hw_gd_t (by decide), hw_gd_t (by decide), hw_nm_s, show ((4 : Int32).toNatClampNeg) = 4 from rfl, up_A, upA_self, h4, show nI T + 1 = nI (T + 1) from nI_add T 1, show cpT T k (τ 209) k M = M from funext (fun q => if_neg (by omega))]
  | succ d ih =>
    intro k n M hk hn h4
    obtain ⟨n, rfl⟩ : ∃ q, n = q + 1 := ⟨n - 1, by omega⟩
    have ix : (99 : Int32) + 96 * nI T + nI k = nI (99 + 96 * T + k) := by rw [show (99 : Int32) = nI 99 from rfl, show (96 : Int32) = nI 96 from rfl, pk_mul, nI_add, nI_add]
    show S_X7_text_115 (L_X7_text_115 n) (nI T) (nI k) _ = _
    unfold S_X7_text_115
    rw [upA_row _ _ _ (show 200 ≠ 201 by decide), h20, if_neg (iNle.mpr (nI_lt (by omega) (by omega))), hw_gd_t (inb_nI (by omega) (by decide)), ix, hw_gd_t (inb_nI (by omega) (by decide)), hw_nm_s, nI_clamp (by omega), nI_clamp (by omega), up_A, upA_row _ _ _ (show 209 ≠ 201 by decide), show nI k + 1 = nI (k + 1) from nI_add k 1, ih (k + 1) n _ (by omega) (by omega) (by rw [upd_n _ _ (by omega)]; exact h4)]
    congr 4
    funext q
    unfold cpT upd
    by_cases e : q = 99 + 96 * T + k
    · rw [if_neg (by omega), if_pos e, if_pos (by omega), show q - (99 + 96 * T) = k by omega]
    · rw [if_neg e]
      by_cases e2 : 99 + 96 * T + (k + 1) ≤ q ∧ q < 99 + 96 * T + len
      · rw [if_pos e2, if_pos (by omega)]
      · rw [if_neg e2, if_neg (by omega)]
theorem cn_upto {N N' : Nat → Int32} (k : Nat) : ∀ T, (∀ t, t < T → N' (71 + 2 * t) = N (71 + 2 * t)) → cn N' k T = cn N k T
  | 0, _ => rfl
  | T + 1, h => by
    unfold cn
    rw [h T (by omega), cn_upto k T (fun t ht => h t (by omega))]
def txN (N : Nat → Int32) (T key len : Nat) (a : Int32) (c : Nat → Int32) : Nat → Int32 := upd (cpT T len c 0 (upd (upd N (71 + 2 * T) (nI (1000 * key + len))) (72 + 2 * T) a)) 4 (nI (T + 1))
theorem txN_o (N : Nat → Int32) {T key len : Nat} (a : Int32) (c : Nat → Int32) {j : Nat} (h1 : j ≠ 4) (h2 : j ≠ 71 + 2 * T) (h3 : j ≠ 72 + 2 * T) (h4 : ¬ (99 + 96 * T ≤ j ∧ j < 99 + 96 * T + len)) : txN N T key len a c j = N j := by
  unfold txN
  rw [upd_n _ _ h1]
  unfold cpT
  rw [if_neg (by omega), upd_n _ _ h3, upd_n _ _ h2]
theorem txN_1 (N : Nat → Int32) {T key len : Nat} (hT : T < 14) (a : Int32) (c : Nat → Int32) : txN N T key len a c (71 + 2 * T) = nI (1000 * key + len) := by
  unfold txN
  rw [upd_n _ _ (by omega)]
  unfold cpT
  rw [if_neg (by omega), upd_n _ _ (by omega), upd_s]
theorem txN_2 (N : Nat → Int32) {T key len : Nat} (hT : T < 14) (a : Int32) (c : Nat → Int32) : txN N T key len a c (72 + 2 * T) = a := by
  unfold txN
  rw [upd_n _ _ (by omega)]
  unfold cpT
  rw [if_neg (by omega), upd_s]
theorem txN_c (N : Nat → Int32) {T key len : Nat} (a : Int32) (c : Nat → Int32) {j : Nat} (hj : j < len) : txN N T key len a c (99 + 96 * T + j) = c j := by
  unfold txN
  rw [upd_n _ _ (by omega)]
  unfold cpT
  rw [if_pos (by omega), show 99 + 96 * T + j - (99 + 96 * T) = j by omega]
theorem Sc_text {σ σ' : hw_St} {N : Nat → Int32} {w h T key len : Nat} {a : Int32} {c : Nat → Int32} (H : hv_Sc σ 1 N w h T) (hT : T < 14) (hk : key < 3) (hl : len ≤ 96) (s1 : ∀ k, k ≠ 5 → σ' 1 k = σ 1 k) (s15 : σ' 1 5 = nI (T + 1)) (s7 : σ' 7 = upd (σ 7) key (nI T)) (l0 : σ' (30 + T) 0 = nI key) (l1 : σ' (30 + T) 1 = a) (l3 : σ' (30 + T) 3 = nI len) (lc : ∀ j, j < len → σ' (45 + T) j = en (c j)) (wf : wfn (nmx key) c len 0 0) (sx : ∀ x, x ≠ 0 → x ≠ 1 → x ≠ 7 → x ≠ 13 → x ≠ 30 + T → x ≠ 45 + T → σ' x = σ x) : hv_Sc σ' 1 (txN N T key len a c) w h (T + 1) := by
  have hb := H.bw
  have o : ∀ j, j ≠ 4 → j < 71 → txN N T key len a c j = N j := fun j h1 h2 => txN_o N a c h1 (by omega) (by omega) (by omega)
  have ro : ∀ i, i < 6 → e7 (rw_ (txN N T key len a c) i) (rw_ N i) := fun i hi k hk => o _ (by omega) (by omega)
  have Tm : hv_Tm (txN N T key len a c) T key len := by
    refine ⟨hk, hl, txN_1 N hT a c, ?_⟩
    exact wfn_cg len 0 0 (fun j _ hj => txN_c N a c (by omega)) wf
  refine ⟨hb, H.bh, by omega, ?_, ?_, ?_, ?_, ?_, ?_, ?_, ?_, s15, ?_, ?_, ?_, ?_, ?_, ?_⟩
  · rw [o _ (by omega) (by omega)]; exact H.n1
  · rw [o _ (by omega) (by omega)]; exact H.n2
  · unfold txN; rw [upd_s]
  · rw [o _ (by omega) (by omega)]; exact H.n3
  · rw [o _ (by omega) (by omega), s1 _ (by decide)]; exact H.s9
  · rw [s1 _ (by decide)]; exact H.s6
  · rw [s1 _ (by decide)]; exact H.s7
  · rw [o _ (by omega) (by omega), s1 _ (by decide)]; exact H.s8
  · intro k hk'; rw [o _ (by omega) (by omega), sx _ (by omega) (by omega) (by omega) (by omega) (by omega) (by omega)]; exact H.wd k hk'
  · intro k hk'; rw [o _ (by omega) (by omega)]; exact H.wr k hk'
  · intro i hi; exact W_cg (ro i (by omega)) (H.ww i hi)
  · intro i hi k hk'; rw [ro i (by omega) k hk', sx _ (by omega) (by omega) (by omega) (by omega) (by omega) (by omega)]; exact H.wi i hi k hk'
  · intro k hk'
    show σ' 7 k = nwv (if txN N T key len a c (71 + 2 * T) / 1000 = nI k then some T else cn (txN N T key len a c) k T)
    rw [(Tm_len Tm).2.2, s7]
    by_cases e : k = key
    · subst e; rw [upd_s, if_pos rfl]; rfl
    · rw [upd_n _ _ e, if_neg (nI_ne (by omega) (by omega) (fun z => e z.symm)), cn_upto (N := N) k T (fun t ht => txN_o N a c (by omega) (by omega) (by omega) (by omega))]
      exact H.nw k hk'
  · intro t ht
    by_cases e : t = T
    · subst e
      exact ⟨key, len, Tm, l0, by rw [l1, txN_2 N hT], l3, fun j hj => by rw [lc j hj, txN_c N a c hj]⟩
    · obtain ⟨key2, len2, ⟨m1, m2, m3, m4⟩, g2, g3, g4, g5⟩ := H.tx t (by omega)
      have o2 : ∀ j, j < 96 → txN N T key len a c (99 + 96 * t + j) = N (99 + 96 * t + j) := fun j hj => txN_o N a c (by omega) (by omega) (by omega) (by omega)
      have r1 : σ' (30 + t) = σ (30 + t) := sx _ (by omega) (by omega) (by omega) (by omega) (by omega) (by omega)
      have r2 : σ' (45 + t) = σ (45 + t) := sx _ (by omega) (by omega) (by omega) (by omega) (by omega) (by omega)
      refine ⟨key2, len2, ⟨m1, m2, by rw [txN_o N a c (by omega) (by omega) (by omega) (by omega)]; exact m3, wfn_cg len2 0 0 (fun j _ hj => o2 j (by omega)) m4⟩, by rw [r1]; exact g2, by rw [r1, txN_o N a c (by omega) (by omega) (by omega) (by omega)]; exact g3, by rw [r1]; exact g4, fun j hj => by rw [r2, o2 j (by omega)]; exact g5 j hj⟩
theorem Sc_keepT {σ σ' : hw_St} {S : Nat} {N : Nat → Int32} {w h T : Nat} (H : hv_Sc σ S N w h T) (k1 : σ' S = σ S) (k2 : σ' (S + 2) = σ (S + 2)) (k3 : σ' (S + 6) = σ (S + 6)) (k4 : ∀ i, i < 6 → σ' (12 + 6 * S + i) = σ (12 + 6 * S + i)) (k5 : ∀ t, t < T → σ' (30 + t) = σ (30 + t) ∧ σ' (45 + t) = σ (45 + t)) : hv_Sc σ' S N w h T := by
  refine ⟨H.bw, H.bh, H.bT, H.n1, H.n2, H.n4, H.n3, ?_, ?_, ?_, ?_, ?_, ?_, H.wr, H.ww, fun i hi => ?_, ?_, ?_⟩
  · rw [k1]; exact H.s9
  · rw [k1]; exact H.s6
  · rw [k1]; exact H.s7
  · rw [k1]; exact H.s8
  · rw [k1]; exact H.s5
  · rw [k2]; exact H.wd
  · rw [k4 i (Nat.lt_of_lt_of_le hi H.bw)]; exact H.wi i hi
  · rw [k3]; exact H.nw
  · intro t ht
    obtain ⟨key, len, g1, g2, g3, g4, g5⟩ := H.tx t ht
    obtain ⟨r1, r2⟩ := k5 t ht
    exact ⟨key, len, g1, by rw [r1]; exact g2, by rw [r1]; exact g3, by rw [r1]; exact g4, fun j hj => by rw [r2]; exact g5 j hj⟩
theorem R_text {σ σ' τ τ' : hw_St} {w h T T' : Nat} (hTT : T ≤ T') (h14 : T ≤ 14) (A' : hv_Sc σ' 1 (τ' 201) w h T') (I : hv_Im σ τ T) (B : hv_Bo σ) (E : hv_Re σ τ) (sx : ∀ x, x ≠ 0 → x ≠ 1 → x ≠ 7 → x ≠ 13 → x ≠ 30 + T → x ≠ 45 + T → σ' x = σ x) (s0 : ∀ k, k ≠ 6 → σ' 0 k = σ 0 k) (s6 : σ' 0 6 = 0) (tx : ∀ x, x ≠ 200 → x ≠ 201 → x ≠ 209 → x ≠ 210 → x ≠ 211 → τ' x = τ x) (t3 : τ' 200 3 = τ 200 3) (t36 : τ' 200 36 = τ 200 36) (t10 : τ' 200 10 = 0) : hv_R σ' τ' := by
  refine ⟨w, h, T', A', ?_, ?_, ?_, ?_, fun i hi => ?_, fun i hi => ?_, ?_⟩
  · rcases I with ⟨i1, i2⟩ | ⟨i1, i2, w2, h2, T2, i3, i4⟩
    · exact Or.inl ⟨by rw [s0 3 (by decide)]; exact i1, by rw [t3]; exact i2⟩
    · refine Or.inr ⟨by rw [s0 3 (by decide)]; exact i1, by rw [t3]; exact i2, w2, h2, T2, by omega, ?_⟩
      rw [tx 202 (by decide) (by decide) (by decide) (by decide) (by decide)]
      exact Sc_keepT i4 (sx _ (by omega) (by omega) (by omega) (by omega) (by omega) (by omega)) (sx _ (by omega) (by omega) (by omega) (by omega) (by omega) (by omega)) (sx _ (by omega) (by omega) (by omega) (by omega) (by omega) (by omega)) (fun i hi => sx _ (by omega) (by omega) (by omega) (by omega) (by omega) (by omega)) (fun t ht => ⟨sx _ (by omega) (by omega) (by omega) (by omega) (by omega) (by omega), sx _ (by omega) (by omega) (by omega) (by omega) (by omega) (by omega)⟩)
  · intro x g1 g2; rw [sx x (by omega) (by omega) (by omega) (by omega) (by omega) (by omega)]; exact B x g1 g2
  · exact ⟨0, by omega, by rw [s6]; rfl, by rw [t10]; rfl, fun j hj => absurd hj (by omega)⟩
  · obtain ⟨n, h1, h2, h3, h4⟩ := E.te
    exact ⟨n, h1, by rw [s0 11 (by decide)]; exact h2, by rw [t36]; exact h3, by rw [sx 16 (by omega) (by omega) (by omega) (by omega) (by omega) (by omega), tx 222 (by decide) (by decide) (by decide) (by decide) (by decide)]; exact h4⟩
  · obtain ⟨e1, e2, e3, e4⟩ := E.sh i hi
    have q4 := tx 214 (by decide) (by decide) (by decide) (by decide) (by decide)
    have q5 := tx 215 (by decide) (by decide) (by decide) (by decide) (by decide)
    have q6 := tx 216 (by decide) (by decide) (by decide) (by decide) (by decide)
    refine ⟨?_, ?_, ?_, ?_⟩
    · rw [sx _ (by omega) (by omega) (by omega) (by omega) (by omega) (by omega), q4]; exact e1
    · rw [q4]; exact e2
    · rw [sx _ (by omega) (by omega) (by omega) (by omega) (by omega) (by omega), q5]; exact e3
    · rw [sx _ (by omega) (by omega) (by omega) (by omega) (by omega) (by omega), q6]; exact e4
  · have q7 := tx 217 (by decide) (by decide) (by decide) (by decide) (by decide)
    have q8 := tx 218 (by decide) (by decide) (by decide) (by decide) (by decide)
    have q9 := tx 219 (by decide) (by decide) (by decide) (by decide) (by decide)
    have q0 := tx 220 (by decide) (by decide) (by decide) (by decide) (by decide)
    exact sl_oth (E.sl i hi) (sx _ (by omega) (by omega) (by omega) (by omega) (by omega) (by omega)) (sx _ (by omega) (by omega) (by omega) (by omega) (by omega) (by omega)) (sx _ (by omega) (by omega) (by omega) (by omega) (by omega) (by omega)) (sx _ (by omega) (by omega) (by omega) (by omega) (by omega) (by omega)) (by rw [q7]) (by rw [q8]) (by rw [q9]) (fun j hj => by rw [q0])
  · exact ⟨by rw [tx 207 (by decide) (by decide) (by decide) (by decide) (by decide)]; exact E.co.1, by rw [tx 208 (by decide) (by decide) (by decide) (by decide) (by decide)]; exact E.co.2⟩
theorem sim_text : hw_sim0 hv_R F_X6_text F_X7_text := by
  intro σ τ HR
  obtain ⟨w, h, T, A, I, B, E⟩ := HR
  obtain ⟨n, b1, b2, b3, b4⟩ := E.ta
  have hT := A.bT
  obtain ⟨r, σ', τ', e6, e7, e8⟩ := text_parse (σ := σ) (τ := τ) hT b1 b3 b4 E.co
  have m6 : F_X6_text σ = (hw_nm (hw_up σ' 0 6 (0)) (fun s7 => if r = 0 then (some (((-100) - (s7 13 6)), s7)) else (if (s7 1 5) < (14) then (hw_gd (hw_inb (s7 (30 + T) 0) 3) (hw_nm (hw_up s7 7 (s7 (30 + T) 0).toNatClampNeg (s7 1 5)) (fun s10 => hw_nm (hw_up s10 1 5 ((s10 1 5) + (1))) (fun s12 => some (((s12 1 5) - (1)), s12))))) else (some ((-1000000003), s7))))) := by
    unfold F_X6_text B_X6_text_32
    have w15 : 0 ≤ nI T ∧ nI T ≤ 14 := ⟨nI_pos' (by omega), nI_le (b := 14) hT (by decide)⟩
    rw [X6_isWithin, hw_bd_s, A.s5, if_pos w15, if_neg (by decide), hw_gd_t (inb_nI (by omega) (by decide)), nI_clamp (by omega), el9 T (by omega), hw_gd_t (fl_law T (by omega)).2.2.2, b2, e6, hw_bd_s]
  rw [m6, e7, hw_nm_s]
  unfold B_X7_text_33
  rw [hw_nm_s (hw_up τ' 200 10 0)]
  generalize hσ7 : hw_up σ' 0 6 0 = σ7
  have x0 : ∀ k, k ≠ 6 → σ7 0 k = σ' 0 k := fun k hk => by rw [← hσ7, up_self, upd_n _ _ hk]
  have x6 : σ7 0 6 = 0 := by rw [← hσ7, up_self, upd_s]
  have xx : ∀ x, x ≠ 0 → σ7 x = σ' x := fun x hx => by rw [← hσ7, up_row _ _ _ _ hx]
  generalize hτ7 : hw_up τ' 200 10 0 = τ7
  have y0 : ∀ k, k ≠ 10 → τ7 200 k = τ' 200 k := fun k hk => by rw [← hτ7, up_self, upd_n _ _ hk]
  have y10 : τ7 200 10 = 0 := by rw [← hτ7, up_self, upd_s]
  have yx : ∀ x, x ≠ 200 → τ7 x = τ' x := fun x hx => by rw [← hτ7, up_row _ _ _ _ hx]
  -- nothing kept
  have nothing : (∀ x, x ≠ 13 → x ≠ 30 + T → x ≠ 45 + T → σ' x = σ x) → (∀ x, x ≠ 200 → x ≠ 209 → x ≠ 210 → x ≠ 211 → τ' x = τ x) → (∀ k, (k < 11 ∨ 23 < k ∨ 17 ≤ k ∧ k ≤ 19 ∨ k = 22) → τ' 200 k = τ 200 k) → hv_R σ7 τ7 := fun fs ft f2 => by
    refine R_text (w := w) (h := h) (T := T) (Nat.le_refl T) hT ?_ I B E (fun x h1 h2 h3 h4 h5 h6 => by rw [xx x h1, fs x h4 h5 h6]) (fun k hk => by rw [x0 k hk, fs 0 (by omega) (by omega) (by omega)]) x6 (fun x h1 h2 h3 h4 h5 => by rw [yx x h1, ft x h1 h3 h4 h5]) (by rw [y0 3 (by decide), f2 3 (by omega)]) (by rw [y0 36 (by decide), f2 36 (by omega)]) y10
    rw [yx 201 (by decide), ft 201 (by decide) (by decide) (by decide) (by decide)]
    have k : ∀ x, x ≠ 0 → x ≠ 13 → x ≠ 30 + T → x ≠ 45 + T → σ7 x = σ x := fun x h1 h2 h3 h4 => by rw [xx x h1, fs x h2 h3 h4]
    exact Sc_keepT A (k _ (by omega) (by omega) (by omega) (by omega)) (k _ (by omega) (by omega) (by omega) (by omega)) (k _ (by omega) (by omega) (by omega) (by omega)) (fun i hi => k _ (by omega) (by omega) (by omega) (by omega)) (fun t ht => ⟨k _ (by omega) (by omega) (by omega) (by omega), k _ (by omega) (by omega) (by omega) (by omega)⟩)
  rcases e8 with ⟨hr, ⟨f, g1, g2, g3⟩, fs, ft, f2⟩ | ⟨hr, key, RC, f, t, at_, hk, H, hl, wf⟩
  · rw [hr, if_pos rfl, if_pos rfl, xx 13 (by decide), g2, y0 12 (by decide), g3]
    exact ⟨_, σ7, τ7, rfl, rfl, nothing fs ft f2⟩
  · have n10 : ¬ (1 : Int32) = 0 := by decide
    have c15 : σ7 1 5 = nI T := by rw [xx 1 (by decide), H.fs 1 (by omega) (by omega) (by omega)]; exact A.s5
    have d4 : τ7 201 4 = nI T := by rw [yx 201 (by decide), H.ft 201 (by decide) (by decide) (by decide) (by decide)]; exact A.n4
    have g4 : hw_inb 4 1443 = true := by decide
    rw [hr, if_neg n10, if_neg n10, c15, hw_gd_t g4, show ((4 : Int32).toNatClampNeg) = 4 from rfl, d4]
    by_cases h14 : T = 14
    · subst h14
      rw [if_neg (by decide), if_pos (by decide)]
      exact ⟨_, σ7, τ7, rfl, rfl, nothing H.fs H.ft H.f2⟩
    · have hlt : T < 14 := by omega
      have c0 : σ7 (30 + T) 0 = nI key := by rw [xx _ (by omega)]; exact H.k6
      have ix1 : (71 : Int32) + 2 * nI T = nI (71 + 2 * T) := ixT
      have u16 : τ7 200 16 = nI key := by rw [y0 16 (by decide)]; exact H.k7
      have u20 : τ7 200 20 = nI RC.length := by rw [y0 20 (by decide)]; exact H.n7
      have u21 : τ7 200 21 = nI at_ := by rw [y0 21 (by decide)]; exact H.a7
      have e1000 : (1000 : Int32) * nI key + nI RC.length = nI (1000 * key + RC.length) := by rw [show (1000 : Int32) = nI 1000 from rfl, pk_mul, nI_add]
      have N7 : τ7 201 = τ 201 := by rw [yx 201 (by decide), H.ft 201 (by decide) (by decide) (by decide) (by decide)]
      refine ⟨nI T, hw_up (hw_up σ7 7 key (nI T)) 1 5 (nI (T + 1)), hw_upA τ7 201 (txN (τ 201) T key RC.length (nI at_) (τ7 209)), ?_, ?_, ?_⟩
      · rw [if_pos (show nI T < 14 from nI_lt (b := 14) hlt (by decide)), c0, hw_gd_t (inb_nI hk (by decide)), nI_clamp (by omega), hw_nm_s, hw_nm_s, up_row _ _ _ _ (show 1 ≠ 7 by decide), c15, show nI T + 1 = nI (T + 1) from nI_add T 1, up_self, upd_s, nI_pred]
      · have nt : ¬ nI T = 14 := nI_ne (b := 14) (by omega) (by decide) (by omega)
        have lp := tx_loop hlt hl u20 RC.length 0 130 (upd (upd (τ 201) (71 + 2 * T) (nI (1000 * key + RC.length))) (72 + 2 * T) (nI at_)) (by omega) (by omega) (by rw [upd_n _ _ (by omega), upd_n _ _ (by omega)]; exact A.n4)
        rw [if_neg nt, hw_gd_t (by decide), hw_nm_s, ix1, hw_gd_t (inb_nI (by omega) (by decide)), hw_nm_s, nI_clamp (by omega), u16, u20, e1000, up_upA τ7 201, show nI (71 + 2 * T) + 1 = nI (71 + 2 * T + 1) from nI_add _ 1, hw_gd_t (inb_nI (by omega) (by decide)), hw_nm_s, nI_clamp (by omega), upA_row _ _ _ (show 200 ≠ 201 by decide), u21, up_A, N7, show 71 + 2 * T + 1 = 72 + 2 * T by omega]
        exact lp
      · have q209 : τ7 209 = τ' 209 := yx 209 (by decide)
        have se := stk_en RC H.s6 H.s7
        have r7 : ∀ x, x ≠ 7 → x ≠ 1 → hw_up (hw_up σ7 7 key (nI T)) 1 5 (nI (T + 1)) x = σ7 x := fun x h1 h2 => by rw [up_row _ _ _ _ h2, up_row _ _ _ _ h1]
        have s71 : σ7 1 = σ 1 := by rw [xx 1 (by decide), H.fs 1 (by omega) (by omega) (by omega)]
        have s77 : σ7 7 = σ 7 := by rw [xx 7 (by decide), H.fs 7 (by omega) (by omega) (by omega)]
        have sxx : ∀ x, x ≠ 0 → x ≠ 1 → x ≠ 7 → x ≠ 13 → x ≠ 30 + T → x ≠ 45 + T → hw_up (hw_up σ7 7 key (nI T)) 1 5 (nI (T + 1)) x = σ x := fun x h0 h1 h7 h13 h30 h45 => by rw [r7 x h7 h1, xx x h0, H.fs x h13 h30 h45]
        refine R_text (w := w) (h := h) (T := T) (T' := T + 1) (by omega) hT ?_ I B E sxx (fun k hk' => by rw [r7 0 (by omega) (by omega), x0 k hk', H.fs 0 (by omega) (by omega) (by omega)]) (by rw [r7 0 (by omega) (by omega)]; exact x6) (fun x h1 h2 h3 h4 h5 => by rw [upA_row _ _ _ h2, yx x h1, H.ft x h1 h3 h4 h5]) (by rw [upA_row _ _ _ (by decide), y0 3 (by decide), H.f2 3 (by omega)]) (by rw [upA_row _ _ _ (by decide), y0 36 (by decide), H.f2 36 (by omega)]) (by rw [upA_row _ _ _ (by decide)]; exact y10)
        rw [upA_self]
        refine Sc_text A hlt hk hl (fun k hk' => by rw [up_self, upd_n _ _ hk', up_row _ _ _ _ (by decide), s71]) (by rw [up_self, upd_s]) (by rw [up_row _ _ _ _ (by decide), up_self, s77]) (by rw [r7 _ (by omega) (by omega)]; exact c0) (by rw [r7 _ (by omega) (by omega), xx _ (by omega)]; exact H.a6) (by rw [r7 _ (by omega) (by omega), xx _ (by omega)]; exact H.n6) (fun j hj => by rw [r7 _ (by omega) (by omega), xx _ (by omega), q209]; exact se j hj) ?_ sxx
        rw [q209]
        have := wfr_n RC 1 0 wf H.s7 rfl
        rw [Nat.add_zero] at this
        exact this
