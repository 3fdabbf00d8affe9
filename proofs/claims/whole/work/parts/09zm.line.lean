/-! line -/
def wvl (a : Int32) (j : Nat) : Int32 := if a < 2 then nI j else 99 - nI j
theorem wvl_ne (a : Int32) {j : Nat} (hj : j < 100) : ¬ wvl a j = -1000000005 := by
  intro z
  have z' := (iEq _ _).mp z
  rw [show (-1000000005 : Int32).toInt = -1000000005 from rfl] at z'
  unfold wvl at z'
  by_cases q : a < 2
  · rw [if_pos q, nI_toInt (by omega)] at z'; omega
  · rw [if_neg q, show (99 : Int32) = nI 99 from rfl, pk_sub_toInt (by decide) (by omega)] at z'; omega
def lS (N : Nat → Int32) (T : Nat) (a : Int32) : Nat → Nat → (Nat → Int32) → Int32 → Int32 → Int32 × Int32
  | 0, _, _, l3, l4 => (l3, l4)
  | d + 1, j, f, l3, l4 => lS N T a d (j + 1) (tkR N T f (wvl a j)) (if l3 = -1000000005 then (if tkR N T f (wvl a j) 5 = 0 then l3 else wvl a j) else l3) (if l3 = -1000000005 then l4 else (if l4 = -1000000005 then (if tkR N T f (wvl a j) 5 = 0 then wvl a j else l4) else l4))
theorem lS_1 (N : Nat → Int32) (T : Nat) (a : Int32) : ∀ (d j : Nat) (f : Nat → Int32) (l3 l4 : Int32), ¬ l3 = -1000000005 → (lS N T a d j f l3 l4).1 = l3
  | 0, _, _, _, _, _ => rfl
  | d + 1, j, f, l3, l4, h => by
    show (lS N T a d (j + 1) _ (if l3 = -1000000005 then _ else l3) _).1 = l3
    rw [if_neg h]
    exact lS_1 N T a d (j + 1) _ l3 _ h
theorem lS_2 (N : Nat → Int32) (T : Nat) (a : Int32) : ∀ (d j : Nat) (f : Nat → Int32) (l3 l4 : Int32), ¬ l3 = -1000000005 → ¬ l4 = -1000000005 → (lS N T a d j f l3 l4).2 = l4
  | 0, _, _, _, _, _, _ => rfl
  | d + 1, j, f, l3, l4, h, g => by
    show (lS N T a d (j + 1) _ (if l3 = -1000000005 then _ else l3) (if l3 = -1000000005 then l4 else (if l4 = -1000000005 then _ else l4))).2 = l4
    rw [if_neg h, if_neg h, if_neg g]
    exact lS_2 N T a d (j + 1) _ l3 l4 h g
theorem lS_cg {N : Nat → Int32} {T : Nat} {a : Int32} : ∀ (d j : Nat) (f f' : Nat → Int32) (l3 l4 : Int32), e7 f f' → lS N T a d j f l3 l4 = lS N T a d j f' l3 l4
  | 0, _, _, _, _, _, _ => rfl
  | d + 1, j, f, f', l3, l4, e => by
    have e1 := tkR_cg e N T (wvl a j)
    show lS N T a d (j + 1) (tkR N T f (wvl a j)) (if l3 = -1000000005 then (if tkR N T f (wvl a j) 5 = 0 then l3 else wvl a j) else l3) (if l3 = -1000000005 then l4 else (if l4 = -1000000005 then (if tkR N T f (wvl a j) 5 = 0 then wvl a j else l4) else l4)) = lS N T a d (j + 1) (tkR N T f' (wvl a j)) (if l3 = -1000000005 then (if tkR N T f' (wvl a j) 5 = 0 then l3 else wvl a j) else l3) (if l3 = -1000000005 then l4 else (if l4 = -1000000005 then (if tkR N T f' (wvl a j) 5 = 0 then wvl a j else l4) else l4))
    rw [e1 5 (by decide)]
    exact lS_cg d (j + 1) _ _ _ _ e1
theorem ln_7 {N : Nat → Int32} {T i : Nat} (hi : i < 6) (M : hv_Mc N T) (a : Int32) {τ : hw_St} : ∀ (d j n : Nat) (τ' : hw_St) (f : Nat → Int32) (l3 l4 : Int32), j + d = 100 → d < n → onI i N (τ' 201) → rw_ (τ' 201) i = f → hv_W f → (∀ k, k < 7 → τ' 204 k = N (29 + 7 * i + k)) → kq τ τ' → ∃ τ'', L_X7_line_50 n (nI i) a l3 l4 (nI j) τ' = some (if hw_rem a 2 = 0 then (lS N T a d j f l3 l4).1 else (lS N T a d j f l3 l4).2, τ'') ∧ kq τ τ'' ∧ τ'' 201 = N := by
  intro d
  induction d with
  | zero =>
    intro j n τ' f l3 l4 hj hn o r hv h4 kk
    obtain ⟨n, rfl⟩ : ∃ q, n = q + 1 := ⟨n - 1, by omega⟩
    have : j = 100 := by omega
    subst this
    refine ⟨hw_upA τ' 201 N, ?_, kq_tr kk (kq_upA _ _ (by omega)), upA_self _ _ _⟩
    show S_X7_line_50 (L_X7_line_50 n) (nI i) a l3 l4 (nI 100) τ' = _
    unfold S_X7_line_50
    rw [if_pos (by decide), X7_puts hi h4 o, hw_bd_s]
    split <;> rfl
  | succ d ih =>
    intro j n τ' f l3 l4 hj hn o r hv h4 kk
    obtain ⟨n, rfl⟩ : ∃ q, n = q + 1 := ⟨n - 1, by omega⟩
    obtain ⟨N', a1, b1, t1, o1, r1⟩ := tk7 hi M o (by rw [r]; exact hv) (wvl a j)
    rw [r] at t1 r1
    have w5 := (W_tk (N := N) (T := T) (wvl a j) hv).2.2.2.2.2
    obtain ⟨τ'', e1, e2, e3⟩ := ih (j + 1) n (mf τ' N' a1 b1) (tkR N T f (wvl a j)) (if l3 = -1000000005 then (if tkR N T f (wvl a j) 5 = 0 then l3 else wvl a j) else l3) (if l3 = -1000000005 then l4 else (if l4 = -1000000005 then (if tkR N T f (wvl a j) 5 = 0 then wvl a j else l4) else l4)) (by omega) (by omega) (by rw [mf_201]; exact o1) (by rw [mf_201]; exact r1) (W_tk _ hv) (by rw [mf_o _ _ _ _ (by decide) (by decide) (by decide)]; exact h4) (kq_tr kk (kq_mf _ _ _ _))
    refine ⟨τ'', ?_, e2, e3⟩
    refine Eq.trans ?_ e1
    have s0 : L_X7_line_50 (n + 1) (nI i) a l3 l4 (nI j) τ' = B_X7_line_72 (L_X7_line_50 n) (nI i) a l3 l4 (nI j) (wvl a j) τ' := by
      show S_X7_line_50 (L_X7_line_50 n) (nI i) a l3 l4 (nI j) τ' = _
      unfold S_X7_line_50 wvl
      rw [if_neg (show ¬ (100 : Int32) ≤ nI j from iNle.mpr (nI_lt (b := 100) (by omega) (by decide)))]
      by_cases q : a < 2
      · rw [if_neg (iNle.mpr q), if_pos q]
      · rw [if_pos (iNlt.mp q), if_neg q]
    rw [s0]
    unfold B_X7_line_72
    rw [t1, hw_bd_s, show F_X7_of (nI i) 5 _ = _ from X7_of hi (k := 5) (by decide) _, hw_bd_s, mf_201, r1]
    unfold B_X7_line_98 B_X7_line_123 B_X7_line_125 B_X7_line_143 B_X7_line_144
    rw [show nI j + 1 = nI (j + 1) from nI_add j 1]
    rcases w5 with z | z
    · rw [z, if_neg (show ¬ (0 : Int32) = 1 by decide)]
      by_cases q3 : l3 = -1000000005
      · simp only [if_pos q3, if_true]
      · simp only [if_neg q3, if_true]
        by_cases q4 : l4 = -1000000005
        · simp only [if_pos q4]
        · simp only [if_neg q4]
    · have n1 : ¬ (1 : Int32) = 0 := by decide
      rw [z, if_pos rfl]
      by_cases q3 : l3 = -1000000005
      · simp only [if_pos q3, if_neg n1]
      · simp only [if_neg q3, if_neg n1]
        by_cases q4 : l4 = -1000000005
        · simp only [if_pos q4]
        · simp only [if_neg q4]
theorem tl_S {σ : hw_St} {N : Nat → Int32} {w h T : Nat} (A : hv_Sc σ 1 N w h T) {a l1 : Int32} (hl : l1 = 0 ↔ a < 2) (l2 l3 : Int32) {f : Nat → Int32} (hv : hv_W f) {j : Nat} (hj : j < 100) (n : Nat) (g : Nat → Int32) : ∃ g', L_X6_thinkLine_5 (n + 1) l1 l2 l3 (nI j) (nf σ 11 g f) = (if l3 = 0 then (B_X6_thinkLine_59 (L_X6_thinkLine_5 n) l1 l2 l3 (nI j) (wvl a j) (nf σ 11 g' (tkR N T f (wvl a j)))) else (if tkR N T f (wvl a j) 5 = 0 then (some (wvl a j, nf σ 11 g' (tkR N T f (wvl a j)))) else (B_X6_thinkLine_59 (L_X6_thinkLine_5 n) l1 l2 l3 (nI j) (wvl a j) (nf σ 11 g' (tkR N T f (wvl a j)))))) := by
  obtain ⟨g', e⟩ := th6 (Or.inl rfl) (Sc_Lc A) hv (wvl a j) g
  refine ⟨g', ?_⟩
  have s0 : L_X6_thinkLine_5 (n + 1) l1 l2 l3 (nI j) (nf σ 11 g f) = B_X6_thinkLine_26 (L_X6_thinkLine_5 n) l1 l2 l3 (nI j) (wvl a j) (nf σ 11 g f) := by
    show S_X6_thinkLine_5 (L_X6_thinkLine_5 n) l1 l2 l3 (nI j) (nf σ 11 g f) = _
    unfold S_X6_thinkLine_5 wvl
    rw [if_neg (show ¬ (99 : Int32) < nI j from iNlt.mpr (nI_le (b := 99) (by omega) (by decide)))]
    by_cases q : a < 2
    · rw [if_pos (hl.mpr q), if_pos q]
    · rw [if_neg (fun z => q (hl.mp z)), if_neg q]
  rw [s0]
  unfold B_X6_thinkLine_26
  rw [e, hw_bd_s, nf_x]
theorem tl_1 {σ : hw_St} {N : Nat → Int32} {w h T : Nat} (A : hv_Sc σ 1 N w h T) {a l1 : Int32} (hl : l1 = 0 ↔ a < 2) (l2 : Int32) : ∀ (d j n : Nat) (g f : Nat → Int32) (l3 : Int32), ¬ l3 = -1000000005 → hv_W f → j + d = 100 → d < n → ∃ g' f', L_X6_thinkLine_5 n l1 l2 1 (nI j) (nf σ 11 g f) = some ((lS N T a d j f l3 (-1000000005)).2, nf σ 11 g' f') := by
  intro d
  induction d with
  | zero =>
    intro j n g f l3 h3 hv hj hn
    obtain ⟨n, rfl⟩ : ∃ q, n = q + 1 := ⟨n - 1, by omega⟩
    have : j = 100 := by omega
    subst this
    refine ⟨g, f, ?_⟩
    show S_X6_thinkLine_5 (L_X6_thinkLine_5 n) l1 l2 1 (nI 100) (nf σ 11 g f) = _
    unfold S_X6_thinkLine_5
    rw [if_pos (by decide)]
    rfl
  | succ d ih =>
    intro j n g f l3 h3 hv hj hn
    obtain ⟨n, rfl⟩ : ∃ q, n = q + 1 := ⟨n - 1, by omega⟩
    obtain ⟨g1, s1⟩ := tl_S A hl l2 1 hv (show j < 100 by omega) n g
    rw [s1, if_neg (by decide)]
    have u : (lS N T a (d + 1) j f l3 (-1000000005)) = lS N T a d (j + 1) (tkR N T f (wvl a j)) l3 (if tkR N T f (wvl a j) 5 = 0 then wvl a j else -1000000005) := by
      show lS N T a d (j + 1) (tkR N T f (wvl a j)) (if l3 = -1000000005 then _ else l3) (if l3 = -1000000005 then _ else (if (-1000000005 : Int32) = -1000000005 then (if tkR N T f (wvl a j) 5 = 0 then wvl a j else -1000000005) else _)) = _
      rw [if_neg h3, if_neg h3, if_pos rfl]
    rw [u]
    by_cases q : tkR N T f (wvl a j) 5 = 0
    · refine ⟨g1, tkR N T f (wvl a j), ?_⟩
      rw [if_pos q, if_pos q, lS_2 N T a d _ _ _ _ h3 (wvl_ne a (by omega))]
    · rw [if_neg q, if_neg q]
      unfold B_X6_thinkLine_59 B_X6_thinkLine_82
      rw [if_neg (by decide), show nI j + 1 = nI (j + 1) from nI_add j 1]
      exact ih (j + 1) n g1 _ l3 h3 (W_tk _ hv) (by omega) (by omega)
theorem tl_0 {σ : hw_St} {N : Nat → Int32} {w h T : Nat} (A : hv_Sc σ 1 N w h T) {a l1 : Int32} (hl : l1 = 0 ↔ a < 2) (l2 : Int32) : ∀ (d j n : Nat) (g f : Nat → Int32), hv_W f → j + d = 100 → d < n → ∃ g' f', L_X6_thinkLine_5 n l1 l2 0 (nI j) (nf σ 11 g f) = some (if l2 = 0 then (lS N T a d j f (-1000000005) (-1000000005)).1 else (lS N T a d j f (-1000000005) (-1000000005)).2, nf σ 11 g' f') := by
  intro d
  induction d with
  | zero =>
    intro j n g f hv hj hn
    obtain ⟨n, rfl⟩ : ∃ q, n = q + 1 := ⟨n - 1, by omega⟩
    have : j = 100 := by omega
    subst this
    refine ⟨g, f, ?_⟩
    show S_X6_thinkLine_5 (L_X6_thinkLine_5 n) l1 l2 0 (nI 100) (nf σ 11 g f) = _
    unfold S_X6_thinkLine_5
    rw [if_pos (by decide)]
    split <;> rfl
  | succ d ih =>
    intro j n g f hv hj hn
    obtain ⟨n, rfl⟩ : ∃ q, n = q + 1 := ⟨n - 1, by omega⟩
    obtain ⟨g1, s1⟩ := tl_S A hl l2 0 hv (show j < 100 by omega) n g
    rw [s1, if_pos rfl]
    have u : (lS N T a (d + 1) j f (-1000000005) (-1000000005)) = lS N T a d (j + 1) (tkR N T f (wvl a j)) (if tkR N T f (wvl a j) 5 = 0 then -1000000005 else wvl a j) (-1000000005) := by
      show lS N T a d (j + 1) (tkR N T f (wvl a j)) (if (-1000000005 : Int32) = -1000000005 then (if tkR N T f (wvl a j) 5 = 0 then -1000000005 else wvl a j) else _) (if (-1000000005 : Int32) = -1000000005 then -1000000005 else _) = _
      rw [if_pos rfl, if_pos rfl]
    rw [u]
    unfold B_X6_thinkLine_59 B_X6_thinkLine_82
    rw [if_pos rfl, nf_x, show nI j + 1 = nI (j + 1) from nI_add j 1]
    by_cases q : tkR N T f (wvl a j) 5 = 0
    · rw [if_pos q, if_pos q]
      exact ih (j + 1) n g1 _ (W_tk _ hv) (by omega) (by omega)
    · rw [if_neg q, if_neg q]
      by_cases q2 : l2 = 0
      · refine ⟨g1, tkR N T f (wvl a j), ?_⟩
        rw [if_pos q2, if_pos q2, lS_1 N T a d _ _ _ _ (wvl_ne a (by omega))]
      · rw [if_neg q2, if_neg q2]
        exact tl_1 A hl l2 d (j + 1) n g1 _ (wvl a j) (wvl_ne a (by omega)) (W_tk _ hv) (by omega) (by omega)
theorem W_h0 {f : Nat → Int32} (hv : hv_W f) : hv_W (upd f 5 0) := by
  obtain ⟨h0, h1, h2, h3, h4, h5⟩ := hv
  exact ⟨h0, h1, h2, h3, h4, Or.inl rfl⟩
theorem sim_line : hw_sim2 hv_R F_X6_line F_X7_line := by
  intro a b σ τ HR
  have HR' := HR
  obtain ⟨w, h, T, A, I, B, E⟩ := HR
  have hb6 := A.bw
  by_cases ha : ∃ i, i < w ∧ a = nI i
  · obtain ⟨i, hi, rfl⟩ := ha
    have h6 : i < 6 := by omega
    have hv := A.ww i hi
    by_cases hc : 0 ≤ b ∧ b ≤ 3
    · obtain ⟨f, e1, e2⟩ := bec11' (σ := σ) (elS' i h6).1.2 (by omega) (B _ (by omega) (by omega))
      have e3 : e7 f (rw_ (τ 201) i) := fun k hk => by rw [e2 k hk]; exact W_rows A hi k hk
      have e4 : e7 (upd f 5 0) (upd (rw_ (τ 201) i) 5 0) := upd_e7 e3 rfl
      have hv0 := W_h0 hv
      obtain ⟨g, p1, p2⟩ := X7_thinks h6 τ
      have q201 : hw_up (hw_upA τ 204 g) 201 (29 + 7 * i + 5) 0 201 = upd (τ 201) (29 + 7 * i + 5) 0 := by rw [up_self, upA_row _ _ _ (by decide)]
      obtain ⟨τ'', k2, k3, k4⟩ := ln_7 (τ := τ) h6 (Sc_Mc A) b 100 0 130 (hw_up (hw_upA τ 204 g) 201 (29 + 7 * i + 5) 0) (upd (rw_ (τ 201) i) 5 0) (-1000000005) (-1000000005) (by omega) (by omega) (by rw [q201]; exact onI_upd (by decide) _ _) (by rw [q201, rw_upd]) hv0 (by rw [up_row _ _ _ _ (by decide), upA_self]; exact p2) (kq_tr (kq_upA _ _ (by omega)) (kq_upA _ _ (by omega)))
      have fin : ∀ l1 l2 : Int32, (l1 = 0 ↔ b < 2) → (l2 = 0 ↔ hw_rem b 2 = 0) → ∃ g' f', F_X6_thinkLine l1 l2 (nf σ 11 (σ 10) (upd f 5 0)) = some (if hw_rem b 2 = 0 then (lS (τ 201) T b 100 0 (upd (rw_ (τ 201) i) 5 0) (-1000000005) (-1000000005)).1 else (lS (τ 201) T b 100 0 (upd (rw_ (τ 201) i) 5 0) (-1000000005) (-1000000005)).2, nf σ 11 g' f') := fun l1 l2 hl1 hl2 => by
        obtain ⟨g', f', k1⟩ := tl_0 A hl1 l2 100 0 130 (σ 10) (upd f 5 0) (W_cg e4 hv0) (by omega) (by omega)
        refine ⟨g', f', ?_⟩
        unfold F_X6_thinkLine
        refine Eq.trans k1 ?_
        rw [lS_cg 100 0 _ _ _ _ e4]
        by_cases q : l2 = 0
        · rw [if_pos q, if_pos (hl2.mp q)]
        · rw [if_neg q, if_neg (fun z => q (hl2.mpr z))]
      have c7 : F_X7_line (nI i) b τ = some (if hw_rem b 2 = 0 then (lS (τ 201) T b 100 0 (upd (rw_ (τ 201) i) 5 0) (-1000000005) (-1000000005)).1 else (lS (τ 201) T b 100 0 (upd (rw_ (τ 201) i) 5 0) (-1000000005) (-1000000005)).2, τ'') := by
        unfold F_X7_line
        rw [isWire_yes A hi, hw_bd_s, if_neg (by decide), X7_in, hw_bd_s, if_pos hc, if_neg (by decide), p1, hw_bd_s, ixW0, show nI (29 + 7 * i) + 5 = nI (29 + 7 * i + 5) from nI_add _ 5, hw_gd_t (inb_nI (by omega) (by decide)), hw_nm_s, nI_clamp (by omega)]
        exact k2
      have c6 : F_X6_line (nI i) b σ = (if b < 2 then (B_X6_line_52 b 0 (nf σ 11 (σ 10) (upd f 5 0))) else (B_X6_line_52 b 1 (nf σ 11 (σ 10) (upd f 5 0)))) := by
        unfold F_X6_line
        rw [wireAt_yes (Or.inl rfl) A hi, hw_bd_s, if_neg (by omega), X6_isWithin, hw_bd_s, if_pos hc, if_neg (by decide), show 12 + 6 * 1 + i = 18 + i from rfl, e1, hw_bd_s, hw_gd_t isb_0, hw_nm_s, nf_up]
      have c8 : ∃ g' f', F_X6_line (nI i) b σ = some (if hw_rem b 2 = 0 then (lS (τ 201) T b 100 0 (upd (rw_ (τ 201) i) 5 0) (-1000000005) (-1000000005)).1 else (lS (τ 201) T b 100 0 (upd (rw_ (τ 201) i) 5 0) (-1000000005) (-1000000005)).2, nf σ 11 g' f') := by
        rw [c6]
        unfold B_X6_line_52 B_X6_line_64
        obtain ⟨u, hu, rfl⟩ := ix_to (m := 3) rfl hc.1 hc.2
        have cs : u = 0 ∨ u = 1 ∨ u = 2 ∨ u = 3 := by omega
        rcases cs with rfl | rfl | rfl | rfl
        · obtain ⟨g', f', k⟩ := fin 0 0 (by decide) (by decide)
          exact ⟨g', f', by rw [if_pos (by decide), if_neg (by decide), k, hw_bd_s]⟩
        · obtain ⟨g', f', k⟩ := fin 0 1 (by decide) (by decide)
          exact ⟨g', f', by rw [if_pos (by decide), if_pos (by decide), k, hw_bd_s]⟩
        · obtain ⟨g', f', k⟩ := fin 1 0 (by decide) (by decide)
          exact ⟨g', f', by rw [if_neg (by decide), if_neg (by decide), k, hw_bd_s]⟩
        · obtain ⟨g', f', k⟩ := fin 1 1 (by decide) (by decide)
          exact ⟨g', f', by rw [if_neg (by decide), if_pos (by decide), k, hw_bd_s]⟩
      obtain ⟨g', f', c9⟩ := c8
      exact ⟨_, nf σ 11 g' f', τ'', c9, c7, R_kq HR' k3 k4 (fun t h1 h2 => nf_o _ g' f' h2 h1)⟩
    · refine ⟨-1000000001, σ, τ, ?_, ?_, HR'⟩
      · unfold F_X6_line
        rw [wireAt_yes (Or.inl rfl) A hi, hw_bd_s, if_neg (by omega), X6_isWithin, hw_bd_s, if_neg hc, if_pos rfl]
      · unfold F_X7_line
        rw [isWire_yes A hi, hw_bd_s, if_neg (by decide), X7_in, hw_bd_s, if_neg hc, if_pos rfl]
  · refine ⟨-1000000001, σ, τ, ?_, ?_, HR'⟩
    · unfold F_X6_line; rw [wireAt_no (Or.inl rfl) A ha, hw_bd_s, if_pos rfl]
    · unfold F_X7_line; rw [isWire_no A ha, hw_bd_s, if_pos rfl]
