/-! texts of a flat row N; which one counts -/
def nmx (key : Nat) : Int32 := if key = 1 then 10001 else 10002
theorem nmx_le (key : Nat) : nmx key ≤ 10002 := by unfold nmx; split <;> decide
def hv_Tm (N : Nat → Int32) (t key len : Nat) : Prop := key < 3 ∧ len ≤ 96 ∧ N (71 + 2 * t) = nI (1000 * key + len) ∧ wfn (nmx key) (fun j => N (99 + 96 * t + j)) len 0 0
def hv_Tx (σ : hw_St) (N : Nat → Int32) (t key len : Nat) : Prop := hv_Tm N t key len ∧ σ (30 + t) 0 = nI key ∧ σ (30 + t) 1 = N (72 + 2 * t) ∧ σ (30 + t) 3 = nI len ∧ ∀ j, j < len → σ (45 + t) j = en (N (99 + 96 * t + j))
def hv_Txt (σ : hw_St) (N : Nat → Int32) (T : Nat) : Prop := ∀ t, t < T → ∃ key len, hv_Tx σ N t key len
def lenN (N : Nat → Int32) (t : Nat) : Nat := (hw_rem (N (71 + 2 * t)) 1000).toNatClampNeg
theorem rem_nI {a d : Nat} (ha : a < 2 ^ 31) (h0 : 0 < d) (hd : d < 2 ^ 31) : hw_rem (nI a) (nI d) = nI (a % d) := pk_rem ha h0 hd
theorem Tm_len {N : Nat → Int32} {t key len : Nat} (h : hv_Tm N t key len) : hw_rem (N (71 + 2 * t)) 1000 = nI len ∧ lenN N t = len ∧ N (71 + 2 * t) / 1000 = nI key := by
  obtain ⟨h1, h2, h3, -⟩ := h
  have e1 : hw_rem (N (71 + 2 * t)) 1000 = nI len := by
    rw [h3, show (1000 : Int32) = nI 1000 from rfl, rem_nI (by omega) (by decide) (by decide), show (1000 * key + len) % 1000 = len by omega]
  refine ⟨e1, ?_, ?_⟩
  · unfold lenN; rw [e1, nI_clamp (by omega)]
  · rw [h3, show (1000 : Int32) = nI 1000 from rfl, pk_div (by omega) (by decide) (by decide), show (1000 * key + len) / 1000 = key by omega]
/-- the text that counts for a key, of the first T -/
def cn (N : Nat → Int32) (k : Nat) : Nat → Option Nat
  | 0 => none
  | T + 1 => if N (71 + 2 * T) / 1000 = nI k then some T else cn N k T
theorem cn_lt {N : Nat → Int32} {k t : Nat} : ∀ {T : Nat}, cn N k T = some t → t < T ∧ N (71 + 2 * t) / 1000 = nI k
  | 0, h => by cases h
  | T + 1, h => by
    unfold cn at h
    split at h
    · next g => cases h; exact ⟨Nat.lt_succ_self _, g⟩
    · have := cn_lt h; exact ⟨by omega, this.2⟩
def cnv : Option Nat → Int32
  | none => -1
  | some t => nI t
def nwv : Option Nat → Int32
  | none => -1000000005
  | some t => nI t
theorem ixT {t : Nat} : (71 : Int32) + 2 * nI t = nI (71 + 2 * t) := by
  rw [show (71 : Int32) = nI 71 from rfl, show (2 : Int32) = nI 2 from rfl, pk_mul, nI_add]
theorem ct_loop (k : Nat) (s : hw_St) : ∀ (T n : Nat), T ≤ 14 → T < n → L_X7_counts_9 n (nI k) (nI T - 1) s = some (cnv (cn (s 201) k T), s) := by
  intro T
  induction T with
  | zero =>
    intro n _ hn
    obtain ⟨n, rfl⟩ : ∃ m, n = m + 1 := ⟨n - 1, by omega⟩
    show S_X7_counts_9 (L_X7_counts_9 n) (nI k) (nI 0 - 1) s = _
    unfold S_X7_counts_9
    rw [if_pos (by decide)]; rfl
  | succ T ih =>
    intro n hT hn
    obtain ⟨n, rfl⟩ : ∃ m, n = m + 1 := ⟨n - 1, by omega⟩
    show S_X7_counts_9 (L_X7_counts_9 n) (nI k) (nI (T + 1) - 1) s = _
    unfold S_X7_counts_9 cn
    rw [nI_pred, if_neg (nI_pos (by omega)), ixT, hw_gd_t (inb_nI (by omega) (by decide)), nI_clamp (by omega)]
    by_cases h : s 201 (71 + 2 * T) / 1000 = nI k
    · rw [if_pos h, if_pos h]; rfl
    · rw [if_neg h, if_neg h, show nI T + -1 = nI T - 1 from by rw [Int32.sub_eq_add_neg]]
      exact ih n (by omega) (by omega)
theorem X7_counts {k T : Nat} {s : hw_St} (hT : s 201 4 = nI T) (h14 : T ≤ 14) : F_X7_counts (nI k) s = some (cnv (cn (s 201) k T), s) := by
  unfold F_X7_counts
  rw [hw_gd_t (by decide), hw_nm_s, show ((4 : Int32).toNatClampNeg) = 4 from rfl, hT]
  exact ct_loop k s T 130 h14 (by omega)
theorem X7_works {t key len : Nat} (ht : t < 14) {s : hw_St} (h : hv_Tm (s 201) t key len) : ∃ g, F_X7_worksOut (nI t) s = some (evT (s 201) t (lenN (s 201) t) (s 213), hw_upA s 212 g) := by
  unfold F_X7_worksOut
  obtain ⟨e1, e2, -⟩ := Tm_len h
  rw [ixT, hw_gd_t (inb_nI (by omega) (by decide)), nI_clamp (by omega), e1, e2, hw_nm_s]
  exact wo_loop ht h.2.1 (nmx_le key) len 0 [] s 130 (by omega) h.2.2.2 (Nat.le_refl _) trivial (by have := h.2.1; omega)
theorem X0_gives {t key len : Nat} (ht : t < 14) {s : hw_St} {N : Nat → Int32} (h : hv_Tx s N t key len) (a b c : Int32) : ∃ g, F_X0_gives (30 + t) a b c 10 s = some (evT N t (lenN N t) (fx a b c), hw_upA s 10 g) := by
  unfold F_X0_gives
  rw [hw_gd_t (fl_law t (by omega)).2.2.2, hw_gd_t ln10.2, (Tm_len h.1).2.1]
  exact gv_loop (by omega) h.1.2.1 (nmx_le key) a b c (fun j => N (99 + 96 * t + j)) len 0 [] s 130 (by omega) h.2.2.2.1 h.2.2.2.2 h.1.2.2.2 (Nat.le_refl _) trivial (by have := h.1.2.1; omega)
/-! scenes -/
theorem scS {S : Nat} (h : S = 1 ∨ S = 2) : hw_gH S 2 = true ∧ hw_fl S 0 = 9 ∧ hw_fl S 1 = 10 ∧ hw_fl S 2 = S + 2 ∧ hw_fl S 3 = S + 4 ∧ hw_fl S 4 = S + 6 ∧ hw_gH (S + 2) 10 = true ∧ hw_ln (S + 2) = 24 ∧ hw_gH (S + 4) 21 = true ∧ hw_ln (S + 4) = 6 ∧ hw_gH (S + 6) 10 = true ∧ hw_ln (S + 6) = 3 := by
  rcases h with rfl | rfl <;> decide
theorem law9 : hw_gH 9 20 = true ∧ hw_ln 9 = 15 := by decide
theorem el9 : ∀ t, t < 15 → hw_el 9 t = 30 + t := by decide
/-- what a scene S knows of texts and the limit, by the flat row N -/
def hv_Lc (σ : hw_St) (S : Nat) (N : Nat → Int32) (T : Nat) : Prop := N 4 = nI T ∧ T ≤ 14 ∧ σ S 5 = nI T ∧ σ S 8 = N 3 ∧ (0 ≤ N 3 ∧ N 3 ≤ 9999) ∧ (∀ k, k < 3 → σ (S + 6) k = nwv (cn N k T)) ∧ hv_Txt σ N T
def lawt : Option Nat → Nat
  | none => 999
  | some t => 30 + t
theorem X2_lawOf {σ : hw_St} {S : Nat} {N : Nat → Int32} {T k : Nat} (hS : S = 1 ∨ S = 2) (h : hv_Lc σ S N T) (hk : k < 3) : F_X2_lawOf S (nI k) σ = some (lawt (cn N k T), σ) := by
  obtain ⟨s1, s2, s3, s4, s5, s6, s7, s8, s9, s10, s11, s12⟩ := scS hS
  obtain ⟨h1, h2, h3, h4, h5, h6, h7⟩ := h
  unfold F_X2_lawOf
  rw [hw_gd_t s1, s6, hw_gd_t s11, s12, hw_gd_t (inb_nI hk (by decide)), nI_clamp (by omega), h6 k hk, hw_nm_s, X6_isWithin, hw_bd_s, h3]
  cases hc : cn N k T with
  | none =>
    rw [if_pos (if01_0.mpr (fun g => absurd g.1 (by decide)))]; rfl
  | some t =>
    obtain ⟨g1, g2⟩ := cn_lt hc
    rw [show nwv (some t) = nI t from rfl, if_pos ((ix_of (by omega)).mpr ⟨t, g1, rfl⟩), if_neg (by decide), s2, hw_gd_t law9.1, law9.2, hw_gd_t (inb_nI (by omega) (by decide)), nI_clamp (by omega), el9 t (by omega), hw_gd_t (fl_law t (by omega)).2.2.2]; rfl
/-! what a wind does to a wire's row f, by the flat row N with T texts -/
def bandN (N : Nat → Int32) (T : Nat) (f : Nat → Int32) (w : Int32) : Int32 := wOut f (match cn N 0 T with
  | none => f 4 / 20 + 4
  | some t => cl (evT N t (lenN N t) (fx (wEd f w) (f 2) (f 4))) 0 99)
def growN (N : Nat → Int32) (T : Nat) (f : Nat → Int32) (w : Int32) : Int32 := match cn N 1 T with
  | none => wAir f w
  | some t => cl (evT N t (lenN N t) (fx (wAir f w) (f 4) 0)) 0 999
def tireN (N : Nat → Int32) (T : Nat) (f : Nat → Int32) : Int32 := match cn N 2 T with
  | none => cl (f 4 - N 3) 0 9999
  | some t => cl (evT N t (lenN N t) (fx (f 4) (N 3) (if f 5 = 0 then 0 else 1))) 0 999
def heldN (N : Nat → Int32) (T : Nat) (f : Nat → Int32) (w : Int32) : Bool := decide (wOff f w ≤ (if f 5 = 0 then bandN N T f w else 2 * bandN N T f w))
def driven (N : Nat → Int32) (T : Nat) (f : Nat → Int32) (w : Int32) : Int32 := if heldN N T f w = true then f 4 + growN N T f w else f 4
def swingN (N : Nat → Int32) (T : Nat) (f : Nat → Int32) (w : Int32) : Int32 := cl (driven N T f w - driven N T f w * wLose f / 20) 0 9999
def heldI (N : Nat → Int32) (T : Nat) (f : Nat → Int32) (w : Int32) : Int32 := if heldN N T f w = true then 1 else 0
def tkM (N : Nat → Int32) (T : Nat) (f : Nat → Int32) (w : Int32) : Nat → Int32 := upd (upd f 5 (heldI N T f w)) 4 (swingN N T f w)
def tkR (N : Nat → Int32) (T : Nat) (f : Nat → Int32) (w : Int32) : Nat → Int32 := upd (tkM N T f w) 6 (f 6 + tireN N T (tkM N T f w))
def tkT (N : Nat → Int32) (T : Nat) (f : Nat → Int32) (w : Int32) : Int32 := if heldN N T f w = true then f 2 else wEd f w
theorem out_bd {p : Int32} (h : 0 ≤ p ∧ p ≤ 9999) : p / 2 - 2 ≤ 9999 := by
  obtain ⟨q, hq, rfl⟩ := ix_to (m := 9999) rfl h.1 h.2
  rw [show (2 : Int32) = nI 2 from rfl, pk_div (by omega) (by decide) (by decide), iLe, pk_sub_toInt (by omega) (by decide), show (9999 : Int32).toInt = 9999 from rfl]
  omega
theorem plain_bd {v : Int32} (h : 0 ≤ v ∧ v ≤ 9999) : 0 ≤ v / 20 + 4 ∧ v / 20 + 4 ≤ 9999 := by
  obtain ⟨q, hq, rfl⟩ := ix_to (m := 9999) rfl h.1 h.2
  rw [show (20 : Int32) = nI 20 from rfl, pk_div (by omega) (by decide) (by decide), show (4 : Int32) = nI 4 from rfl, nI_add]
  exact ⟨nI_pos' (by omega), nI_le (b := 9999) (by omega) (by decide)⟩
theorem cl99 (v : Int32) : 0 ≤ cl v 0 99 ∧ cl v 0 99 ≤ 9999 := by
  have h := cl_in v (lo := 0) (hi := 99) (by decide)
  refine ⟨h.1, ?_⟩
  have e := (iLe _ _).mp h.2
  rw [iLe, show (9999 : Int32).toInt = 9999 from rfl]
  rw [show (99 : Int32).toInt = 99 from rfl] at e
  omega
theorem upA10 (σ : hw_St) (g : Nat → Int32) {x : Nat} (h : x ≠ 10) : hw_upA σ 10 g x = σ x := upA_row σ 10 g h
theorem X2_band {σ : hw_St} {S : Nat} {N : Nat → Int32} {T x : Nat} (hS : S = 1 ∨ S = 2) (h : hv_Lc σ S N T) (hx : hw_gH x 5 = true) (hx10 : x ≠ 10) (hv : hv_W (σ x)) (w : Int32) : ∃ g, F_X2_bandOf S x w σ = some (bandN N T (σ x) w, hw_upA σ 10 g) := by
  obtain ⟨s1, s2, s3, s4, s5, s6, -⟩ := scS hS
  unfold F_X2_bandOf bandN
  rw [hw_gd_t s1, hw_gd_t hx, show F_X2_lawOf S 0 σ = _ from X2_lawOf hS h (k := 0) (by decide), hw_bd_s]
  cases hc : cn N 0 T with
  | none =>
    refine ⟨σ 10, ?_⟩
    rw [if_pos (show lawt none = 999 from rfl), X5_out hx σ (out_bd (plain_bd hv.2.2.2.2.1)), hw_bd_s, upA_id]
  | some t =>
    obtain ⟨g1, g2⟩ := cn_lt hc
    have hT := h.2.1
    obtain ⟨key, len, hTx⟩ := h.2.2.2.2.2.2 t g1
    obtain ⟨g, hg⟩ := X0_gives (by omega) hTx (wEd (σ x) w) (σ x 2) (σ x 4)
    refine ⟨g, ?_⟩
    rw [if_neg (by show ¬ (30 + t = 999); omega), X5_eddy hx σ hv.2.1.1, hw_bd_s, show lawt (some t) = 30 + t from rfl, hw_gd_t (fl_law t (by omega)).2.2.2, s3, hg, hw_bd_s, X6_within (by decide), hw_bd_s, X5_out hx _ (out_bd (cl99 _)), hw_bd_s, upA10 _ _ hx10]
theorem X2_grow {σ : hw_St} {S : Nat} {N : Nat → Int32} {T x : Nat} (hS : S = 1 ∨ S = 2) (h : hv_Lc σ S N T) (hx : hw_gH x 5 = true) (w : Int32) : ∃ g, F_X2_growth S x w σ = some (growN N T (σ x) w, hw_upA σ 10 g) := by
  obtain ⟨s1, s2, s3, s4, s5, s6, -⟩ := scS hS
  unfold F_X2_growth growN
  rw [hw_gd_t s1, hw_gd_t hx, show F_X2_lawOf S 1 σ = _ from X2_lawOf hS h (k := 1) (by decide), hw_bd_s]
  cases hc : cn N 1 T with
  | none =>
    refine ⟨σ 10, ?_⟩
    rw [if_pos (show lawt none = 999 from rfl), X5_air hx, hw_bd_s, upA_id]
  | some t =>
    obtain ⟨g1, g2⟩ := cn_lt hc
    have hT := h.2.1
    obtain ⟨key, len, hTx⟩ := h.2.2.2.2.2.2 t g1
    obtain ⟨g, hg⟩ := X0_gives (by omega) hTx (wAir (σ x) w) (σ x 4) 0
    refine ⟨g, ?_⟩
    rw [if_neg (by show ¬ (30 + t = 999); omega), X5_air hx, hw_bd_s, show lawt (some t) = 30 + t from rfl, hw_gd_t (fl_law t (by omega)).2.2.2, s3, hg, hw_bd_s, X6_within (by decide), hw_bd_s]
theorem X2_tire {σ : hw_St} {S : Nat} {N : Nat → Int32} {T x : Nat} (hS : S = 1 ∨ S = 2) (h : hv_Lc σ S N T) (hx : hw_gH x 5 = true) (h4 : 0 ≤ σ x 4 ∧ σ x 4 ≤ 9999) : ∃ g, F_X2_tiring S x σ = some (tireN N T (σ x), hw_upA σ 10 g) := by
  obtain ⟨s1, s2, s3, s4, s5, s6, -⟩ := scS hS
  unfold F_X2_tiring tireN
  rw [hw_gd_t s1, hw_gd_t hx, show F_X2_lawOf S 2 σ = _ from X2_lawOf hS h (k := 2) (by decide), hw_bd_s]
  cases hc : cn N 2 T with
  | none =>
    refine ⟨σ 10, ?_⟩
    have hb : σ x 4 - N 3 ≤ 9999 := by
      obtain ⟨q, hq, e⟩ := ix_to (m := 9999) rfl h4.1 h4.2
      obtain ⟨q2, hq2, e2⟩ := ix_to (m := 9999) rfl h.2.2.2.2.1.1 h.2.2.2.2.1.2
      rw [e, e2, iLe, pk_sub_toInt (by omega) (by omega), show (9999 : Int32).toInt = 9999 from rfl]
      omega
    rw [if_pos (show lawt none = 999 from rfl), h.2.2.2.1, max0_cl hb (by decide), upA_id]
  | some t =>
    obtain ⟨g1, g2⟩ := cn_lt hc
    have hT := h.2.1
    obtain ⟨key, len, hTx⟩ := h.2.2.2.2.2.2 t g1
    rw [if_neg (by show ¬ (30 + t = 999); omega), show lawt (some t) = 30 + t from rfl, h.2.2.2.1]
    unfold B_X2_tiring_45
    by_cases h5 : σ x 5 = 0
    · obtain ⟨g, hg⟩ := X0_gives (by omega) hTx (σ x 4) (N 3) 0
      refine ⟨g, ?_⟩
      rw [if_pos h5, if_pos h5, hw_gd_t (fl_law t (by omega)).2.2.2, s3, hg, hw_bd_s, X6_within (by decide), hw_bd_s]
    · obtain ⟨g, hg⟩ := X0_gives (by omega) hTx (σ x 4) (N 3) 1
      refine ⟨g, ?_⟩
      rw [if_neg h5, if_neg h5, hw_gd_t (fl_law t (by omega)).2.2.2, s3, hg, hw_bd_s, X6_within (by decide), hw_bd_s]
