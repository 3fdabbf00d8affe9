/-! the reference's tick -/
def mf (τ : hw_St) (N a b : Nat → Int32) : hw_St := hw_upA (hw_upA (hw_upA τ 212 a) 213 b) 201 N
theorem mf_201 (τ : hw_St) (N a b : Nat → Int32) : mf τ N a b 201 = N := upA_self _ _ _
theorem mf_213 (τ : hw_St) (N a b : Nat → Int32) : mf τ N a b 213 = b := by unfold mf; rw [upA_row _ _ _ (by decide), upA_self]
theorem mf_212 (τ : hw_St) (N a b : Nat → Int32) : mf τ N a b 212 = a := by unfold mf; rw [upA_row _ _ _ (by decide), upA_row _ _ _ (by decide), upA_self]
theorem mf_o (τ : hw_St) (N a b : Nat → Int32) {t : Nat} (h1 : t ≠ 201) (h2 : t ≠ 212) (h3 : t ≠ 213) : mf τ N a b t = τ t := by
  unfold mf; rw [upA_row _ _ _ h1, upA_row _ _ _ h3, upA_row _ _ _ h2]
theorem mf_ext {s s' : hw_St} (h : ∀ t, s t = s' t) : s = s' := funext h
theorem mf_up201 (τ : hw_St) (N a b : Nat → Int32) (k : Nat) (v : Int32) : hw_up (mf τ N a b) 201 k v = mf τ (upd N k v) a b := by
  rw [up_upA, mf_201]; unfold mf; rw [upA_upA]
theorem mf_up213 (τ : hw_St) (N a b : Nat → Int32) (k : Nat) (v : Int32) : hw_up (mf τ N a b) 213 k v = mf τ N a (upd b k v) := by
  rw [up_upA, mf_213]
  funext t
  unfold mf hw_upA
  by_cases h : t = 213
  · subst h; rfl
  · rw [if_neg h]
    by_cases h2 : t = 201
    · rw [if_pos h2, if_pos h2]
    · rw [if_neg h2, if_neg h2, if_neg h, if_neg h]
theorem mf_212u (τ : hw_St) (N a b g : Nat → Int32) : hw_upA (mf τ N a b) 212 g = mf τ N g b := by
  funext t
  unfold mf hw_upA
  by_cases h : t = 212
  · subst h; rfl
  · rw [if_neg h]
    by_cases h2 : t = 201
    · rw [if_pos h2, if_pos h2]
    · rw [if_neg h2, if_neg h2]
      by_cases h3 : t = 213
      · rw [if_pos h3, if_pos h3]
      · rw [if_neg h3, if_neg h3, if_neg h, if_neg h]
theorem mf_s (τ : hw_St) : τ = mf τ (τ 201) (τ 212) (τ 213) := by
  unfold mf
  rw [upA_id, upA_id, upA_id]
theorem mf_mf (τ : hw_St) (N a b N2 a2 b2 : Nat → Int32) : mf (mf τ N a b) N2 a2 b2 = mf τ N2 a2 b2 := by
  funext t
  unfold mf hw_upA
  by_cases h2 : t = 201 <;> by_cases h3 : t = 213 <;> by_cases h4 : t = 212 <;> simp [h2, h3, h4]
/-- what the flat row says of texts and the limit -/
def hv_Mc (N : Nat → Int32) (T : Nat) : Prop := N 4 = nI T ∧ T ≤ 14 ∧ (0 ≤ N 3 ∧ N 3 ≤ 9999) ∧ ∀ t, t < T → ∃ key len, hv_Tm N t key len
theorem ev_key {N : Nat → Int32} {T t k : Nat} (h : hv_Mc N T) (hc : cn N k T = some t) (hk : k < 3) : t < 14 ∧ ∃ len, hv_Tm N t k len := by
  obtain ⟨g1, g2⟩ := cn_lt hc
  obtain ⟨key, len, hT⟩ := h.2.2.2 t g1
  have e := (Tm_len hT).2.2
  rw [g2] at e
  have : k = key := (nI_eq (by omega) (by have := hT.1; omega)).mp e
  subst this
  have := h.2.1
  exact ⟨by omega, len, hT⟩
theorem mf_of {i k : Nat} (hi : i < 6) (hk : k < 7) (τ : hw_St) (N a b : Nat → Int32) : F_X7_of (nI i) (nI k) (mf τ N a b) = some (rw_ N i k, mf τ N a b) := by
  rw [X7_of hi hk, mf_201]
theorem ev_fx {N : Nat → Int32} {t k len : Nat} (h : hv_Tm N t k len) {b : Nat → Int32} {x y z : Int32} (h0 : b 0 = x) (h1 : b 1 = y) (h2 : k ≠ 1 → b 2 = z) : evT N t (lenN N t) b = evT N t (lenN N t) (fx x y z) := by
  unfold evT
  rw [(Tm_len h).2.1, evn_congr (nmx_le k) ?_ len 0 [] h.2.2.2]
  intro j hj hle
  have c : j = 0 ∨ j = 1 ∨ j = 2 := by omega
  rcases c with rfl | rfl | rfl
  · exact h0
  · exact h1
  · refine h2 (fun e => ?_)
    subst e
    exact absurd hle (by decide)
theorem nge_m1 : ¬ (0 : Int32) ≤ cnv none := by decide
theorem X7_band {i : Nat} (hi : i < 6) {N : Nat → Int32} {T : Nat} (h : hv_Mc N T) (h1 : 1 ≤ rw_ N i 1) (w : Int32) (τ : hw_St) (a b : Nat → Int32) : ∃ a' b', F_X7_bandOf (nI i) w (mf τ N a b) = some (bandN N T (rw_ N i) w, mf τ N a' b') := by
  unfold F_X7_bandOf bandN
  rw [show F_X7_counts 0 (mf τ N a b) = _ from X7_counts (k := 0) (T := T) (by rw [mf_201]; exact h.1) h.2.1, hw_bd_s, X7_eddy hi _ (by rw [mf_201]; exact h1), hw_bd_s, hw_gd_t (by decide), show ((0 : Int32).toNatClampNeg) = 0 from rfl, mf_up213, hw_nm_s, show ∀ q, F_X7_of (nI i) 2 (mf τ N a q) = _ from fun q => mf_of hi (k := 2) (by decide) τ N a q, hw_bd_s, hw_gd_t (by decide), show ((1 : Int32).toNatClampNeg) = 1 from rfl, mf_up213, hw_nm_s, show ∀ q, F_X7_of (nI i) 4 (mf τ N a q) = _ from fun q => mf_of hi (k := 4) (by decide) τ N a q, hw_bd_s, hw_gd_t (by decide), show ((2 : Int32).toNatClampNeg) = 2 from rfl, mf_up213, hw_nm_s, mf_201]
  cases hc : cn N 0 T with
  | none =>
    rw [if_neg nge_m1, show ∀ q, F_X7_of (nI i) 4 (mf τ N a q) = _ from fun q => mf_of hi (k := 4) (by decide) τ N a q, hw_bd_s, X7_out hi, mf_201]
    exact ⟨_, _, rfl⟩
  | some t =>
    obtain ⟨ht, len, hT⟩ := ev_key h hc (by decide)
    rw [if_pos (show 0 ≤ cnv (some t) from nI_pos' (by omega))]
    obtain ⟨g, hg⟩ := X7_works ht (s := mf τ N a (upd (upd (upd b 0 (wEd (rw_ N i) w)) 1 (rw_ N i 2)) 2 (rw_ N i 4))) (key := 0) (len := len) (by rw [mf_201]; exact hT)
    rw [show cnv (some t) = nI t from rfl, hg, hw_bd_s, mf_201, mf_213, X7_within, hw_bd_s, mf_212u, X7_out hi, mf_201, ev_fx hT (b := upd (upd (upd b 0 (wEd (rw_ N i) w)) 1 (rw_ N i 2)) 2 (rw_ N i 4)) (x := wEd (rw_ N i) w) (y := rw_ N i 2) (z := rw_ N i 4) rfl rfl (fun _ => rfl)]
    exact ⟨_, _, rfl⟩
theorem X7_grow {i : Nat} (hi : i < 6) {N : Nat → Int32} {T : Nat} (h : hv_Mc N T) (w : Int32) (τ : hw_St) (a b : Nat → Int32) : ∃ a' b', F_X7_growsOf (nI i) w (mf τ N a b) = some (growN N T (rw_ N i) w, mf τ N a' b') := by
  unfold F_X7_growsOf growN
  rw [show F_X7_counts 1 (mf τ N a b) = _ from X7_counts (k := 1) (T := T) (by rw [mf_201]; exact h.1) h.2.1, hw_bd_s, X7_air hi, hw_bd_s, hw_gd_t (by decide), show ((0 : Int32).toNatClampNeg) = 0 from rfl, mf_up213, hw_nm_s, show ∀ q, F_X7_of (nI i) 4 (mf τ N a q) = _ from fun q => mf_of hi (k := 4) (by decide) τ N a q, hw_bd_s, hw_gd_t (by decide), show ((1 : Int32).toNatClampNeg) = 1 from rfl, mf_up213, hw_nm_s, mf_201]
  cases hc : cn N 1 T with
  | none =>
    rw [if_neg nge_m1, X7_air hi, hw_bd_s, mf_201]
    exact ⟨_, _, rfl⟩
  | some t =>
    obtain ⟨ht, len, hT⟩ := ev_key h hc (by decide)
    rw [if_pos (show 0 ≤ cnv (some t) from nI_pos' (by omega))]
    obtain ⟨g, hg⟩ := X7_works ht (s := mf τ N a (upd (upd b 0 (wAir (rw_ N i) w)) 1 (rw_ N i 4))) (key := 1) (len := len) (by rw [mf_201]; exact hT)
    rw [show cnv (some t) = nI t from rfl, hg, hw_bd_s, mf_201, mf_213, X7_within, hw_bd_s, mf_212u, ev_fx hT (b := upd (upd b 0 (wAir (rw_ N i) w)) 1 (rw_ N i 4)) (x := wAir (rw_ N i) w) (y := rw_ N i 4) (z := 0) rfl rfl (fun g => absurd rfl g)]
    exact ⟨_, _, rfl⟩
theorem X7_held {i : Nat} (hi : i < 6) {N : Nat → Int32} {T : Nat} (h : hv_Mc N T) (hv : hv_W (rw_ N i)) (w : Int32) (τ : hw_St) (a b : Nat → Int32) : ∃ a' b', F_X7_isHeldBy (nI i) w (mf τ N a b) = some (heldI N T (rw_ N i) w, mf τ N a' b') := by
  obtain ⟨a1, b1, e1⟩ := X7_band hi h hv.2.1.1 w τ a b
  refine ⟨a1, b1, ?_⟩
  unfold F_X7_isHeldBy B_X7_isHeldBy_27 heldI heldN
  rw [X7_off hi _ (by rw [mf_201]; exact hv.2.1.1), hw_bd_s, e1, hw_bd_s, show F_X7_of (nI i) 5 (mf τ N a1 b1) = _ from mf_of hi (k := 5) (by decide) τ N a1 b1, hw_bd_s, mf_201]
  generalize bandN N T (rw_ N i) w = p
  generalize wOff (rw_ N i) w = q
  have key : ∀ r : Int32, (if r < q then (some ((0 : Int32), mf τ N a1 b1)) else some (1, mf τ N a1 b1)) = some ((if decide (q ≤ r) = true then 1 else 0), mf τ N a1 b1) := by
    intro r
    by_cases hc : r < q
    · rw [if_pos hc, if_neg (by rw [decide_eq_true_eq]; exact iNle.mpr hc)]
    · rw [if_neg hc, if_pos (by rw [decide_eq_true_eq]; exact iNlt.mp hc)]
  rcases hv.2.2.2.2.2 with h5 | h5
  · rw [h5, if_neg (by decide), if_pos rfl, Int32.mul_one]; exact key p
  · rw [h5, if_pos rfl, show (if (1 : Int32) = 0 then p else 2 * p) = 2 * p from rfl, Int32.mul_comm p 2]; exact key (2 * p)
/-! flat rows that differ in wires alone -/
def ag (N N' : Nat → Int32) : Prop := ∀ j, (j < 29 ∨ 71 ≤ j) → N' j = N j
theorem ag_rf (N : Nat → Int32) : ag N N := fun _ _ => rfl
theorem ag_tr {N1 N2 N3 : Nat → Int32} (h : ag N1 N2) (g : ag N2 N3) : ag N1 N3 := fun j hj => (g j hj).trans (h j hj)
theorem ag_sy {N1 N2 : Nat → Int32} (h : ag N1 N2) : ag N2 N1 := fun j hj => (h j hj).symm
theorem ag_upd {N : Nat → Int32} {i k : Nat} (hi : i < 6) (hk : k < 7) (v : Int32) : ag N (upd N (29 + 7 * i + k) v) := fun j hj => upd_n _ _ (by omega)
theorem ag_cn {N N' : Nat → Int32} (h : ag N N') (k : Nat) : ∀ T, cn N' k T = cn N k T := by
  intro T
  induction T with
  | zero => rfl
  | succ T ih => unfold cn; rw [h _ (Or.inr (by omega)), ih]
theorem ag_len {N N' : Nat → Int32} (h : ag N N') (t : Nat) : lenN N' t = lenN N t := by unfold lenN; rw [h _ (Or.inr (by omega))]
theorem ag_tok {N N' : Nat → Int32} (h : ag N N') (t : Nat) : (fun j => N' (99 + 96 * t + j)) = fun j => N (99 + 96 * t + j) := funext (fun j => h _ (Or.inr (by omega)))
theorem ag_ev {N N' : Nat → Int32} (h : ag N N') (t len : Nat) (f : Nat → Int32) : evT N' t len f = evT N t len f := by unfold evT; rw [ag_tok h]
theorem ag_Tm {N N' : Nat → Int32} (h : ag N N') {t key len : Nat} (g : hv_Tm N t key len) : hv_Tm N' t key len := by
  obtain ⟨g1, g2, g3, g4⟩ := g
  exact ⟨g1, g2, by rw [h _ (Or.inr (by omega))]; exact g3, by rw [ag_tok h]; exact g4⟩
theorem ag_Mc {N N' : Nat → Int32} (h : ag N N') {T : Nat} (g : hv_Mc N T) : hv_Mc N' T := by
  obtain ⟨g1, g2, g3, g4⟩ := g
  refine ⟨by rw [h 4 (Or.inl (by decide))]; exact g1, g2, by rw [h 3 (Or.inl (by decide))]; exact g3, fun t ht => ?_⟩
  obtain ⟨key, len, q⟩ := g4 t ht
  exact ⟨key, len, ag_Tm h q⟩
theorem ag_band {N N' : Nat → Int32} (h : ag N N') (T : Nat) (f : Nat → Int32) (w : Int32) : bandN N' T f w = bandN N T f w := by
  unfold bandN
  rw [ag_cn h]
  cases cn N 0 T with
  | none => rfl
  | some t => dsimp only; rw [ag_len h, ag_ev h]
theorem ag_grow {N N' : Nat → Int32} (h : ag N N') (T : Nat) (f : Nat → Int32) (w : Int32) : growN N' T f w = growN N T f w := by
  unfold growN
  rw [ag_cn h]
  cases cn N 1 T with
  | none => rfl
  | some t => dsimp only; rw [ag_len h, ag_ev h]
theorem ag_tire {N N' : Nat → Int32} (h : ag N N') (T : Nat) (f : Nat → Int32) : tireN N' T f = tireN N T f := by
  unfold tireN
  rw [ag_cn h, h 3 (Or.inl (by decide))]
  cases cn N 2 T with
  | none => rfl
  | some t => dsimp only; rw [ag_len h, ag_ev h]
theorem ag_held {N N' : Nat → Int32} (h : ag N N') (T : Nat) (f : Nat → Int32) (w : Int32) : heldN N' T f w = heldN N T f w := by unfold heldN; rw [ag_band h]
theorem ag_tkT {N N' : Nat → Int32} (h : ag N N') (T : Nat) (f : Nat → Int32) (w : Int32) : tkT N' T f w = tkT N T f w := by unfold tkT; rw [ag_held h]
theorem ag_tkR {N N' : Nat → Int32} (h : ag N N') (T : Nat) (f : Nat → Int32) (w : Int32) : tkR N' T f w = tkR N T f w := by
  unfold tkR tkM swingN driven heldI
  rw [ag_held h, ag_grow h, ag_tire h]
theorem rw_upd (N : Nat → Int32) (i k : Nat) (v : Int32) : rw_ (upd N (29 + 7 * i + k) v) i = upd (rw_ N i) k v := by
  funext j
  unfold rw_ upd
  by_cases h : j = k
  · rw [if_pos h, if_pos (by omega)]
  · rw [if_neg h, if_neg (by omega)]
theorem rw_oth (N : Nat → Int32) {i i2 k k2 : Nat} (v : Int32) (hne : i2 ≠ i) (hk : k < 7) (hk2 : k2 < 7) : rw_ (upd N (29 + 7 * i + k) v) i2 k2 = rw_ N i2 k2 := by
  unfold rw_
  exact upd_n _ _ (by omega)
theorem upd_comm (f : Nat → Int32) {j k : Nat} (a b : Int32) (h : j ≠ k) : upd (upd f j a) k b = upd (upd f k b) j a := by
  funext q
  unfold upd
  by_cases h1 : q = k
  · rw [if_pos h1, if_neg (by omega), if_pos h1]
  · rw [if_neg h1, if_neg h1]
/-- the flat row behind a tick of wire i -/
def tkN (N : Nat → Int32) (T i : Nat) (w : Int32) : Nat → Int32 := upd (upd (upd N (29 + 7 * i + 4) (swingN N T (rw_ N i) w)) (29 + 7 * i + 5) (heldI N T (rw_ N i) w)) (29 + 7 * i + 6) (rw_ N i 6 + tireN N T (tkM N T (rw_ N i) w))
theorem tkN_row (N : Nat → Int32) (T i : Nat) (w : Int32) : rw_ (tkN N T i w) i = tkR N T (rw_ N i) w := by
  unfold tkN tkR
  rw [rw_upd, rw_upd, rw_upd, upd_comm _ _ _ (show (4 : Nat) ≠ 5 by decide)]; rfl
theorem tkN_ag (N : Nat → Int32) (T : Nat) {i : Nat} (hi : i < 6) (w : Int32) : ag N (tkN N T i w) := ag_tr (ag_tr (ag_upd hi (by decide) _) (ag_upd hi (by decide) _)) (ag_upd hi (by decide) _)
theorem tkN_oth (N : Nat → Int32) (T : Nat) {i i2 k : Nat} (w : Int32) (hne : i2 ≠ i) (hk : k < 7) : rw_ (tkN N T i w) i2 k = rw_ N i2 k := by
  unfold tkN
  rw [rw_oth _ _ hne (by decide) hk, rw_oth _ _ hne (by decide) hk, rw_oth _ _ hne (by decide) hk]
theorem ix_a (i k : Nat) : nI (29 + 7 * i) + nI k = nI (29 + 7 * i + k) := nI_add _ _
set_option maxHeartbeats 1000000 in
theorem X7_ticks {i : Nat} (hi : i < 6) {N : Nat → Int32} {T : Nat} (h : hv_Mc N T) (hv : hv_W (rw_ N i)) (w : Int32) (τ : hw_St) (a b : Nat → Int32) : ∃ a' b', F_X7_ticks (nI i) w (mf τ N a b) = some (tkT N T (rw_ N i) w, mf τ (tkN N T i w) a' b') := by
  obtain ⟨a1, b1, e1⟩ := X7_held hi h hv w τ a b
  -- the last stretch, once swing and held are put
  have fin : ∀ (l4 : Int32) (a b : Nat → Int32), l4 = heldI N T (rw_ N i) w → ∃ a' b', B_X7_ticks_86 (nI i) w (nI (29 + 7 * i)) l4 (heldI N T (rw_ N i) w) (nI (29 + 7 * i) + 5) (mf τ (upd N (29 + 7 * i + 4) (swingN N T (rw_ N i) w)) a b) = some (tkT N T (rw_ N i) w, mf τ (tkN N T i w) a' b') := by
    intro l4 a b hl4
    unfold B_X7_ticks_86
    rw [show nI (29 + 7 * i) + 5 = nI (29 + 7 * i + 5) from ix_a i 5, show nI (29 + 7 * i) + 6 = nI (29 + 7 * i + 6) from ix_a i 6, hw_gd_t (inb_nI (by omega) (by decide)), nI_clamp (by omega), mf_up201, hw_nm_s]
    have hag : ag N (upd (upd N (29 + 7 * i + 4) (swingN N T (rw_ N i) w)) (29 + 7 * i + 5) (heldI N T (rw_ N i) w)) := ag_tr (ag_upd hi (by decide) _) (ag_upd hi (by decide) _)
    have hrow : rw_ (upd (upd N (29 + 7 * i + 4) (swingN N T (rw_ N i) w)) (29 + 7 * i + 5) (heldI N T (rw_ N i) w)) i = tkM N T (rw_ N i) w := by
      rw [rw_upd, rw_upd, upd_comm _ _ _ (show (4 : Nat) ≠ 5 by decide)]; rfl
    have hN2 : upd (upd (upd N (29 + 7 * i + 4) (swingN N T (rw_ N i) w)) (29 + 7 * i + 5) (heldI N T (rw_ N i) w)) (29 + 7 * i + 6) (rw_ N i 6 + tireN N T (tkM N T (rw_ N i) w)) = tkN N T i w := rfl
    have h6 : upd (upd N (29 + 7 * i + 4) (swingN N T (rw_ N i) w)) (29 + 7 * i + 5) (heldI N T (rw_ N i) w) (29 + 7 * i + 6) = rw_ N i 6 := by
      rw [upd_n _ _ (by omega), upd_n _ _ (by omega)]; rfl
    have h5 : upd (upd N (29 + 7 * i + 4) (swingN N T (rw_ N i) w)) (29 + 7 * i + 5) (heldI N T (rw_ N i) w) (29 + 7 * i + 5) = heldI N T (rw_ N i) w := upd_s _ _ _
    have h3 : upd (upd N (29 + 7 * i + 4) (swingN N T (rw_ N i) w)) (29 + 7 * i + 5) (heldI N T (rw_ N i) w) 3 = N 3 := hag 3 (Or.inl (by decide))
    generalize hM : upd (upd N (29 + 7 * i + 4) (swingN N T (rw_ N i) w)) (29 + 7 * i + 5) (heldI N T (rw_ N i) w) = M at hag hrow hN2 h6 h5 h3 ⊢
    have hMc := ag_Mc hag h
    have h4 : rw_ M i 4 = swingN N T (rw_ N i) w := by rw [hrow, tkM_4]
    -- the answer at the end
    have tone : ∀ (a b : Nat → Int32), (if l4 = 0 then (hw_bd (F_X7_eddyOf (nI i) w (mf τ (tkN N T i w) a b)) (fun r45 s46 => some (r45, s46))) else (hw_bd (F_X7_of (nI i) 2 (mf τ (tkN N T i w) a b)) (fun r47 s48 => some (r47, s48)))) = some (tkT N T (rw_ N i) w, mf τ (tkN N T i w) a b) := by
      intro a b
      unfold tkT
      rw [hl4]
      unfold heldI
      by_cases hh : heldN N T (rw_ N i) w = true
      · rw [if_pos hh, if_neg (by decide), if_pos hh, show F_X7_of (nI i) 2 (mf τ (tkN N T i w) a b) = _ from mf_of hi (k := 2) (by decide) τ _ a b, hw_bd_s, tkN_row, tkR_o (k := 2) _ _ _ _ (by decide) (by decide) (by decide)]
      · rw [if_neg hh, if_pos rfl, if_neg hh, X7_eddy hi _ (by rw [mf_201, tkN_row, tkR_o (k := 1) _ _ _ _ (by decide) (by decide) (by decide)]; exact hv.2.1.1), hw_bd_s, mf_201, tkN_row]
        have : wEd (tkR N T (rw_ N i) w) w = wEd (rw_ N i) w := by
          unfold tkR tkM
          rw [ed_keep _ _ _ (by decide) (by decide), ed_keep _ _ _ (by decide) (by decide), ed_keep _ _ _ (by decide) (by decide)]
        rw [this]
    have last : ∀ (v : Int32) (a b : Nat → Int32), v = tireN N T (tkM N T (rw_ N i) w) → B_X7_ticks_183 (nI i) w l4 v (rw_ N i 6) (nI (29 + 7 * i + 6)) (mf τ M a b) = some (tkT N T (rw_ N i) w, mf τ (tkN N T i w) a b) := by
      intro v a b hv2
      unfold B_X7_ticks_183
      rw [hw_gd_t (inb_nI (by omega) (by decide)), nI_clamp (by omega), mf_up201, hw_nm_s, hv2, hN2]
      exact tone a b
    rw [show F_X7_counts 2 (mf τ M a b) = _ from X7_counts (k := 2) (T := T) (by rw [mf_201]; exact hMc.1) hMc.2.1, hw_bd_s, mf_201, show F_X7_of (nI i) 4 (mf τ M a b) = _ from mf_of hi (k := 4) (by decide) τ M a b, hw_bd_s, hw_gd_t (by decide), show ((0 : Int32).toNatClampNeg) = 0 from rfl, mf_up213, hw_nm_s, hw_gd_t (by decide), hw_gd_t (by decide), show ((1 : Int32).toNatClampNeg) = 1 from rfl, show ((3 : Int32).toNatClampNeg) = 3 from rfl, mf_201, mf_up213, hw_nm_s, hw_gd_t (inb_nI (by omega) (by decide)), hw_gd_t (by decide), show ((2 : Int32).toNatClampNeg) = 2 from rfl, nI_clamp (by omega), mf_201, mf_up213, hw_nm_s, hw_gd_t (inb_nI (by omega) (by decide)), mf_201, h6, h5, h3, h4, ag_cn hag]
    have htire : tireN N T (tkM N T (rw_ N i) w) = match cn N 2 T with
        | none => cl (swingN N T (rw_ N i) w - N 3) 0 9999
        | some t => cl (evT N t (lenN N t) (fx (swingN N T (rw_ N i) w) (N 3) (heldI N T (rw_ N i) w))) 0 999 := by
      unfold tireN
      rw [tkM_4, tkM_5]
      have : (if heldI N T (rw_ N i) w = 0 then (0 : Int32) else 1) = heldI N T (rw_ N i) w := by
        unfold heldI
        split <;> decide
      rw [this]
      cases cn N 2 T <;> rfl
    cases hc : cn N 2 T with
    | none =>
      rw [hc] at htire
      rw [if_neg nge_m1, show ∀ q, F_X7_of (nI i) 4 (mf τ M a q) = _ from fun q => mf_of hi (k := 4) (by decide) τ M a q, hw_bd_s, hw_gd_t (by decide), mf_201, h3, h4, X7_within, hw_bd_s]
      exact ⟨_, _, last _ _ _ htire.symm⟩
    | some t =>
      rw [hc] at htire
      obtain ⟨ht, len, hT⟩ := ev_key hMc (by rw [ag_cn hag]; exact hc) (show 2 < 3 by decide)
      rw [if_pos (show 0 ≤ cnv (some t) from nI_pos' (by omega))]
      obtain ⟨g, hg⟩ := X7_works ht (s := mf τ M a (upd (upd (upd b 0 (swingN N T (rw_ N i) w)) 1 (N 3)) 2 (heldI N T (rw_ N i) w))) (key := 2) (len := len) (by rw [mf_201]; exact hT)
      rw [show cnv (some t) = nI t from rfl, hg, hw_bd_s, mf_201, mf_213, X7_within, hw_bd_s, mf_212u, ev_fx hT (b := upd (upd (upd b 0 (swingN N T (rw_ N i) w)) 1 (N 3)) 2 (heldI N T (rw_ N i) w)) (x := swingN N T (rw_ N i) w) (y := N 3) (z := heldI N T (rw_ N i) w) rfl rfl (fun _ => rfl), ag_len hag, ag_ev hag]
      exact ⟨_, _, last _ _ _ htire.symm⟩
  have mid : ∀ (k0 : Int32) (a b : Nat → Int32), rw_ N i 4 + k0 = driven N T (rw_ N i) w → ∃ a' b', B_X7_ticks_37 (nI i) w (nI (29 + 7 * i)) (heldI N T (rw_ N i) w) k0 (rw_ N i 4) (mf τ N a b) = some (tkT N T (rw_ N i) w, mf τ (tkN N T i w) a' b') := by
    intro k0 a b hk
    unfold B_X7_ticks_37
    rw [hw_nm_s, hk, X7_lose hi, hw_bd_s, mf_201, X7_within, hw_bd_s, show nI (29 + 7 * i) + 4 = nI (29 + 7 * i + 4) from ix_a i 4, hw_gd_t (inb_nI (by omega) (by decide)), nI_clamp (by omega), mf_up201, hw_nm_s]
    by_cases hh : heldN N T (rw_ N i) w = true
    · have e3 : heldI N T (rw_ N i) w = 1 := by unfold heldI; rw [if_pos hh]
      rw [if_neg (by rw [e3]; decide)]
      have := fin (heldI N T (rw_ N i) w) a b rfl
      rw [e3] at this
      rw [e3]
      exact this
    · have e3 : heldI N T (rw_ N i) w = 0 := by unfold heldI; rw [if_neg hh]
      rw [if_pos e3]
      have := fin (heldI N T (rw_ N i) w) a b rfl
      rw [e3] at this
      rw [e3]
      exact this
  unfold F_X7_ticks
  rw [ixW0, hw_nm_s, e1, hw_bd_s, show F_X7_of (nI i) 4 (mf τ N a1 b1) = _ from mf_of hi (k := 4) (by decide) τ N a1 b1, hw_bd_s]
  by_cases hh : heldN N T (rw_ N i) w = true
  · have e3 : heldI N T (rw_ N i) w = 1 := by unfold heldI; rw [if_pos hh]
    rw [if_neg (by rw [e3]; decide)]
    obtain ⟨a2, b2, e2⟩ := X7_grow hi h w τ a1 b1
    rw [e2, hw_bd_s]
    exact mid _ a2 b2 (by unfold driven; rw [if_pos hh])
  · have e3 : heldI N T (rw_ N i) w = 0 := by unfold heldI; rw [if_neg hh]
    rw [if_pos e3]
    exact mid 0 a1 b1 (by unfold driven; rw [if_neg hh, Int32.add_zero])
