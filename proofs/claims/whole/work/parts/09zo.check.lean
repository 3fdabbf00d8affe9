/-! what counts of a flat row for a tick -/
def at3 (N N' : Nat → Int32) : Prop := N' 3 = N 3 ∧ N' 4 = N 4 ∧ ∀ j, 71 ≤ j → N' j = N j
theorem at_len {N N' : Nat → Int32} (h : at3 N N') (t : Nat) : lenN N' t = lenN N t := by unfold lenN; rw [h.2.2 _ (by omega)]
theorem at_tok {N N' : Nat → Int32} (h : at3 N N') (t : Nat) : (fun j => N' (99 + 96 * t + j)) = fun j => N (99 + 96 * t + j) := funext (fun j => h.2.2 _ (by omega))
theorem at_ev {N N' : Nat → Int32} (h : at3 N N') (t len : Nat) (f : Nat → Int32) : evT N' t len f = evT N t len f := by unfold evT; rw [at_tok h]
theorem at_Mc {N N' : Nat → Int32} (h : at3 N N') {T : Nat} (g : hv_Mc N T) : hv_Mc N' T := by
  obtain ⟨g1, g2, g3, g4⟩ := g
  refine ⟨by rw [h.2.1]; exact g1, g2, by rw [h.1]; exact g3, fun t ht => ?_⟩
  obtain ⟨key, len, q1, q2, q3, q4⟩ := g4 t ht
  exact ⟨key, len, q1, q2, by rw [h.2.2 _ (by omega)]; exact q3, by rw [at_tok h]; exact q4⟩
theorem at_band {N N' : Nat → Int32} (h : at3 N N') (T : Nat) (f : Nat → Int32) (w : Int32) : bandN N' T f w = bandN N T f w := by
  unfold bandN
  rw [cn_at h.2.2]
  cases cn N 0 T with
  | none => rfl
  | some t => dsimp only; rw [at_len h, at_ev h]
theorem at_grow {N N' : Nat → Int32} (h : at3 N N') (T : Nat) (f : Nat → Int32) (w : Int32) : growN N' T f w = growN N T f w := by
  unfold growN
  rw [cn_at h.2.2]
  cases cn N 1 T with
  | none => rfl
  | some t => dsimp only; rw [at_len h, at_ev h]
theorem at_tire {N N' : Nat → Int32} (h : at3 N N') (T : Nat) (f : Nat → Int32) : tireN N' T f = tireN N T f := by
  unfold tireN
  rw [cn_at h.2.2, h.1]
  cases cn N 2 T with
  | none => rfl
  | some t => dsimp only; rw [at_len h, at_ev h]
theorem at_held {N N' : Nat → Int32} (h : at3 N N') (T : Nat) (f : Nat → Int32) (w : Int32) : heldN N' T f w = heldN N T f w := by unfold heldN; rw [at_band h]
theorem at_tkT {N N' : Nat → Int32} (h : at3 N N') (T : Nat) (f : Nat → Int32) (w : Int32) : tkT N' T f w = tkT N T f w := by unfold tkT; rw [at_held h]
theorem at_tkR {N N' : Nat → Int32} (h : at3 N N') (T : Nat) (f : Nat → Int32) (w : Int32) : tkR N' T f w = tkR N T f w := by
  unfold tkR tkM swingN driven heldI
  rw [at_held h, at_grow h, at_tire h]
/-! an hour's row -/
theorem hN_ag (T : Nat) (wd : Int32) : ∀ (d i : Nat) (N : Nat → Int32), i + d ≤ 6 → ag N (hN T wd d i N)
  | 0, _, N, _ => ag_rf N
  | d + 1, i, N, h => ag_tr (tkN_ag N T (by omega) wd) (hN_ag T wd d (i + 1) (tkN N T i wd) (by omega))
theorem hN_out (T : Nat) (wd : Int32) : ∀ (d i : Nat) (N : Nat → Int32) (q : Nat), q < i → e7 (rw_ (hN T wd d i N) q) (rw_ N q)
  | 0, _, _, _, _ => fun _ _ => rfl
  | d + 1, i, N, q, h => fun k hk => (hN_out T wd d (i + 1) (tkN N T i wd) q (by omega) k hk).trans (tkN_oth N T wd (by omega) hk)
theorem hN_row (T : Nat) (wd : Int32) : ∀ (d i : Nat) (N : Nat → Int32) (q : Nat), i + d ≤ 6 → i ≤ q → q < i + d → e7 (rw_ (hN T wd d i N) q) (tkR N T (rw_ N q) wd)
  | 0, _, _, _, _, h1, h2 => absurd h2 (by omega)
  | d + 1, i, N, q, h, h1, h2 => by
    by_cases e : q = i
    · subst e
      intro k hk
      have := hN_out T wd d (q + 1) (tkN N T q wd) q (by omega) k hk
      rw [tkN_row] at this
      exact this
    · intro k hk
      have a := hN_row T wd d (i + 1) (tkN N T i wd) q (by omega) (by omega) (by omega) k hk
      rw [ag_tkR (tkN_ag N T (by omega) wd)] at a
      exact a.trans (tkR_cg (fun k hk => tkN_oth N T wd e hk) N T wd k hk)
/-! the reference's hours of check -/
theorem two_k (k : Nat) : (2 : Int32) * nI k = nI (2 * k) := by rw [show (2 : Int32) = nI 2 from rfl, pk_mul]
theorem nI_ne {a b : Nat} (ha : a < 1000) (hb : b < 1000) (h : a ≠ b) : ¬ nI a = nI b := fun z => by
  have := (iEq _ _).mp z
  rw [nI_toInt (by omega), nI_toInt (by omega)] at this
  omega
/-- a loop begun with a wrong count ends at once -/
theorem rh_out {m k l : Nat} (hk : k < 100) (hl : l < 200) (h : l ≠ 2 * k) (i n0 : Int32) (n : Nat) (τ : hw_St) : L_X7_rightHours_6 (n + 1) i (nI m) n0 (nI l) (nI k) τ = some (nI l, τ) := by
  show S_X7_rightHours_6 (L_X7_rightHours_6 n) i (nI m) n0 (nI l) (nI k) τ = _
  unfold S_X7_rightHours_6
  rw [two_k, if_neg (nI_ne (by omega) (by omega) h)]
  split <;> rfl
theorem rh_loop {σ τ : hw_St} {N : Nat → Int32} {w h T : Nat} (A : hv_Sc σ 2 N w h T) {i : Nat} (hi : i < w) {f : Nat → Int32} (e : e7 f (rw_ N i)) {m n0 : Nat} (hm : m ≤ 30) (hn0 : n0 ≤ 60) (hw : ∀ j, j < n0 → σ 16 j = τ 222 j) : ∀ (d k n : Nat) (g M a b : Nat → Int32), k + d = m → d + 1 < n → at3 N M → M 1 = nI w → M 2 = nI ((h + k) % 24) → (∀ q, q < 24 → M (5 + q) = N (5 + q)) → e7 (rw_ M i) (dF N T h (rw_ N i) k) → (∀ q, q < w → hv_W (rw_ M q)) → ∃ r g' f' M' a' b', L_X6_hoursToldRight_2 n (nI m) (nI n0) (nI k) (nf σ 11 g (dF N T h f k)) = some (r, nf σ 11 g' f') ∧ L_X7_rightHours_6 n (nI i) (nI m) (nI n0) (nI (2 * k)) (nI k) (mf τ M a b) = some (r, mf τ M' a' b') := by
  have hb6 := A.bw
  have h6 : i < 6 := by omega
  have hh := A.bh
  have hvf : hv_W f := W_cg e (A.ww i hi)
  intro d
  induction d with
  | zero =>
    intro k n g M a b hk hn M3 m1 m2 mw mr ww
    obtain ⟨n, rfl⟩ : ∃ q, n = q + 1 := ⟨n - 1, by omega⟩
    have : k = m := by omega
    subst this
    refine ⟨nI (2 * k), g, dF N T h f k, M, a, b, ?_, ?_⟩
    · show S_X6_hoursToldRight_2 (L_X6_hoursToldRight_2 n) (nI k) (nI n0) (nI k) _ = _
      unfold S_X6_hoursToldRight_2
      rw [if_pos (Int32.le_refl _), two_k]
    · show S_X7_rightHours_6 (L_X7_rightHours_6 n) (nI i) (nI k) (nI n0) (nI (2 * k)) (nI k) _ = _
      unfold S_X7_rightHours_6
      rw [if_pos (Int32.le_refl _)]
  | succ d ih =>
    intro k n g M a b hk hn M3 m1 m2 mw mr ww
    obtain ⟨n, rfl⟩ : ∃ q, n = q + 1 + 1 := ⟨n - 2, by omega⟩
    have km : ¬ nI m ≤ nI k := iNle.mpr (nI_lt (by omega) (by omega))
    have ewd : M (5 + (h + k) % 24) = dW N h k := mw _ (by omega)
    have ed : e7 (dF N T h f k) (dF N T h (rw_ N i) k) := dF_cg e k
    -- the class
    obtain ⟨g1, c1⟩ := th6 (Or.inr rfl) (Sc_Lc A) (dF_W (N := N) (T := T) (h := h) hvf k) (dW N h k) g
    have ct : tkT N T (dF N T h f k) (dW N h k) = dT N T h (rw_ N i) k := dT_cg e k
    have cs : dF N T h f (k + 1) 4 = dF N T h (rw_ N i) (k + 1) 4 := dF_cg e (k + 1) 4 (by decide)
    rw [ct] at c1
    have c6 : L_X6_hoursToldRight_2 (n + 1 + 1) (nI m) (nI n0) (nI k) (nf σ 11 g (dF N T h f k)) = (if nI n0 ≤ nI (2 * k) then some (nI (2 * k), nf σ 11 g1 (dF N T h f (k + 1))) else (hw_gd (hw_inb (nI (2 * k)) 60) (if σ 16 (2 * k) = dT N T h (rw_ N i) k then (if nI n0 ≤ nI (2 * k + 1) then some (nI (2 * k + 1), nf σ 11 g1 (dF N T h f (k + 1))) else (hw_gd (hw_inb (nI (2 * k + 1)) 60) (if σ 16 (2 * k + 1) = dF N T h (rw_ N i) (k + 1) 4 then L_X6_hoursToldRight_2 (n + 1) (nI m) (nI n0) (nI (k + 1)) (nf σ 11 g1 (dF N T h f (k + 1))) else some (nI (2 * k + 1), nf σ 11 g1 (dF N T h f (k + 1)))))) else some (nI (2 * k), nf σ 11 g1 (dF N T h f (k + 1)))))) := by
      show S_X6_hoursToldRight_2 (L_X6_hoursToldRight_2 (n + 1)) (nI m) (nI n0) (nI k) _ = _
      unfold S_X6_hoursToldRight_2 B_X6_hoursToldRight_48 B_X6_hoursToldRight_81
      rw [if_neg km, wind6 (Or.inr rfl) A (by omega), hw_bd_s, c1, hw_bd_s, two_k, show nI (2 * k) + 1 = nI (2 * k + 1) from nI_add _ 1, nf_x, nf_o _ _ _ (show 16 ≠ 11 by decide) (by decide), nI_clamp (by omega), nI_clamp (by omega), show nI k + 1 = nI (k + 1) from nI_add k 1, show tkR N T (dF N T h f k) (dW N h k) 4 = dF N T h (rw_ N i) (k + 1) 4 from cs]
      rfl
    -- the reference
    obtain ⟨a1, b1, d1⟩ := X7_held h6 (at_Mc M3 (Sc_Mc A)) (ww i hi) (dW N h k) τ a b
    have rt : tkT M T (rw_ M i) (dW N h k) = dT N T h (rw_ N i) k := by rw [at_tkT M3]; exact tkT_cg mr N T _
    obtain ⟨a2, b2, d2⟩ := pass7 A.bw (show (h + k) % 24 < 24 by omega) (dW N h k) τ w 0 130 M a1 b1 (at_Mc M3 (Sc_Mc A)) m1 m2 ww (by omega) ewd (by omega)
    have d2' : F_X7_anHour (mf τ M a1 b1) = some ((), mf τ (upd (hN T (dW N h k) w 0 M) 2 (nI (((h + k) % 24 + 1) % 24))) a2 b2) := d2
    generalize hM' : upd (hN T (dW N h k) w 0 M) 2 (nI (((h + k) % 24 + 1) % 24)) = M' at d2'
    have G := hN_ag T (dW N h k) w 0 M (by omega)
    have rr : ∀ q, q < 6 → e7 (rw_ M' q) (rw_ (hN T (dW N h k) w 0 M) q) := fun q hq j hj => by rw [← hM']; exact upd_n _ _ (by omega)
    have M3' : at3 N M' := by
      rw [← hM']
      exact ⟨by rw [upd_n _ _ (by decide), G 3 (by omega)]; exact M3.1, by rw [upd_n _ _ (by decide), G 4 (by omega)]; exact M3.2.1, fun j hj => by rw [upd_n _ _ (by omega), G j (by omega)]; exact M3.2.2 j hj⟩
    have m1' : M' 1 = nI w := by rw [← hM', upd_n _ _ (by decide), G 1 (by omega)]; exact m1
    have m2' : M' 2 = nI ((h + (k + 1)) % 24) := by rw [← hM', upd_s]; congr 1; omega
    have mw' : ∀ q, q < 24 → M' (5 + q) = N (5 + q) := fun q hq => by rw [← hM', upd_n _ _ (by omega), G _ (by omega)]; exact mw q hq
    have mr' : e7 (rw_ M' i) (dF N T h (rw_ N i) (k + 1)) := fun j hj => by
      rw [rr i h6 j hj, hN_row T (dW N h k) w 0 M i (by omega) (by omega) (by omega) j hj, at_tkR M3]
      exact tkR_cg mr N T (dW N h k) j hj
    have ww' : ∀ q, q < w → hv_W (rw_ M' q) := fun q hq => W_cg (fun j hj => (rr q (by omega) j hj).trans (hN_row T (dW N h k) w 0 M q (by omega) (by omega) (by omega) j hj)) (W_tk _ (ww q hq))
    have hB : B_X7_rightHours_62 (L_X7_rightHours_6 (n + 1)) (nI i) (nI m) (nI n0) (nI (2 * k)) (nI k) (dT N T h (rw_ N i) k) (mf τ M a1 b1) = (if nI n0 ≤ nI (2 * k) then some (nI (2 * k), mf τ M' a2 b2) else (hw_gd (hw_inb (nI (2 * k)) 60) (if τ 222 (2 * k) = dT N T h (rw_ N i) k then (if nI n0 ≤ nI (2 * k + 1) then some (nI (2 * k + 1), mf τ M' a2 b2) else (hw_gd (hw_inb (nI (2 * k + 1)) 60) (if τ 222 (2 * k + 1) = dF N T h (rw_ N i) (k + 1) 4 then L_X7_rightHours_6 (n + 1) (nI i) (nI m) (nI n0) (nI (2 * (k + 1))) (nI (k + 1)) (mf τ M' a2 b2) else some (nI (2 * k + 1), mf τ M' a2 b2)))) else some (nI (2 * k), mf τ M' a2 b2)))) := by
      unfold B_X7_rightHours_62
      rw [d2', hw_bd_s]
      unfold B_X7_rightHours_92 B_X7_rightHours_93
      rw [hw_nm_s, hw_nm_s, Int32.add_zero, two_k, show nI (2 * k) + 1 = nI (2 * k + 1) from nI_add _ 1, if_pos rfl, if_neg (nI_ne (a := 2 * k) (b := 2 * k + 1) (by omega) (by omega) (by omega)), mf_o τ M' a2 b2 (show 222 ≠ 201 by decide) (by decide) (by decide), nI_clamp (by omega), nI_clamp (by omega), show F_X7_of (nI i) 4 _ = _ from mf_of h6 (k := 4) (by decide) τ M' a2 b2, hw_bd_s]
      unfold B_X7_rightHours_135 B_X7_rightHours_136
      rw [hw_nm_s, hw_nm_s, hw_nm_s, Int32.add_zero, Int32.add_zero, show nI (2 * k + 1) + 1 = nI (2 * (k + 1)) from nI_add _ 1, show nI k + 1 = nI (k + 1) from nI_add k 1, rh_out (by omega) (by omega) (by omega), rh_out (by omega) (by omega) (by omega), mr' 4 (by decide)]
    have c7 : L_X7_rightHours_6 (n + 1 + 1) (nI i) (nI m) (nI n0) (nI (2 * k)) (nI k) (mf τ M a b) = B_X7_rightHours_62 (L_X7_rightHours_6 (n + 1)) (nI i) (nI m) (nI n0) (nI (2 * k)) (nI k) (dT N T h (rw_ N i) k) (mf τ M a1 b1) := by
      show S_X7_rightHours_6 (L_X7_rightHours_6 (n + 1)) (nI i) (nI m) (nI n0) (nI (2 * k)) (nI k) _ = _
      unfold S_X7_rightHours_6
      rw [if_neg km, two_k, if_pos rfl, hw_gd_t (by decide), mf_201, show ((2 : Int32).toNatClampNeg) = 2 from rfl, m2, show (5 : Int32) + nI ((h + k) % 24) = nI (5 + (h + k) % 24) from nI_add 5 _, hw_gd_t (inb_nI (by omega) (by decide)), hw_nm_s, nI_clamp (by omega), ewd, d1, hw_bd_s, ← rt]
      unfold tkT
      by_cases q : heldN M T (rw_ M i) (dW N h k) = true
      · rw [if_neg (fun z => (heldI_0 _ _ _ _).mp z q), if_pos q, show F_X7_of (nI i) 2 _ = _ from mf_of h6 (k := 2) (by decide) τ M a1 b1, hw_bd_s]
      · rw [if_pos ((heldI_0 _ _ _ _).mpr q), if_neg q, X7_eddy h6 _ (by rw [mf_201]; exact (ww i hi).2.1.1), hw_bd_s, mf_201]
    rw [c6, c7, hB]
    by_cases q1 : n0 ≤ 2 * k
    · have p1 : nI n0 ≤ nI (2 * k) := nI_le q1 (by omega)
      rw [if_pos p1, if_pos p1]
      exact ⟨_, _, _, _, _, _, rfl, rfl⟩
    · have p1 : ¬ nI n0 ≤ nI (2 * k) := iNle.mpr (nI_lt (by omega) (by omega))
      rw [if_neg p1, if_neg p1, hw_gd_t (inb_nI (i := 2 * k) (by omega) (by decide)), hw_gd_t (inb_nI (i := 2 * k) (by omega) (by decide)), hw (2 * k) (by omega)]
      by_cases q2 : τ 222 (2 * k) = dT N T h (rw_ N i) k
      · rw [if_pos q2, if_pos q2]
        by_cases q3 : n0 ≤ 2 * k + 1
        · have p3 : nI n0 ≤ nI (2 * k + 1) := nI_le q3 (by omega)
          rw [if_pos p3, if_pos p3]
          exact ⟨_, _, _, _, _, _, rfl, rfl⟩
        · have p3 : ¬ nI n0 ≤ nI (2 * k + 1) := iNle.mpr (nI_lt (by omega) (by omega))
          rw [if_neg p3, if_neg p3, hw_gd_t (inb_nI (i := 2 * k + 1) (by omega) (by decide)), hw_gd_t (inb_nI (i := 2 * k + 1) (by omega) (by decide)), hw (2 * k + 1) (by omega)]
          by_cases q4 : τ 222 (2 * k + 1) = dF N T h (rw_ N i) (k + 1) 4
          · rw [if_pos q4, if_pos q4]
            exact ih (k + 1) (n + 1) g1 M' a2 b2 (by omega) (by omega) M3' m1' m2' mw' mr' ww'
          · rw [if_neg q4, if_neg q4]
            exact ⟨_, _, _, _, _, _, rfl, rfl⟩
      · rw [if_neg q2, if_neg q2]
        exact ⟨_, _, _, _, _, _, rfl, rfl⟩
