/-! the class's texts -/
theorem fl_law : ∀ t, t < 15 → hw_fl (30 + t) 2 = 45 + t ∧ hw_gH (45 + t) 10 = true ∧ hw_ln (45 + t) = 96 ∧ hw_gH (30 + t) 0 = true := by decide
theorem ln10 : hw_ln 10 = 96 ∧ hw_gH 10 10 = true := by decide
theorem gv_step (n : Nat) (t0 : Nat) (a b c : Int32) (t4 : Nat) (l5 l6 : Int32) (s : hw_St) : L_X0_gives_6 (n + 1) t0 a b c t4 l5 l6 s = S_X0_gives_6 (L_X0_gives_6 n) t0 a b c t4 l5 l6 s := rfl
def fx (a b c : Int32) : Nat → Int32 := fun j => if j = 0 then a else if j = 1 then b else c
theorem en_pos {c : Int32} (h : 0 ≤ c) : en c = c := by unfold en; rw [if_pos h]
theorem en_sign {c : Int32} (h1 : -9 ≤ c) (h2 : c ≤ -1) : 20000 ≤ en c ∧ ¬ en c = 20033 := by
  rcases signs h1 h2 with rfl | rfl | rfl | rfl | rfl | rfl | rfl | rfl | rfl <;> decide
theorem subadd (x : Int32) : x - 1 + 1 = x := Int32.sub_add_cancel x 1
set_option maxHeartbeats 2000000 in
theorem gv_loop {t len : Nat} (ht : t < 15) (hlen : len ≤ 96) {nm : Int32} (hnm : nm ≤ 10002) (a b c : Int32) (tok : Nat → Int32) : ∀ (r k : Nat) (st : List Int32) (s : hw_St) (n : Nat), r + k = len → s (30 + t) 3 = nI len → (∀ j, j < len → s (45 + t) j = en (tok j)) → wfn nm tok r k st.length → st.length ≤ k → stk (s 10) st → r < n → ∃ g, L_X0_gives_6 n (30 + t) a b c 10 (nI st.length - 1) (nI k) s = some ((evn tok (fx a b c) r k st).headD 0, hw_upA s 10 g) := by
  obtain ⟨f1, f2, f3, f4⟩ := fl_law t ht
  intro r
  induction r with
  | zero =>
    intro k st s n hk hsz hcode hw hd hs hn
    obtain ⟨n, rfl⟩ : ∃ m, n = m + 1 := ⟨n - 1, by omega⟩
    rw [gv_step]
    unfold S_X0_gives_6 B_X0_gives_176
    have h1 : st.length = 1 := hw
    rw [if_pos (by rw [hsz, show k = len by omega]; exact Int32.le_refl _), h1, if_pos (by decide), ln10.1, hw_gd_t (by decide)]
    match st, h1, hs with
    | [x], _, hs =>
      refine ⟨s 10, ?_⟩
      rw [upA_id]
      show some (s 10 0, s) = some (x, s)
      rw [show s 10 0 = x from hs.1]
  | succ r ih =>
    intro k st s n hk hsz hcode hw hd hs hn
    obtain ⟨n, rfl⟩ : ∃ m, n = m + 1 := ⟨n - 1, by omega⟩
    rw [gv_step]
    unfold S_X0_gives_6
    rw [if_neg (by rw [hsz]; exact nI_ge (by omega) (by omega)), f1, hw_gd_t f2, f3, if_neg (nI_ge (by omega) (by omega)), hw_gd_t (inb_nI (by omega) (by decide)), hw_nm_s, nI_clamp (by omega), hcode k (by omega)]
    have hw' := hw
    unfold wfn at hw'
    have hev : ∀ st2, stp (fx a b c) st (tok k) = st2 → evn tok (fx a b c) (r + 1) k st = evn tok (fx a b c) r (k + 1) st2 := by
      intro st2 h
      show evn _ _ r (k + 1) (stp (fx a b c) st (tok k)) = _
      rw [h]
    generalize hc : tok k = z at hw' hev ⊢
    have keep : ∀ (i : Nat) (v : Int32), (hw_up s 10 i v) (30 + t) 3 = nI len ∧ ∀ j, j < len → (hw_up s 10 i v) (45 + t) j = en (tok j) := fun i v =>
      ⟨by rw [up_row _ _ _ _ (by omega)]; exact hsz, fun j hj => by rw [up_row _ _ _ _ (by omega)]; exact hcode j hj⟩
    rcases hw' with ⟨h0, h1, h2⟩ | ⟨h0, h1, h2⟩ | ⟨h0, h1, h2⟩
    · have e1 := (iLe _ _).mp h1
      have e2 := (iLe _ _).mp hnm
      have z0 : (10002 : Int32).toInt = 10002 := rfl
      have z1 : (20000 : Int32).toInt = 20000 := rfl
      rw [en_pos h0, if_neg (fun g => by have := (iLe _ _).mp g; omega), ln10.1, subadd, if_neg (nI_ge (by omega) (by omega)), hw_nm_s]
      have fin : ∀ v : Int32, stp (fx a b c) st z = v :: st → ∃ g, B_X0_gives_97 (L_X0_gives_6 n) (30 + t) a b c 10 (nI st.length) (nI k) v (nI st.length) 10 s = some ((evn tok (fx a b c) (r + 1) k st).headD 0, hw_upA s 10 g) := by
        intro v hv
        unfold B_X0_gives_97 B_X0_gives_170
        rw [ln10.1, hw_gd_t (inb_nI (by omega) (by decide)), hw_nm_s, nI_clamp (by omega), nI_1]
        obtain ⟨g, hg⟩ := ih (k + 1) (v :: st) (hw_up s 10 st.length v) n (by omega) (keep _ _).1 (keep _ _).2 (by exact h2) (by simp; omega) ⟨by rw [up_self, upd_s], by rw [up_self]; exact stk_upd (Nat.le_refl _) hs⟩ (by omega)
        refine ⟨g, ?_⟩
        rw [show nI st.length = nI (v :: st).length - 1 from (nI_pred _).symm, hg, hev (v :: st) hv, up_upA, upA_upA]
      by_cases hn1 : 10000 ≤ z
      · obtain ⟨-, hi⟩ := nameIx hn1 ((iLe _ _).mpr (by omega))
        have z2 : (10000 : Int32).toInt = 10000 := rfl
        have hge : 0 ≤ z - 10000 := by rcases hi with h | h | h <;> rw [h] <;> decide
        rw [if_pos hge]
        rcases hi with h | h | h
        · rw [if_pos h]; exact fin a (by unfold stp; rw [if_pos h0, if_pos hn1, h]; rfl)
        · rw [if_neg (by rw [h]; decide), if_pos h]; exact fin b (by unfold stp; rw [if_pos h0, if_pos hn1, h]; rfl)
        · rw [if_neg (by rw [h]; decide), if_neg (by rw [h]; decide)]; exact fin c (by unfold stp; rw [if_pos h0, if_pos hn1, h]; rfl)
      · have hlt : ¬ 0 ≤ z - 10000 := by
          obtain ⟨q, hq, rfl⟩ := ix_to (M := 10002) (m := 10002) rfl h0 ((iLe _ _).mpr (by omega))
          have hq2 : q < 10000 := Classical.byContradiction (fun g => hn1 (nI_le (a := 10000) (by omega) (by omega)))
          rw [show (10000 : Int32) = nI 10000 from rfl]
          exact fun g => absurd g (iNle.mpr (pk_sneg (by omega) hq2))
        rw [if_neg hlt]
        exact fin z (by unfold stp; rw [if_pos h0, if_neg hn1])
    · obtain ⟨q1, q2⟩ := neg_not (Or.inl h0)
      rw [h0, if_pos (by decide)]
      unfold B_X0_gives_101
      rw [if_pos (by decide)]
      match st, h1, hs, hd, h2, hev with
      | x :: rr, h1, hs, hd, h2, hev =>
        have hl : (x :: rr).length = rr.length + 1 := rfl
        simp only [hl] at hd h2 ⊢
        rw [nI_pred, if_neg (nI_pos (by omega)), ln10.1, hw_gd_t (inb_nI (by omega) (by decide)), nI_clamp (by omega), hs.1]
        have fin : ∀ v : Int32, v = (if x = 0 then 1 else 0) → ∃ g, B_X0_gives_131 (L_X0_gives_6 n) (30 + t) a b c 10 (nI rr.length) (nI k) v (nI rr.length) 10 s = some ((evn tok (fx a b c) (r + 1) k (x :: rr)).headD 0, hw_upA s 10 g) := by
          intro v hv
          unfold B_X0_gives_131 B_X0_gives_170
          rw [ln10.1, hw_gd_t (inb_nI (by omega) (by decide)), hw_nm_s, nI_clamp (by omega), nI_1]
          obtain ⟨g, hg⟩ := ih (k + 1) (v :: rr) (hw_up s 10 rr.length v) n (by omega) (keep _ _).1 (keep _ _).2 (by exact h2) (by simp; omega) ⟨by rw [up_self, upd_s], by rw [up_self]; exact stk_upd (Nat.le_refl _) hs.2⟩ (by omega)
          refine ⟨g, ?_⟩
          rw [show nI rr.length = nI (v :: rr).length - 1 from (nI_pred _).symm, hg, hev (v :: rr) (by unfold stp; rw [if_neg q2, if_pos h0, hv]), up_upA, upA_upA]
        by_cases ha : x = 0
        · rw [if_pos ha]; exact fin 1 (by rw [if_pos ha])
        · rw [if_neg ha]; exact fin 0 (by rw [if_neg ha])
    · obtain ⟨q1, q2⟩ := neg_not (Or.inr h0)
      have q3 : ¬ z = -10 := fun e => by subst e; exact absurd h0.1 (by decide)
      obtain ⟨e1, e2⟩ := en_sign h0.1 h0.2
      rw [if_pos e1]
      unfold B_X0_gives_101
      rw [if_neg e2]
      unfold B_X0_gives_135
      match st, h1, hs, hd, h2, hev with
      | y :: x :: rr, h1, hs, hd, h2, hev =>
        have hl : (y :: x :: rr).length = rr.length + 1 + 1 := rfl
        simp only [hl] at hd h2 ⊢
        rw [nI_pred, if_neg (by rw [show (1 : Int32) = nI 1 from rfl]; exact nI_nlt (by omega) (by omega)), dec2_nI (by omega), show rr.length + 1 - 1 = rr.length from rfl, nI_1, ln10.1, hw_gd_t (inb_nI (by omega) (by decide)), hw_gd_t (inb_nI (by omega) (by decide)), nI_clamp (by omega), nI_clamp (by omega), hs.2.1, show s 10 (rr.length + 1) = y from hs.1, X0_joined h0.1 h0.2, hw_bd_s, hw_gd_t (inb_nI (by omega) (by decide)), hw_nm_s]
        unfold B_X0_gives_170
        rw [nI_1]
        obtain ⟨g, hg⟩ := ih (k + 1) (two z x y :: rr) (hw_up s 10 rr.length (two z x y)) n (by omega) (keep _ _).1 (keep _ _).2 (by exact h2) (by simp; omega) ⟨by rw [up_self, upd_s], by rw [up_self]; exact stk_upd (Nat.le_refl _) hs.2.2⟩ (by omega)
        refine ⟨g, ?_⟩
        rw [show nI rr.length = nI (two z x y :: rr).length - 1 from (nI_pred _).symm, hg, hev (two z x y :: rr) (by unfold stp; rw [if_neg q2, if_neg q3]), up_upA, upA_upA]
/-- what text t of the flat row N gives -/
def evT (N : Nat → Int32) (t len : Nat) (f : Nat → Int32) : Int32 := (evn (fun j => N (99 + 96 * t + j)) f len 0 []).headD 0
theorem evn_congr {nm : Int32} {tok : Nat → Int32} {f g : Nat → Int32} (hnm : nm ≤ 10002) (h : ∀ j, j < 3 → nI (10000 + j) ≤ nm → f j = g j) : ∀ (r k : Nat) (st : List Int32), wfn nm tok r k st.length → evn tok f r k st = evn tok g r k st := by
  intro r
  induction r with
  | zero => intro k st _; rfl
  | succ r ih =>
    intro k st hw
    show evn tok f r (k + 1) (stp f st (tok k)) = evn tok g r (k + 1) (stp g st (tok k))
    have hw' := hw
    unfold wfn at hw'
    rcases hw' with ⟨h0, h1, h2⟩ | ⟨h0, h1, h2⟩ | ⟨h0, h1, h2⟩
    · have e : stp f st (tok k) = stp g st (tok k) := by
        unfold stp
        rw [if_pos h0, if_pos h0]
        by_cases hn1 : 10000 ≤ tok k
        · rw [if_pos hn1, if_pos hn1]
          have h3 : tok k ≤ 10002 := (iLe _ _).mpr (Int.le_trans ((iLe _ _).mp h1) ((iLe _ _).mp hnm))
          obtain ⟨q, hq, hq2⟩ := ix_to (M := 10002) (m := 10002) rfl h0 h3
          have hge : 10000 ≤ q := Classical.byContradiction (fun g => by rw [hq2] at hn1; exact nI_ge (show q < 10000 by omega) (by omega) hn1)
          rw [hq2, show (10000 : Int32) = nI 10000 from rfl, pk_sub hge, nI_clamp (by omega), h (q - 10000) (by omega) (by rw [show 10000 + (q - 10000) = q by omega, ← hq2]; exact h1)]
        · rw [if_neg hn1, if_neg hn1]
      rw [e]
      refine ih (k + 1) _ ?_
      have e2 : (stp g st (tok k)).length = st.length + 1 := by unfold stp; rw [if_pos h0]; rfl
      rw [e2]; exact h2
    · obtain ⟨q1, q2⟩ := neg_not (Or.inl h0)
      have e : stp f st (tok k) = stp g st (tok k) := by unfold stp; rw [if_neg q2, if_neg q2]
      rw [e]
      refine ih (k + 1) _ ?_
      match st, h1, h2 with
      | x :: rr, h1, h2 =>
        have e2 : (stp g (x :: rr) (tok k)).length = (x :: rr).length := by unfold stp; rw [if_neg q2, if_pos h0]; rfl
        rw [e2]; exact h2
    · obtain ⟨q1, q2⟩ := neg_not (Or.inr h0)
      have q3 : ¬ tok k = -10 := fun e => by rw [e] at h0; exact absurd h0.1 (by decide)
      have e : stp f st (tok k) = stp g st (tok k) := by unfold stp; rw [if_neg q2, if_neg q2]
      rw [e]
      refine ih (k + 1) _ ?_
      match st, h1, h2 with
      | y :: x :: rr, h1, h2 =>
        have e2 : (stp g (y :: x :: rr) (tok k)).length = (y :: x :: rr).length - 1 := by unfold stp; rw [if_neg q2, if_neg q3]; rfl
        rw [e2]; exact h2
