/-! texts worked out: tokens as the reference has them -/
def two (c a b : Int32) : Int32 := if c = -8 then a * b else if c = -7 then a - b else if c = -6 then a + b else if c = -5 then (if a ≤ b then 0 else 1) else if c = -4 then (if a = b then 1 else 0) else if c = -3 then (if b ≤ a then 0 else 1) else if c = -2 then (if a = 0 then 0 else if b = 0 then 0 else 1) else if c = -1 then (if a = 0 then (if b = 0 then 0 else 1) else 1) else (if b = 0 then 0 else a / b)
theorem X7_two (c a b : Int32) (s : hw_St) : F_X7_two c a b s = some (two c a b, s) := by
  unfold F_X7_two two B_X7_two_56
  split
  · rfl
  · split
    · rfl
    · split
      · rfl
      · split
        · split <;> rfl
        · split
          · split <;> rfl
          · split
            · split <;> rfl
            · split
              · split
                · rfl
                · split <;> rfl
              · split
                · split
                  · split <;> rfl
                  · rfl
                · split
                  · rfl
                  · next h => exact hw_gd_t (decide_eq_true h)
/-- a token as the class has it -/
def en (c : Int32) : Int32 := if 0 ≤ c then c else if c = -10 then 20033 else if c = -1 then 20124 else if c = -2 then 20038 else if c = -3 then 20060 else if c = -4 then 20061 else if c = -5 then 20062 else if c = -6 then 20043 else if c = -7 then 20045 else if c = -8 then 20042 else 20047
theorem signs {c : Int32} (h1 : -9 ≤ c) (h2 : c ≤ -1) : c = -1 ∨ c = -2 ∨ c = -3 ∨ c = -4 ∨ c = -5 ∨ c = -6 ∨ c = -7 ∨ c = -8 ∨ c = -9 := by
  have e1 := (iLe _ _).mp h1
  have e2 := (iLe _ _).mp h2
  have z1 : (-9 : Int32).toInt = -9 := by decide
  have z2 : (-1 : Int32).toInt = -1 := by decide
  have q : c.toInt = -1 ∨ c.toInt = -2 ∨ c.toInt = -3 ∨ c.toInt = -4 ∨ c.toInt = -5 ∨ c.toInt = -6 ∨ c.toInt = -7 ∨ c.toInt = -8 ∨ c.toInt = -9 := by omega
  rcases q with q | q | q | q | q | q | q | q | q
  · exact Or.inl (Int32.toInt_inj.mp (q.trans (by decide)))
  · exact Or.inr (Or.inl (Int32.toInt_inj.mp (q.trans (by decide))))
  · exact Or.inr (Or.inr (Or.inl (Int32.toInt_inj.mp (q.trans (by decide)))))
  · exact Or.inr (Or.inr (Or.inr (Or.inl (Int32.toInt_inj.mp (q.trans (by decide))))))
  · exact Or.inr (Or.inr (Or.inr (Or.inr (Or.inl (Int32.toInt_inj.mp (q.trans (by decide)))))))
  · exact Or.inr (Or.inr (Or.inr (Or.inr (Or.inr (Or.inl (Int32.toInt_inj.mp (q.trans (by decide))))))))
  · exact Or.inr (Or.inr (Or.inr (Or.inr (Or.inr (Or.inr (Or.inl (Int32.toInt_inj.mp (q.trans (by decide)))))))))
  · exact Or.inr (Or.inr (Or.inr (Or.inr (Or.inr (Or.inr (Or.inr (Or.inl (Int32.toInt_inj.mp (q.trans (by decide))))))))))
  · exact Or.inr (Or.inr (Or.inr (Or.inr (Or.inr (Or.inr (Or.inr (Or.inr (Int32.toInt_inj.mp (q.trans (by decide))))))))))
theorem X0_joined {c : Int32} (h1 : -9 ≤ c) (h2 : c ≤ -1) (a b : Int32) (s : hw_St) : F_X0_joined (en c - 20000) a b s = some (two c a b, s) := by
  rcases signs h1 h2 with rfl | rfl | rfl | rfl | rfl | rfl | rfl | rfl | rfl
  · show F_X0_joined 124 a b s = some ((if a = 0 then (if b = 0 then 0 else 1) else 1), s)
    unfold F_X0_joined B_X0_joined_195
    rw [if_neg (by decide), if_neg (by decide), if_neg (by decide), if_neg (by decide), if_neg (by decide), if_neg (by decide), if_neg (by decide), if_neg (by decide)]
    split
    · split <;> rfl
    · rfl
  · show F_X0_joined 38 a b s = some ((if a = 0 then 0 else if b = 0 then 0 else 1), s)
    unfold F_X0_joined
    rw [if_pos rfl]
    split
    · rfl
    · split <;> rfl
  · show F_X0_joined 60 a b s = some ((if b ≤ a then 0 else 1), s)
    unfold F_X0_joined
    rw [if_neg (by decide), if_neg (by decide), if_neg (by decide), if_neg (by decide), if_neg (by decide), if_pos rfl]
    split <;> rfl
  · show F_X0_joined 61 a b s = some ((if a = b then 1 else 0), s)
    unfold F_X0_joined
    rw [if_neg (by decide), if_neg (by decide), if_neg (by decide), if_neg (by decide), if_neg (by decide), if_neg (by decide), if_pos rfl]
    split <;> rfl
  · show F_X0_joined 62 a b s = some ((if a ≤ b then 0 else 1), s)
    unfold F_X0_joined
    rw [if_neg (by decide), if_neg (by decide), if_neg (by decide), if_neg (by decide), if_neg (by decide), if_neg (by decide), if_neg (by decide), if_pos rfl]
    split <;> rfl
  · show F_X0_joined 43 a b s = some (a + b, s)
    unfold F_X0_joined
    rw [if_neg (by decide), if_neg (by decide), if_pos rfl]
  · show F_X0_joined 45 a b s = some (a - b, s)
    unfold F_X0_joined
    rw [if_neg (by decide), if_neg (by decide), if_neg (by decide), if_pos rfl]
  · show F_X0_joined 42 a b s = some (a * b, s)
    unfold F_X0_joined
    rw [if_neg (by decide), if_pos rfl]
  · show F_X0_joined 47 a b s = some ((if b = 0 then 0 else a / b), s)
    unfold F_X0_joined
    rw [if_neg (by decide), if_neg (by decide), if_neg (by decide), if_neg (by decide), if_pos rfl]
    split
    · rfl
    · next h => exact hw_gd_t (decide_eq_true h)
/-- one token on a stack, its top first -/
def stp (f : Nat → Int32) (st : List Int32) (c : Int32) : List Int32 :=
  if 0 ≤ c then (if 10000 ≤ c then f (c - 10000).toNatClampNeg else c) :: st
  else if c = -10 then (match st with
    | a :: r => (if a = 0 then 1 else 0) :: r
    | [] => [])
  else match st with
    | b :: a :: r => two c a b :: r
    | _ => []
/-- r tokens from place k on -/
def evn (tok : Nat → Int32) (f : Nat → Int32) : Nat → Nat → List Int32 → List Int32
  | 0, _, st => st
  | r + 1, k, st => evn tok f r (k + 1) (stp f st (tok k))
def wfn (nm : Int32) (tok : Nat → Int32) : Nat → Nat → Nat → Prop
  | 0, _, d => d = 1
  | r + 1, k, d => (0 ≤ tok k ∧ tok k ≤ nm ∧ wfn nm tok r (k + 1) (d + 1)) ∨ (tok k = -10 ∧ 1 ≤ d ∧ wfn nm tok r (k + 1) d) ∨ ((-9 ≤ tok k ∧ tok k ≤ -1) ∧ 2 ≤ d ∧ wfn nm tok r (k + 1) (d - 1))
/-- a row holds a stack: its element of depth j at place j -/
def stk (g : Nat → Int32) : List Int32 → Prop
  | [] => True
  | a :: r => g r.length = a ∧ stk g r
theorem stk_upd {g : Nat → Int32} {v : Int32} {j : Nat} : ∀ {st : List Int32}, st.length ≤ j → stk g st → stk (upd g j v) st
  | [], _, _ => trivial
  | a :: r, hj, h => by
    have h1 : r.length ≠ j := by simp at hj; omega
    exact ⟨by rw [upd_n _ _ h1]; exact h.1, stk_upd (by simp at hj; omega) h.2⟩
theorem upA_upA (σ : hw_St) (t : Nat) (f g : Nat → Int32) : hw_upA (hw_upA σ t f) t g = hw_upA σ t g := by
  funext a; unfold hw_upA; split <;> rfl
theorem upA_id (σ : hw_St) (t : Nat) : hw_upA σ t (σ t) = σ := by
  funext a; unfold hw_upA; split
  · next h => rw [h]
  · rfl
theorem up_upA (σ : hw_St) (t k : Nat) (v : Int32) : hw_up σ t k v = hw_upA σ t (upd (σ t) k v) := rfl
theorem neg_not {c : Int32} (h : c = -10 ∨ (-9 ≤ c ∧ c ≤ -1)) : c < 0 ∧ ¬ 0 ≤ c := by
  have z : c.toInt < 0 := by
    rcases h with rfl | h
    · decide
    · have := (iLe _ _).mp h.2
      have z2 : (-1 : Int32).toInt = -1 := by decide
      omega
  have z0 : (0 : Int32).toInt = 0 := rfl
  exact ⟨(iLt _ _).mpr (by omega), fun g => by have := (iLe _ _).mp g; omega⟩
theorem dec_nI {d : Nat} (h : 1 ≤ d) : nI d - 1 = nI (d - 1) := by
  obtain ⟨e, rfl⟩ : ∃ e, d = e + 1 := ⟨d - 1, by omega⟩
  rw [nI_pred]; rfl
theorem dec2_nI {d : Nat} (h : 1 ≤ d) : nI d + -1 = nI (d - 1) := by
  obtain ⟨e, rfl⟩ : ∃ e, d = e + 1 := ⟨d - 1, by omega⟩
  rw [pk_m1]; rfl
theorem nameIx {c : Int32} (h1 : 10000 ≤ c) (h2 : c ≤ 10002) : hw_inb (c - 10000) 4 = true ∧ (c - 10000 = 0 ∨ c - 10000 = 1 ∨ c - 10000 = 2) := by
  have e1 := (iLe _ _).mp h1
  have e2 := (iLe _ _).mp h2
  have z1 : (10000 : Int32).toInt = 10000 := rfl
  have z2 : (10002 : Int32).toInt = 10002 := rfl
  have q : c.toInt = 10000 ∨ c.toInt = 10001 ∨ c.toInt = 10002 := by omega
  rcases q with q | q | q
  · have : c = 10000 := Int32.toInt_inj.mp q
    subst this; exact ⟨by decide, by decide⟩
  · have : c = 10001 := Int32.toInt_inj.mp q
    subst this; exact ⟨by decide, by decide⟩
  · have : c = 10002 := Int32.toInt_inj.mp q
    subst this; exact ⟨by decide, by decide⟩
theorem wo_step (n t len k : Nat) (d : Int32) (s : hw_St) : L_X7_worksOut_21 (n + 1) (nI t) d (nI len) (nI k) s = S_X7_worksOut_21 (L_X7_worksOut_21 n) (nI t) d (nI len) (nI k) s := rfl
theorem ixC {t k : Nat} : (99 : Int32) + 96 * nI t + nI k = nI (99 + 96 * t + k) := by
  rw [show (99 : Int32) = nI 99 from rfl, show (96 : Int32) = nI 96 from rfl, pk_mul, nI_add, nI_add]
set_option maxHeartbeats 1000000 in
theorem wo_loop {t len : Nat} (ht : t < 14) (hlen : len ≤ 96) {nm : Int32} (hnm : nm ≤ 10002) : ∀ (r k : Nat) (st : List Int32) (s : hw_St) (n : Nat), r + k = len → wfn nm (fun j => s 201 (99 + 96 * t + j)) r k st.length → st.length ≤ k → stk (s 212) st → r < n → ∃ g, L_X7_worksOut_21 n (nI t) (nI st.length) (nI len) (nI k) s = some ((evn (fun j => s 201 (99 + 96 * t + j)) (s 213) r k st).headD 0, hw_upA s 212 g) := by
  intro r
  induction r with
  | zero =>
    intro k st s n hk hw hd hs hn
    obtain ⟨n, rfl⟩ : ∃ m, n = m + 1 := ⟨n - 1, by omega⟩
    rw [wo_step]
    unfold S_X7_worksOut_21
    rw [if_pos (by rw [show k = len by omega]; exact Int32.le_refl _), hw_gd_t (by decide)]
    have h1 : st.length = 1 := hw
    match st, h1, hs with
    | [a], _, hs =>
      refine ⟨s 212, ?_⟩
      rw [upA_id]
      show some (s 212 0, s) = some (a, s)
      rw [show s 212 0 = a from hs.1]
  | succ r ih =>
    intro k st s n hk hw hd hs hn
    obtain ⟨n, rfl⟩ : ∃ m, n = m + 1 := ⟨n - 1, by omega⟩
    rw [wo_step]
    unfold S_X7_worksOut_21
    rw [if_neg (nI_ge (by omega) (by omega)), ixC, hw_gd_t (inb_nI (by omega) (by decide)), hw_nm_s, nI_clamp (by omega)]
    have hw' := hw
    unfold wfn at hw'
    try dsimp only at hw'
    generalize hc : s 201 (99 + 96 * t + k) = c at hw' ⊢
    have hev : ∀ st2, stp (s 213) st c = st2 → evn (fun j => s 201 (99 + 96 * t + j)) (s 213) (r + 1) k st = evn (fun j => s 201 (99 + 96 * t + j)) (s 213) r (k + 1) st2 := by
      intro st2 h
      show evn _ _ r (k + 1) (stp (s 213) st (s 201 (99 + 96 * t + k))) = _
      rw [hc, h]
    rcases hw' with ⟨h0, h1, h2⟩ | ⟨h0, h1, h2⟩ | ⟨h0, h1, h2⟩
    · rw [if_neg (fun g => absurd h0 (iNle.mpr g))]
      by_cases hn1 : 10000 ≤ c
      · obtain ⟨hi, -⟩ := nameIx hn1 ((iLe _ _).mpr (Int.le_trans ((iLe _ _).mp h1) ((iLe _ _).mp hnm)))
        rw [if_pos hn1, hw_gd_t hi]
        unfold B_X7_worksOut_78 B_X7_worksOut_149
        rw [hw_gd_t (inb_nI (by omega) (by decide)), hw_nm_s, nI_clamp (by omega), nI_1, nI_1]
        obtain ⟨g, hg⟩ := ih (k + 1) (s 213 (c - 10000).toNatClampNeg :: st) (hw_up s 212 st.length (s 213 (c - 10000).toNatClampNeg)) n (by omega) (by exact h2) (by simp; omega) ⟨by rw [up_self, upd_s], by rw [up_self]; exact stk_upd (Nat.le_refl _) hs⟩ (by omega)
        refine ⟨g, ?_⟩
        rw [show (nI (st.length + 1)) = nI (s 213 (c - 10000).toNatClampNeg :: st).length from rfl, hg, hev (s 213 (c - 10000).toNatClampNeg :: st) (by unfold stp; rw [if_pos h0, if_pos hn1]), up_upA, upA_upA]
        rfl
      · rw [if_neg hn1]
        unfold B_X7_worksOut_78 B_X7_worksOut_149
        rw [hw_gd_t (inb_nI (by omega) (by decide)), hw_nm_s, nI_clamp (by omega), nI_1, nI_1]
        obtain ⟨g, hg⟩ := ih (k + 1) (c :: st) (hw_up s 212 st.length c) n (by omega) (by exact h2) (by simp; omega) ⟨by rw [up_self, upd_s], by rw [up_self]; exact stk_upd (Nat.le_refl _) hs⟩ (by omega)
        refine ⟨g, ?_⟩
        rw [show (nI (st.length + 1)) = nI (c :: st).length from rfl, hg, hev (c :: st) (by unfold stp; rw [if_pos h0, if_neg hn1]), up_upA, upA_upA]
        rfl
    · obtain ⟨q1, q2⟩ := neg_not (Or.inl h0)
      rw [if_pos q1, if_pos h0]
      match st, h1, hs, hd, h2, hev with
      | a :: rr, h1, hs, hd, h2, hev =>
        have hl : (a :: rr).length = rr.length + 1 := rfl
        simp only [hl] at hd h2 ⊢
        rw [dec_nI (by omega), show rr.length + 1 - 1 = rr.length from rfl, hw_gd_t (inb_nI (by omega) (by decide)), nI_clamp (by omega), hs.1]
        have fin : ∀ v : Int32, v = (if a = 0 then 1 else 0) → ∃ g, B_X7_worksOut_115 (L_X7_worksOut_21 n) (nI t) (nI (rr.length + 1)) (nI len) (nI k) v (nI rr.length) s = some ((evn (fun j => s 201 (99 + 96 * t + j)) (s 213) (r + 1) k (a :: rr)).headD 0, hw_upA s 212 g) := by
          intro v hv
          unfold B_X7_worksOut_115 B_X7_worksOut_149
          rw [hw_gd_t (inb_nI (by omega) (by decide)), hw_nm_s, nI_clamp (by omega), nI_1]
          obtain ⟨g, hg⟩ := ih (k + 1) (v :: rr) (hw_up s 212 rr.length v) n (by omega) (by exact h2) (by simp; omega) ⟨by rw [up_self, upd_s], by rw [up_self]; exact stk_upd (Nat.le_refl _) hs.2⟩ (by omega)
          refine ⟨g, ?_⟩
          rw [show (nI (rr.length + 1)) = nI (v :: rr).length from rfl, hg, hev (v :: rr) (by unfold stp; rw [if_neg q2, if_pos h0, hv]), up_upA, upA_upA]
          rfl
        by_cases ha : a = 0
        · rw [if_pos ha]; exact fin 1 (by rw [if_pos ha])
        · rw [if_neg ha]; exact fin 0 (by rw [if_neg ha])
    · obtain ⟨q1, q2⟩ := neg_not (Or.inr h0)
      have q3 : ¬ c = -10 := fun e => by subst e; exact absurd h0.1 (by decide)
      rw [if_pos q1, if_neg q3]
      match st, h1, hs, hd, h2, hev with
      | b :: a :: rr, h1, hs, hd, h2, hev =>
        have hl : (b :: a :: rr).length = rr.length + 2 := rfl
        simp only [hl] at hd h2 ⊢
        rw [dec2_nI (by omega), show rr.length + 2 - 1 = rr.length + 1 from rfl, dec_nI (by omega), show rr.length + 1 - 1 = rr.length from rfl, hw_gd_t (inb_nI (by omega) (by decide)), hw_gd_t (inb_nI (by omega) (by decide)), nI_clamp (by omega), nI_clamp (by omega), hs.2.1, show s 212 (rr.length + 1) = b from hs.1, X7_two, hw_bd_s, hw_gd_t (inb_nI (by omega) (by decide)), hw_nm_s]
        unfold B_X7_worksOut_149
        rw [nI_1]
        obtain ⟨g, hg⟩ := ih (k + 1) (two c a b :: rr) (hw_up s 212 rr.length (two c a b)) n (by omega) (by exact h2) (by simp; omega) ⟨by rw [up_self, upd_s], by rw [up_self]; exact stk_upd (Nat.le_refl _) hs.2.2⟩ (by omega)
        refine ⟨g, ?_⟩
        rw [show (nI (rr.length + 1)) = nI (two c a b :: rr).length from rfl, hg, hev (two c a b :: rr) (by unfold stp; rw [if_neg q2, if_neg q3]), up_upA, upA_upA]
        rfl
