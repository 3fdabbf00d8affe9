/-! the pure part: basics -/
theorem hw_bd_s {α β : Type} (r : β) (s : hw_St) (f : β → hw_St → Option (α × hw_St)) : hw_bd (some (r, s)) f = f r s := rfl
theorem hw_gd_t {α : Type} {b : Bool} {x : Option α} (h : b = true) : hw_gd b x = x := by unfold hw_gd; rw [if_pos h]
theorem hw_nm_s {α β : Type} (a : α) (f : α → β) : hw_nm a f = f a := rfl
theorem up_at (σ : hw_St) (t k : Nat) (v : Int32) (a b : Nat) : hw_up σ t k v a b = if a = t then (if b = k then v else σ a b) else σ a b := by
  unfold hw_up hw_upA
  by_cases h : a = t
  · rw [if_pos h, if_pos h, h]; rfl
  · rw [if_neg h, if_neg h]
theorem up_row (σ : hw_St) (t k : Nat) (v : Int32) {a : Nat} (h : a ≠ t) : hw_up σ t k v a = σ a := by
  unfold hw_up hw_upA; rw [if_neg h]
theorem up_self (σ : hw_St) (t k : Nat) (v : Int32) : hw_up σ t k v t = upd (σ t) k v := by
  unfold hw_up hw_upA; rw [if_pos rfl]
theorem upA_row (σ : hw_St) (t : Nat) (f : Nat → Int32) {a : Nat} (h : a ≠ t) : hw_upA σ t f a = σ a := by unfold hw_upA; rw [if_neg h]
theorem upA_self (σ : hw_St) (t : Nat) (f : Nat → Int32) : hw_upA σ t f t = f := by unfold hw_upA; rw [if_pos rfl]
theorem upd_s (f : Nat → Int32) (k : Nat) (x : Int32) : upd f k x k = x := by unfold upd; rw [if_pos rfl]
theorem upd_n (f : Nat → Int32) {k j : Nat} (x : Int32) (h : j ≠ k) : upd f k x j = f j := by unfold upd; rw [if_neg h]
/-! numbers -/
theorem iLt (a b : Int32) : a < b ↔ a.toInt < b.toInt := Int32.lt_iff_toInt_lt
theorem iLe (a b : Int32) : a ≤ b ↔ a.toInt ≤ b.toInt := Int32.le_iff_toInt_le
theorem iEq (a b : Int32) : a = b ↔ a.toInt = b.toInt := Int32.toInt_inj.symm
theorem iNlt {a b : Int32} : ¬ a < b ↔ b ≤ a := by rw [iLt, iLe]; omega
theorem iNle {a b : Int32} : ¬ a ≤ b ↔ b < a := by rw [iLt, iLe]; omega
theorem inb_nI {i n : Nat} (h : i < n) (hn : n < 2 ^ 31) : hw_inb (nI i) n = true := decide_eq_true (vp_in_nI h hn)
theorem isb_0 : hw_isb 0 = true := by decide
theorem isb_1 : hw_isb 1 = true := by decide
theorem isb_if {c : Prop} [Decidable c] : hw_isb (if c then 1 else 0) = true := by split <;> decide
theorem if01_0 {c : Prop} [Decidable c] : ((if c then (1 : Int32) else 0) = 0) ↔ ¬ c := by
  split
  · next h => exact ⟨fun e => absurd e (by decide), fun g => absurd h g⟩
  · next h => exact ⟨fun _ => h, fun _ => rfl⟩
theorem if01_1 {c : Prop} [Decidable c] : ((if c then (1 : Int32) else 0) = 1) ↔ c := by
  split
  · next h => exact ⟨fun _ => h, fun _ => rfl⟩
  · next h => exact ⟨fun e => absurd e (by decide), fun g => absurd g h⟩
theorem nz_of {y : Int32} (h : 1 ≤ y) : hw_nz y = true := decide_eq_true (fun e => by subst e; exact absurd h (by decide))
theorem nIlit (n : Nat) : (OfNat.ofNat n : Int32) = nI n := rfl
/-- an index between 0 and a count less 1 -/
theorem ix_of {a : Int32} {n : Nat} (hn : n < 2 ^ 30) : (0 ≤ a ∧ a ≤ nI n - 1) ↔ ∃ i, i < n ∧ a = nI i := by
  have h1 : (nI n - 1).toInt = (n : Int) - 1 := by
    have := pk_sub_toInt (a := n) (b := 1) hn (by decide)
    exact this
  constructor
  · intro h
    have h0 := (iLe _ _).mp h.1
    have h2 := (iLe _ _).mp h.2
    rw [h1] at h2
    rw [show (0 : Int32).toInt = 0 from rfl] at h0
    refine ⟨a.toInt.toNat, by omega, ?_⟩
    rw [iEq, nI_toInt (by omega)]
    omega
  · rintro ⟨i, hi, rfl⟩
    rw [iLe, iLe, h1, nI_toInt (by omega), show (0 : Int32).toInt = 0 from rfl]
    omega
theorem fb_rng' (x : Int32) : -2147483648 ≤ x.toInt ∧ x.toInt < 2147483648 := by
  have h1 := x.le_toInt
  have h2 := x.toInt_lt
  constructor <;> omega
theorem ix_to {a M : Int32} {m : Nat} (hM : M.toInt = m) (h0 : 0 ≤ a) (h : a ≤ M) : ∃ i, i ≤ m ∧ a = nI i := by
  have h1 := (iLe _ _).mp h0
  have h2 := (iLe _ _).mp h
  have h3 := fb_rng' a
  rw [show (0 : Int32).toInt = 0 from rfl] at h1
  refine ⟨a.toInt.toNat, by omega, ?_⟩
  rw [iEq, nI_toInt (by omega)]
  omega
