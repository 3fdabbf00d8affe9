/-! a wire's row f: 0 kind 1 thick 2 own 3 loss 4 swing 5 held 6 tired -/
def hv_W (f : Nat → Int32) : Prop := (0 ≤ f 0 ∧ f 0 ≤ 5) ∧ (1 ≤ f 1 ∧ f 1 ≤ 9) ∧ (1 ≤ f 2 ∧ f 2 ≤ 999) ∧ (0 ≤ f 3 ∧ f 3 ≤ 9) ∧ (0 ≤ f 4 ∧ f 4 ≤ 9999) ∧ (f 5 = 0 ∨ f 5 = 1)
def wAir (f : Nat → Int32) (w : Int32) : Int32 := if f 0 = 5 then w / 2 else w
def wEd (f : Nat → Int32) (w : Int32) : Int32 := 20 * wAir f w / f 1
def wOff (f : Nat → Int32) (w : Int32) : Int32 := hw_abs (wEd f w - f 2)
def wOut (f : Nat → Int32) (p : Int32) : Int32 := if f 0 = 2 then p / 2 else if f 0 = 4 then cl (p / 2 - 2) 0 9999 else p
def wLose (f : Nat → Int32) : Int32 := if f 0 = 1 then f 3 + 1 + 3 else if f 0 = 3 then 2 * (f 3 + 1 + 3) else f 3 + 1
def wWorth (f : Nat → Int32) : Int32 := if f 0 = 1 then f 2 / f 1 + f 3 else if f 0 = 2 then f 2 / f 1 / 2 else if f 0 = 3 then f 2 / f 1 + f 3 + 100 else if f 0 = 4 then f 2 else if f 0 = 5 then f 2 / f 1 - 5 else f 2 / f 1
theorem le0_of {a : Int32} (h : 1 ≤ a) : ¬ a ≤ 0 := fun g => by
  have h1 := (iLe _ _).mp h
  have h2 := (iLe _ _).mp g
  have e1 : (1 : Int32).toInt = 1 := rfl
  have e2 : (0 : Int32).toInt = 0 := rfl
  omega
theorem X5_air {x : Nat} (hx : hw_gH x 5 = true) (s : hw_St) (w : Int32) : F_X5_air x w s = some (wAir (s x) w, s) := by
  unfold F_X5_air wAir
  rw [hw_gd_t hx]
  split <;> rfl
theorem X5_eddy {x : Nat} (hx : hw_gH x 5 = true) (s : hw_St) (h1 : 1 ≤ s x 1) (w : Int32) : F_X5_eddy x w s = some (wEd (s x) w, s) := by
  unfold F_X5_eddy wEd
  rw [hw_gd_t hx, if_neg (le0_of h1), X5_air hx, hw_bd_s, hw_gd_t (nz_of h1)]
theorem X5_off {x : Nat} (hx : hw_gH x 5 = true) (s : hw_St) (h1 : 1 ≤ s x 1) (w : Int32) : F_X5_off x w s = some (wOff (s x) w, s) := by
  unfold F_X5_off wOff
  rw [hw_gd_t hx, X5_eddy hx s h1, hw_bd_s]
theorem X5_out {x : Nat} (hx : hw_gH x 5 = true) (s : hw_St) {p : Int32} (hp : p / 2 - 2 ≤ 9999) : F_X5_bandOutOf x p s = some (wOut (s x) p, s) := by
  unfold F_X5_bandOutOf wOut
  rw [hw_gd_t hx, max0_cl hp (by decide)]
  split
  · rfl
  · split <;> rfl
theorem X5_loses {x : Nat} (hx : hw_gH x 5 = true) (s : hw_St) : F_X5_loses x s = some (wLose (s x), s) := by
  unfold F_X5_loses wLose
  rw [hw_gd_t hx, hw_nm_s]
  split
  · rfl
  · split <;> rfl
theorem X5_worth {x : Nat} (hx : hw_gH x 5 = true) (s : hw_St) (h1 : 1 ≤ s x 1) : F_X5_worth x s = some (wWorth (s x), s) := by
  unfold F_X5_worth wWorth B_X5_worth_20
  rw [hw_gd_t hx, if_neg (le0_of h1), hw_gd_t (nz_of h1)]
  split
  · rfl
  · split
    · rfl
    · split
      · rfl
      · split
        · rfl
        · split <;> rfl
/-! the reference's rows: N = s 201 -/
def rw_ (N : Nat → Int32) (i : Nat) : Nat → Int32 := fun k => N (29 + 7 * i + k)
theorem ixW {i k : Nat} : (29 : Int32) + 7 * nI i + nI k = nI (29 + 7 * i + k) := by
  rw [show (29 : Int32) = nI 29 from rfl, show (7 : Int32) = nI 7 from rfl, pk_mul, nI_add, nI_add]
theorem ixW0 {i : Nat} : (29 : Int32) + 7 * nI i = nI (29 + 7 * i) := by
  rw [show (29 : Int32) = nI 29 from rfl, show (7 : Int32) = nI 7 from rfl, pk_mul, nI_add]
theorem X7_of {i k : Nat} (hi : i < 6) (hk : k < 7) (s : hw_St) : F_X7_of (nI i) (nI k) s = some (rw_ (s 201) i k, s) := by
  unfold F_X7_of rw_
  rw [ixW, hw_gd_t (inb_nI (by omega) (by decide)), nI_clamp (by omega)]
theorem X7_air {i : Nat} (hi : i < 6) (s : hw_St) (w : Int32) : F_X7_airOf (nI i) w s = some (wAir (rw_ (s 201) i) w, s) := by
  unfold F_X7_airOf wAir
  rw [show (0 : Int32) = nI 0 from rfl, X7_of hi (by decide), hw_bd_s]
  split <;> rfl
theorem X7_eddy {i : Nat} (hi : i < 6) (s : hw_St) (h1 : 1 ≤ rw_ (s 201) i 1) (w : Int32) : F_X7_eddyOf (nI i) w s = some (wEd (rw_ (s 201) i) w, s) := by
  unfold F_X7_eddyOf wEd
  rw [X7_air hi, hw_bd_s, show (1 : Int32) = nI 1 from rfl, X7_of hi (by decide), hw_bd_s, hw_gd_t (nz_of h1)]
theorem X7_off {i : Nat} (hi : i < 6) (s : hw_St) (h1 : 1 ≤ rw_ (s 201) i 1) (w : Int32) : F_X7_offOf (nI i) w s = some (wOff (rw_ (s 201) i) w, s) := by
  unfold F_X7_offOf wOff hw_abs
  rw [X7_eddy hi s h1, hw_bd_s, show (2 : Int32) = nI 2 from rfl, X7_of hi (by decide), hw_bd_s, hw_nm_s]
  split
  · rfl
  · rw [Int32.zero_sub]
theorem X7_out {i : Nat} (hi : i < 6) (s : hw_St) (p : Int32) : B_X7_bandOf_71 (nI i) p s = some (wOut (rw_ (s 201) i) p, s) := by
  unfold B_X7_bandOf_71 wOut
  rw [show F_X7_of (nI i) 0 s = _ from X7_of (k := 0) hi (by decide) s, hw_bd_s]
  split
  · rfl
  · split
    · rw [X7_within, hw_bd_s]
    · rfl
theorem X7_lose {i : Nat} (hi : i < 6) (s : hw_St) : F_X7_loseOf (nI i) s = some (wLose (rw_ (s 201) i), s) := by
  unfold F_X7_loseOf wLose
  rw [show F_X7_of (nI i) 3 s = _ from X7_of (k := 3) hi (by decide) s, hw_bd_s, hw_nm_s, show F_X7_of (nI i) 0 s = _ from X7_of (k := 0) hi (by decide) s, hw_bd_s]
  split
  · rfl
  · split <;> rfl
theorem X7_worth {i : Nat} (hi : i < 6) (s : hw_St) (h1 : 1 ≤ rw_ (s 201) i 1) : F_X7_worthOf (nI i) s = some (wWorth (rw_ (s 201) i), s) := by
  unfold F_X7_worthOf wWorth
  rw [show F_X7_of (nI i) 2 s = _ from X7_of (k := 2) hi (by decide) s, hw_bd_s, show F_X7_of (nI i) 1 s = _ from X7_of (k := 1) hi (by decide) s, hw_bd_s, hw_gd_t (nz_of h1), hw_nm_s, show F_X7_of (nI i) 0 s = _ from X7_of (k := 0) hi (by decide) s, hw_bd_s, show F_X7_of (nI i) 3 s = _ from X7_of (k := 3) hi (by decide) s, hw_bd_s, hw_bd_s]
  split
  · rfl
  · split
    · rfl
    · split
      · rfl
      · split
        · rw [show F_X7_of (nI i) 2 s = _ from X7_of (k := 2) hi (by decide) s, hw_bd_s]
        · split <;> rfl
