/-! bytes -/
theorem and255 (y : Int32) : 0 ≤ (y &&& 255) ∧ (y &&& 255) ≤ 255 := by
  have h : (y &&& 255).toBitVec.toNat ≤ 255 := by
    rw [Int32.toBitVec_and, BitVec.toNat_and]
    exact Nat.and_le_right
  have e : (y &&& 255).toInt = ((y &&& 255).toBitVec.toNat : Int) := by
    show (y &&& 255).toBitVec.toInt = _
    rw [BitVec.toInt_eq_toNat_of_lt (by omega)]
  rw [iLe, iLe, e, show (0 : Int32).toInt = 0 from rfl, show (255 : Int32).toInt = 255 from rfl]
  omega
