/-! bytes, both ways of cutting -/
theorem by8 (y z : Int32) (h : ∀ k, k < 8 → y.toBitVec.getLsbD k = z.toBitVec.getLsbD k) : y.toInt8.toInt32.toInt8.toInt32 = (z &&& 255).toInt8.toInt32 := by
  have e : y.toInt8 = (z &&& 255).toInt8 := by
    rw [← Int8.toBitVec_inj, Int32.toBitVec_toInt8, Int32.toBitVec_toInt8, Int32.toBitVec_and]
    refine BitVec.eq_of_getLsbD_eq (fun k hk => ?_)
    rw [BitVec.getLsbD_signExtend, BitVec.getLsbD_signExtend, BitVec.getLsbD_and]
    have hc : (255 : Int32).toBitVec.getLsbD k = true := by
      have c : ∀ k, k < 8 → (255 : Int32).toBitVec.getLsbD k = true := by decide
      exact c k hk
    rw [hc, h k hk, Bool.and_true, if_pos (by omega), if_pos (by omega)]
  rw [Int8.toInt8_toInt32, e]
