/-! the two shifts agree on the low eight bits -/
theorem sh_lo24 (x : Int32) (k : Nat) (hk : k < 8) : (hw_ushr x 24).toBitVec.getLsbD k = (x >>> (24 : Int32)).toBitVec.getLsbD k := by
  unfold hw_ushr
  show (x.toBitVec >>> (((24 : BitVec 32) &&& 31) % 32)).getLsbD k = (x.toBitVec.sshiftRight' ((24 : BitVec 32).smod 32)).getLsbD k
  rw [show ((24 : BitVec 32) &&& 31) % 32 = 24 from by decide, show (24 : BitVec 32).smod 32 = 24 from by decide]
  show (x.toBitVec >>> (24 : Nat)).getLsbD k = (x.toBitVec.sshiftRight 24).getLsbD k
  rw [BitVec.getLsbD_ushiftRight, BitVec.getLsbD_sshiftRight]
  simp [show 24 + k < 32 by omega, show k < 32 by omega]
theorem sh_lo16 (x : Int32) (k : Nat) (hk : k < 8) : (hw_ushr x 16).toBitVec.getLsbD k = (x >>> (16 : Int32)).toBitVec.getLsbD k := by
  unfold hw_ushr
  show (x.toBitVec >>> (((16 : BitVec 32) &&& 31) % 32)).getLsbD k = (x.toBitVec.sshiftRight' ((16 : BitVec 32).smod 32)).getLsbD k
  rw [show ((16 : BitVec 32) &&& 31) % 32 = 16 from by decide, show (16 : BitVec 32).smod 32 = 16 from by decide]
  show (x.toBitVec >>> (16 : Nat)).getLsbD k = (x.toBitVec.sshiftRight 16).getLsbD k
  rw [BitVec.getLsbD_ushiftRight, BitVec.getLsbD_sshiftRight]
  simp [show 16 + k < 32 by omega, show k < 32 by omega]
theorem sh_lo8 (x : Int32) (k : Nat) (hk : k < 8) : (hw_ushr x 8).toBitVec.getLsbD k = (x >>> (8 : Int32)).toBitVec.getLsbD k := by
  unfold hw_ushr
  show (x.toBitVec >>> (((8 : BitVec 32) &&& 31) % 32)).getLsbD k = (x.toBitVec.sshiftRight' ((8 : BitVec 32).smod 32)).getLsbD k
  rw [show ((8 : BitVec 32) &&& 31) % 32 = 8 from by decide, show (8 : BitVec 32).smod 32 = 8 from by decide]
  show (x.toBitVec >>> (8 : Nat)).getLsbD k = (x.toBitVec.sshiftRight 8).getLsbD k
  rw [BitVec.getLsbD_ushiftRight, BitVec.getLsbD_sshiftRight]
  simp [show 8 + k < 32 by omega, show k < 32 by omega]
theorem sh_lo0 (x : Int32) (k : Nat) (hk : k < 8) : (hw_ushr x 0).toBitVec.getLsbD k = (x >>> (0 : Int32)).toBitVec.getLsbD k := by
  unfold hw_ushr
  show (x.toBitVec >>> (((0 : BitVec 32) &&& 31) % 32)).getLsbD k = (x.toBitVec.sshiftRight' ((0 : BitVec 32).smod 32)).getLsbD k
  rw [show ((0 : BitVec 32) &&& 31) % 32 = 0 from by decide, show (0 : BitVec 32).smod 32 = 0 from by decide]
  show (x.toBitVec >>> (0 : Nat)).getLsbD k = (x.toBitVec.sshiftRight 0).getLsbD k
  rw [BitVec.getLsbD_ushiftRight, BitVec.getLsbD_sshiftRight]
  simp [show 0 + k < 32 by omega, show k < 32 by omega]
