theorem b255 : ∀ j : Fin 32, ¬ j.val < 8 → (255#32)[j.val] = false := by decide
theorem tb56 (v : Int64) : (((v.toUInt64 >>> (((56 : Int32)).toInt64.toUInt64 &&& Int64.toUInt64 63)).toInt64).toInt32 &&& 255) = ((v >>> (((56 : Int32)).toInt64 &&& 63)) &&& 255).toInt32 := by
  apply Int32.toBitVec_inj.mp
  have e1 : ((56 : Int32).toInt64.toUInt64 &&& Int64.toUInt64 63) = 56 := by decide
  have e2 : ((56 : Int32).toInt64 &&& 63) = 56 := by decide
  rw [e1, e2]
  simp only [Int32.toBitVec_and, Int64.toBitVec_toInt32, Int64.toBitVec_and, Int64.toBitVec_shiftRight, UInt64.toBitVec_toInt64, UInt64.toBitVec_shiftRight, Int64.toBitVec_toUInt64]
  ext i hi
  simp only [BitVec.getElem_and]
  by_cases q : i < 8
  · simp [BitVec.getElem_signExtend, BitVec.getElem_ushiftRight, BitVec.getElem_sshiftRight, show 56 + i < 64 from by omega, show i < 64 from by omega]
  · simp [b255 ⟨i, hi⟩ q]
theorem tb48 (v : Int64) : (((v.toUInt64 >>> (((48 : Int32)).toInt64.toUInt64 &&& Int64.toUInt64 63)).toInt64).toInt32 &&& 255) = ((v >>> (((48 : Int32)).toInt64 &&& 63)) &&& 255).toInt32 := by
  apply Int32.toBitVec_inj.mp
  have e1 : ((48 : Int32).toInt64.toUInt64 &&& Int64.toUInt64 63) = 48 := by decide
  have e2 : ((48 : Int32).toInt64 &&& 63) = 48 := by decide
  rw [e1, e2]
  simp only [Int32.toBitVec_and, Int64.toBitVec_toInt32, Int64.toBitVec_and, Int64.toBitVec_shiftRight, UInt64.toBitVec_toInt64, UInt64.toBitVec_shiftRight, Int64.toBitVec_toUInt64]
  ext i hi
  simp only [BitVec.getElem_and]
  by_cases q : i < 8
  · simp [BitVec.getElem_signExtend, BitVec.getElem_ushiftRight, BitVec.getElem_sshiftRight, show 48 + i < 64 from by omega, show i < 64 from by omega]
  · simp [b255 ⟨i, hi⟩ q]
theorem tb40 (v : Int64) : (((v.toUInt64 >>> (((40 : Int32)).toInt64.toUInt64 &&& Int64.toUInt64 63)).toInt64).toInt32 &&& 255) = ((v >>> (((40 : Int32)).toInt64 &&& 63)) &&& 255).toInt32 := by
  apply Int32.toBitVec_inj.mp
  have e1 : ((40 : Int32).toInt64.toUInt64 &&& Int64.toUInt64 63) = 40 := by decide
  have e2 : ((40 : Int32).toInt64 &&& 63) = 40 := by decide
  rw [e1, e2]
  simp only [Int32.toBitVec_and, Int64.toBitVec_toInt32, Int64.toBitVec_and, Int64.toBitVec_shiftRight, UInt64.toBitVec_toInt64, UInt64.toBitVec_shiftRight, Int64.toBitVec_toUInt64]
  ext i hi
  simp only [BitVec.getElem_and]
  by_cases q : i < 8
  · simp [BitVec.getElem_signExtend, BitVec.getElem_ushiftRight, BitVec.getElem_sshiftRight, show 40 + i < 64 from by omega, show i < 64 from by omega]
  · simp [b255 ⟨i, hi⟩ q]
theorem tb32 (v : Int64) : (((v.toUInt64 >>> (((32 : Int32)).toInt64.toUInt64 &&& Int64.toUInt64 63)).toInt64).toInt32 &&& 255) = ((v >>> (((32 : Int32)).toInt64 &&& 63)) &&& 255).toInt32 := by
  apply Int32.toBitVec_inj.mp
  have e1 : ((32 : Int32).toInt64.toUInt64 &&& Int64.toUInt64 63) = 32 := by decide
  have e2 : ((32 : Int32).toInt64 &&& 63) = 32 := by decide
  rw [e1, e2]
  simp only [Int32.toBitVec_and, Int64.toBitVec_toInt32, Int64.toBitVec_and, Int64.toBitVec_shiftRight, UInt64.toBitVec_toInt64, UInt64.toBitVec_shiftRight, Int64.toBitVec_toUInt64]
  ext i hi
  simp only [BitVec.getElem_and]
  by_cases q : i < 8
  · simp [BitVec.getElem_signExtend, BitVec.getElem_ushiftRight, BitVec.getElem_sshiftRight, show 32 + i < 64 from by omega, show i < 64 from by omega]
  · simp [b255 ⟨i, hi⟩ q]
theorem tb24 (v : Int64) : (((v.toUInt64 >>> (((24 : Int32)).toInt64.toUInt64 &&& Int64.toUInt64 63)).toInt64).toInt32 &&& 255) = ((v >>> (((24 : Int32)).toInt64 &&& 63)) &&& 255).toInt32 := by
  apply Int32.toBitVec_inj.mp
  have e1 : ((24 : Int32).toInt64.toUInt64 &&& Int64.toUInt64 63) = 24 := by decide
  have e2 : ((24 : Int32).toInt64 &&& 63) = 24 := by decide
  rw [e1, e2]
  simp only [Int32.toBitVec_and, Int64.toBitVec_toInt32, Int64.toBitVec_and, Int64.toBitVec_shiftRight, UInt64.toBitVec_toInt64, UInt64.toBitVec_shiftRight, Int64.toBitVec_toUInt64]
  ext i hi
  simp only [BitVec.getElem_and]
  by_cases q : i < 8
  · simp [BitVec.getElem_signExtend, BitVec.getElem_ushiftRight, BitVec.getElem_sshiftRight, show 24 + i < 64 from by omega, show i < 64 from by omega]
  · simp [b255 ⟨i, hi⟩ q]
theorem tb16 (v : Int64) : (((v.toUInt64 >>> (((16 : Int32)).toInt64.toUInt64 &&& Int64.toUInt64 63)).toInt64).toInt32 &&& 255) = ((v >>> (((16 : Int32)).toInt64 &&& 63)) &&& 255).toInt32 := by
  apply Int32.toBitVec_inj.mp
  have e1 : ((16 : Int32).toInt64.toUInt64 &&& Int64.toUInt64 63) = 16 := by decide
  have e2 : ((16 : Int32).toInt64 &&& 63) = 16 := by decide
  rw [e1, e2]
  simp only [Int32.toBitVec_and, Int64.toBitVec_toInt32, Int64.toBitVec_and, Int64.toBitVec_shiftRight, UInt64.toBitVec_toInt64, UInt64.toBitVec_shiftRight, Int64.toBitVec_toUInt64]
  ext i hi
  simp only [BitVec.getElem_and]
  by_cases q : i < 8
  · simp [BitVec.getElem_signExtend, BitVec.getElem_ushiftRight, BitVec.getElem_sshiftRight, show 16 + i < 64 from by omega, show i < 64 from by omega]
  · simp [b255 ⟨i, hi⟩ q]
theorem tb8 (v : Int64) : (((v.toUInt64 >>> (((8 : Int32)).toInt64.toUInt64 &&& Int64.toUInt64 63)).toInt64).toInt32 &&& 255) = ((v >>> (((8 : Int32)).toInt64 &&& 63)) &&& 255).toInt32 := by
  apply Int32.toBitVec_inj.mp
  have e1 : ((8 : Int32).toInt64.toUInt64 &&& Int64.toUInt64 63) = 8 := by decide
  have e2 : ((8 : Int32).toInt64 &&& 63) = 8 := by decide
  rw [e1, e2]
  simp only [Int32.toBitVec_and, Int64.toBitVec_toInt32, Int64.toBitVec_and, Int64.toBitVec_shiftRight, UInt64.toBitVec_toInt64, UInt64.toBitVec_shiftRight, Int64.toBitVec_toUInt64]
  ext i hi
  simp only [BitVec.getElem_and]
  by_cases q : i < 8
  · simp [BitVec.getElem_signExtend, BitVec.getElem_ushiftRight, BitVec.getElem_sshiftRight, show 8 + i < 64 from by omega, show i < 64 from by omega]
  · simp [b255 ⟨i, hi⟩ q]
theorem tb0 (v : Int64) : (((v.toUInt64 >>> (((0 : Int32)).toInt64.toUInt64 &&& Int64.toUInt64 63)).toInt64).toInt32 &&& 255) = ((v >>> (((0 : Int32)).toInt64 &&& 63)) &&& 255).toInt32 := by
  apply Int32.toBitVec_inj.mp
  have e1 : ((0 : Int32).toInt64.toUInt64 &&& Int64.toUInt64 63) = 0 := by decide
  have e2 : ((0 : Int32).toInt64 &&& 63) = 0 := by decide
  rw [e1, e2]
  simp only [Int32.toBitVec_and, Int64.toBitVec_toInt32, Int64.toBitVec_and, Int64.toBitVec_shiftRight, UInt64.toBitVec_toInt64, UInt64.toBitVec_shiftRight, Int64.toBitVec_toUInt64]
  ext i hi
  simp only [BitVec.getElem_and]
  by_cases q : i < 8
  · simp [BitVec.getElem_signExtend, BitVec.getElem_ushiftRight, BitVec.getElem_sshiftRight, show 0 + i < 64 from by omega, show i < 64 from by omega]
  · simp [b255 ⟨i, hi⟩ q]
