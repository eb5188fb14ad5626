def cn (td : Int32) : Nat := td.toInt.toNat / 4 % 2 + td.toInt.toNat / 8 % 2 + td.toInt.toNat / 16 % 2 + td.toInt.toNat / 32 % 2
/-- which withs are told: the same on both sides -/
def xH (td had : Int32) : Prop := (0 ≤ td.toInt ∧ td.toInt < 64) ∧ had = Int32.ofNat (td.toInt.toNat / 4)
theorem cn_le (td : Int32) : cn td ≤ 4 := by
  unfold cn
  omega
abbrev xHs (td : Int32) (b s : Int32) : Prop := ((td &&& b).toInt = 0 ↔ (((Int32.ofNat (td.toInt.toNat / 4)) >>> (s &&& 31)) &&& 1).toInt = 0) ∧ (0 ≤ (td ||| b).toInt ∧ (td ||| b).toInt < 64) ∧ (Int32.ofNat (td.toInt.toNat / 4)) ||| ((1 : Int32) <<< (s &&& 31)) = Int32.ofNat ((td ||| b).toInt.toNat / 4) ∧ ((td &&& b).toInt = 0 → cn (td ||| b) = cn td + 1) ∧ ((td ||| b) &&& 1) = (td &&& 1) ∧ ((td ||| b) &&& 2) = (td &&& 2)
theorem h4 : ∀ t : Fin 64, xHs (Int32.ofNat t.val) 4 (23 - 23) := by decide +kernel
theorem h8 : ∀ t : Fin 64, xHs (Int32.ofNat t.val) 8 (24 - 23) := by decide +kernel
theorem h16 : ∀ t : Fin 64, xHs (Int32.ofNat t.val) 16 (25 - 23) := by decide +kernel
theorem h32 : ∀ t : Fin 64, xHs (Int32.ofNat t.val) 32 (26 - 23) := by decide +kernel
theorem h3 : ∀ t : Fin 64, (0 ≤ ((Int32.ofNat t.val) &&& 3).toInt ∧ ((Int32.ofNat t.val) &&& 3).toInt < 64) ∧ (0 : Int32) = Int32.ofNat (((Int32.ofNat t.val) &&& 3).toInt.toNat / 4) ∧ cn ((Int32.ofNat t.val) &&& 3) = 0 ∧ (((Int32.ofNat t.val) &&& 3) &&& 1) = ((Int32.ofNat t.val) &&& 1) ∧ (((Int32.ofNat t.val) &&& 3) &&& 2) = ((Int32.ofNat t.val) &&& 2) := by decide +kernel
