/-- a bit of an int -/
def xb (s : Int32) (r : Nat) : Bool := s.toBitVec.getLsbD r
theorem xbv1 : (1 : Int32).toBitVec = BitVec.twoPow 32 0 := by decide
theorem xsr_bv (s : Int32) {r : Nat} (hr : r < 32) : (s >>> (nI r &&& 31)).toBitVec = s.toBitVec.sshiftRight r := by
  have e : ∀ r : Fin 32, ((nI r.val &&& 31 : Int32).toBitVec.smod 32#32).toNat = r.val := by decide
  rw [Int32.toBitVec_shiftRight]
  show s.toBitVec.sshiftRight' ((nI r &&& 31 : Int32).toBitVec.smod 32#32) = _
  unfold BitVec.sshiftRight'
  rw [e ⟨r, hr⟩]
theorem xsr_bit (s : Int32) {r : Nat} (hr : r < 32) : ((s >>> (nI r &&& 31)) &&& (1 : Int32)).toBitVec = if xb s r = true then BitVec.twoPow 32 0 else 0#32 := by
  rw [Int32.toBitVec_and, xbv1, BitVec.and_twoPow, xsr_bv s hr]
  have e : (s.toBitVec.sshiftRight r).getLsbD 0 = xb s r := by
    rw [BitVec.getLsbD_sshiftRight]
    simp only [Nat.add_zero]
    unfold xb
    have : decide (32 ≤ 0) = false := by decide
    rw [if_pos (by omega)]
    simp
  rw [e]
theorem xsr_1 (s : Int32) {r : Nat} (hr : r < 32) : ((s >>> (nI r &&& 31)) &&& (1 : Int32)).toInt = 1 ↔ xb s r = true := by
  show ((s >>> (nI r &&& 31)) &&& (1 : Int32)).toBitVec.toInt = 1 ↔ _
  rw [xsr_bit s hr]
  cases xb s r <;> decide
theorem xsr_0 (s : Int32) {r : Nat} (hr : r < 32) : ((s >>> (nI r &&& 31)) &&& (1 : Int32)).toInt = 0 ↔ xb s r = false := by
  show ((s >>> (nI r &&& 31)) &&& (1 : Int32)).toBitVec.toInt = 0 ↔ _
  rw [xsr_bit s hr]
  cases xb s r <;> decide
theorem xb_and (a b : Int32) (r : Nat) : xb (a &&& b) r = (xb a r && xb b r) := by
  unfold xb
  rw [Int32.toBitVec_and, BitVec.getLsbD_and]
theorem xb_or (a b : Int32) (r : Nat) : xb (a ||| b) r = (xb a r || xb b r) := by
  unfold xb
  rw [Int32.toBitVec_or, BitVec.getLsbD_or]
theorem xb_not (a : Int32) {r : Nat} (hr : r < 32) : xb (a ^^^ (-1)) r = !xb a r := by
  have e : ∀ r : Fin 32, (-1 : Int32).toBitVec.getLsbD r.val = true := by decide
  unfold xb
  rw [Int32.toBitVec_xor, BitVec.getLsbD_xor, e ⟨r, hr⟩]
  cases a.toBitVec.getLsbD r <;> rfl
theorem xb_shl : ∀ (k r : Fin 32), xb ((1 : Int32) <<< (nI k.val &&& 31)) r.val = decide (r = k) := by
  unfold xb
  decide +kernel
theorem xb_nI {n r : Nat} (hr : r < 32) : xb (nI n) r = n.testBit r := by
  unfold xb
  show (BitVec.ofNat 32 n).getLsbD r = _
  rw [BitVec.getLsbD_ofNat]
  simp [hr]
theorem xb_all : ∀ (q r : Fin 9), xb (((1 : Int32) <<< (nI q.val &&& 31)) - 1) r.val = decide (r.val < q.val) := by
  unfold xb
  decide +kernel
theorem x_all : ∀ (q : Fin 9), ((1 : Int32) <<< (nI q.val &&& 31)) - 1 = nI (2 ^ q.val - 1) := by decide +kernel
theorem x_shl : ∀ (q : Fin 9), ((1 : Int32) <<< (nI q.val &&& 31)) = nI (2 ^ q.val) := by decide +kernel
theorem x_or {m n : Nat} (hm : m < 512) (hn : n < 512) : nI m ||| nI n = nI (m ||| n) := by
  apply Int32.toBitVec_inj.mp
  rw [Int32.toBitVec_or]
  show BitVec.ofNat 32 m ||| BitVec.ofNat 32 n = BitVec.ofNat 32 (m ||| n)
  rw [BitVec.ofNat_or]
theorem x_and {m n : Nat} (hm : m < 512) (hn : n < 512) : nI m &&& nI n = nI (m &&& n) := by
  apply Int32.toBitVec_inj.mp
  rw [Int32.toBitVec_and]
  show BitVec.ofNat 32 m &&& BitVec.ofNat 32 n = BitVec.ofNat 32 (m &&& n)
  rw [BitVec.ofNat_and]
theorem x_put {n r : Nat} (hn : n < 256) (hr : r < 8) : nI n ||| ((1 : Int32) <<< (nI r &&& 31)) = nI (n ||| 2 ^ r) := by
  rw [x_shl ⟨r, by omega⟩]
  have : 2 ^ r < 512 := Nat.lt_of_le_of_lt (Nat.pow_le_pow_right (by decide) (show r ≤ 8 by omega)) (by decide)
  exact x_or (by omega) this
theorem x_put_lt {n r : Nat} (hn : n < 256) (hr : r < 8) : n ||| 2 ^ r < 256 := by
  have h : 2 ^ r < 2 ^ 8 := Nat.pow_lt_pow_right (by decide) hr
  exact Nat.or_lt_two_pow (n := 8) hn h
theorem x_or256 {g : Nat} (hg : g < 256) : nI g ||| 256 = nI (g + 256) := by
  have e : ∀ g : Fin 256, g.val ||| 256 = g.val + 256 := by decide +kernel
  rw [show (256 : Int32) = nI 256 from rfl, x_or (by omega) (by omega)]
  exact congrArg nI (e ⟨g, hg⟩)
