/-- whether the formula of a RAIL holds: the class's bit of it -/
def hb (pt : Nat → Int64) (r s : Nat) : Bool := xbt (fun i => pt (8 * r + i)) s
theorem xs6 : ∀ s : Fin 512, ((nI s.val >>> ((6 : Int32) &&& 31)) &&& (7 : Int32)) = nI (s.val / 64) := by decide +kernel
theorem xs63 : ∀ s : Fin 512, (((nI s.val &&& (63 : Int32)) : Int32).toInt64.toUInt64 &&& Int64.toUInt64 63) = UInt64.ofNat (s.val % 64) := by decide +kernel
theorem x64_bit (y : Int64) {k : Nat} (hk : k < 64) : (((y.toUInt64 >>> UInt64.ofNat k).toInt64) &&& (1 : Int64)).toBitVec = if y.toBitVec.getLsbD k = true then BitVec.twoPow 64 0 else 0#64 := by
  have e1 : (1 : Int64).toBitVec = BitVec.twoPow 64 0 := by decide
  rw [Int64.toBitVec_and, e1, BitVec.and_twoPow]
  have e2 : ((y.toUInt64 >>> UInt64.ofNat k).toInt64).toBitVec = y.toBitVec >>> k := by
    show (y.toUInt64 >>> UInt64.ofNat k).toBitVec = _
    rw [UInt64.toBitVec_shiftRight]
    show y.toBitVec >>> ((UInt64.ofNat k).toBitVec % 64) = _
    have e : ∀ k : Fin 64, ((UInt64.ofNat k.val).toBitVec % 64).toNat = k.val := by decide
    show y.toBitVec >>> ((UInt64.ofNat k).toBitVec % 64).toNat = _
    rw [e ⟨k, hk⟩]
  rw [e2, BitVec.getLsbD_ushiftRight, Nat.add_zero]
theorem t_holds {pt : Nat → Int64} {r s : Nat} (hr : r < 8) (hs : s < 512) : M_holdsWith pt (nI r) (nI s) = if hb pt r s = true then 1 else 0 := by
  have e := x64_bit (pt (8 * r + s / 64)) (Nat.mod_lt s (show 0 < 64 by decide))
  simp only [K_holdsWith_2, K_holdsWith_3, K_holdsWith_1, M_holdsWith]
  rw [xs6 ⟨s, hs⟩, xs63 ⟨s, hs⟩]
  dsimp only
  rw [xi8 hr (by omega)]
  have w : ((((pt (8 * r + s / 64)).toUInt64 >>> UInt64.ofNat (s % 64)).toInt64) &&& (1 : Int64)).toInt = 0 ↔ hb pt r s = false := by
    show ((((pt (8 * r + s / 64)).toUInt64 >>> UInt64.ofNat (s % 64)).toInt64) &&& (1 : Int64)).toBitVec.toInt = 0 ↔ _
    rw [e]
    unfold hb xbt
    cases (pt (8 * r + s / 64)).toBitVec.getLsbD (s % 64) <;> decide
  cases h : hb pt r s
  · rw [if_pos (w.mpr h), if_neg (by decide)]
  · rw [if_neg (fun z => by rw [w.mp z] at h; exact absurd h (by decide)), if_pos rfl]
theorem t_so {wt : Bool} {pn : Nat → Int32} {pt : Nat → Int64} {Td Nm Tb : Nat → Int32} {q r s : Nat} (h : xE wt q pn pt Td Nm Tb) (q8 : q ≤ 8) (hr : r < q) (hs : s < 512) : M_m_isSo Tb (nI r) (nI s) = if hb pt r s = true then 1 else 0 := by
  simp only [K_m_isSo_1, M_m_isSo]
  have e1 : (512 : Int32) * nI r = nI (512 * r) := pk_mul 512 r
  rw [e1, nI_add, nI_clamp (by omega)]
  exact (h r hr).2.2.1 s hs
