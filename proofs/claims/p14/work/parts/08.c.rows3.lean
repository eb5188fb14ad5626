/-! ranges of ints -/
theorem xrng {x : Int32} {a lo hi : Int} (h : x.toInt = a) (h1 : lo ≤ a) (h2 : a ≤ hi) : lo ≤ x.toInt ∧ x.toInt ≤ hi := by
  rw [h]; exact ⟨h1, h2⟩
theorem xnn {x : Int32} (h : 0 ≤ x.toInt) : x.toBitVec.toNat < 2 ^ 31 ∧ x.toInt = (x.toBitVec.toNat : Int) := by
  have e : x.toInt = x.toBitVec.toInt := rfl
  have e2 := BitVec.toInt_eq_toNat_cond x.toBitVec
  have hl : x.toBitVec.toNat < 2 ^ 32 := x.toBitVec.isLt
  by_cases hc : 2 * x.toBitVec.toNat < 2 ^ 32
  · rw [if_pos hc] at e2
    exact ⟨by omega, by rw [e, e2]⟩
  · rw [if_neg hc] at e2
    exfalso
    rw [e, e2] at h
    omega
theorem xnn' {x : Int32} {n : Nat} (h : x.toBitVec.toNat = n) (hn : n < 2 ^ 31) : x.toInt = (n : Int) := by
  have e : x.toInt = x.toBitVec.toInt := rfl
  rw [e, BitVec.toInt_eq_toNat_cond, if_pos (by omega), h]
theorem xand_rng {x y : Int32} (h : 0 ≤ y.toInt) : 0 ≤ (x &&& y).toInt ∧ (x &&& y).toInt ≤ y.toInt := by
  obtain ⟨h1, h2⟩ := xnn h
  have e : (x &&& y).toBitVec.toNat = x.toBitVec.toNat &&& y.toBitVec.toNat := by rw [Int32.toBitVec_and, BitVec.toNat_and]
  have hle : x.toBitVec.toNat &&& y.toBitVec.toNat ≤ y.toBitVec.toNat := Nat.and_le_right
  have e2 := xnn' e (by omega)
  omega
theorem xand_rng' {x y : Int32} (h : 0 ≤ x.toInt) : 0 ≤ (x &&& y).toInt ∧ (x &&& y).toInt ≤ x.toInt := by
  obtain ⟨h1, h2⟩ := xnn h
  have e : (x &&& y).toBitVec.toNat = x.toBitVec.toNat &&& y.toBitVec.toNat := by rw [Int32.toBitVec_and, BitVec.toNat_and]
  have hle : x.toBitVec.toNat &&& y.toBitVec.toNat ≤ x.toBitVec.toNat := Nat.and_le_left
  have e2 := xnn' e (by omega)
  omega
theorem xor_rng {x y : Int32} (k : Nat) (hk : k ≤ 31) (h : 0 ≤ x.toInt) (h' : x.toInt < 2 ^ k) (g : 0 ≤ y.toInt) (g' : y.toInt < 2 ^ k) : 0 ≤ (x ||| y).toInt ∧ (x ||| y).toInt < 2 ^ k := by
  obtain ⟨h1, h2⟩ := xnn h
  obtain ⟨g1, g2⟩ := xnn g
  have e : (x ||| y).toBitVec.toNat = x.toBitVec.toNat ||| y.toBitVec.toNat := by rw [Int32.toBitVec_or, BitVec.toNat_or]
  have a1 : x.toBitVec.toNat < 2 ^ k := by rw [h2] at h'; exact_mod_cast h'
  have a2 : y.toBitVec.toNat < 2 ^ k := by rw [g2] at g'; exact_mod_cast g'
  have hlt := Nat.or_lt_two_pow a1 a2
  have hp : 2 ^ k ≤ 2 ^ 31 := Nat.pow_le_pow_right (by decide) hk
  have e2 := xnn' e (by omega)
  refine ⟨by omega, ?_⟩
  rw [e2]
  exact_mod_cast hlt
theorem xup_rng {f : Nat → Int32} {n i : Nat} {x : Int32} {lo hi : Int} (hf : ∀ j, j < n → lo ≤ (f j).toInt ∧ (f j).toInt ≤ hi) (hx : lo ≤ x.toInt ∧ x.toInt ≤ hi) : ∀ j, j < n → lo ≤ (upd f i x j).toInt ∧ (upd f i x j).toInt ≤ hi := by
  intro j hj
  unfold upd
  split
  · exact hx
  · exact hf j hj
theorem xwk_rng {f : Nat → Int32} {n : Nat} {lo hi lo' hi' : Int} (hf : ∀ j, j < n → lo ≤ (f j).toInt ∧ (f j).toInt ≤ hi) (h1 : lo' ≤ lo) (h2 : hi ≤ hi') : ∀ j, j < n → lo' ≤ (f j).toInt ∧ (f j).toInt ≤ hi' := fun j hj => ⟨Int.le_trans h1 (hf j hj).1, Int.le_trans (hf j hj).2 h2⟩
theorem xnb {x : Int32} (h : 0 ≤ x.toInt ∧ x.toInt ≤ 1) : narrow .boolean (.int x) = .int x ∧ fits .boolean (.int x) = true ∧ vp_nar .boolean x = x := by
  have hx : x = 0 ∨ x = 1 := by
    rcases (show x.toInt = 0 ∨ x.toInt = 1 by omega) with q | q
    · exact Or.inl (Int32.toInt_inj.mp q)
    · exact Or.inr (Int32.toInt_inj.mp q)
  rcases hx with rfl | rfl <;> exact ⟨by decide, by decide, by decide⟩
