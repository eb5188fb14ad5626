/-! intervals of what is computed -/
theorem xandL {v x y : Int32} {k : Int} (e : v = x &&& y) (h : y.toInt = k) (h0 : 0 ≤ k) : 0 ≤ v.toInt ∧ v.toInt ≤ k := by
  subst e
  rw [← h]
  exact xand_rng (by rw [h]; exact h0)
theorem xandL' {v x y : Int32} {k : Int} (e : v = x &&& y) (h : x.toInt = k) (h0 : 0 ≤ k) : 0 ≤ v.toInt ∧ v.toInt ≤ k := by
  subst e
  rw [← h]
  exact xand_rng' (by rw [h]; exact h0)
theorem xorL {v x y : Int32} {a b hi : Int} (k : Nat) (e : v = x ||| y) (hx : x.toInt = a) (hy : y.toInt = b) (hk : k ≤ 31) (hh : (2 : Int) ^ k = hi + 1) (h1 : 0 ≤ a) (h2 : a ≤ hi) (h3 : 0 ≤ b) (h4 : b ≤ hi) : 0 ≤ v.toInt ∧ v.toInt ≤ hi := by
  subst e
  have q := xor_rng (x := x) (y := y) k hk (by omega) (by rw [hh]; omega) (by omega) (by rw [hh]; omega)
  rw [hh] at q
  exact ⟨q.1, by omega⟩
theorem xshl_t : ∀ j : Nat, j < 13 → ((1 : Int32) <<< (nI j &&& 31)).toInt = ((2 ^ j : Nat) : Int) := by decide
theorem xshl1 {v y : Int32} {b : Int} (n : Nat) (e : v = 1 <<< (y &&& 31)) (hy : y.toInt = b) (h0 : 0 ≤ b) (h1 : b ≤ (n : Int)) (hn : n ≤ 12) : 1 ≤ v.toInt ∧ v.toInt ≤ ((2 ^ n : Nat) : Int) := by
  have ey : y = nI b.toNat := Int32.toInt_inj.mp (by rw [hy, nI_toInt (by omega)]; omega)
  rw [ey] at e
  have q := xshl_t b.toNat (by omega)
  rw [← e] at q
  have q1 : 2 ^ b.toNat ≤ 2 ^ n := Nat.pow_le_pow_right (by decide) (by omega)
  have q2 : 0 < 2 ^ b.toNat := Nat.pow_pos (by decide)
  rw [q]
  omega
theorem xminL {v x y : Int32} {a b : Int} (e : v = if y < x then y else x) (hx : x.toInt = a) (hy : y.toInt = b) : (v.toInt = a ∨ v.toInt = b) ∧ v.toInt ≤ a ∧ v.toInt ≤ b := by
  by_cases h : y < x
  · rw [if_pos h] at e
    have h' := (ilt hy hx).mp h
    subst e
    omega
  · rw [if_neg h] at e
    have h' : ¬ b < a := fun q => h ((ilt hy hx).mpr q)
    subst e
    omega
theorem xmaxL {v x y : Int32} {a b : Int} (e : v = if x < y then y else x) (hx : x.toInt = a) (hy : y.toInt = b) : (v.toInt = a ∨ v.toInt = b) ∧ a ≤ v.toInt ∧ b ≤ v.toInt := by
  by_cases h : x < y
  · rw [if_pos h] at e
    have h' := (ilt hx hy).mp h
    subst e
    omega
  · rw [if_neg h] at e
    have h' : ¬ a < b := fun q => h ((ilt hx hy).mpr q)
    subst e
    omega
theorem xnarb (x : Int32) : 0 ≤ (vp_nar .boolean x).toInt ∧ (vp_nar .boolean x).toInt ≤ 1 := by
  have e : vp_nar .boolean x = x &&& 1 := rfl
  exact xandL (k := 1) e (by decide) (by decide)
theorem xrd {f : Nat → Int32} {n k : Nat} {v : Int32} {lo hi : Int} (e : v = f k) (h : ∀ j, j < n → lo ≤ (f j).toInt ∧ (f j).toInt ≤ hi) (hk : k < n) : lo ≤ v.toInt ∧ v.toInt ≤ hi := by
  rw [e]
  exact h k hk
theorem xeq_rng {f : Nat → Int32} {n : Nat} {v : Int32} {lo hi : Int} (h : ∀ j, j < n → f j = v) (hv : lo ≤ v.toInt ∧ v.toInt ≤ hi) : ∀ j, j < n → lo ≤ (f j).toInt ∧ (f j).toInt ≤ hi := fun j hj => by
  rw [h j hj]
  exact hv
theorem xcp_rng {f g : Nat → Int32} {n a b k : Nat} {lo hi : Int} (hf : ∀ j, j < n → lo ≤ (f j).toInt ∧ (f j).toInt ≤ hi) (hg : ∀ j, j < n → lo ≤ (g j).toInt ∧ (g j).toInt ≤ hi) (hk : a + k ≤ n) : ∀ j, j < n → lo ≤ (va_cpy f g a b k j).toInt ∧ (va_cpy f g a b k j).toInt ≤ hi := fun j hj => by
  unfold va_cpy
  split
  · exact hf _ (by omega)
  · exact hg j hj
theorem xinK {i : Int32} {n : Nat} (h : vp_in i n) : i.toNatClampNeg < n := Nat.not_le.mp fun q => h (Or.inr q)
theorem xle_upd {f g : Nat → Int32} {n i : Nat} {x y : Int32} (h : ∀ j, j < n → (f j).toInt ≤ (g j).toInt) (hxy : x.toInt ≤ y.toInt) : ∀ j, j < n → (upd f i x j).toInt ≤ (upd g i y j).toInt := fun j hj => by
  unfold upd
  split
  · exact hxy
  · exact h j hj
theorem xupd_s {f : Nat → Int32} {i : Nat} {x : Int32} : upd f i x i = x := by
  unfold upd
  exact if_pos rfl
theorem xjadd {v : Int64} {x y : Int32} {a b : Int} (e : v = x.toInt64 + y.toInt64) (hx : x.toInt = a) (hy : y.toInt = b) : v.toInt = a + b := by
  subst e
  have h1 := Int32.le_toInt x
  have h2 := Int32.toInt_lt x
  have h3 := Int32.le_toInt y
  have h4 := Int32.toInt_lt y
  rw [Int64.toInt_add, Int32.toInt_toInt64, Int32.toInt_toInt64, hx, hy]
  rw [hx] at h1 h2
  rw [hy] at h3 h4
  rw [Int.bmod_def]
  split <;> omega
theorem xl2i {v : Int32} {x : Int64} {a : Int} (e : x.toInt32 = v) (hx : x.toInt = a) (h1 : -2147483648 ≤ a) (h2 : a < 2147483648) : v.toInt = a := by
  subst e
  rw [Int64.toInt_toInt32, hx, Int.bmod_def]
  split <;> omega
theorem xorG {v x y : Int32} {a b : Int} (e : v = x ||| y) (hx : x.toInt = a) (hy : y.toInt = b) (h1 : 0 ≤ a) (h3 : 0 ≤ b) : a ≤ v.toInt := by
  subst e
  obtain ⟨q1, q2⟩ := xnn (x := x) (by omega)
  obtain ⟨q3, q4⟩ := xnn (x := y) (by omega)
  have e1 : (x ||| y).toBitVec.toNat = x.toBitVec.toNat ||| y.toBitVec.toNat := by rw [Int32.toBitVec_or, BitVec.toNat_or]
  have e2 : x.toBitVec.toNat ||| y.toBitVec.toNat < 2 ^ 31 := Nat.or_lt_two_pow q1 q3
  have e3 := xnn' e1 e2
  have e4 : x.toBitVec.toNat ≤ x.toBitVec.toNat ||| y.toBitVec.toNat := Nat.left_le_or
  omega
