/-! the times gone through one by one: the number they spell grows -/
def xNum (f : Nat → Int32) : Nat → Int
  | 0 => 0
  | k + 1 => xNum f k + (f k).toInt * (10 : Int) ^ k
theorem x10 (k : Nat) : (1 : Int) ≤ (10 : Int) ^ k := by
  induction k with
  | zero => decide
  | succ k ih => rw [Int.pow_succ]; omega
theorem xNum_rng {f : Nat → Int32} : ∀ n : Nat, (∀ j, j < n → 0 ≤ (f j).toInt ∧ (f j).toInt ≤ 9) → 0 ≤ xNum f n ∧ xNum f n ≤ (10 : Int) ^ n - 1
  | 0, _ => by simp [xNum]
  | n + 1, h => by
    have q := xNum_rng n (fun j hj => h j (by omega))
    obtain ⟨h1, h2⟩ := h n (by omega)
    have p := x10 n
    have a : 0 ≤ (f n).toInt * (10 : Int) ^ n := Int.mul_nonneg h1 (by omega)
    have b : (f n).toInt * (10 : Int) ^ n ≤ 9 * (10 : Int) ^ n := Int.mul_le_mul_of_nonneg_right h2 (by omega)
    show 0 ≤ xNum f n + (f n).toInt * (10 : Int) ^ n ∧ xNum f n + (f n).toInt * (10 : Int) ^ n ≤ (10 : Int) ^ (n + 1) - 1
    rw [Int.pow_succ]
    omega
theorem xNum_low {f g : Nat → Int32} : ∀ r : Nat, (∀ j, j < r → (f j).toInt - (g j).toInt ≤ 9) → xNum f r - xNum g r ≤ (10 : Int) ^ r - 1
  | 0, _ => by simp [xNum]
  | r + 1, h => by
    have q := xNum_low r (fun j hj => h j (by omega))
    have h1 := h r (by omega)
    have p := x10 r
    have b : ((f r).toInt - (g r).toInt) * (10 : Int) ^ r ≤ 9 * (10 : Int) ^ r := Int.mul_le_mul_of_nonneg_right h1 (by omega)
    rw [Int.sub_mul] at b
    show xNum f r + (f r).toInt * (10 : Int) ^ r - (xNum g r + (g r).toInt * (10 : Int) ^ r) ≤ (10 : Int) ^ (r + 1) - 1
    rw [Int.pow_succ]
    omega
theorem xNum_up {f g : Nat → Int32} {r : Nat} (h : ∀ j, j < r → (f j).toInt - (g j).toInt ≤ 9) (hr : (g r).toInt = (f r).toInt + 1) : ∀ n : Nat, r < n → (∀ j, r < j → j < n → g j = f j) → xNum f n < xNum g n
  | 0, hn, _ => absurd hn (Nat.not_lt_zero r)
  | n + 1, hn, he => by
    rcases Nat.lt_or_ge r n with q | q
    · have ih := xNum_up h hr n q (fun j h1 h2 => he j h1 (by omega))
      show xNum f n + (f n).toInt * (10 : Int) ^ n < xNum g n + (g n).toInt * (10 : Int) ^ n
      rw [he n q (by omega)]
      omega
    · have e : n = r := by omega
      subst e
      have l := xNum_low n h
      show xNum f n + (f n).toInt * (10 : Int) ^ n < xNum g n + (g n).toInt * (10 : Int) ^ n
      rw [hr, Int.add_mul, Int.one_mul]
      omega
def xBy (f t : Nat → Int32) (n : Nat) : Prop := ∀ j, j < n → (t (7 * j)).toInt ≤ (f j).toInt ∧ (f j).toInt ≤ (t (7 * j + 1)).toInt
theorem xBy_num {f t : Nat → Int32} {n : Nat} (ht : xTD t n) (h : xBy f t n) (hn : n ≤ 8) : 0 ≤ xNum f n ∧ xNum f n ≤ 100000000 := by
  have q := xNum_rng (f := f) n (fun j hj => by
    have a := ht j hj
    have b := h j hj
    unfold xT1 at a
    omega)
  have p : (10 : Int) ^ n ≤ 100000000 := by
    have : ∀ k : Nat, k ≤ 8 → (10 : Int) ^ k ≤ 100000000 := by decide
    exact this n hn
  omega
theorem xBy_low {f t : Nat → Int32} {n : Nat} (ht : xTD t n) (h : ∀ j, j < n → f j = t (7 * j)) : xBy f t n := fun j hj => by
  have a := ht j hj
  unfold xT1 at a
  rw [h j hj]
  omega
/-- one of them goes up, those ahead of it go down to their least -/
theorem xBy_step {f g t : Nat → Int32} {n r : Nat} (ht : xTD t n) (h : xBy f t n) (hr : r < n) (h1 : ∀ j, j < r → g j = t (7 * j)) (h2 : ∀ j, r < j → j < n → g j = f j) (h3 : (g r).toInt = (f r).toInt + 1) (h4 : ¬ (f r).toInt = (t (7 * r + 1)).toInt) : xBy g t n ∧ xNum f n < xNum g n := by
  refine ⟨fun j hj => ?_, xNum_up (fun j hj => ?_) h3 n hr h2⟩
  · have a := ht j hj
    unfold xT1 at a
    have b := h j hj
    rcases Nat.lt_or_ge j r with q | q
    · rw [h1 j q]
      omega
    · rcases Nat.lt_or_ge r j with z | z
      · rw [h2 j z hj]
        exact b
      · have e : j = r := by omega
        subst e
        rw [h3]
        omega
  · have a := ht j (by omega)
    unfold xT1 at a
    have b := h j (by omega)
    rw [h1 j hj]
    omega
