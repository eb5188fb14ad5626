def xW0 (f : Nat → Int32) (fr pl : Int32) : Prop := pl.toInt - fr.toInt = 4 ∧ (f fr.toNatClampNeg).toInt = 114 ∧ (f (fr + 1).toNatClampNeg).toInt = 97 ∧ (f (fr + 2).toNatClampNeg).toInt = 105 ∧ (f (fr + 3).toNatClampNeg).toInt = 108
def xW1 (f : Nat → Int32) (fr pl : Int32) : Prop := pl.toInt - fr.toInt = 4 ∧ (f fr.toNatClampNeg).toInt = 119 ∧ (f (fr + 1).toNatClampNeg).toInt = 104 ∧ (f (fr + 2).toNatClampNeg).toInt = 101 ∧ (f (fr + 3).toNatClampNeg).toInt = 110
def xW2 (f : Nat → Int32) (fr pl : Int32) : Prop := pl.toInt - fr.toInt = 4 ∧ (f fr.toNatClampNeg).toInt = 102 ∧ (f (fr + 1).toNatClampNeg).toInt = 97 ∧ (f (fr + 2).toNatClampNeg).toInt = 108 ∧ (f (fr + 3).toNatClampNeg).toInt = 108
def xW3 (f : Nat → Int32) (fr pl : Int32) : Prop := pl.toInt - fr.toInt = 4 ∧ (f fr.toNatClampNeg).toInt = 100 ∧ (f (fr + 1).toNatClampNeg).toInt = 114 ∧ (f (fr + 2).toNatClampNeg).toInt = 97 ∧ (f (fr + 3).toNatClampNeg).toInt = 119
def xW4 (f : Nat → Int32) (fr pl : Int32) : Prop := pl.toInt - fr.toInt = 4 ∧ (f fr.toNatClampNeg).toInt = 119 ∧ (f (fr + 1).toNatClampNeg).toInt = 97 ∧ (f (fr + 2).toNatClampNeg).toInt = 105 ∧ (f (fr + 3).toNatClampNeg).toInt = 116
def xW5 (f : Nat → Int32) (fr pl : Int32) : Prop := pl.toInt - fr.toInt = 6 ∧ (f fr.toNatClampNeg).toInt = 119 ∧ (f (fr + 1).toNatClampNeg).toInt = 105 ∧ (f (fr + 2).toNatClampNeg).toInt = 116 ∧ (f (fr + 3).toNatClampNeg).toInt = 104 ∧ (f (fr + 4).toNatClampNeg).toInt = 105 ∧ (f (fr + 5).toNatClampNeg).toInt = 110
def xW6 (f : Nat → Int32) (fr pl : Int32) : Prop := pl.toInt - fr.toInt = 3 ∧ (f fr.toNatClampNeg).toInt = 107 ∧ (f (fr + 1).toNatClampNeg).toInt = 101 ∧ (f (fr + 2).toNatClampNeg).toInt = 121
def xW7 (f : Nat → Int32) (fr pl : Int32) : Prop := pl.toInt - fr.toInt = 5 ∧ (f fr.toNatClampNeg).toInt = 108 ∧ (f (fr + 1).toNatClampNeg).toInt = 105 ∧ (f (fr + 2).toNatClampNeg).toInt = 109 ∧ (f (fr + 3).toNatClampNeg).toInt = 105 ∧ (f (fr + 4).toNatClampNeg).toInt = 116
def xW8 (f : Nat → Int32) (fr pl : Int32) : Prop := pl.toInt - fr.toInt = 5 ∧ (f fr.toNatClampNeg).toInt = 114 ∧ (f (fr + 1).toNatClampNeg).toInt = 101 ∧ (f (fr + 2).toNatClampNeg).toInt = 116 ∧ (f (fr + 3).toNatClampNeg).toInt = 114 ∧ (f (fr + 4).toNatClampNeg).toInt = 121
theorem w_L {f : Nat → Int32} {fr : Int32} {N ix : Nat} (k : Nat) (x : Int32) : K_isWord_L6 N f fr ix (k + 1) x = if ((N : Nat) : Int) ≤ x.toInt then 1 else if (f (fr + x).toNatClampNeg).toInt = (M_s_charAt ix x).toInt then K_isWord_L6 N f fr ix k (x + 1) else 0 := rfl
theorem w_rail {f : Nat → Int32} {kd pl fr : Int32} : M_isWord kd pl fr 4 f 0 = @ite _ (kd.toInt = 1 ∧ xW0 f fr pl) (Classical.propDecidable _) 1 0 := by
  simp only [K_isWord_7, K_isWord_10, K_isWord_11, K_isWord_9, K_isWord_8, K_isWord_6, K_isWord_4, K_isWord_5, K_isWord_3, K_isWord_2, K_isWord_1, M_isWord]
  by_cases q : kd.toInt = 1
  · rw [if_pos q]
    by_cases q1 : pl.toInt - fr.toInt = (((4 : Nat) : Nat) : Int)
    · rw [if_pos q1]
      rw [show K_isWord_L6 4 f fr 0 100000 0 = _ from w_L 99999 0, if_neg (by decide), show (M_s_charAt 0 0).toInt = 114 from by decide, Int32.add_zero]
      by_cases g0 : (f fr.toNatClampNeg).toInt = 114
      rotate_left
      · rw [if_neg g0, if_neg (fun z => g0 z.2.2.1)]
      rw [if_pos g0]
      rw [show (0 + 1 : Int32) = 1 from by decide, show K_isWord_L6 4 f fr 0 99999 1 = _ from w_L 99998 1, if_neg (by decide), show (M_s_charAt 0 1).toInt = 97 from by decide]
      by_cases g1 : (f (fr + 1).toNatClampNeg).toInt = 97
      rotate_left
      · rw [if_neg g1, if_neg (fun z => g1 z.2.2.2.1)]
      rw [if_pos g1]
      rw [show (1 + 1 : Int32) = 2 from by decide, show K_isWord_L6 4 f fr 0 99998 2 = _ from w_L 99997 2, if_neg (by decide), show (M_s_charAt 0 2).toInt = 105 from by decide]
      by_cases g2 : (f (fr + 2).toNatClampNeg).toInt = 105
      rotate_left
      · rw [if_neg g2, if_neg (fun z => g2 z.2.2.2.2.1)]
      rw [if_pos g2]
      rw [show (2 + 1 : Int32) = 3 from by decide, show K_isWord_L6 4 f fr 0 99997 3 = _ from w_L 99996 3, if_neg (by decide), show (M_s_charAt 0 3).toInt = 108 from by decide]
      by_cases g3 : (f (fr + 3).toNatClampNeg).toInt = 108
      rotate_left
      · rw [if_neg g3, if_neg (fun z => g3 z.2.2.2.2.2)]
      rw [if_pos g3]
      rw [show (3 + 1 : Int32) = 4 from by decide, show K_isWord_L6 4 f fr 0 99996 4 = _ from w_L 99995 4, if_pos (by decide), if_pos ⟨q, q1, g0, g1, g2, g3⟩]
    · rw [if_neg q1, if_neg (fun z => q1 z.2.1)]
  · rw [if_neg q, if_neg (fun z => q z.1)]
theorem w_when {f : Nat → Int32} {kd pl fr : Int32} : M_isWord kd pl fr 4 f 1 = @ite _ (kd.toInt = 1 ∧ xW1 f fr pl) (Classical.propDecidable _) 1 0 := by
  simp only [K_isWord_7, K_isWord_10, K_isWord_11, K_isWord_9, K_isWord_8, K_isWord_6, K_isWord_4, K_isWord_5, K_isWord_3, K_isWord_2, K_isWord_1, M_isWord]
  by_cases q : kd.toInt = 1
  · rw [if_pos q]
    by_cases q1 : pl.toInt - fr.toInt = (((4 : Nat) : Nat) : Int)
    · rw [if_pos q1]
      rw [show K_isWord_L6 4 f fr 1 100000 0 = _ from w_L 99999 0, if_neg (by decide), show (M_s_charAt 1 0).toInt = 119 from by decide, Int32.add_zero]
      by_cases g0 : (f fr.toNatClampNeg).toInt = 119
      rotate_left
      · rw [if_neg g0, if_neg (fun z => g0 z.2.2.1)]
      rw [if_pos g0]
      rw [show (0 + 1 : Int32) = 1 from by decide, show K_isWord_L6 4 f fr 1 99999 1 = _ from w_L 99998 1, if_neg (by decide), show (M_s_charAt 1 1).toInt = 104 from by decide]
      by_cases g1 : (f (fr + 1).toNatClampNeg).toInt = 104
      rotate_left
      · rw [if_neg g1, if_neg (fun z => g1 z.2.2.2.1)]
      rw [if_pos g1]
      rw [show (1 + 1 : Int32) = 2 from by decide, show K_isWord_L6 4 f fr 1 99998 2 = _ from w_L 99997 2, if_neg (by decide), show (M_s_charAt 1 2).toInt = 101 from by decide]
      by_cases g2 : (f (fr + 2).toNatClampNeg).toInt = 101
      rotate_left
      · rw [if_neg g2, if_neg (fun z => g2 z.2.2.2.2.1)]
      rw [if_pos g2]
      rw [show (2 + 1 : Int32) = 3 from by decide, show K_isWord_L6 4 f fr 1 99997 3 = _ from w_L 99996 3, if_neg (by decide), show (M_s_charAt 1 3).toInt = 110 from by decide]
      by_cases g3 : (f (fr + 3).toNatClampNeg).toInt = 110
      rotate_left
      · rw [if_neg g3, if_neg (fun z => g3 z.2.2.2.2.2)]
      rw [if_pos g3]
      rw [show (3 + 1 : Int32) = 4 from by decide, show K_isWord_L6 4 f fr 1 99996 4 = _ from w_L 99995 4, if_pos (by decide), if_pos ⟨q, q1, g0, g1, g2, g3⟩]
    · rw [if_neg q1, if_neg (fun z => q1 z.2.1)]
  · rw [if_neg q, if_neg (fun z => q z.1)]
theorem w_fall {f : Nat → Int32} {kd pl fr : Int32} : M_isWord kd pl fr 4 f 2 = @ite _ (kd.toInt = 1 ∧ xW2 f fr pl) (Classical.propDecidable _) 1 0 := by
  simp only [K_isWord_7, K_isWord_10, K_isWord_11, K_isWord_9, K_isWord_8, K_isWord_6, K_isWord_4, K_isWord_5, K_isWord_3, K_isWord_2, K_isWord_1, M_isWord]
  by_cases q : kd.toInt = 1
  · rw [if_pos q]
    by_cases q1 : pl.toInt - fr.toInt = (((4 : Nat) : Nat) : Int)
    · rw [if_pos q1]
      rw [show K_isWord_L6 4 f fr 2 100000 0 = _ from w_L 99999 0, if_neg (by decide), show (M_s_charAt 2 0).toInt = 102 from by decide, Int32.add_zero]
      by_cases g0 : (f fr.toNatClampNeg).toInt = 102
      rotate_left
      · rw [if_neg g0, if_neg (fun z => g0 z.2.2.1)]
      rw [if_pos g0]
      rw [show (0 + 1 : Int32) = 1 from by decide, show K_isWord_L6 4 f fr 2 99999 1 = _ from w_L 99998 1, if_neg (by decide), show (M_s_charAt 2 1).toInt = 97 from by decide]
      by_cases g1 : (f (fr + 1).toNatClampNeg).toInt = 97
      rotate_left
      · rw [if_neg g1, if_neg (fun z => g1 z.2.2.2.1)]
      rw [if_pos g1]
      rw [show (1 + 1 : Int32) = 2 from by decide, show K_isWord_L6 4 f fr 2 99998 2 = _ from w_L 99997 2, if_neg (by decide), show (M_s_charAt 2 2).toInt = 108 from by decide]
      by_cases g2 : (f (fr + 2).toNatClampNeg).toInt = 108
      rotate_left
      · rw [if_neg g2, if_neg (fun z => g2 z.2.2.2.2.1)]
      rw [if_pos g2]
      rw [show (2 + 1 : Int32) = 3 from by decide, show K_isWord_L6 4 f fr 2 99997 3 = _ from w_L 99996 3, if_neg (by decide), show (M_s_charAt 2 3).toInt = 108 from by decide]
      by_cases g3 : (f (fr + 3).toNatClampNeg).toInt = 108
      rotate_left
      · rw [if_neg g3, if_neg (fun z => g3 z.2.2.2.2.2)]
      rw [if_pos g3]
      rw [show (3 + 1 : Int32) = 4 from by decide, show K_isWord_L6 4 f fr 2 99996 4 = _ from w_L 99995 4, if_pos (by decide), if_pos ⟨q, q1, g0, g1, g2, g3⟩]
    · rw [if_neg q1, if_neg (fun z => q1 z.2.1)]
  · rw [if_neg q, if_neg (fun z => q z.1)]
theorem w_draw {f : Nat → Int32} {kd pl fr : Int32} : M_isWord kd pl fr 4 f 3 = @ite _ (kd.toInt = 1 ∧ xW3 f fr pl) (Classical.propDecidable _) 1 0 := by
  simp only [K_isWord_7, K_isWord_10, K_isWord_11, K_isWord_9, K_isWord_8, K_isWord_6, K_isWord_4, K_isWord_5, K_isWord_3, K_isWord_2, K_isWord_1, M_isWord]
  by_cases q : kd.toInt = 1
  · rw [if_pos q]
    by_cases q1 : pl.toInt - fr.toInt = (((4 : Nat) : Nat) : Int)
    · rw [if_pos q1]
      rw [show K_isWord_L6 4 f fr 3 100000 0 = _ from w_L 99999 0, if_neg (by decide), show (M_s_charAt 3 0).toInt = 100 from by decide, Int32.add_zero]
      by_cases g0 : (f fr.toNatClampNeg).toInt = 100
      rotate_left
      · rw [if_neg g0, if_neg (fun z => g0 z.2.2.1)]
      rw [if_pos g0]
      rw [show (0 + 1 : Int32) = 1 from by decide, show K_isWord_L6 4 f fr 3 99999 1 = _ from w_L 99998 1, if_neg (by decide), show (M_s_charAt 3 1).toInt = 114 from by decide]
      by_cases g1 : (f (fr + 1).toNatClampNeg).toInt = 114
      rotate_left
      · rw [if_neg g1, if_neg (fun z => g1 z.2.2.2.1)]
      rw [if_pos g1]
      rw [show (1 + 1 : Int32) = 2 from by decide, show K_isWord_L6 4 f fr 3 99998 2 = _ from w_L 99997 2, if_neg (by decide), show (M_s_charAt 3 2).toInt = 97 from by decide]
      by_cases g2 : (f (fr + 2).toNatClampNeg).toInt = 97
      rotate_left
      · rw [if_neg g2, if_neg (fun z => g2 z.2.2.2.2.1)]
      rw [if_pos g2]
      rw [show (2 + 1 : Int32) = 3 from by decide, show K_isWord_L6 4 f fr 3 99997 3 = _ from w_L 99996 3, if_neg (by decide), show (M_s_charAt 3 3).toInt = 119 from by decide]
      by_cases g3 : (f (fr + 3).toNatClampNeg).toInt = 119
      rotate_left
      · rw [if_neg g3, if_neg (fun z => g3 z.2.2.2.2.2)]
      rw [if_pos g3]
      rw [show (3 + 1 : Int32) = 4 from by decide, show K_isWord_L6 4 f fr 3 99996 4 = _ from w_L 99995 4, if_pos (by decide), if_pos ⟨q, q1, g0, g1, g2, g3⟩]
    · rw [if_neg q1, if_neg (fun z => q1 z.2.1)]
  · rw [if_neg q, if_neg (fun z => q z.1)]
theorem w_wait {f : Nat → Int32} {kd pl fr : Int32} : M_isWord kd pl fr 4 f 4 = @ite _ (kd.toInt = 1 ∧ xW4 f fr pl) (Classical.propDecidable _) 1 0 := by
  simp only [K_isWord_7, K_isWord_10, K_isWord_11, K_isWord_9, K_isWord_8, K_isWord_6, K_isWord_4, K_isWord_5, K_isWord_3, K_isWord_2, K_isWord_1, M_isWord]
  by_cases q : kd.toInt = 1
  · rw [if_pos q]
    by_cases q1 : pl.toInt - fr.toInt = (((4 : Nat) : Nat) : Int)
    · rw [if_pos q1]
      rw [show K_isWord_L6 4 f fr 4 100000 0 = _ from w_L 99999 0, if_neg (by decide), show (M_s_charAt 4 0).toInt = 119 from by decide, Int32.add_zero]
      by_cases g0 : (f fr.toNatClampNeg).toInt = 119
      rotate_left
      · rw [if_neg g0, if_neg (fun z => g0 z.2.2.1)]
      rw [if_pos g0]
      rw [show (0 + 1 : Int32) = 1 from by decide, show K_isWord_L6 4 f fr 4 99999 1 = _ from w_L 99998 1, if_neg (by decide), show (M_s_charAt 4 1).toInt = 97 from by decide]
      by_cases g1 : (f (fr + 1).toNatClampNeg).toInt = 97
      rotate_left
      · rw [if_neg g1, if_neg (fun z => g1 z.2.2.2.1)]
      rw [if_pos g1]
      rw [show (1 + 1 : Int32) = 2 from by decide, show K_isWord_L6 4 f fr 4 99998 2 = _ from w_L 99997 2, if_neg (by decide), show (M_s_charAt 4 2).toInt = 105 from by decide]
      by_cases g2 : (f (fr + 2).toNatClampNeg).toInt = 105
      rotate_left
      · rw [if_neg g2, if_neg (fun z => g2 z.2.2.2.2.1)]
      rw [if_pos g2]
      rw [show (2 + 1 : Int32) = 3 from by decide, show K_isWord_L6 4 f fr 4 99997 3 = _ from w_L 99996 3, if_neg (by decide), show (M_s_charAt 4 3).toInt = 116 from by decide]
      by_cases g3 : (f (fr + 3).toNatClampNeg).toInt = 116
      rotate_left
      · rw [if_neg g3, if_neg (fun z => g3 z.2.2.2.2.2)]
      rw [if_pos g3]
      rw [show (3 + 1 : Int32) = 4 from by decide, show K_isWord_L6 4 f fr 4 99996 4 = _ from w_L 99995 4, if_pos (by decide), if_pos ⟨q, q1, g0, g1, g2, g3⟩]
    · rw [if_neg q1, if_neg (fun z => q1 z.2.1)]
  · rw [if_neg q, if_neg (fun z => q z.1)]
theorem w_within {f : Nat → Int32} {kd pl fr : Int32} : M_isWord kd pl fr 6 f 5 = @ite _ (kd.toInt = 1 ∧ xW5 f fr pl) (Classical.propDecidable _) 1 0 := by
  simp only [K_isWord_7, K_isWord_10, K_isWord_11, K_isWord_9, K_isWord_8, K_isWord_6, K_isWord_4, K_isWord_5, K_isWord_3, K_isWord_2, K_isWord_1, M_isWord]
  by_cases q : kd.toInt = 1
  · rw [if_pos q]
    by_cases q1 : pl.toInt - fr.toInt = (((6 : Nat) : Nat) : Int)
    · rw [if_pos q1]
      rw [show K_isWord_L6 6 f fr 5 100000 0 = _ from w_L 99999 0, if_neg (by decide), show (M_s_charAt 5 0).toInt = 119 from by decide, Int32.add_zero]
      by_cases g0 : (f fr.toNatClampNeg).toInt = 119
      rotate_left
      · rw [if_neg g0, if_neg (fun z => g0 z.2.2.1)]
      rw [if_pos g0]
      rw [show (0 + 1 : Int32) = 1 from by decide, show K_isWord_L6 6 f fr 5 99999 1 = _ from w_L 99998 1, if_neg (by decide), show (M_s_charAt 5 1).toInt = 105 from by decide]
      by_cases g1 : (f (fr + 1).toNatClampNeg).toInt = 105
      rotate_left
      · rw [if_neg g1, if_neg (fun z => g1 z.2.2.2.1)]
      rw [if_pos g1]
      rw [show (1 + 1 : Int32) = 2 from by decide, show K_isWord_L6 6 f fr 5 99998 2 = _ from w_L 99997 2, if_neg (by decide), show (M_s_charAt 5 2).toInt = 116 from by decide]
      by_cases g2 : (f (fr + 2).toNatClampNeg).toInt = 116
      rotate_left
      · rw [if_neg g2, if_neg (fun z => g2 z.2.2.2.2.1)]
      rw [if_pos g2]
      rw [show (2 + 1 : Int32) = 3 from by decide, show K_isWord_L6 6 f fr 5 99997 3 = _ from w_L 99996 3, if_neg (by decide), show (M_s_charAt 5 3).toInt = 104 from by decide]
      by_cases g3 : (f (fr + 3).toNatClampNeg).toInt = 104
      rotate_left
      · rw [if_neg g3, if_neg (fun z => g3 z.2.2.2.2.2.1)]
      rw [if_pos g3]
      rw [show (3 + 1 : Int32) = 4 from by decide, show K_isWord_L6 6 f fr 5 99996 4 = _ from w_L 99995 4, if_neg (by decide), show (M_s_charAt 5 4).toInt = 105 from by decide]
      by_cases g4 : (f (fr + 4).toNatClampNeg).toInt = 105
      rotate_left
      · rw [if_neg g4, if_neg (fun z => g4 z.2.2.2.2.2.2.1)]
      rw [if_pos g4]
      rw [show (4 + 1 : Int32) = 5 from by decide, show K_isWord_L6 6 f fr 5 99995 5 = _ from w_L 99994 5, if_neg (by decide), show (M_s_charAt 5 5).toInt = 110 from by decide]
      by_cases g5 : (f (fr + 5).toNatClampNeg).toInt = 110
      rotate_left
      · rw [if_neg g5, if_neg (fun z => g5 z.2.2.2.2.2.2.2)]
      rw [if_pos g5]
      rw [show (5 + 1 : Int32) = 6 from by decide, show K_isWord_L6 6 f fr 5 99994 6 = _ from w_L 99993 6, if_pos (by decide), if_pos ⟨q, q1, g0, g1, g2, g3, g4, g5⟩]
    · rw [if_neg q1, if_neg (fun z => q1 z.2.1)]
  · rw [if_neg q, if_neg (fun z => q z.1)]
theorem w_key {f : Nat → Int32} {kd pl fr : Int32} : M_isWord kd pl fr 3 f 6 = @ite _ (kd.toInt = 1 ∧ xW6 f fr pl) (Classical.propDecidable _) 1 0 := by
  simp only [K_isWord_7, K_isWord_10, K_isWord_11, K_isWord_9, K_isWord_8, K_isWord_6, K_isWord_4, K_isWord_5, K_isWord_3, K_isWord_2, K_isWord_1, M_isWord]
  by_cases q : kd.toInt = 1
  · rw [if_pos q]
    by_cases q1 : pl.toInt - fr.toInt = (((3 : Nat) : Nat) : Int)
    · rw [if_pos q1]
      rw [show K_isWord_L6 3 f fr 6 100000 0 = _ from w_L 99999 0, if_neg (by decide), show (M_s_charAt 6 0).toInt = 107 from by decide, Int32.add_zero]
      by_cases g0 : (f fr.toNatClampNeg).toInt = 107
      rotate_left
      · rw [if_neg g0, if_neg (fun z => g0 z.2.2.1)]
      rw [if_pos g0]
      rw [show (0 + 1 : Int32) = 1 from by decide, show K_isWord_L6 3 f fr 6 99999 1 = _ from w_L 99998 1, if_neg (by decide), show (M_s_charAt 6 1).toInt = 101 from by decide]
      by_cases g1 : (f (fr + 1).toNatClampNeg).toInt = 101
      rotate_left
      · rw [if_neg g1, if_neg (fun z => g1 z.2.2.2.1)]
      rw [if_pos g1]
      rw [show (1 + 1 : Int32) = 2 from by decide, show K_isWord_L6 3 f fr 6 99998 2 = _ from w_L 99997 2, if_neg (by decide), show (M_s_charAt 6 2).toInt = 121 from by decide]
      by_cases g2 : (f (fr + 2).toNatClampNeg).toInt = 121
      rotate_left
      · rw [if_neg g2, if_neg (fun z => g2 z.2.2.2.2)]
      rw [if_pos g2]
      rw [show (2 + 1 : Int32) = 3 from by decide, show K_isWord_L6 3 f fr 6 99997 3 = _ from w_L 99996 3, if_pos (by decide), if_pos ⟨q, q1, g0, g1, g2⟩]
    · rw [if_neg q1, if_neg (fun z => q1 z.2.1)]
  · rw [if_neg q, if_neg (fun z => q z.1)]
theorem w_limit {f : Nat → Int32} {kd pl fr : Int32} : M_isWord kd pl fr 5 f 7 = @ite _ (kd.toInt = 1 ∧ xW7 f fr pl) (Classical.propDecidable _) 1 0 := by
  simp only [K_isWord_7, K_isWord_10, K_isWord_11, K_isWord_9, K_isWord_8, K_isWord_6, K_isWord_4, K_isWord_5, K_isWord_3, K_isWord_2, K_isWord_1, M_isWord]
  by_cases q : kd.toInt = 1
  · rw [if_pos q]
    by_cases q1 : pl.toInt - fr.toInt = (((5 : Nat) : Nat) : Int)
    · rw [if_pos q1]
      rw [show K_isWord_L6 5 f fr 7 100000 0 = _ from w_L 99999 0, if_neg (by decide), show (M_s_charAt 7 0).toInt = 108 from by decide, Int32.add_zero]
      by_cases g0 : (f fr.toNatClampNeg).toInt = 108
      rotate_left
      · rw [if_neg g0, if_neg (fun z => g0 z.2.2.1)]
      rw [if_pos g0]
      rw [show (0 + 1 : Int32) = 1 from by decide, show K_isWord_L6 5 f fr 7 99999 1 = _ from w_L 99998 1, if_neg (by decide), show (M_s_charAt 7 1).toInt = 105 from by decide]
      by_cases g1 : (f (fr + 1).toNatClampNeg).toInt = 105
      rotate_left
      · rw [if_neg g1, if_neg (fun z => g1 z.2.2.2.1)]
      rw [if_pos g1]
      rw [show (1 + 1 : Int32) = 2 from by decide, show K_isWord_L6 5 f fr 7 99998 2 = _ from w_L 99997 2, if_neg (by decide), show (M_s_charAt 7 2).toInt = 109 from by decide]
      by_cases g2 : (f (fr + 2).toNatClampNeg).toInt = 109
      rotate_left
      · rw [if_neg g2, if_neg (fun z => g2 z.2.2.2.2.1)]
      rw [if_pos g2]
      rw [show (2 + 1 : Int32) = 3 from by decide, show K_isWord_L6 5 f fr 7 99997 3 = _ from w_L 99996 3, if_neg (by decide), show (M_s_charAt 7 3).toInt = 105 from by decide]
      by_cases g3 : (f (fr + 3).toNatClampNeg).toInt = 105
      rotate_left
      · rw [if_neg g3, if_neg (fun z => g3 z.2.2.2.2.2.1)]
      rw [if_pos g3]
      rw [show (3 + 1 : Int32) = 4 from by decide, show K_isWord_L6 5 f fr 7 99996 4 = _ from w_L 99995 4, if_neg (by decide), show (M_s_charAt 7 4).toInt = 116 from by decide]
      by_cases g4 : (f (fr + 4).toNatClampNeg).toInt = 116
      rotate_left
      · rw [if_neg g4, if_neg (fun z => g4 z.2.2.2.2.2.2)]
      rw [if_pos g4]
      rw [show (4 + 1 : Int32) = 5 from by decide, show K_isWord_L6 5 f fr 7 99995 5 = _ from w_L 99994 5, if_pos (by decide), if_pos ⟨q, q1, g0, g1, g2, g3, g4⟩]
    · rw [if_neg q1, if_neg (fun z => q1 z.2.1)]
  · rw [if_neg q, if_neg (fun z => q z.1)]
theorem w_retry {f : Nat → Int32} {kd pl fr : Int32} : M_isWord kd pl fr 5 f 8 = @ite _ (kd.toInt = 1 ∧ xW8 f fr pl) (Classical.propDecidable _) 1 0 := by
  simp only [K_isWord_7, K_isWord_10, K_isWord_11, K_isWord_9, K_isWord_8, K_isWord_6, K_isWord_4, K_isWord_5, K_isWord_3, K_isWord_2, K_isWord_1, M_isWord]
  by_cases q : kd.toInt = 1
  · rw [if_pos q]
    by_cases q1 : pl.toInt - fr.toInt = (((5 : Nat) : Nat) : Int)
    · rw [if_pos q1]
      rw [show K_isWord_L6 5 f fr 8 100000 0 = _ from w_L 99999 0, if_neg (by decide), show (M_s_charAt 8 0).toInt = 114 from by decide, Int32.add_zero]
      by_cases g0 : (f fr.toNatClampNeg).toInt = 114
      rotate_left
      · rw [if_neg g0, if_neg (fun z => g0 z.2.2.1)]
      rw [if_pos g0]
      rw [show (0 + 1 : Int32) = 1 from by decide, show K_isWord_L6 5 f fr 8 99999 1 = _ from w_L 99998 1, if_neg (by decide), show (M_s_charAt 8 1).toInt = 101 from by decide]
      by_cases g1 : (f (fr + 1).toNatClampNeg).toInt = 101
      rotate_left
      · rw [if_neg g1, if_neg (fun z => g1 z.2.2.2.1)]
      rw [if_pos g1]
      rw [show (1 + 1 : Int32) = 2 from by decide, show K_isWord_L6 5 f fr 8 99998 2 = _ from w_L 99997 2, if_neg (by decide), show (M_s_charAt 8 2).toInt = 116 from by decide]
      by_cases g2 : (f (fr + 2).toNatClampNeg).toInt = 116
      rotate_left
      · rw [if_neg g2, if_neg (fun z => g2 z.2.2.2.2.1)]
      rw [if_pos g2]
      rw [show (2 + 1 : Int32) = 3 from by decide, show K_isWord_L6 5 f fr 8 99997 3 = _ from w_L 99996 3, if_neg (by decide), show (M_s_charAt 8 3).toInt = 114 from by decide]
      by_cases g3 : (f (fr + 3).toNatClampNeg).toInt = 114
      rotate_left
      · rw [if_neg g3, if_neg (fun z => g3 z.2.2.2.2.2.1)]
      rw [if_pos g3]
      rw [show (3 + 1 : Int32) = 4 from by decide, show K_isWord_L6 5 f fr 8 99996 4 = _ from w_L 99995 4, if_neg (by decide), show (M_s_charAt 8 4).toInt = 121 from by decide]
      by_cases g4 : (f (fr + 4).toNatClampNeg).toInt = 121
      rotate_left
      · rw [if_neg g4, if_neg (fun z => g4 z.2.2.2.2.2.2)]
      rw [if_pos g4]
      rw [show (4 + 1 : Int32) = 5 from by decide, show K_isWord_L6 5 f fr 8 99995 5 = _ from w_L 99994 5, if_pos (by decide), if_pos ⟨q, q1, g0, g1, g2, g3, g4⟩]
    · rw [if_neg q1, if_neg (fun z => q1 z.2.1)]
  · rw [if_neg q, if_neg (fun z => q z.1)]
