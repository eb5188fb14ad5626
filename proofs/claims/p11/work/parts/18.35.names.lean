def xV0 (f : Nat → Int32) (n fr pl : Int32) : Prop := pl.toInt - fr.toInt = 4 ∧ (sp_look f n fr).toInt = 114 ∧ (sp_look f n (fr + 1)).toInt = 97 ∧ (sp_look f n (fr + 2)).toInt = 105 ∧ (sp_look f n (fr + 3)).toInt = 108
def xV1 (f : Nat → Int32) (n fr pl : Int32) : Prop := pl.toInt - fr.toInt = 4 ∧ (sp_look f n fr).toInt = 119 ∧ (sp_look f n (fr + 1)).toInt = 104 ∧ (sp_look f n (fr + 2)).toInt = 101 ∧ (sp_look f n (fr + 3)).toInt = 110
def xV2 (f : Nat → Int32) (n fr pl : Int32) : Prop := pl.toInt - fr.toInt = 4 ∧ (sp_look f n fr).toInt = 102 ∧ (sp_look f n (fr + 1)).toInt = 97 ∧ (sp_look f n (fr + 2)).toInt = 108 ∧ (sp_look f n (fr + 3)).toInt = 108
def xV3 (f : Nat → Int32) (n fr pl : Int32) : Prop := pl.toInt - fr.toInt = 4 ∧ (sp_look f n fr).toInt = 100 ∧ (sp_look f n (fr + 1)).toInt = 114 ∧ (sp_look f n (fr + 2)).toInt = 97 ∧ (sp_look f n (fr + 3)).toInt = 119
def xV4 (f : Nat → Int32) (n fr pl : Int32) : Prop := pl.toInt - fr.toInt = 4 ∧ (sp_look f n fr).toInt = 119 ∧ (sp_look f n (fr + 1)).toInt = 97 ∧ (sp_look f n (fr + 2)).toInt = 105 ∧ (sp_look f n (fr + 3)).toInt = 116
def xV5 (f : Nat → Int32) (n fr pl : Int32) : Prop := pl.toInt - fr.toInt = 6 ∧ (sp_look f n fr).toInt = 119 ∧ (sp_look f n (fr + 1)).toInt = 105 ∧ (sp_look f n (fr + 2)).toInt = 116 ∧ (sp_look f n (fr + 3)).toInt = 104 ∧ (sp_look f n (fr + 4)).toInt = 105 ∧ (sp_look f n (fr + 5)).toInt = 110
def xV6 (f : Nat → Int32) (n fr pl : Int32) : Prop := pl.toInt - fr.toInt = 3 ∧ (sp_look f n fr).toInt = 107 ∧ (sp_look f n (fr + 1)).toInt = 101 ∧ (sp_look f n (fr + 2)).toInt = 121
def xV7 (f : Nat → Int32) (n fr pl : Int32) : Prop := pl.toInt - fr.toInt = 5 ∧ (sp_look f n fr).toInt = 108 ∧ (sp_look f n (fr + 1)).toInt = 105 ∧ (sp_look f n (fr + 2)).toInt = 109 ∧ (sp_look f n (fr + 3)).toInt = 105 ∧ (sp_look f n (fr + 4)).toInt = 116
def xV8 (f : Nat → Int32) (n fr pl : Int32) : Prop := pl.toInt - fr.toInt = 5 ∧ (sp_look f n fr).toInt = 114 ∧ (sp_look f n (fr + 1)).toInt = 101 ∧ (sp_look f n (fr + 2)).toInt = 116 ∧ (sp_look f n (fr + 3)).toInt = 114 ∧ (sp_look f n (fr + 4)).toInt = 121
theorem is_rail {f : Nat → Int32} {n ps fr : Int32} : M_m_is ps fr 4 114 97 105 108 n f = @ite _ (xV0 f n fr ps) (Classical.propDecidable _) 1 0 := by
  simp only [K_m_is_13, K_m_is_17, K_m_is_16, K_m_is_15, K_m_is_14, K_m_is_12, K_m_is_11, K_m_is_10, K_m_is_9, K_m_is_8, K_m_is_7, K_m_is_6, K_m_is_5, K_m_is_4, K_m_is_3, K_m_is_2, K_m_is_1, M_m_is, t_look, show (4 : Int32).toInt = 4 from by decide, show (97 : Int32).toInt = 97 from by decide, show (105 : Int32).toInt = 105 from by decide, show (108 : Int32).toInt = 108 from by decide, show (114 : Int32).toInt = 114 from by decide]
  by_cases q1 : ps.toInt - fr.toInt = 4
  rotate_left
  · rw [if_neg q1, if_neg (fun z => q1 z.1)]
  rw [if_pos q1]
  by_cases g0 : (sp_look f n fr).toInt = 114
  rotate_left
  · rw [if_neg g0, if_neg (fun z => g0 z.2.1)]
  rw [if_pos g0]
  by_cases g1 : (sp_look f n (fr + 1)).toInt = 97
  rotate_left
  · rw [if_neg g1, if_neg (fun z => g1 z.2.2.1)]
  rw [if_pos g1]
  by_cases g2 : (sp_look f n (fr + 2)).toInt = 105
  rotate_left
  · rw [if_neg g2, if_neg (fun z => g2 z.2.2.2.1)]
  rw [if_pos g2]
  rw [if_neg (by decide)]
  by_cases g3 : (sp_look f n (fr + 3)).toInt = 108
  · rw [if_pos g3, if_pos ⟨q1, g0, g1, g2, g3⟩]
  · rw [if_neg g3, if_neg (fun z => g3 z.2.2.2.2)]
theorem is_when {f : Nat → Int32} {n ps fr : Int32} : M_m_is ps fr 4 119 104 101 110 n f = @ite _ (xV1 f n fr ps) (Classical.propDecidable _) 1 0 := by
  simp only [K_m_is_13, K_m_is_17, K_m_is_16, K_m_is_15, K_m_is_14, K_m_is_12, K_m_is_11, K_m_is_10, K_m_is_9, K_m_is_8, K_m_is_7, K_m_is_6, K_m_is_5, K_m_is_4, K_m_is_3, K_m_is_2, K_m_is_1, M_m_is, t_look, show (4 : Int32).toInt = 4 from by decide, show (101 : Int32).toInt = 101 from by decide, show (104 : Int32).toInt = 104 from by decide, show (110 : Int32).toInt = 110 from by decide, show (119 : Int32).toInt = 119 from by decide]
  by_cases q1 : ps.toInt - fr.toInt = 4
  rotate_left
  · rw [if_neg q1, if_neg (fun z => q1 z.1)]
  rw [if_pos q1]
  by_cases g0 : (sp_look f n fr).toInt = 119
  rotate_left
  · rw [if_neg g0, if_neg (fun z => g0 z.2.1)]
  rw [if_pos g0]
  by_cases g1 : (sp_look f n (fr + 1)).toInt = 104
  rotate_left
  · rw [if_neg g1, if_neg (fun z => g1 z.2.2.1)]
  rw [if_pos g1]
  by_cases g2 : (sp_look f n (fr + 2)).toInt = 101
  rotate_left
  · rw [if_neg g2, if_neg (fun z => g2 z.2.2.2.1)]
  rw [if_pos g2]
  rw [if_neg (by decide)]
  by_cases g3 : (sp_look f n (fr + 3)).toInt = 110
  · rw [if_pos g3, if_pos ⟨q1, g0, g1, g2, g3⟩]
  · rw [if_neg g3, if_neg (fun z => g3 z.2.2.2.2)]
theorem is_fall {f : Nat → Int32} {n ps fr : Int32} : M_m_is ps fr 4 102 97 108 108 n f = @ite _ (xV2 f n fr ps) (Classical.propDecidable _) 1 0 := by
  simp only [K_m_is_13, K_m_is_17, K_m_is_16, K_m_is_15, K_m_is_14, K_m_is_12, K_m_is_11, K_m_is_10, K_m_is_9, K_m_is_8, K_m_is_7, K_m_is_6, K_m_is_5, K_m_is_4, K_m_is_3, K_m_is_2, K_m_is_1, M_m_is, t_look, show (4 : Int32).toInt = 4 from by decide, show (97 : Int32).toInt = 97 from by decide, show (102 : Int32).toInt = 102 from by decide, show (108 : Int32).toInt = 108 from by decide]
  by_cases q1 : ps.toInt - fr.toInt = 4
  rotate_left
  · rw [if_neg q1, if_neg (fun z => q1 z.1)]
  rw [if_pos q1]
  by_cases g0 : (sp_look f n fr).toInt = 102
  rotate_left
  · rw [if_neg g0, if_neg (fun z => g0 z.2.1)]
  rw [if_pos g0]
  by_cases g1 : (sp_look f n (fr + 1)).toInt = 97
  rotate_left
  · rw [if_neg g1, if_neg (fun z => g1 z.2.2.1)]
  rw [if_pos g1]
  by_cases g2 : (sp_look f n (fr + 2)).toInt = 108
  rotate_left
  · rw [if_neg g2, if_neg (fun z => g2 z.2.2.2.1)]
  rw [if_pos g2]
  rw [if_neg (by decide)]
  by_cases g3 : (sp_look f n (fr + 3)).toInt = 108
  · rw [if_pos g3, if_pos ⟨q1, g0, g1, g2, g3⟩]
  · rw [if_neg g3, if_neg (fun z => g3 z.2.2.2.2)]
theorem is_draw {f : Nat → Int32} {n ps fr : Int32} : M_m_is ps fr 4 100 114 97 119 n f = @ite _ (xV3 f n fr ps) (Classical.propDecidable _) 1 0 := by
  simp only [K_m_is_13, K_m_is_17, K_m_is_16, K_m_is_15, K_m_is_14, K_m_is_12, K_m_is_11, K_m_is_10, K_m_is_9, K_m_is_8, K_m_is_7, K_m_is_6, K_m_is_5, K_m_is_4, K_m_is_3, K_m_is_2, K_m_is_1, M_m_is, t_look, show (4 : Int32).toInt = 4 from by decide, show (97 : Int32).toInt = 97 from by decide, show (100 : Int32).toInt = 100 from by decide, show (114 : Int32).toInt = 114 from by decide, show (119 : Int32).toInt = 119 from by decide]
  by_cases q1 : ps.toInt - fr.toInt = 4
  rotate_left
  · rw [if_neg q1, if_neg (fun z => q1 z.1)]
  rw [if_pos q1]
  by_cases g0 : (sp_look f n fr).toInt = 100
  rotate_left
  · rw [if_neg g0, if_neg (fun z => g0 z.2.1)]
  rw [if_pos g0]
  by_cases g1 : (sp_look f n (fr + 1)).toInt = 114
  rotate_left
  · rw [if_neg g1, if_neg (fun z => g1 z.2.2.1)]
  rw [if_pos g1]
  by_cases g2 : (sp_look f n (fr + 2)).toInt = 97
  rotate_left
  · rw [if_neg g2, if_neg (fun z => g2 z.2.2.2.1)]
  rw [if_pos g2]
  rw [if_neg (by decide)]
  by_cases g3 : (sp_look f n (fr + 3)).toInt = 119
  · rw [if_pos g3, if_pos ⟨q1, g0, g1, g2, g3⟩]
  · rw [if_neg g3, if_neg (fun z => g3 z.2.2.2.2)]
theorem is_wait {f : Nat → Int32} {n ps fr : Int32} : M_m_is ps fr 4 119 97 105 116 n f = @ite _ (xV4 f n fr ps) (Classical.propDecidable _) 1 0 := by
  simp only [K_m_is_13, K_m_is_17, K_m_is_16, K_m_is_15, K_m_is_14, K_m_is_12, K_m_is_11, K_m_is_10, K_m_is_9, K_m_is_8, K_m_is_7, K_m_is_6, K_m_is_5, K_m_is_4, K_m_is_3, K_m_is_2, K_m_is_1, M_m_is, t_look, show (4 : Int32).toInt = 4 from by decide, show (97 : Int32).toInt = 97 from by decide, show (105 : Int32).toInt = 105 from by decide, show (116 : Int32).toInt = 116 from by decide, show (119 : Int32).toInt = 119 from by decide]
  by_cases q1 : ps.toInt - fr.toInt = 4
  rotate_left
  · rw [if_neg q1, if_neg (fun z => q1 z.1)]
  rw [if_pos q1]
  by_cases g0 : (sp_look f n fr).toInt = 119
  rotate_left
  · rw [if_neg g0, if_neg (fun z => g0 z.2.1)]
  rw [if_pos g0]
  by_cases g1 : (sp_look f n (fr + 1)).toInt = 97
  rotate_left
  · rw [if_neg g1, if_neg (fun z => g1 z.2.2.1)]
  rw [if_pos g1]
  by_cases g2 : (sp_look f n (fr + 2)).toInt = 105
  rotate_left
  · rw [if_neg g2, if_neg (fun z => g2 z.2.2.2.1)]
  rw [if_pos g2]
  rw [if_neg (by decide)]
  by_cases g3 : (sp_look f n (fr + 3)).toInt = 116
  · rw [if_pos g3, if_pos ⟨q1, g0, g1, g2, g3⟩]
  · rw [if_neg g3, if_neg (fun z => g3 z.2.2.2.2)]
theorem is_within {f : Nat → Int32} {n ps fr : Int32} : M_m_is ps fr 6 119 105 116 104 n f = @ite _ (ps.toInt - fr.toInt = 6 ∧ (sp_look f n fr).toInt = 119 ∧ (sp_look f n (fr + 1)).toInt = 105 ∧ (sp_look f n (fr + 2)).toInt = 116 ∧ (sp_look f n (fr + 3)).toInt = 104) (Classical.propDecidable _) 1 0 := by
  simp only [K_m_is_13, K_m_is_17, K_m_is_16, K_m_is_15, K_m_is_14, K_m_is_12, K_m_is_11, K_m_is_10, K_m_is_9, K_m_is_8, K_m_is_7, K_m_is_6, K_m_is_5, K_m_is_4, K_m_is_3, K_m_is_2, K_m_is_1, M_m_is, t_look, show (6 : Int32).toInt = 6 from by decide, show (104 : Int32).toInt = 104 from by decide, show (105 : Int32).toInt = 105 from by decide, show (116 : Int32).toInt = 116 from by decide, show (119 : Int32).toInt = 119 from by decide]
  by_cases q1 : ps.toInt - fr.toInt = 6
  rotate_left
  · rw [if_neg q1, if_neg (fun z => q1 z.1)]
  rw [if_pos q1]
  by_cases g0 : (sp_look f n fr).toInt = 119
  rotate_left
  · rw [if_neg g0, if_neg (fun z => g0 z.2.1)]
  rw [if_pos g0]
  by_cases g1 : (sp_look f n (fr + 1)).toInt = 105
  rotate_left
  · rw [if_neg g1, if_neg (fun z => g1 z.2.2.1)]
  rw [if_pos g1]
  by_cases g2 : (sp_look f n (fr + 2)).toInt = 116
  rotate_left
  · rw [if_neg g2, if_neg (fun z => g2 z.2.2.2.1)]
  rw [if_pos g2]
  rw [if_neg (by decide)]
  by_cases g3 : (sp_look f n (fr + 3)).toInt = 104
  · rw [if_pos g3, if_pos ⟨q1, g0, g1, g2, g3⟩]
  · rw [if_neg g3, if_neg (fun z => g3 z.2.2.2.2)]
theorem is_key {f : Nat → Int32} {n ps fr : Int32} : M_m_is ps fr 3 107 101 121 0 n f = @ite _ (xV6 f n fr ps) (Classical.propDecidable _) 1 0 := by
  simp only [K_m_is_13, K_m_is_17, K_m_is_16, K_m_is_15, K_m_is_14, K_m_is_12, K_m_is_11, K_m_is_10, K_m_is_9, K_m_is_8, K_m_is_7, K_m_is_6, K_m_is_5, K_m_is_4, K_m_is_3, K_m_is_2, K_m_is_1, M_m_is, t_look, show (0 : Int32).toInt = 0 from by decide, show (3 : Int32).toInt = 3 from by decide, show (101 : Int32).toInt = 101 from by decide, show (107 : Int32).toInt = 107 from by decide, show (121 : Int32).toInt = 121 from by decide]
  by_cases q1 : ps.toInt - fr.toInt = 3
  rotate_left
  · rw [if_neg q1, if_neg (fun z => q1 z.1)]
  rw [if_pos q1]
  by_cases g0 : (sp_look f n fr).toInt = 107
  rotate_left
  · rw [if_neg g0, if_neg (fun z => g0 z.2.1)]
  rw [if_pos g0]
  by_cases g1 : (sp_look f n (fr + 1)).toInt = 101
  rotate_left
  · rw [if_neg g1, if_neg (fun z => g1 z.2.2.1)]
  rw [if_pos g1]
  by_cases g2 : (sp_look f n (fr + 2)).toInt = 121
  rotate_left
  · rw [if_neg g2, if_neg (fun z => g2 z.2.2.2)]
  rw [if_pos g2]
  rw [if_pos (by decide), if_pos ⟨q1, g0, g1, g2⟩]
theorem is_limit {f : Nat → Int32} {n ps fr : Int32} : M_m_is ps fr 5 108 105 109 105 n f = @ite _ (ps.toInt - fr.toInt = 5 ∧ (sp_look f n fr).toInt = 108 ∧ (sp_look f n (fr + 1)).toInt = 105 ∧ (sp_look f n (fr + 2)).toInt = 109 ∧ (sp_look f n (fr + 3)).toInt = 105) (Classical.propDecidable _) 1 0 := by
  simp only [K_m_is_13, K_m_is_17, K_m_is_16, K_m_is_15, K_m_is_14, K_m_is_12, K_m_is_11, K_m_is_10, K_m_is_9, K_m_is_8, K_m_is_7, K_m_is_6, K_m_is_5, K_m_is_4, K_m_is_3, K_m_is_2, K_m_is_1, M_m_is, t_look, show (5 : Int32).toInt = 5 from by decide, show (105 : Int32).toInt = 105 from by decide, show (108 : Int32).toInt = 108 from by decide, show (109 : Int32).toInt = 109 from by decide]
  by_cases q1 : ps.toInt - fr.toInt = 5
  rotate_left
  · rw [if_neg q1, if_neg (fun z => q1 z.1)]
  rw [if_pos q1]
  by_cases g0 : (sp_look f n fr).toInt = 108
  rotate_left
  · rw [if_neg g0, if_neg (fun z => g0 z.2.1)]
  rw [if_pos g0]
  by_cases g1 : (sp_look f n (fr + 1)).toInt = 105
  rotate_left
  · rw [if_neg g1, if_neg (fun z => g1 z.2.2.1)]
  rw [if_pos g1]
  by_cases g2 : (sp_look f n (fr + 2)).toInt = 109
  rotate_left
  · rw [if_neg g2, if_neg (fun z => g2 z.2.2.2.1)]
  rw [if_pos g2]
  rw [if_neg (by decide)]
  by_cases g3 : (sp_look f n (fr + 3)).toInt = 105
  · rw [if_pos g3, if_pos ⟨q1, g0, g1, g2, g3⟩]
  · rw [if_neg g3, if_neg (fun z => g3 z.2.2.2.2)]
theorem is_retry {f : Nat → Int32} {n ps fr : Int32} : M_m_is ps fr 5 114 101 116 114 n f = @ite _ (ps.toInt - fr.toInt = 5 ∧ (sp_look f n fr).toInt = 114 ∧ (sp_look f n (fr + 1)).toInt = 101 ∧ (sp_look f n (fr + 2)).toInt = 116 ∧ (sp_look f n (fr + 3)).toInt = 114) (Classical.propDecidable _) 1 0 := by
  simp only [K_m_is_13, K_m_is_17, K_m_is_16, K_m_is_15, K_m_is_14, K_m_is_12, K_m_is_11, K_m_is_10, K_m_is_9, K_m_is_8, K_m_is_7, K_m_is_6, K_m_is_5, K_m_is_4, K_m_is_3, K_m_is_2, K_m_is_1, M_m_is, t_look, show (5 : Int32).toInt = 5 from by decide, show (101 : Int32).toInt = 101 from by decide, show (114 : Int32).toInt = 114 from by decide, show (116 : Int32).toInt = 116 from by decide]
  by_cases q1 : ps.toInt - fr.toInt = 5
  rotate_left
  · rw [if_neg q1, if_neg (fun z => q1 z.1)]
  rw [if_pos q1]
  by_cases g0 : (sp_look f n fr).toInt = 114
  rotate_left
  · rw [if_neg g0, if_neg (fun z => g0 z.2.1)]
  rw [if_pos g0]
  by_cases g1 : (sp_look f n (fr + 1)).toInt = 101
  rotate_left
  · rw [if_neg g1, if_neg (fun z => g1 z.2.2.1)]
  rw [if_pos g1]
  by_cases g2 : (sp_look f n (fr + 2)).toInt = 116
  rotate_left
  · rw [if_neg g2, if_neg (fun z => g2 z.2.2.2.1)]
  rw [if_pos g2]
  rw [if_neg (by decide)]
  by_cases g3 : (sp_look f n (fr + 3)).toInt = 114
  · rw [if_pos g3, if_pos ⟨q1, g0, g1, g2, g3⟩]
  · rw [if_neg g3, if_neg (fun z => g3 z.2.2.2.2)]
theorem b_when {f : Nat → Int32} {n ps fr : Int32} : K_m_nameNow_22 ps fr n f = @ite _ (xV1 f n fr ps) (Classical.propDecidable _) 27 (@ite _ (xV6 f n fr ps) (Classical.propDecidable _) 28 (-4)) := by
  simp only [K_m_nameNow_48, K_m_nameNow_47, K_m_nameNow_4, K_m_nameNow_27, K_m_nameNow_28, K_m_nameNow_26, K_m_nameNow_24, K_m_nameNow_25, K_m_nameNow_23, K_m_nameNow_22, K_m_nameNow_29, K_m_nameNow_36, K_m_nameNow_35, K_m_nameNow_34, K_m_nameNow_33, K_m_nameNow_32, K_m_nameNow_31, K_m_nameNow_30, K_m_nameNow_21, K_m_nameNow_19, K_m_nameNow_20, K_m_nameNow_18, K_m_nameNow_16, K_m_nameNow_17, K_m_nameNow_15, K_m_nameNow_13, K_m_nameNow_14, K_m_nameNow_12, K_m_nameNow_37, K_m_nameNow_41, K_m_nameNow_40, K_m_nameNow_39, K_m_nameNow_38, K_m_nameNow_10, K_m_nameNow_42, K_m_nameNow_46, K_m_nameNow_45, K_m_nameNow_44, K_m_nameNow_43, K_m_nameNow_8, K_m_nameNow_6, K_m_nameNow_7, K_m_nameNow_5, K_m_nameNow_3, K_m_nameNow_2, K_m_nameNow_1, M_m_nameNow, is_when, is_key]
  by_cases h : xV1 f n fr ps
  · rw [if_pos h, if_neg (by decide), if_pos h]
  · rw [if_neg h, if_pos (by decide), if_neg h]
    by_cases h2 : xV6 f n fr ps
    · rw [if_pos h2, if_neg (by decide), if_pos h2]
    · rw [if_neg h2, if_pos (by decide), if_neg h2]
theorem b_fall {f : Nat → Int32} {n ps fr : Int32} : K_m_nameNow_11 ps fr n f = @ite _ (xV2 f n fr ps) (Classical.propDecidable _) 23 (@ite _ (xV3 f n fr ps) (Classical.propDecidable _) 24 (@ite _ (xV4 f n fr ps) (Classical.propDecidable _) 25 (@ite _ (xV5 f n fr ps) (Classical.propDecidable _) 26 (K_m_nameNow_22 ps fr n f)))) := by
  simp only [K_m_nameNow_48, K_m_nameNow_47, K_m_nameNow_4, K_m_nameNow_27, K_m_nameNow_28, K_m_nameNow_26, K_m_nameNow_24, K_m_nameNow_25, K_m_nameNow_23, K_m_nameNow_29, K_m_nameNow_36, K_m_nameNow_35, K_m_nameNow_34, K_m_nameNow_33, K_m_nameNow_32, K_m_nameNow_31, K_m_nameNow_30, K_m_nameNow_21, K_m_nameNow_19, K_m_nameNow_20, K_m_nameNow_18, K_m_nameNow_16, K_m_nameNow_17, K_m_nameNow_15, K_m_nameNow_13, K_m_nameNow_14, K_m_nameNow_12, K_m_nameNow_11, K_m_nameNow_37, K_m_nameNow_41, K_m_nameNow_40, K_m_nameNow_39, K_m_nameNow_38, K_m_nameNow_10, K_m_nameNow_42, K_m_nameNow_46, K_m_nameNow_45, K_m_nameNow_44, K_m_nameNow_43, K_m_nameNow_8, K_m_nameNow_6, K_m_nameNow_7, K_m_nameNow_5, K_m_nameNow_3, K_m_nameNow_2, K_m_nameNow_1, M_m_nameNow, is_fall, is_draw, is_wait, is_within, t_look, show (105 : Int32).toInt = 105 from by decide, show (110 : Int32).toInt = 110 from by decide]
  by_cases h : xV2 f n fr ps
  · rw [if_pos h, if_neg (by decide), if_pos h]
  · rw [if_neg h, if_pos (by decide), if_neg h]
    by_cases h2 : xV3 f n fr ps
    · rw [if_pos h2, if_neg (by decide), if_pos h2]
    · rw [if_neg h2, if_pos (by decide), if_neg h2]
      by_cases h3 : xV4 f n fr ps
      · rw [if_pos h3, if_neg (by decide), if_pos h3]
      · rw [if_neg h3, if_pos (by decide), if_neg h3]
        by_cases h4 : ps.toInt - fr.toInt = 6 ∧ (sp_look f n fr).toInt = 119 ∧ (sp_look f n (fr + 1)).toInt = 105 ∧ (sp_look f n (fr + 2)).toInt = 116 ∧ (sp_look f n (fr + 3)).toInt = 104
        · rw [if_pos h4, if_neg (by decide)]
          by_cases h5 : (sp_look f n (fr + 4)).toInt = 105
          · rw [if_pos h5]
            by_cases h6 : (sp_look f n (fr + 5)).toInt = 110
            · rw [if_pos h6, if_pos (show xV5 f n fr ps from ⟨h4.1, h4.2.1, h4.2.2.1, h4.2.2.2.1, h4.2.2.2.2, h5, h6⟩)]
            · rw [if_neg h6, if_neg (show ¬ xV5 f n fr ps from fun z => h6 z.2.2.2.2.2.2)]
          · rw [if_neg h5, if_neg (show ¬ xV5 f n fr ps from fun z => h5 z.2.2.2.2.2.1)]
        · rw [if_neg h4, if_pos (by decide), if_neg (show ¬ xV5 f n fr ps from fun z => h4 ⟨z.1, z.2.1, z.2.2.1, z.2.2.2.1, z.2.2.2.2.1⟩)]
theorem b_retry {f : Nat → Int32} {n ps fr : Int32} : K_m_nameNow_9 ps fr n f = @ite _ (xV8 f n fr ps) (Classical.propDecidable _) 22 (K_m_nameNow_11 ps fr n f) := by
  simp only [K_m_nameNow_48, K_m_nameNow_47, K_m_nameNow_4, K_m_nameNow_27, K_m_nameNow_28, K_m_nameNow_26, K_m_nameNow_24, K_m_nameNow_25, K_m_nameNow_23, K_m_nameNow_29, K_m_nameNow_36, K_m_nameNow_35, K_m_nameNow_34, K_m_nameNow_33, K_m_nameNow_32, K_m_nameNow_31, K_m_nameNow_30, K_m_nameNow_21, K_m_nameNow_19, K_m_nameNow_20, K_m_nameNow_18, K_m_nameNow_16, K_m_nameNow_17, K_m_nameNow_15, K_m_nameNow_13, K_m_nameNow_14, K_m_nameNow_12, K_m_nameNow_37, K_m_nameNow_41, K_m_nameNow_40, K_m_nameNow_39, K_m_nameNow_38, K_m_nameNow_10, K_m_nameNow_9, K_m_nameNow_42, K_m_nameNow_46, K_m_nameNow_45, K_m_nameNow_44, K_m_nameNow_43, K_m_nameNow_8, K_m_nameNow_6, K_m_nameNow_7, K_m_nameNow_5, K_m_nameNow_3, K_m_nameNow_2, K_m_nameNow_1, M_m_nameNow, is_retry, t_look, show (121 : Int32).toInt = 121 from by decide]
  by_cases h4 : ps.toInt - fr.toInt = 5 ∧ (sp_look f n fr).toInt = 114 ∧ (sp_look f n (fr + 1)).toInt = 101 ∧ (sp_look f n (fr + 2)).toInt = 116 ∧ (sp_look f n (fr + 3)).toInt = 114
  · rw [if_pos h4, if_neg (by decide)]
    by_cases h5 : (sp_look f n (fr + 4)).toInt = 121
    · rw [if_pos h5, if_pos (show xV8 f n fr ps from ⟨h4.1, h4.2.1, h4.2.2.1, h4.2.2.2.1, h4.2.2.2.2, h5⟩)]
    · rw [if_neg h5, if_neg (show ¬ xV8 f n fr ps from fun z => h5 z.2.2.2.2.2)]
  · rw [if_neg h4, if_pos (by decide), if_neg (show ¬ xV8 f n fr ps from fun z => h4 ⟨z.1, z.2.1, z.2.2.1, z.2.2.2.1, z.2.2.2.2.1⟩)]
theorem t_name {f : Nat → Int32} {n ps fr : Int32} : M_m_nameNow ps fr n f = if ps.toInt - fr.toInt = 1 then (if 0 ≤ (sp_look f n fr - 97).toInt ∧ (sp_look f n fr - 97).toInt ≤ 7 then sp_look f n fr - 97 else -4) else @ite _ (xV0 f n fr ps) (Classical.propDecidable _) 20 (@ite _ (xV7 f n fr ps) (Classical.propDecidable _) 21 (K_m_nameNow_9 ps fr n f)) := by
  simp only [K_m_nameNow_48, K_m_nameNow_47, K_m_nameNow_4, K_m_nameNow_27, K_m_nameNow_28, K_m_nameNow_26, K_m_nameNow_24, K_m_nameNow_25, K_m_nameNow_23, K_m_nameNow_29, K_m_nameNow_36, K_m_nameNow_35, K_m_nameNow_34, K_m_nameNow_33, K_m_nameNow_32, K_m_nameNow_31, K_m_nameNow_30, K_m_nameNow_21, K_m_nameNow_19, K_m_nameNow_20, K_m_nameNow_18, K_m_nameNow_16, K_m_nameNow_17, K_m_nameNow_15, K_m_nameNow_13, K_m_nameNow_14, K_m_nameNow_12, K_m_nameNow_37, K_m_nameNow_41, K_m_nameNow_40, K_m_nameNow_39, K_m_nameNow_38, K_m_nameNow_10, K_m_nameNow_42, K_m_nameNow_46, K_m_nameNow_45, K_m_nameNow_44, K_m_nameNow_43, K_m_nameNow_8, K_m_nameNow_6, K_m_nameNow_7, K_m_nameNow_5, K_m_nameNow_3, K_m_nameNow_2, K_m_nameNow_1, M_m_nameNow, is_rail, is_limit, t_look, show (116 : Int32).toInt = 116 from by decide]
  by_cases q1 : ps.toInt - fr.toInt = 1
  · rw [if_pos q1, if_pos q1]
  · rw [if_neg q1, if_neg q1]
    by_cases h : xV0 f n fr ps
    · rw [if_pos h, if_neg (by decide), if_pos h]
    · rw [if_neg h, if_pos (by decide), if_neg h]
      by_cases h4 : ps.toInt - fr.toInt = 5 ∧ (sp_look f n fr).toInt = 108 ∧ (sp_look f n (fr + 1)).toInt = 105 ∧ (sp_look f n (fr + 2)).toInt = 109 ∧ (sp_look f n (fr + 3)).toInt = 105
      · rw [if_pos h4, if_neg (by decide)]
        by_cases h5 : (sp_look f n (fr + 4)).toInt = 116
        · rw [if_pos h5, if_pos (show xV7 f n fr ps from ⟨h4.1, h4.2.1, h4.2.2.1, h4.2.2.2.1, h4.2.2.2.2, h5⟩)]
        · rw [if_neg h5, if_neg (show ¬ xV7 f n fr ps from fun z => h5 z.2.2.2.2.2)]
      · rw [if_neg h4, if_pos (by decide), if_neg (show ¬ xV7 f n fr ps from fun z => h4 ⟨z.1, z.2.1, z.2.2.1, z.2.2.2.1, z.2.2.2.2.1⟩)]
theorem vw0 {f : Nat → Int32} {n ps fr : Int32} (h0 : 0 ≤ fr.toInt) (h1 : ps.toInt ≤ n.toInt) (hn : n.toInt ≤ 400) : xV0 f n fr ps ↔ xW0 f fr ps := by
  unfold xV0 xW0
  by_cases q : ps.toInt - fr.toInt = 4
  · have a1 : (fr + 1).toInt = fr.toInt + 1 := xadd rfl (by decide) (by omega) (by omega)
    have a2 : (fr + 2).toInt = fr.toInt + 2 := xadd rfl (by decide) (by omega) (by omega)
    have a3 : (fr + 3).toInt = fr.toInt + 3 := xadd rfl (by decide) (by omega) (by omega)
    rw [sp_look_in (x := fr) (by omega), sp_look_in (x := fr + 1) (by omega), sp_look_in (x := fr + 2) (by omega), sp_look_in (x := fr + 3) (by omega)]
  · exact ⟨fun z => absurd z.1 q, fun z => absurd z.1 q⟩
theorem vw1 {f : Nat → Int32} {n ps fr : Int32} (h0 : 0 ≤ fr.toInt) (h1 : ps.toInt ≤ n.toInt) (hn : n.toInt ≤ 400) : xV1 f n fr ps ↔ xW1 f fr ps := by
  unfold xV1 xW1
  by_cases q : ps.toInt - fr.toInt = 4
  · have a1 : (fr + 1).toInt = fr.toInt + 1 := xadd rfl (by decide) (by omega) (by omega)
    have a2 : (fr + 2).toInt = fr.toInt + 2 := xadd rfl (by decide) (by omega) (by omega)
    have a3 : (fr + 3).toInt = fr.toInt + 3 := xadd rfl (by decide) (by omega) (by omega)
    rw [sp_look_in (x := fr) (by omega), sp_look_in (x := fr + 1) (by omega), sp_look_in (x := fr + 2) (by omega), sp_look_in (x := fr + 3) (by omega)]
  · exact ⟨fun z => absurd z.1 q, fun z => absurd z.1 q⟩
theorem vw2 {f : Nat → Int32} {n ps fr : Int32} (h0 : 0 ≤ fr.toInt) (h1 : ps.toInt ≤ n.toInt) (hn : n.toInt ≤ 400) : xV2 f n fr ps ↔ xW2 f fr ps := by
  unfold xV2 xW2
  by_cases q : ps.toInt - fr.toInt = 4
  · have a1 : (fr + 1).toInt = fr.toInt + 1 := xadd rfl (by decide) (by omega) (by omega)
    have a2 : (fr + 2).toInt = fr.toInt + 2 := xadd rfl (by decide) (by omega) (by omega)
    have a3 : (fr + 3).toInt = fr.toInt + 3 := xadd rfl (by decide) (by omega) (by omega)
    rw [sp_look_in (x := fr) (by omega), sp_look_in (x := fr + 1) (by omega), sp_look_in (x := fr + 2) (by omega), sp_look_in (x := fr + 3) (by omega)]
  · exact ⟨fun z => absurd z.1 q, fun z => absurd z.1 q⟩
theorem vw3 {f : Nat → Int32} {n ps fr : Int32} (h0 : 0 ≤ fr.toInt) (h1 : ps.toInt ≤ n.toInt) (hn : n.toInt ≤ 400) : xV3 f n fr ps ↔ xW3 f fr ps := by
  unfold xV3 xW3
  by_cases q : ps.toInt - fr.toInt = 4
  · have a1 : (fr + 1).toInt = fr.toInt + 1 := xadd rfl (by decide) (by omega) (by omega)
    have a2 : (fr + 2).toInt = fr.toInt + 2 := xadd rfl (by decide) (by omega) (by omega)
    have a3 : (fr + 3).toInt = fr.toInt + 3 := xadd rfl (by decide) (by omega) (by omega)
    rw [sp_look_in (x := fr) (by omega), sp_look_in (x := fr + 1) (by omega), sp_look_in (x := fr + 2) (by omega), sp_look_in (x := fr + 3) (by omega)]
  · exact ⟨fun z => absurd z.1 q, fun z => absurd z.1 q⟩
theorem vw4 {f : Nat → Int32} {n ps fr : Int32} (h0 : 0 ≤ fr.toInt) (h1 : ps.toInt ≤ n.toInt) (hn : n.toInt ≤ 400) : xV4 f n fr ps ↔ xW4 f fr ps := by
  unfold xV4 xW4
  by_cases q : ps.toInt - fr.toInt = 4
  · have a1 : (fr + 1).toInt = fr.toInt + 1 := xadd rfl (by decide) (by omega) (by omega)
    have a2 : (fr + 2).toInt = fr.toInt + 2 := xadd rfl (by decide) (by omega) (by omega)
    have a3 : (fr + 3).toInt = fr.toInt + 3 := xadd rfl (by decide) (by omega) (by omega)
    rw [sp_look_in (x := fr) (by omega), sp_look_in (x := fr + 1) (by omega), sp_look_in (x := fr + 2) (by omega), sp_look_in (x := fr + 3) (by omega)]
  · exact ⟨fun z => absurd z.1 q, fun z => absurd z.1 q⟩
theorem vw5 {f : Nat → Int32} {n ps fr : Int32} (h0 : 0 ≤ fr.toInt) (h1 : ps.toInt ≤ n.toInt) (hn : n.toInt ≤ 400) : xV5 f n fr ps ↔ xW5 f fr ps := by
  unfold xV5 xW5
  by_cases q : ps.toInt - fr.toInt = 6
  · have a1 : (fr + 1).toInt = fr.toInt + 1 := xadd rfl (by decide) (by omega) (by omega)
    have a2 : (fr + 2).toInt = fr.toInt + 2 := xadd rfl (by decide) (by omega) (by omega)
    have a3 : (fr + 3).toInt = fr.toInt + 3 := xadd rfl (by decide) (by omega) (by omega)
    have a4 : (fr + 4).toInt = fr.toInt + 4 := xadd rfl (by decide) (by omega) (by omega)
    have a5 : (fr + 5).toInt = fr.toInt + 5 := xadd rfl (by decide) (by omega) (by omega)
    rw [sp_look_in (x := fr) (by omega), sp_look_in (x := fr + 1) (by omega), sp_look_in (x := fr + 2) (by omega), sp_look_in (x := fr + 3) (by omega), sp_look_in (x := fr + 4) (by omega), sp_look_in (x := fr + 5) (by omega)]
  · exact ⟨fun z => absurd z.1 q, fun z => absurd z.1 q⟩
theorem vw6 {f : Nat → Int32} {n ps fr : Int32} (h0 : 0 ≤ fr.toInt) (h1 : ps.toInt ≤ n.toInt) (hn : n.toInt ≤ 400) : xV6 f n fr ps ↔ xW6 f fr ps := by
  unfold xV6 xW6
  by_cases q : ps.toInt - fr.toInt = 3
  · have a1 : (fr + 1).toInt = fr.toInt + 1 := xadd rfl (by decide) (by omega) (by omega)
    have a2 : (fr + 2).toInt = fr.toInt + 2 := xadd rfl (by decide) (by omega) (by omega)
    rw [sp_look_in (x := fr) (by omega), sp_look_in (x := fr + 1) (by omega), sp_look_in (x := fr + 2) (by omega)]
  · exact ⟨fun z => absurd z.1 q, fun z => absurd z.1 q⟩
theorem vw7 {f : Nat → Int32} {n ps fr : Int32} (h0 : 0 ≤ fr.toInt) (h1 : ps.toInt ≤ n.toInt) (hn : n.toInt ≤ 400) : xV7 f n fr ps ↔ xW7 f fr ps := by
  unfold xV7 xW7
  by_cases q : ps.toInt - fr.toInt = 5
  · have a1 : (fr + 1).toInt = fr.toInt + 1 := xadd rfl (by decide) (by omega) (by omega)
    have a2 : (fr + 2).toInt = fr.toInt + 2 := xadd rfl (by decide) (by omega) (by omega)
    have a3 : (fr + 3).toInt = fr.toInt + 3 := xadd rfl (by decide) (by omega) (by omega)
    have a4 : (fr + 4).toInt = fr.toInt + 4 := xadd rfl (by decide) (by omega) (by omega)
    rw [sp_look_in (x := fr) (by omega), sp_look_in (x := fr + 1) (by omega), sp_look_in (x := fr + 2) (by omega), sp_look_in (x := fr + 3) (by omega), sp_look_in (x := fr + 4) (by omega)]
  · exact ⟨fun z => absurd z.1 q, fun z => absurd z.1 q⟩
theorem vw8 {f : Nat → Int32} {n ps fr : Int32} (h0 : 0 ≤ fr.toInt) (h1 : ps.toInt ≤ n.toInt) (hn : n.toInt ≤ 400) : xV8 f n fr ps ↔ xW8 f fr ps := by
  unfold xV8 xW8
  by_cases q : ps.toInt - fr.toInt = 5
  · have a1 : (fr + 1).toInt = fr.toInt + 1 := xadd rfl (by decide) (by omega) (by omega)
    have a2 : (fr + 2).toInt = fr.toInt + 2 := xadd rfl (by decide) (by omega) (by omega)
    have a3 : (fr + 3).toInt = fr.toInt + 3 := xadd rfl (by decide) (by omega) (by omega)
    have a4 : (fr + 4).toInt = fr.toInt + 4 := xadd rfl (by decide) (by omega) (by omega)
    rw [sp_look_in (x := fr) (by omega), sp_look_in (x := fr + 1) (by omega), sp_look_in (x := fr + 2) (by omega), sp_look_in (x := fr + 3) (by omega), sp_look_in (x := fr + 4) (by omega)]
  · exact ⟨fun z => absurd z.1 q, fun z => absurd z.1 q⟩
