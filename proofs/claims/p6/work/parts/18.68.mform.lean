abbrev xF : Type := Int32 × Int32 × Int32 × Int32 × Int32 × Int32 × Int32 × Int32 × Int32 × Int32 × (Nat → Int32) × (Nat → Int32) × (Nat → Int32) × (Nat → Int32)
def xGo (n : Int32) (f : Nat → Int32) (k3 : Nat) (t : xF) : xF := K_m_readFormula_L3 n f k3 t.1 t.2.1 t.2.2.1 t.2.2.2.1 t.2.2.2.2.1 t.2.2.2.2.2.1 t.2.2.2.2.2.2.1 t.2.2.2.2.2.2.2.1 t.2.2.2.2.2.2.2.2.1 t.2.2.2.2.2.2.2.2.2.1 t.2.2.2.2.2.2.2.2.2.2.1 t.2.2.2.2.2.2.2.2.2.2.2.1 t.2.2.2.2.2.2.2.2.2.2.2.2.1 t.2.2.2.2.2.2.2.2.2.2.2.2.2
def R1 (n : Int32) (f : Nat → Int32) (k1 k3 : Nat) (us nc : Int32) (c ur ua : Nat → Int32) (nw dp ps mr so mv mf mw : Int32) (w : Nat → Int32) : xF := xGo n f k3 (K_m_readUnit_L22 n f us nc c ur ua k1 nw dp ps mr so mv mf mw w)
def R2 (n : Int32) (f : Nat → Int32) (k2 k3 : Nat) (us nc : Int32) (c ur ua : Nat → Int32) (nw dp ps mr so mv mf mw : Int32) (w : Nat → Int32) : xF := xGo n f k3 (K_m_readUnit_L3 n f w us ur ua k2 nc nw dp ps mr so mv mf mw c)
section
variable {f c w ur ua : Nat → Int32} {n us nc nw dp ps mr so mv mf mw : Int32}
theorem R1_left (q : mf.toInt = 0) (s : so.toInt = 3) (d : dp.toInt < 6) (k1 k3 : Nat) : R1 n f (k1 + 1) k3 us nc c ur ua nw dp ps mr so mv mf mw w = R1 n f k1 k3 us nc c ur ua (nw + 1) (dp + 1) (M_m_next mf mv mw n f ps mr so).1 (M_m_next mf mv mw n f ps mr so).2.1 (M_m_next mf mv mw n f ps mr so).2.2.1 (M_m_next mf mv mw n f ps mr so).2.2.2.1 (M_m_next mf mv mw n f ps mr so).2.2.2.2.1 (M_m_next mf mv mw n f ps mr so).2.2.2.2.2 (upd w nw.toNatClampNeg 12) := by
  unfold R1
  rw [show K_m_readUnit_L22 n f us nc c ur ua (k1 + 1) nw dp ps mr so mv mf mw w = _ from by
    simp only [K_m_readUnit_L22, K_m_readUnit_41, K_m_readUnit_40, K_m_readUnit_39, K_m_readUnit_37, K_m_readUnit_44, K_m_readUnit_43, K_m_readUnit_42, K_m_readUnit_38, K_m_readUnit_26, K_m_readUnit_15, K_m_readUnit_14, K_m_readUnit_12, K_m_readUnit_13, K_m_readUnit_11, K_m_readUnit_10, K_m_readUnit_8, K_m_readUnit_21, K_m_readUnit_20, K_m_readUnit_18, K_m_readUnit_19, K_m_readUnit_17, K_m_readUnit_16, K_m_readUnit_9, K_m_readUnit_7, K_m_readUnit_6, K_m_readUnit_5, K_m_readUnit_4, K_m_readUnit_3, K_m_readUnit_36, K_m_readUnit_35, K_m_readUnit_34, K_m_readUnit_33, K_m_readUnit_28, K_m_readUnit_32, K_m_readUnit_31, K_m_readUnit_30, K_m_readUnit_29, K_m_readUnit_27, K_m_readUnit_25, K_m_readUnit_24, K_m_readUnit_23, K_m_readUnit_22, K_m_readUnit_1, M_m_readUnit, K_m_holdsBack_1, M_m_holdsBack]
    rw [if_pos q, if_pos s, if_neg (by omega), t_wants1]]
theorem R1_deep (q : mf.toInt = 0) (s : so.toInt = 3) (d : 6 ≤ dp.toInt) (k1 k3 : Nat) : R1 n f (k1 + 1) k3 us nc c ur ua nw dp ps mr so mv mf mw w = R1 n f k1 k3 us nc c ur ua (nw + 1) (dp + 1) ps mr so mv 5 mr (upd w nw.toNatClampNeg 12) := by
  unfold R1
  rw [show K_m_readUnit_L22 n f us nc c ur ua (k1 + 1) nw dp ps mr so mv mf mw w = _ from by
    simp only [K_m_readUnit_L22, K_m_readUnit_41, K_m_readUnit_40, K_m_readUnit_39, K_m_readUnit_37, K_m_readUnit_44, K_m_readUnit_43, K_m_readUnit_42, K_m_readUnit_38, K_m_readUnit_26, K_m_readUnit_15, K_m_readUnit_14, K_m_readUnit_12, K_m_readUnit_13, K_m_readUnit_11, K_m_readUnit_10, K_m_readUnit_8, K_m_readUnit_21, K_m_readUnit_20, K_m_readUnit_18, K_m_readUnit_19, K_m_readUnit_17, K_m_readUnit_16, K_m_readUnit_9, K_m_readUnit_7, K_m_readUnit_6, K_m_readUnit_5, K_m_readUnit_4, K_m_readUnit_3, K_m_readUnit_36, K_m_readUnit_35, K_m_readUnit_34, K_m_readUnit_33, K_m_readUnit_28, K_m_readUnit_32, K_m_readUnit_31, K_m_readUnit_30, K_m_readUnit_29, K_m_readUnit_27, K_m_readUnit_25, K_m_readUnit_24, K_m_readUnit_23, K_m_readUnit_22, K_m_readUnit_1, M_m_readUnit, K_m_holdsBack_1, M_m_holdsBack]
    rw [if_pos q, if_pos s, if_pos d, t_wantsF q, t_next_id (show 0 < (5 : Int32).toInt from by decide)]]
theorem R1_name (q : mf.toInt = 0) (s : so.toInt = 1) (k1 k3 : Nat) : R1 n f (k1 + 1) k3 us nc c ur ua nw dp ps mr so mv mf mw w = (fun t => R2 n f 100000 k3 t.1 t.2.1 t.2.2.2.2.2.2.2.2.1 t.2.2.2.2.2.2.2.2.2.1 t.2.2.2.2.2.2.2.2.2.2 nw dp t.2.2.1 t.2.2.2.1 t.2.2.2.2.1 t.2.2.2.2.2.1 t.2.2.2.2.2.2.1 t.2.2.2.2.2.2.2.1 w) (M_m_readLetter us nc c ur ua mr mv n f ps so mf mw) := by
  unfold R1 R2
  rw [show K_m_readUnit_L22 n f us nc c ur ua (k1 + 1) nw dp ps mr so mv mf mw w = _ from by
    simp only [K_m_readUnit_L22, K_m_readUnit_41, K_m_readUnit_40, K_m_readUnit_39, K_m_readUnit_37, K_m_readUnit_44, K_m_readUnit_43, K_m_readUnit_42, K_m_readUnit_38, K_m_readUnit_26, K_m_readUnit_15, K_m_readUnit_14, K_m_readUnit_12, K_m_readUnit_13, K_m_readUnit_11, K_m_readUnit_10, K_m_readUnit_8, K_m_readUnit_21, K_m_readUnit_20, K_m_readUnit_18, K_m_readUnit_19, K_m_readUnit_17, K_m_readUnit_16, K_m_readUnit_9, K_m_readUnit_7, K_m_readUnit_6, K_m_readUnit_5, K_m_readUnit_4, K_m_readUnit_3, K_m_readUnit_36, K_m_readUnit_35, K_m_readUnit_34, K_m_readUnit_33, K_m_readUnit_28, K_m_readUnit_32, K_m_readUnit_31, K_m_readUnit_30, K_m_readUnit_29, K_m_readUnit_27, K_m_readUnit_25, K_m_readUnit_24, K_m_readUnit_23, K_m_readUnit_22, K_m_readUnit_1, M_m_readUnit, K_m_holdsBack_1, M_m_holdsBack]
    rw [if_pos q, if_neg (by omega), if_pos s, t_wants1, if_pos q]]
  rfl
theorem R1_other (q : mf.toInt = 0) (s : so.toInt ≠ 3) (s1 : so.toInt ≠ 1) (k1 k3 : Nat) : R1 n f (k1 + 1) k3 us nc c ur ua nw dp ps mr so mv mf mw w = R2 n f 100000 k3 us nc c ur ua nw dp ps mr so mv 2 mr w := by
  unfold R1 R2
  rw [show K_m_readUnit_L22 n f us nc c ur ua (k1 + 1) nw dp ps mr so mv mf mw w = _ from by
    simp only [K_m_readUnit_L22, K_m_readUnit_41, K_m_readUnit_40, K_m_readUnit_39, K_m_readUnit_37, K_m_readUnit_44, K_m_readUnit_43, K_m_readUnit_42, K_m_readUnit_38, K_m_readUnit_26, K_m_readUnit_15, K_m_readUnit_14, K_m_readUnit_12, K_m_readUnit_13, K_m_readUnit_11, K_m_readUnit_10, K_m_readUnit_8, K_m_readUnit_21, K_m_readUnit_20, K_m_readUnit_18, K_m_readUnit_19, K_m_readUnit_17, K_m_readUnit_16, K_m_readUnit_9, K_m_readUnit_7, K_m_readUnit_6, K_m_readUnit_5, K_m_readUnit_4, K_m_readUnit_3, K_m_readUnit_36, K_m_readUnit_35, K_m_readUnit_34, K_m_readUnit_33, K_m_readUnit_28, K_m_readUnit_32, K_m_readUnit_31, K_m_readUnit_30, K_m_readUnit_29, K_m_readUnit_27, K_m_readUnit_25, K_m_readUnit_24, K_m_readUnit_23, K_m_readUnit_22, K_m_readUnit_1, M_m_readUnit, K_m_holdsBack_1, M_m_holdsBack]
    rw [if_pos q, if_neg s, if_neg s1, t_wantsF q, if_neg (show ¬ (2 : Int32).toInt = 0 from by decide)]]
  rfl
theorem R1_fault (q : mf.toInt ≠ 0) (k1 k3 : Nat) : R1 n f (k1 + 1) k3 us nc c ur ua nw dp ps mr so mv mf mw w = R2 n f 100000 k3 us nc c ur ua nw dp ps mr so mv mf mw w := by
  unfold R1 R2
  rw [show K_m_readUnit_L22 n f us nc c ur ua (k1 + 1) nw dp ps mr so mv mf mw w = _ from by
    simp only [K_m_readUnit_L22, K_m_readUnit_41, K_m_readUnit_40, K_m_readUnit_39, K_m_readUnit_37, K_m_readUnit_44, K_m_readUnit_43, K_m_readUnit_42, K_m_readUnit_38, K_m_readUnit_26, K_m_readUnit_15, K_m_readUnit_14, K_m_readUnit_12, K_m_readUnit_13, K_m_readUnit_11, K_m_readUnit_10, K_m_readUnit_8, K_m_readUnit_21, K_m_readUnit_20, K_m_readUnit_18, K_m_readUnit_19, K_m_readUnit_17, K_m_readUnit_16, K_m_readUnit_9, K_m_readUnit_7, K_m_readUnit_6, K_m_readUnit_5, K_m_readUnit_4, K_m_readUnit_3, K_m_readUnit_36, K_m_readUnit_35, K_m_readUnit_34, K_m_readUnit_33, K_m_readUnit_28, K_m_readUnit_32, K_m_readUnit_31, K_m_readUnit_30, K_m_readUnit_29, K_m_readUnit_27, K_m_readUnit_25, K_m_readUnit_24, K_m_readUnit_23, K_m_readUnit_22, K_m_readUnit_1, M_m_readUnit, K_m_holdsBack_1, M_m_holdsBack]
    rw [if_neg q]]
  rfl
theorem R2_out (h : mf.toInt ≠ 0 ∨ so.toInt ≠ 4) (k2 : Nat) : K_m_readUnit_L3 n f w us ur ua (k2 + 1) nc nw dp ps mr so mv mf mw c = (us, nc, nw, dp, ps, mr, so, mv, mf, mw, c, w, ur, ua) := by
  simp only [K_m_readUnit_L3, K_m_readUnit_41, K_m_readUnit_40, K_m_readUnit_39, K_m_readUnit_37, K_m_readUnit_44, K_m_readUnit_43, K_m_readUnit_42, K_m_readUnit_38, K_m_readUnit_26, K_m_readUnit_15, K_m_readUnit_14, K_m_readUnit_12, K_m_readUnit_13, K_m_readUnit_11, K_m_readUnit_10, K_m_readUnit_8, K_m_readUnit_21, K_m_readUnit_20, K_m_readUnit_18, K_m_readUnit_19, K_m_readUnit_17, K_m_readUnit_16, K_m_readUnit_9, K_m_readUnit_7, K_m_readUnit_6, K_m_readUnit_5, K_m_readUnit_4, K_m_readUnit_3, K_m_readUnit_36, K_m_readUnit_35, K_m_readUnit_34, K_m_readUnit_33, K_m_readUnit_28, K_m_readUnit_32, K_m_readUnit_31, K_m_readUnit_30, K_m_readUnit_29, K_m_readUnit_27, K_m_readUnit_25, K_m_readUnit_24, K_m_readUnit_23, K_m_readUnit_22, K_m_readUnit_1, M_m_readUnit]
  by_cases q : mf.toInt = 0
  · have s : ¬ so.toInt = 4 := by
      rcases h with h | h
      · exact absurd q h
      · exact h
    rw [if_pos q, if_neg s]
  · rw [if_neg q]
theorem R2_fault (q : mf.toInt ≠ 0) (k2 k3 : Nat) : R2 n f (k2 + 1) (k3 + 1) us nc c ur ua nw dp ps mr so mv mf mw w = (us, nc, nw, dp, ps, mr, so, mv, mf, mw, c, w, ur, ua) := by
  unfold R2
  rw [R2_out (Or.inl q)]
  unfold xGo
  simp only [K_m_readFormula_L3, K_m_readFormula_8, K_m_readFormula_7, K_m_readFormula_16, K_m_readFormula_15, K_m_readFormula_14, K_m_readFormula_10, K_m_readFormula_13, K_m_readFormula_12, K_m_readFormula_11, K_m_readFormula_9, K_m_readFormula_6, K_m_readFormula_17, K_m_readFormula_20, K_m_readFormula_30, K_m_readFormula_29, K_m_readFormula_28, K_m_readFormula_27, K_m_readFormula_22, K_m_readFormula_26, K_m_readFormula_25, K_m_readFormula_24, K_m_readFormula_23, K_m_readFormula_21, K_m_readFormula_19, K_m_readFormula_18, K_m_readFormula_5, K_m_readFormula_4, K_m_readFormula_3, K_m_readFormula_2, K_m_readFormula_1, M_m_readFormula]
  rw [if_neg q]
theorem R2_right (q : mf.toInt = 0) (s : so.toInt = 4) (d : 0 < dp.toInt) (k2 k3 : Nat) : R2 n f (k2 + 1) k3 us nc c ur ua nw dp ps mr so mv mf mw w = (fun z => R2 n f k2 k3 us z.1 z.2.2 ur ua (z.2.1 - 1) (dp - 1) (M_m_next mf mv mw n f ps mr so).1 (M_m_next mf mv mw n f ps mr so).2.1 (M_m_next mf mv mw n f ps mr so).2.2.1 (M_m_next mf mv mw n f ps mr so).2.2.2.1 (M_m_next mf mv mw n f ps mr so).2.2.2.2.1 (M_m_next mf mv mw n f ps mr so).2.2.2.2.2 w) (M_m_done w 11 nc nw c) := by
  unfold R2
  rw [show K_m_readUnit_L3 n f w us ur ua (k2 + 1) nc nw dp ps mr so mv mf mw c = _ from by
    simp only [K_m_readUnit_L3, K_m_readUnit_41, K_m_readUnit_40, K_m_readUnit_39, K_m_readUnit_37, K_m_readUnit_44, K_m_readUnit_43, K_m_readUnit_42, K_m_readUnit_38, K_m_readUnit_26, K_m_readUnit_15, K_m_readUnit_14, K_m_readUnit_12, K_m_readUnit_13, K_m_readUnit_11, K_m_readUnit_10, K_m_readUnit_8, K_m_readUnit_21, K_m_readUnit_20, K_m_readUnit_18, K_m_readUnit_19, K_m_readUnit_17, K_m_readUnit_16, K_m_readUnit_9, K_m_readUnit_7, K_m_readUnit_6, K_m_readUnit_5, K_m_readUnit_4, K_m_readUnit_3, K_m_readUnit_36, K_m_readUnit_35, K_m_readUnit_34, K_m_readUnit_33, K_m_readUnit_28, K_m_readUnit_32, K_m_readUnit_31, K_m_readUnit_30, K_m_readUnit_29, K_m_readUnit_27, K_m_readUnit_25, K_m_readUnit_24, K_m_readUnit_23, K_m_readUnit_22, K_m_readUnit_1, M_m_readUnit]
    rw [if_pos q, if_pos s, if_neg (by omega), t_wants1, if_pos q]]
theorem R2_right0 (q : mf.toInt = 0) (s : so.toInt = 4) (d : dp.toInt ≤ 0) (k2 k3 : Nat) : R2 n f (k2 + 1) k3 us nc c ur ua nw dp ps mr so mv mf mw w = R2 n f k2 k3 us nc c ur ua nw dp ps mr so mv 2 mr w := by
  unfold R2
  rw [show K_m_readUnit_L3 n f w us ur ua (k2 + 1) nc nw dp ps mr so mv mf mw c = _ from by
    simp only [K_m_readUnit_L3, K_m_readUnit_41, K_m_readUnit_40, K_m_readUnit_39, K_m_readUnit_37, K_m_readUnit_44, K_m_readUnit_43, K_m_readUnit_42, K_m_readUnit_38, K_m_readUnit_26, K_m_readUnit_15, K_m_readUnit_14, K_m_readUnit_12, K_m_readUnit_13, K_m_readUnit_11, K_m_readUnit_10, K_m_readUnit_8, K_m_readUnit_21, K_m_readUnit_20, K_m_readUnit_18, K_m_readUnit_19, K_m_readUnit_17, K_m_readUnit_16, K_m_readUnit_9, K_m_readUnit_7, K_m_readUnit_6, K_m_readUnit_5, K_m_readUnit_4, K_m_readUnit_3, K_m_readUnit_36, K_m_readUnit_35, K_m_readUnit_34, K_m_readUnit_33, K_m_readUnit_28, K_m_readUnit_32, K_m_readUnit_31, K_m_readUnit_30, K_m_readUnit_29, K_m_readUnit_27, K_m_readUnit_25, K_m_readUnit_24, K_m_readUnit_23, K_m_readUnit_22, K_m_readUnit_1, M_m_readUnit]
    rw [if_pos q, if_pos s, if_pos d, t_wantsF q, if_neg (show ¬ (2 : Int32).toInt = 0 from by decide), t_next_id (show 0 < (2 : Int32).toInt from by decide)]]
theorem R2_and (q : mf.toInt = 0) (s : so.toInt = 5) (k2 k3 : Nat) : R2 n f (k2 + 1) (k3 + 1) us nc c ur ua nw dp ps mr so mv mf mw w = (fun z => R1 n f 100000 k3 us z.1 z.2.2 ur ua (z.2.1 + 1) dp (M_m_next mf mv mw n f ps mr so).1 (M_m_next mf mv mw n f ps mr so).2.1 (M_m_next mf mv mw n f ps mr so).2.2.1 (M_m_next mf mv mw n f ps mr so).2.2.2.1 (M_m_next mf mv mw n f ps mr so).2.2.2.2.1 (M_m_next mf mv mw n f ps mr so).2.2.2.2.2 (upd w z.2.1.toNatClampNeg 10)) (M_m_done w 10 nc nw c) := by
  unfold R2
  rw [R2_out (Or.inr (by omega))]
  unfold xGo R1
  simp only [K_m_readFormula_L3, K_m_readFormula_8, K_m_readFormula_7, K_m_readFormula_16, K_m_readFormula_15, K_m_readFormula_14, K_m_readFormula_10, K_m_readFormula_13, K_m_readFormula_12, K_m_readFormula_11, K_m_readFormula_9, K_m_readFormula_6, K_m_readFormula_17, K_m_readFormula_20, K_m_readFormula_30, K_m_readFormula_29, K_m_readFormula_28, K_m_readFormula_27, K_m_readFormula_22, K_m_readFormula_26, K_m_readFormula_25, K_m_readFormula_24, K_m_readFormula_23, K_m_readFormula_21, K_m_readFormula_19, K_m_readFormula_18, K_m_readFormula_5, K_m_readFormula_4, K_m_readFormula_3, K_m_readFormula_2, K_m_readFormula_1, M_m_readFormula, K_m_holdsBack_1, M_m_holdsBack]
  rw [if_pos q]
  simp only [if_pos s]
  rfl
theorem R2_or (q : mf.toInt = 0) (s : so.toInt = 6) (k2 k3 : Nat) : R2 n f (k2 + 1) (k3 + 1) us nc c ur ua nw dp ps mr so mv mf mw w = (fun z => R1 n f 100000 k3 us z.1 z.2.2 ur ua (z.2.1 + 1) dp (M_m_next mf mv mw n f ps mr so).1 (M_m_next mf mv mw n f ps mr so).2.1 (M_m_next mf mv mw n f ps mr so).2.2.1 (M_m_next mf mv mw n f ps mr so).2.2.2.1 (M_m_next mf mv mw n f ps mr so).2.2.2.2.1 (M_m_next mf mv mw n f ps mr so).2.2.2.2.2 (upd w z.2.1.toNatClampNeg 11)) (M_m_done w 11 nc nw c) := by
  unfold R2
  rw [R2_out (Or.inr (by omega))]
  unfold xGo R1
  simp only [K_m_readFormula_L3, K_m_readFormula_8, K_m_readFormula_7, K_m_readFormula_16, K_m_readFormula_15, K_m_readFormula_14, K_m_readFormula_10, K_m_readFormula_13, K_m_readFormula_12, K_m_readFormula_11, K_m_readFormula_9, K_m_readFormula_6, K_m_readFormula_17, K_m_readFormula_20, K_m_readFormula_30, K_m_readFormula_29, K_m_readFormula_28, K_m_readFormula_27, K_m_readFormula_22, K_m_readFormula_26, K_m_readFormula_25, K_m_readFormula_24, K_m_readFormula_23, K_m_readFormula_21, K_m_readFormula_19, K_m_readFormula_18, K_m_readFormula_5, K_m_readFormula_4, K_m_readFormula_3, K_m_readFormula_2, K_m_readFormula_1, M_m_readFormula, K_m_holdsBack_1, M_m_holdsBack]
  rw [if_pos q]
  simp only [if_neg (by omega : ¬ so.toInt = 5), if_pos s]
  rfl
theorem R2_end (q : mf.toInt = 0) (s4 : so.toInt ≠ 4) (s5 : so.toInt ≠ 5) (s6 : so.toInt ≠ 6) (k2 k3 : Nat) : R2 n f (k2 + 1) (k3 + 1) us nc c ur ua nw dp ps mr so mv mf mw w = if dp.toInt = 0 then (fun z => (us, z.1, z.2.1, dp, ps, mr, so, mv, mf, mw, z.2.2, w, ur, ua)) (M_m_done w 11 nc nw c) else (us, nc, nw, dp, ps, mr, so, mv, 2, mr, c, w, ur, ua) := by
  unfold R2
  rw [R2_out (Or.inr s4)]
  unfold xGo
  simp only [K_m_readFormula_L3, K_m_readFormula_8, K_m_readFormula_7, K_m_readFormula_16, K_m_readFormula_15, K_m_readFormula_14, K_m_readFormula_10, K_m_readFormula_13, K_m_readFormula_12, K_m_readFormula_11, K_m_readFormula_9, K_m_readFormula_6, K_m_readFormula_17, K_m_readFormula_20, K_m_readFormula_30, K_m_readFormula_29, K_m_readFormula_28, K_m_readFormula_27, K_m_readFormula_22, K_m_readFormula_26, K_m_readFormula_25, K_m_readFormula_24, K_m_readFormula_23, K_m_readFormula_21, K_m_readFormula_19, K_m_readFormula_18, K_m_readFormula_5, K_m_readFormula_4, K_m_readFormula_3, K_m_readFormula_2, K_m_readFormula_1, M_m_readFormula]
  rw [if_pos q, if_neg s5, if_neg s6]
  by_cases d : dp.toInt = 0
  · simp only [if_pos d, t_wants1, if_pos q]
  · simp only [if_neg d, t_wantsF q, if_neg (show ¬ (2 : Int32).toInt = 0 from by decide)]
end
