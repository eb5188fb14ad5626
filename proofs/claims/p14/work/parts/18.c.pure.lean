-- 68.mform
abbrev xF : Type := Int32 × Int32 × Int32 × Int32 × Int32 × Int32 × Int32 × Int32 × Int32 × Int32 × (Nat → Int32) × (Nat → Int32) × (Nat → Int32) × (Nat → Int32)
def xGo (n : Int32) (f : Nat → Int32) (k3 : Nat) (t : xF) : xF := K_m_readFormula_L3 n f k3 t.1 t.2.1 t.2.2.1 t.2.2.2.1 t.2.2.2.2.1 t.2.2.2.2.2.1 t.2.2.2.2.2.2.1 t.2.2.2.2.2.2.2.1 t.2.2.2.2.2.2.2.2.1 t.2.2.2.2.2.2.2.2.2.1 t.2.2.2.2.2.2.2.2.2.2.1 t.2.2.2.2.2.2.2.2.2.2.2.1 t.2.2.2.2.2.2.2.2.2.2.2.2.1 t.2.2.2.2.2.2.2.2.2.2.2.2.2
def R1 (n : Int32) (f : Nat → Int32) (k1 k3 : Nat) (us nc : Int32) (c ur ua : Nat → Int32) (nw dp ps mr so mv mf mw : Int32) (w : Nat → Int32) : xF := xGo n f k3 (K_m_readUnit_L22 n f us nc c ur ua k1 nw dp ps mr so mv mf mw w)
def R2 (n : Int32) (f : Nat → Int32) (k2 k3 : Nat) (us nc : Int32) (c ur ua : Nat → Int32) (nw dp ps mr so mv mf mw : Int32) (w : Nat → Int32) : xF := xGo n f k3 (K_m_readUnit_L3 n f w us ur ua k2 nc nw dp ps mr so mv mf mw c)
section
variable {f c w ur ua : Nat → Int32} {n us nc nw dp ps mr so mv mf mw : Int32}
theorem R1_left (q : mf.toInt = 0) (s : so.toInt = 3) (d : dp.toInt < 6) (k1 k3 : Nat) : R1 n f (k1 + 1) k3 us nc c ur ua nw dp ps mr so mv mf mw w = R1 n f k1 k3 us nc c ur ua (nw + 1) (dp + 1) (M_m_next mf mv mw n f ps mr so).1 (M_m_next mf mv mw n f ps mr so).2.1 (M_m_next mf mv mw n f ps mr so).2.2.1 (M_m_next mf mv mw n f ps mr so).2.2.2.1 (M_m_next mf mv mw n f ps mr so).2.2.2.2.1 (M_m_next mf mv mw n f ps mr so).2.2.2.2.2 (upd w nw.toNatClampNeg 12) := by
  unfold R1
  rw [show K_m_readUnit_L22 n f us nc c ur ua (k1 + 1) nw dp ps mr so mv mf mw w = _ from by
    simp only [K_m_readUnit_L22, K_m_readUnit_41, K_m_readUnit_40, K_m_readUnit_39, K_m_readUnit_37, K_m_readUnit_44, K_m_readUnit_43, K_m_readUnit_42, K_m_readUnit_38, K_m_readUnit_26, K_m_readUnit_15, K_m_readUnit_14, K_m_readUnit_12, K_m_readUnit_13, K_m_readUnit_11, K_m_readUnit_10, K_m_readUnit_8, K_m_readUnit_21, K_m_readUnit_20, K_m_readUnit_18, K_m_readUnit_19, K_m_readUnit_17, K_m_readUnit_16, K_m_readUnit_9, K_m_readUnit_7, K_m_readUnit_6, K_m_readUnit_5, K_m_readUnit_4, K_m_readUnit_3, K_m_readUnit_36, K_m_readUnit_35, K_m_readUnit_34, K_m_readUnit_33, K_m_readUnit_28, K_m_readUnit_32, K_m_readUnit_31, K_m_readUnit_30, K_m_readUnit_29, K_m_readUnit_27, K_m_readUnit_25, K_m_readUnit_24, K_m_readUnit_23, K_m_readUnit_22, K_m_readUnit_1, M_m_readUnit, K_m_holdsBack_1, M_m_holdsBack]
    rw [if_pos q, if_pos s, if_neg (by omega), t_wants1]]
theorem R1_deep (q : mf.toInt = 0) (s : so.toInt = 3) (d : 6 ≤ dp.toInt) (k1 k3 : Nat) : R1 n f (k1 + 1) k3 us nc c ur ua nw dp ps mr so mv mf mw w = R1 n f k1 k3 us nc c ur ua (nw + 1) (dp + 1) ps mr so mv 5 mr (upd w nw.toNatClampNeg 12) := by
  unfold R1
  rw [show K_m_readUnit_L22 n f us nc c ur ua (k1 + 1) nw dp ps mr so mv mf mw w = _ from by
    simp only [K_m_readUnit_L22, K_m_readUnit_41, K_m_readUnit_40, K_m_readUnit_39, K_m_readUnit_37, K_m_readUnit_44, K_m_readUnit_43, K_m_readUnit_42, K_m_readUnit_38, K_m_readUnit_26, K_m_readUnit_15, K_m_readUnit_14, K_m_readUnit_12, K_m_readUnit_13, K_m_readUnit_11, K_m_readUnit_10, K_m_readUnit_8, K_m_readUnit_21, K_m_readUnit_20, K_m_readUnit_18, K_m_readUnit_19, K_m_readUnit_17, K_m_readUnit_16, K_m_readUnit_9, K_m_readUnit_7, K_m_readUnit_6, K_m_readUnit_5, K_m_readUnit_4, K_m_readUnit_3, K_m_readUnit_36, K_m_readUnit_35, K_m_readUnit_34, K_m_readUnit_33, K_m_readUnit_28, K_m_readUnit_32, K_m_readUnit_31, K_m_readUnit_30, K_m_readUnit_29, K_m_readUnit_27, K_m_readUnit_25, K_m_readUnit_24, K_m_readUnit_23, K_m_readUnit_22, K_m_readUnit_1, M_m_readUnit, K_m_holdsBack_1, M_m_holdsBack]
    rw [if_pos q, if_pos s, if_pos d, t_wantsF q, t_next_id (show 0 < (5 : Int32).toInt from by decide)]]
theorem R1_name (q : mf.toInt = 0) (s : so.toInt = 1) (k1 k3 : Nat) : R1 n f (k1 + 1) k3 us nc c ur ua nw dp ps mr so mv mf mw w = (fun t => R2 n f 100000 k3 t.1 t.2.1 t.2.2.2.2.2.2.2.2.1 t.2.2.2.2.2.2.2.2.2.1 t.2.2.2.2.2.2.2.2.2.2 nw dp t.2.2.1 t.2.2.2.1 t.2.2.2.2.1 t.2.2.2.2.2.1 t.2.2.2.2.2.2.1 t.2.2.2.2.2.2.2.1 w) (M_m_readLetter us nc c ur ua mr mv n f ps so mf mw) := by
  unfold R1 R2
  rw [show K_m_readUnit_L22 n f us nc c ur ua (k1 + 1) nw dp ps mr so mv mf mw w = _ from by
    simp only [K_m_readUnit_L22, K_m_readUnit_41, K_m_readUnit_40, K_m_readUnit_39, K_m_readUnit_37, K_m_readUnit_44, K_m_readUnit_43, K_m_readUnit_42, K_m_readUnit_38, K_m_readUnit_26, K_m_readUnit_15, K_m_readUnit_14, K_m_readUnit_12, K_m_readUnit_13, K_m_readUnit_11, K_m_readUnit_10, K_m_readUnit_8, K_m_readUnit_21, K_m_readUnit_20, K_m_readUnit_18, K_m_readUnit_19, K_m_readUnit_17, K_m_readUnit_16, K_m_readUnit_9, K_m_readUnit_7, K_m_readUnit_6, K_m_readUnit_5, K_m_readUnit_4, K_m_readUnit_3, K_m_readUnit_36, K_m_readUnit_35, K_m_readUnit_34, K_m_readUnit_33, K_m_readUnit_28, K_m_readUnit_32, K_m_readUnit_31, K_m_readUnit_30, K_m_readUnit_29, K_m_readUnit_27, K_m_readUnit_25, K_m_readUnit_24, K_m_readUnit_23, K_m_readUnit_22, K_m_readUnit_1, M_m_readUnit, K_m_holdsBack_1, M_m_holdsBack]
    rw [if_pos q, if_neg (by omega), if_pos s, t_wants1, if_pos q]]
  rfl
theorem R1_other (q : mf.toInt = 0) (s : so.toInt ≠ 3) (s1 : so.toInt ≠ 1) (k1 k3 : Nat) : R1 n f (k1 + 1) k3 us nc c ur ua nw dp ps mr so mv mf mw w = R2 n f 100000 k3 us nc c ur ua nw dp ps mr so mv 2 mr w := by
  unfold R1 R2
  rw [show K_m_readUnit_L22 n f us nc c ur ua (k1 + 1) nw dp ps mr so mv mf mw w = _ from by
    simp only [K_m_readUnit_L22, K_m_readUnit_41, K_m_readUnit_40, K_m_readUnit_39, K_m_readUnit_37, K_m_readUnit_44, K_m_readUnit_43, K_m_readUnit_42, K_m_readUnit_38, K_m_readUnit_26, K_m_readUnit_15, K_m_readUnit_14, K_m_readUnit_12, K_m_readUnit_13, K_m_readUnit_11, K_m_readUnit_10, K_m_readUnit_8, K_m_readUnit_21, K_m_readUnit_20, K_m_readUnit_18, K_m_readUnit_19, K_m_readUnit_17, K_m_readUnit_16, K_m_readUnit_9, K_m_readUnit_7, K_m_readUnit_6, K_m_readUnit_5, K_m_readUnit_4, K_m_readUnit_3, K_m_readUnit_36, K_m_readUnit_35, K_m_readUnit_34, K_m_readUnit_33, K_m_readUnit_28, K_m_readUnit_32, K_m_readUnit_31, K_m_readUnit_30, K_m_readUnit_29, K_m_readUnit_27, K_m_readUnit_25, K_m_readUnit_24, K_m_readUnit_23, K_m_readUnit_22, K_m_readUnit_1, M_m_readUnit, K_m_holdsBack_1, M_m_holdsBack]
    rw [if_pos q, if_neg s, if_neg s1, t_wantsF q, if_neg (show ¬ (2 : Int32).toInt = 0 from by decide)]]
  rfl
theorem R1_fault (q : mf.toInt ≠ 0) (k1 k3 : Nat) : R1 n f (k1 + 1) k3 us nc c ur ua nw dp ps mr so mv mf mw w = R2 n f 100000 k3 us nc c ur ua nw dp ps mr so mv mf mw w := by
  unfold R1 R2
  rw [show K_m_readUnit_L22 n f us nc c ur ua (k1 + 1) nw dp ps mr so mv mf mw w = _ from by
    simp only [K_m_readUnit_L22, K_m_readUnit_41, K_m_readUnit_40, K_m_readUnit_39, K_m_readUnit_37, K_m_readUnit_44, K_m_readUnit_43, K_m_readUnit_42, K_m_readUnit_38, K_m_readUnit_26, K_m_readUnit_15, K_m_readUnit_14, K_m_readUnit_12, K_m_readUnit_13, K_m_readUnit_11, K_m_readUnit_10, K_m_readUnit_8, K_m_readUnit_21, K_m_readUnit_20, K_m_readUnit_18, K_m_readUnit_19, K_m_readUnit_17, K_m_readUnit_16, K_m_readUnit_9, K_m_readUnit_7, K_m_readUnit_6, K_m_readUnit_5, K_m_readUnit_4, K_m_readUnit_3, K_m_readUnit_36, K_m_readUnit_35, K_m_readUnit_34, K_m_readUnit_33, K_m_readUnit_28, K_m_readUnit_32, K_m_readUnit_31, K_m_readUnit_30, K_m_readUnit_29, K_m_readUnit_27, K_m_readUnit_25, K_m_readUnit_24, K_m_readUnit_23, K_m_readUnit_22, K_m_readUnit_1, M_m_readUnit, K_m_holdsBack_1, M_m_holdsBack]
    rw [if_neg q]]
  rfl
theorem R2_out (h : mf.toInt ≠ 0 ∨ so.toInt ≠ 4) (k2 : Nat) : K_m_readUnit_L3 n f w us ur ua (k2 + 1) nc nw dp ps mr so mv mf mw c = (us, nc, nw, dp, ps, mr, so, mv, mf, mw, c, w, ur, ua) := by
  simp only [K_m_readUnit_L3, K_m_readUnit_41, K_m_readUnit_40, K_m_readUnit_39, K_m_readUnit_37, K_m_readUnit_44, K_m_readUnit_43, K_m_readUnit_42, K_m_readUnit_38, K_m_readUnit_26, K_m_readUnit_15, K_m_readUnit_14, K_m_readUnit_12, K_m_readUnit_13, K_m_readUnit_11, K_m_readUnit_10, K_m_readUnit_8, K_m_readUnit_21, K_m_readUnit_20, K_m_readUnit_18, K_m_readUnit_19, K_m_readUnit_17, K_m_readUnit_16, K_m_readUnit_9, K_m_readUnit_7, K_m_readUnit_6, K_m_readUnit_5, K_m_readUnit_4, K_m_readUnit_3, K_m_readUnit_36, K_m_readUnit_35, K_m_readUnit_34, K_m_readUnit_33, K_m_readUnit_28, K_m_readUnit_32, K_m_readUnit_31, K_m_readUnit_30, K_m_readUnit_29, K_m_readUnit_27, K_m_readUnit_25, K_m_readUnit_24, K_m_readUnit_23, K_m_readUnit_22, K_m_readUnit_1, M_m_readUnit]
  by_cases q : mf.toInt = 0
  · have s : ¬ so.toInt = 4 := by
      rcases h with h | h
      · exact absurd q h
      · exact h
    rw [if_pos q, if_neg s]
  · rw [if_neg q]
theorem R2_fault (q : mf.toInt ≠ 0) (k2 k3 : Nat) : R2 n f (k2 + 1) (k3 + 1) us nc c ur ua nw dp ps mr so mv mf mw w = (us, nc, nw, dp, ps, mr, so, mv, mf, mw, c, w, ur, ua) := by
  unfold R2
  rw [R2_out (Or.inl q)]
  unfold xGo
  simp only [K_m_readFormula_L3, K_m_readFormula_8, K_m_readFormula_7, K_m_readFormula_16, K_m_readFormula_15, K_m_readFormula_14, K_m_readFormula_10, K_m_readFormula_13, K_m_readFormula_12, K_m_readFormula_11, K_m_readFormula_9, K_m_readFormula_6, K_m_readFormula_17, K_m_readFormula_20, K_m_readFormula_30, K_m_readFormula_29, K_m_readFormula_28, K_m_readFormula_27, K_m_readFormula_22, K_m_readFormula_26, K_m_readFormula_25, K_m_readFormula_24, K_m_readFormula_23, K_m_readFormula_21, K_m_readFormula_19, K_m_readFormula_18, K_m_readFormula_5, K_m_readFormula_4, K_m_readFormula_3, K_m_readFormula_2, K_m_readFormula_1, M_m_readFormula]
  rw [if_neg q]
theorem R2_right (q : mf.toInt = 0) (s : so.toInt = 4) (d : 0 < dp.toInt) (k2 k3 : Nat) : R2 n f (k2 + 1) k3 us nc c ur ua nw dp ps mr so mv mf mw w = (fun z => R2 n f k2 k3 us z.1 z.2.2 ur ua (z.2.1 - 1) (dp - 1) (M_m_next mf mv mw n f ps mr so).1 (M_m_next mf mv mw n f ps mr so).2.1 (M_m_next mf mv mw n f ps mr so).2.2.1 (M_m_next mf mv mw n f ps mr so).2.2.2.1 (M_m_next mf mv mw n f ps mr so).2.2.2.2.1 (M_m_next mf mv mw n f ps mr so).2.2.2.2.2 w) (M_m_done w 11 nc nw c) := by
  unfold R2
  rw [show K_m_readUnit_L3 n f w us ur ua (k2 + 1) nc nw dp ps mr so mv mf mw c = _ from by
    simp only [K_m_readUnit_L3, K_m_readUnit_41, K_m_readUnit_40, K_m_readUnit_39, K_m_readUnit_37, K_m_readUnit_44, K_m_readUnit_43, K_m_readUnit_42, K_m_readUnit_38, K_m_readUnit_26, K_m_readUnit_15, K_m_readUnit_14, K_m_readUnit_12, K_m_readUnit_13, K_m_readUnit_11, K_m_readUnit_10, K_m_readUnit_8, K_m_readUnit_21, K_m_readUnit_20, K_m_readUnit_18, K_m_readUnit_19, K_m_readUnit_17, K_m_readUnit_16, K_m_readUnit_9, K_m_readUnit_7, K_m_readUnit_6, K_m_readUnit_5, K_m_readUnit_4, K_m_readUnit_3, K_m_readUnit_36, K_m_readUnit_35, K_m_readUnit_34, K_m_readUnit_33, K_m_readUnit_28, K_m_readUnit_32, K_m_readUnit_31, K_m_readUnit_30, K_m_readUnit_29, K_m_readUnit_27, K_m_readUnit_25, K_m_readUnit_24, K_m_readUnit_23, K_m_readUnit_22, K_m_readUnit_1, M_m_readUnit]
    rw [if_pos q, if_pos s, if_neg (by omega), t_wants1, if_pos q]]
theorem R2_right0 (q : mf.toInt = 0) (s : so.toInt = 4) (d : dp.toInt ≤ 0) (k2 k3 : Nat) : R2 n f (k2 + 1) k3 us nc c ur ua nw dp ps mr so mv mf mw w = R2 n f k2 k3 us nc c ur ua nw dp ps mr so mv 2 mr w := by
  unfold R2
  rw [show K_m_readUnit_L3 n f w us ur ua (k2 + 1) nc nw dp ps mr so mv mf mw c = _ from by
    simp only [K_m_readUnit_L3, K_m_readUnit_41, K_m_readUnit_40, K_m_readUnit_39, K_m_readUnit_37, K_m_readUnit_44, K_m_readUnit_43, K_m_readUnit_42, K_m_readUnit_38, K_m_readUnit_26, K_m_readUnit_15, K_m_readUnit_14, K_m_readUnit_12, K_m_readUnit_13, K_m_readUnit_11, K_m_readUnit_10, K_m_readUnit_8, K_m_readUnit_21, K_m_readUnit_20, K_m_readUnit_18, K_m_readUnit_19, K_m_readUnit_17, K_m_readUnit_16, K_m_readUnit_9, K_m_readUnit_7, K_m_readUnit_6, K_m_readUnit_5, K_m_readUnit_4, K_m_readUnit_3, K_m_readUnit_36, K_m_readUnit_35, K_m_readUnit_34, K_m_readUnit_33, K_m_readUnit_28, K_m_readUnit_32, K_m_readUnit_31, K_m_readUnit_30, K_m_readUnit_29, K_m_readUnit_27, K_m_readUnit_25, K_m_readUnit_24, K_m_readUnit_23, K_m_readUnit_22, K_m_readUnit_1, M_m_readUnit]
    rw [if_pos q, if_pos s, if_pos d, t_wantsF q, if_neg (show ¬ (2 : Int32).toInt = 0 from by decide), t_next_id (show 0 < (2 : Int32).toInt from by decide)]]
theorem R2_and (q : mf.toInt = 0) (s : so.toInt = 5) (k2 k3 : Nat) : R2 n f (k2 + 1) (k3 + 1) us nc c ur ua nw dp ps mr so mv mf mw w = (fun z => R1 n f 100000 k3 us z.1 z.2.2 ur ua (z.2.1 + 1) dp (M_m_next mf mv mw n f ps mr so).1 (M_m_next mf mv mw n f ps mr so).2.1 (M_m_next mf mv mw n f ps mr so).2.2.1 (M_m_next mf mv mw n f ps mr so).2.2.2.1 (M_m_next mf mv mw n f ps mr so).2.2.2.2.1 (M_m_next mf mv mw n f ps mr so).2.2.2.2.2 (upd w z.2.1.toNatClampNeg 10)) (M_m_done w 10 nc nw c) := by
  unfold R2
  rw [R2_out (Or.inr (by omega))]
  unfold xGo R1
  simp only [K_m_readFormula_L3, K_m_readFormula_8, K_m_readFormula_7, K_m_readFormula_16, K_m_readFormula_15, K_m_readFormula_14, K_m_readFormula_10, K_m_readFormula_13, K_m_readFormula_12, K_m_readFormula_11, K_m_readFormula_9, K_m_readFormula_6, K_m_readFormula_17, K_m_readFormula_20, K_m_readFormula_30, K_m_readFormula_29, K_m_readFormula_28, K_m_readFormula_27, K_m_readFormula_22, K_m_readFormula_26, K_m_readFormula_25, K_m_readFormula_24, K_m_readFormula_23, K_m_readFormula_21, K_m_readFormula_19, K_m_readFormula_18, K_m_readFormula_5, K_m_readFormula_4, K_m_readFormula_3, K_m_readFormula_2, K_m_readFormula_1, M_m_readFormula, K_m_holdsBack_1, M_m_holdsBack]
  rw [if_pos q]
  simp only [if_pos s]
  rfl
theorem R2_or (q : mf.toInt = 0) (s : so.toInt = 6) (k2 k3 : Nat) : R2 n f (k2 + 1) (k3 + 1) us nc c ur ua nw dp ps mr so mv mf mw w = (fun z => R1 n f 100000 k3 us z.1 z.2.2 ur ua (z.2.1 + 1) dp (M_m_next mf mv mw n f ps mr so).1 (M_m_next mf mv mw n f ps mr so).2.1 (M_m_next mf mv mw n f ps mr so).2.2.1 (M_m_next mf mv mw n f ps mr so).2.2.2.1 (M_m_next mf mv mw n f ps mr so).2.2.2.2.1 (M_m_next mf mv mw n f ps mr so).2.2.2.2.2 (upd w z.2.1.toNatClampNeg 11)) (M_m_done w 11 nc nw c) := by
  unfold R2
  rw [R2_out (Or.inr (by omega))]
  unfold xGo R1
  simp only [K_m_readFormula_L3, K_m_readFormula_8, K_m_readFormula_7, K_m_readFormula_16, K_m_readFormula_15, K_m_readFormula_14, K_m_readFormula_10, K_m_readFormula_13, K_m_readFormula_12, K_m_readFormula_11, K_m_readFormula_9, K_m_readFormula_6, K_m_readFormula_17, K_m_readFormula_20, K_m_readFormula_30, K_m_readFormula_29, K_m_readFormula_28, K_m_readFormula_27, K_m_readFormula_22, K_m_readFormula_26, K_m_readFormula_25, K_m_readFormula_24, K_m_readFormula_23, K_m_readFormula_21, K_m_readFormula_19, K_m_readFormula_18, K_m_readFormula_5, K_m_readFormula_4, K_m_readFormula_3, K_m_readFormula_2, K_m_readFormula_1, M_m_readFormula, K_m_holdsBack_1, M_m_holdsBack]
  rw [if_pos q]
  simp only [if_neg (by omega : ¬ so.toInt = 5), if_pos s]
  rfl
theorem R2_end (q : mf.toInt = 0) (s4 : so.toInt ≠ 4) (s5 : so.toInt ≠ 5) (s6 : so.toInt ≠ 6) (k2 k3 : Nat) : R2 n f (k2 + 1) (k3 + 1) us nc c ur ua nw dp ps mr so mv mf mw w = if dp.toInt = 0 then (fun z => (us, z.1, z.2.1, dp, ps, mr, so, mv, mf, mw, z.2.2, w, ur, ua)) (M_m_done w 11 nc nw c) else (us, nc, nw, dp, ps, mr, so, mv, 2, mr, c, w, ur, ua) := by
  unfold R2
  rw [R2_out (Or.inr s4)]
  unfold xGo
  simp only [K_m_readFormula_L3, K_m_readFormula_8, K_m_readFormula_7, K_m_readFormula_16, K_m_readFormula_15, K_m_readFormula_14, K_m_readFormula_10, K_m_readFormula_13, K_m_readFormula_12, K_m_readFormula_11, K_m_readFormula_9, K_m_readFormula_6, K_m_readFormula_17, K_m_readFormula_20, K_m_readFormula_30, K_m_readFormula_29, K_m_readFormula_28, K_m_readFormula_27, K_m_readFormula_22, K_m_readFormula_26, K_m_readFormula_25, K_m_readFormula_24, K_m_readFormula_23, K_m_readFormula_21, K_m_readFormula_19, K_m_readFormula_18, K_m_readFormula_5, K_m_readFormula_4, K_m_readFormula_3, K_m_readFormula_2, K_m_readFormula_1, M_m_readFormula]
  rw [if_pos q, if_neg s5, if_neg s6]
  by_cases d : dp.toInt = 0
  · simp only [if_pos d, t_wants1, if_pos q]
  · simp only [if_neg d, t_wantsF q, if_neg (show ¬ (2 : Int32).toInt = 0 from by decide)]
end
-- 69.more
section
variable {f rf pn c ur ua : Nat → Int32} {G A : Nat → Nat → Int64} {n r us nc pl kd fr vl dep fl fp mv mw so : Int32}
theorem U_letter (c1 : kd.toInt = 1) (w : ¬ xW6 f fr pl) (x : 0 ≤ (M_railNamed pl fr f).toInt) : M_takeUnit kd pl fr vl dep rf (G 0) (G 1) (G 2) (G 3) (G 4) (G 5) (G 6) (A 0) (A 1) (A 2) (A 3) (A 4) (A 5) (A 6) pn fl fp n f r = (fun z => (fun t => (0, t.1, t.2.1, t.2.2.1, t.2.2.2.1, dep, t.2.2.2.2.1, t.2.2.2.2.2, M_noteUse rf (M_railNamed pl fr f) fr, G 0, G 1, G 2, G 3, G 4, G 5, G 6, z.1, z.2.1, z.2.2.1, z.2.2.2.1, z.2.2.2.2.1, z.2.2.2.2.2.1, z.2.2.2.2.2.2.1, z.2.2.2.2.2.2.2)) (M_step n f fl fp kd pl)) (M_joinPart (M_railNamed pl fr f) dep (A 0) (A 1) (A 2) (A 3) (A 4) (A 5) (A 6) pn r) := by
  have e : (M_isSign kd vl 40).toInt = 0 := by rw [t_isSign, if_neg (by omega)]; decide
  have i6 : (M_isWord kd pl fr 3 f 6).toInt = 0 := by rw [w_key, if_neg (fun z => w z.2)]; decide
  simp only [K_takeUnit_18, K_takeUnit_12, K_takeUnit_17, K_takeUnit_16, K_takeUnit_15, K_takeUnit_14, K_takeUnit_13, K_takeUnit_11, K_takeUnit_10, K_takeUnit_8, K_takeUnit_20, K_takeUnit_19, K_takeUnit_9, K_takeUnit_7, K_takeUnit_5, K_takeUnit_21, K_takeUnit_6, K_takeUnit_3, K_takeUnit_25, K_takeUnit_24, K_takeUnit_22, K_takeUnit_26, K_takeUnit_23, K_takeUnit_4, K_takeUnit_2, K_takeUnit_1, M_takeUnit]
  simp only [if_pos e, if_pos c1, if_pos i6, if_neg (by omega : ¬ (M_railNamed pl fr f).toInt = -4)]
theorem U_bad (q : fl.toInt = 0) (c1 : kd.toInt = 1) (w : ¬ xW6 f fr pl) (x : (M_railNamed pl fr f).toInt = -4) : M_takeUnit kd pl fr vl dep rf (G 0) (G 1) (G 2) (G 3) (G 4) (G 5) (G 6) (A 0) (A 1) (A 2) (A 3) (A 4) (A 5) (A 6) pn fl fp n f r = (0, pl, kd, fr, vl, dep, 3, fr, rf, G 0, G 1, G 2, G 3, G 4, G 5, G 6, A 0, A 1, A 2, A 3, A 4, A 5, A 6, pn) := by
  have e : (M_isSign kd vl 40).toInt = 0 := by rw [t_isSign, if_neg (by omega)]; decide
  have i6 : (M_isWord kd pl fr 3 f 6).toInt = 0 := by rw [w_key, if_neg (fun z => w z.2)]; decide
  simp only [K_takeUnit_18, K_takeUnit_12, K_takeUnit_17, K_takeUnit_16, K_takeUnit_15, K_takeUnit_14, K_takeUnit_13, K_takeUnit_11, K_takeUnit_10, K_takeUnit_8, K_takeUnit_20, K_takeUnit_19, K_takeUnit_9, K_takeUnit_7, K_takeUnit_5, K_takeUnit_21, K_takeUnit_6, K_takeUnit_3, K_takeUnit_25, K_takeUnit_24, K_takeUnit_22, K_takeUnit_26, K_takeUnit_23, K_takeUnit_4, K_takeUnit_2, K_takeUnit_1, M_takeUnit, t_refuse q]
  simp only [if_pos e, if_pos c1, if_pos i6, if_pos x]
theorem L_letter (q : fl.toInt = 0) (x : 0 ≤ (M_m_nameNow pl fr n f).toInt ∧ (M_m_nameNow pl fr n f).toInt ≤ 7) : M_m_readLetter us nc c ur ua fr mv n f pl so fl mw = (fun t => (us + 1, nc + 1, t.1, t.2.1, t.2.2.1, t.2.2.2.1, t.2.2.2.2.1, t.2.2.2.2.2, upd c nc.toNatClampNeg (M_m_nameNow pl fr n f), upd ur us.toNatClampNeg (M_m_nameNow pl fr n f), upd ua us.toNatClampNeg fr)) (M_m_next fl mv mw n f pl fr so) := by
  simp only [K_m_readLetter_9, K_m_readLetter_7, K_m_readLetter_8, K_m_readLetter_6, K_m_readLetter_5, K_m_readLetter_3, K_m_readLetter_21, K_m_readLetter_19, K_m_readLetter_20, K_m_readLetter_18, K_m_readLetter_17, K_m_readLetter_11, K_m_readLetter_16, K_m_readLetter_14, K_m_readLetter_15, K_m_readLetter_13, K_m_readLetter_12, K_m_readLetter_10, K_m_readLetter_4, K_m_readLetter_2, K_m_readLetter_1, M_m_readLetter]
  simp only [if_pos x, t_wants1, if_pos q]
theorem L_key (q : fl.toInt = 0) (x : (M_m_nameNow pl fr n f).toInt = 28) : M_m_readLetter us nc c ur ua fr mv n f pl so fl mw = (fun t => (us, nc + 1, t.1, t.2.1, t.2.2.1, t.2.2.2.1, t.2.2.2.2.1, t.2.2.2.2.2, upd c nc.toNatClampNeg 8, ur, ua)) (M_m_next fl mv mw n f pl fr so) := by
  simp only [K_m_readLetter_9, K_m_readLetter_7, K_m_readLetter_8, K_m_readLetter_6, K_m_readLetter_5, K_m_readLetter_3, K_m_readLetter_21, K_m_readLetter_19, K_m_readLetter_20, K_m_readLetter_18, K_m_readLetter_17, K_m_readLetter_11, K_m_readLetter_16, K_m_readLetter_14, K_m_readLetter_15, K_m_readLetter_13, K_m_readLetter_12, K_m_readLetter_10, K_m_readLetter_4, K_m_readLetter_2, K_m_readLetter_1, M_m_readLetter]
  simp only [if_neg (by omega : ¬ (0 ≤ (M_m_nameNow pl fr n f).toInt ∧ (M_m_nameNow pl fr n f).toInt ≤ 7)), if_pos x, t_wants1, if_pos q]
theorem L_bad (q : fl.toInt = 0) (x : ¬ (0 ≤ (M_m_nameNow pl fr n f).toInt ∧ (M_m_nameNow pl fr n f).toInt ≤ 7)) (x2 : ¬ (M_m_nameNow pl fr n f).toInt = 28) : M_m_readLetter us nc c ur ua fr mv n f pl so fl mw = (us, nc, pl, fr, so, mv, 3, fr, c, ur, ua) := by
  simp only [K_m_readLetter_9, K_m_readLetter_7, K_m_readLetter_8, K_m_readLetter_6, K_m_readLetter_5, K_m_readLetter_3, K_m_readLetter_21, K_m_readLetter_19, K_m_readLetter_20, K_m_readLetter_18, K_m_readLetter_17, K_m_readLetter_11, K_m_readLetter_16, K_m_readLetter_14, K_m_readLetter_15, K_m_readLetter_13, K_m_readLetter_12, K_m_readLetter_10, K_m_readLetter_4, K_m_readLetter_2, K_m_readLetter_1, M_m_readLetter]
  simp only [if_neg x, if_neg x2, t_wantsF q, if_neg (show ¬ (3 : Int32).toInt = 0 from by decide), t_next_id (show 0 < (3 : Int32).toInt from by decide)]
end
theorem nIm1 {d : Nat} (h : d ≤ 400) : nI (d + 1) - 1 = nI d := Int32.toInt_inj.mp (by
  have e1 : (nI (d + 1)).toInt = ((d + 1 : Nat) : Int) := nI_toInt (by omega)
  have e2 : (nI d).toInt = (d : Int) := nI_toInt (by omega)
  have e3 : (nI (d + 1) - 1).toInt = ((d + 1 : Nat) : Int) - 1 := xsub e1 (by decide) (by omega) (by omega)
  omega)
theorem xupd_2 {f : Nat → Int32} {i : Nat} {x y : Int32} : upd (upd f i x) i y = upd f i y := by
  funext j
  by_cases q : j = i
  · rw [q, xupd_s, xupd_s]
  · rw [xupd_o q, xupd_o q, xupd_o q]
/-- where a RAIL's names stand -/
def xKn (r : Int32) : Nat := ((r * 8) + 7).toNatClampNeg
theorem r_jp {d : Nat} (hd : d ≤ 6) (pn : Nat → Int32) (b r : Int32) (A : Nat → Nat → Int64) : ∃ a : Nat → Int64, M_joinPart b (nI d) (A 0) (A 1) (A 2) (A 3) (A 4) (A 5) (A 6) pn r = (zst A d a 0, zst A d a 1, zst A d a 2, zst A d a 3, zst A d a 4, zst A d a 5, zst A d a 6, upd pn (xKn r) (pn (xKn r) ||| ((1 : Int32) <<< (b &&& 31)))) ∧ ∀ i : Nat, i < 8 → a i = A d i &&& xpw b i := by
  obtain ⟨a, h1, h2, -⟩ := b_jp hd (pn := upd pn (xKn r) (pn (xKn r) ||| ((1 : Int32) <<< (b &&& 31)))) (b := b) 8 0 99991 A (by decide) (by decide)
  refine ⟨a, ?_, fun i hi => h2 i (by have z : (0 : Int32).toInt = 0 := (by decide); omega) hi⟩
  rw [← h1]
  simp only [K_joinPart_5, K_joinPart_11, K_joinPart_13, K_joinPart_15, K_joinPart_17, K_joinPart_19, K_joinPart_21, K_joinPart_22, K_joinPart_20, K_joinPart_18, K_joinPart_16, K_joinPart_14, K_joinPart_12, K_joinPart_10, K_joinPart_9, K_joinPart_7, K_joinPart_23, K_joinPart_25, K_joinPart_27, K_joinPart_29, K_joinPart_31, K_joinPart_33, K_joinPart_34, K_joinPart_32, K_joinPart_30, K_joinPart_28, K_joinPart_26, K_joinPart_24, K_joinPart_8, K_joinPart_6, K_joinPart_4, K_joinPart_3, K_joinPart_2, K_joinPart_1, M_joinPart, K_number_1, M_number, K_setNumber_1, M_setNumber]
  rfl
theorem r_cd {d : Nat} (hd : d ≤ 5) (G A : Nat → Nat → Int64) : ∃ g a a2 : Nat → Int64, M_closeDepth (nI (d + 1)) (G 0) (G 1) (G 2) (G 3) (G 4) (G 5) (G 6) (A 0) (A 1) (A 2) (A 3) (A 4) (A 5) (A 6) = (nI d, zst G (d + 1) g 0, zst G (d + 1) g 1, zst G (d + 1) g 2, zst G (d + 1) g 3, zst G (d + 1) g 4, zst G (d + 1) g 5, zst G (d + 1) g 6, zst (zst A (d + 1) a) d a2 0, zst (zst A (d + 1) a) d a2 1, zst (zst A (d + 1) a) d a2 2, zst (zst A (d + 1) a) d a2 3, zst (zst A (d + 1) a) d a2 4, zst (zst A (d + 1) a) d a2 5, zst (zst A (d + 1) a) d a2 6) ∧ (∀ i : Nat, i < 8 → g i = G (d + 1) i ||| A (d + 1) i ∧ a i = -1) ∧ ∀ i : Nat, i < 8 → a2 i = A d i &&& g i := by
  obtain ⟨g, a, e, hga⟩ := r_ja (show d + 1 ≤ 6 by omega) G A
  obtain ⟨a2, h1, h2, -⟩ := b_cd hd (G := zst G (d + 1) g) (z := zst A (d + 1) a 6) 8 0 99991 (zst A (d + 1) a) (by decide) (by decide)
  have z0 : (0 : Int32).toInt = 0 := by decide
  refine ⟨g, a, a2, ?_, hga, fun i hi => ?_⟩
  · have e6 : zst (zst A (d + 1) a) d a2 6 = zst A (d + 1) a 6 := xst_o (by omega)
    rw [e6, ← nIm1 (d := d) (by omega), ← h1]
    simp only [K_closeDepth_4, K_closeDepth_6, K_closeDepth_8, K_closeDepth_10, K_closeDepth_12, K_closeDepth_14, K_closeDepth_15, K_closeDepth_13, K_closeDepth_11, K_closeDepth_9, K_closeDepth_7, K_closeDepth_5, K_closeDepth_3, K_closeDepth_2, K_closeDepth_1, M_closeDepth]
    rw [e]
    rfl
  · have z := h2 i (by omega) hi
    rw [xst_s, xst_o (by omega)] at z
    exact z
/-- the names in the signs told so far -/
def xnm (c : Nat → Int32) : Nat → Int32
  | 0 => 0
  | n + 1 => if 9 ≤ (c n).toInt then xnm c n ||| 0 else xnm c n ||| ((1 : Int32) <<< (c n &&& 31))
theorem xor00 (x : Int32) : x ||| 0 = x := by
  apply Int32.toBitVec_inj.mp
  rw [Int32.toBitVec_or]
  exact BitVec.or_zero
theorem xnm_ext {c c' : Nat → Int32} {n : Nat} (h : ∀ j, j < n → c j = c' j) : xnm c n = xnm c' n := by
  induction n with
  | zero => rfl
  | succ n ih => rw [xnm, xnm, h n (by omega), ih (fun j hj => h j (by omega))]
theorem xnm_one : ∀ k : Fin 9, ((1 : Int32) <<< (nI k.val &&& 31)).toBitVec.getLsbD k.val = true := by decide +kernel
/-- a letter told is among the names -/
theorem xnm_bit {c : Nat → Int32} : ∀ n j : Nat, j < n → 0 ≤ (c j).toInt → (c j).toInt < 9 → (xnm c n).toBitVec.getLsbD (c j).toInt.toNat = true := by
  intro n
  induction n with
  | zero => exact fun j hj => absurd hj (by omega)
  | succ n ih =>
    intro j hj h0 h9
    rw [xnm]
    by_cases e : j = n
    · subst e
      have ec : c j = nI (c j).toInt.toNat := Int32.toInt_inj.mp (by rw [nI_toInt (by omega)]; omega)
      have z := xnm_one ⟨(c j).toInt.toNat, by omega⟩
      dsimp only at z
      rw [← ec] at z
      rw [if_neg (by omega), Int32.toBitVec_or, BitVec.getLsbD_or, z, Bool.or_true]
    · have z := ih j (by omega) h0 h9
      split
      · rw [Int32.toBitVec_or, BitVec.getLsbD_or, z, Bool.true_or]
      · rw [Int32.toBitVec_or, BitVec.getLsbD_or, z, Bool.true_or]
theorem xnm_put {c : Nat → Int32} {n : Nat} {x : Int32} (hx : x.toInt < 9) : xnm (upd c n x) (n + 1) = xnm c n ||| ((1 : Int32) <<< (x &&& 31)) := by
  rw [xnm, xupd_s, xnm_ext (c' := c) (fun j hj => xupd_o (by omega)), if_neg (by omega)]
theorem xnm_dn {c c' : Nat → Int32} {n : Nat} : ∀ m : Nat, (∀ j, j < n → c' j = c j) → (∀ j, n ≤ j → j < n + m → 9 ≤ (c' j).toInt) → xnm c' (n + m) = xnm c n := by
  intro m
  induction m with
  | zero => exact fun h _ => xnm_ext h
  | succ m ih =>
    intro h1 h2
    show xnm c' ((n + m) + 1) = _
    rw [xnm, if_pos (h2 (n + m) (by omega) (by omega)), ih h1 (fun j a b => h2 j a (by omega)), xor00]
/-- done, on all that is told so far -/
theorem r_done {w c : Nat → Int32} {nc nw : Int32} (e : Int32) {d : Nat} {G A : Nat → Nat → Int64} (h : xS true d G A c w nc.toNatClampNeg nw.toNatClampNeg) (h0 : 0 ≤ nc.toInt) (h1 : 0 ≤ nw.toInt) (h2 : nc.toInt + nw.toInt ≤ 400) : ∃ (nc' nw' : Int32) (c' : Nat → Int32), M_m_done w e nc nw c = (nc', nw', c') ∧ 0 ≤ nw'.toInt ∧ nw'.toInt ≤ nw.toInt ∧ nc'.toInt + nw'.toInt = nc.toInt + nw.toInt ∧ xDn e.toInt c w nc.toNatClampNeg nw.toNatClampNeg c' nc'.toNatClampNeg nw'.toNatClampNeg ∧ xnm c' nc'.toNatClampNeg = xnm c nc.toNatClampNeg := by
  obtain ⟨a1, a2, a3, a4⟩ := h
  have n1 := xtn (x := nw) h1
  have n0 := xtn (x := nc) h0
  obtain ⟨nc', nw', c', b1, b2, b3, b4, b5, b6, b7, b8⟩ := b_done (w := w) (e := e) nw.toNatClampNeg nc nw c (99999 - nw.toNatClampNeg) (by omega) h0 h2 (fun j hj => by have := a1 j hj; omega) a3 (fun s hs => by
    have z := a4 s hs
    rw [if_pos rfl, xcb] at z
    exact xdp_2 z)
  have n2 := xtn (x := nw') b2
  have n3 := xtn (x := nc') (by omega)
  have new : ∀ j : Nat, nc.toNatClampNeg ≤ j → j < nc'.toNatClampNeg → (c' j).toInt ≠ 12 ∧ ∃ i, i < nw.toNatClampNeg ∧ c' j = w i := fun j j1 j2 => b8 j (by omega) (by omega)
  refine ⟨nc', nw', c', ?_, b2, b3, b4, ⟨by omega, b5, b6, fun j hj => b7 j (by omega), new⟩, ?_⟩
  · rw [← b1, show 99999 - nw.toNatClampNeg + nw.toNatClampNeg + 1 = 100000 from by omega]
    rfl
  · have z := xnm_dn (c := c) (c' := c') (n := nc.toNatClampNeg) (nc'.toNatClampNeg - nc.toNatClampNeg) (fun j hj => b7 j (by omega)) (fun j j1 j2 => by
      obtain ⟨-, i, i1, i2⟩ := new j j1 (by omega)
      have := a1 i i1
      rw [i2]
      omega)
    rw [show nc.toNatClampNeg + (nc'.toNatClampNeg - nc.toNatClampNeg) = nc'.toNatClampNeg from by omega] at z
    exact z
-- 70.sim
/-- what a formula leaves where both have read it: the class's words of it, the reference's signs -/
def xFm (pn0 : Nat → Int32) (pt : Nat → Int64) (r : Int32) (fr : Int) (pn' : Nat → Int32) (pt' : Nat → Int64) (c : Nat → Int32) (nc : Int32) : Prop := 0 ≤ nc.toInt ∧ nc.toInt ≤ fr ∧ pn' = upd pn0 (xKn r) (xnm c nc.toNatClampNeg) ∧ ∃ g : Nat → Int64, pt' = va_cpy g pt (0 : Int32).toNatClampNeg (r * 8).toNatClampNeg (8 : Int32).toNatClampNeg ∧ (∀ j, j < nc.toNatClampNeg → 0 ≤ (c j).toInt ∧ ((c j).toInt < 9 ∨ (c j).toInt = 10 ∨ (c j).toInt = 11)) ∧ xwk c nc.toNatClampNeg ∧ ∀ s, s < 512 → xev c s nc.toNatClampNeg = [xbt g s]
def xFin (n : Int32) (fr0 : Int) (pn0 : Nat → Int32) (pt : Nat → Int64) (r : Int32) (t : xTC) (u : xF) : Prop := (xR n t.1 t.2.1 t.2.2.1 t.2.2.2.1 t.2.2.2.2.2.1 t.2.2.2.2.2.2.1 u.2.2.2.2.1 u.2.2.2.2.2.1 u.2.2.2.2.2.2.1 u.2.2.2.2.2.2.2.1 u.2.2.2.2.2.2.2.2.1 u.2.2.2.2.2.2.2.2.2.1 ∧ (t.2.2.2.2.2.1.toInt = 0 → xUs t.2.2.2.2.2.2.2.1 u.1 u.2.2.2.2.2.2.2.2.2.2.2.2.1 u.2.2.2.2.2.2.2.2.2.2.2.2.2 t.2.2.1.toInt ∧ u.1.toInt ≤ t.2.2.1.toInt ∧ fr0 ≤ t.2.2.1.toInt ∧ xFm pn0 pt r t.2.2.1.toInt t.2.2.2.2.2.2.2.2.2.2.2.2.2.2.2.2.2.2.2.2.2.2.1 t.2.2.2.2.2.2.2.2.2.2.2.2.2.2.2.2.2.2.2.2.2.2.2 u.2.2.2.2.2.2.2.2.2.2.1 u.2.1)) ∨ (t.2.2.2.2.2.1.toInt = 0 ∧ t.2.1.toInt = 3 ∧ t.2.2.2.1.toInt = 41 ∧ u.2.2.2.2.2.2.2.2.1 = 2 ∧ u.2.2.2.2.2.2.2.2.2.1 = t.2.2.1)
theorem fin_fault {n pl kd fr vl dep fl fp us nc nw dp ps mr so mv mf mw r : Int32} {rf pn ur ua c w pn0 : Nat → Int32} {pt : Nat → Int64} {j : xT7} {fr0 : Int} (h : xR n pl kd fr vl fl fp ps mr so mv mf mw) (q : ¬ fl.toInt = 0) : xFin n fr0 pn0 pt r (xFn pl kd fr vl dep fl fp rf pn pt r j) (us, nc, nw, dp, ps, mr, so, mv, mf, mw, c, w, ur, ua) := Or.inl ⟨h, fun z => absurd z q⟩
theorem nlt {n x y : Int32} {m : Nat} (h : n.toInt - x.toInt < ((m + 1 : Nat) : Int)) (q : x.toInt < y.toInt) : n.toInt - y.toInt < (m : Int) := by omega
theorem sim {f pn0 : Nat → Int32} {pt : Nat → Int64} {n r : Int32} (hf : ∀ j, 0 ≤ (f j).toInt) (hn : n.toInt ≤ 400) : ∀ m : Nat, m ≤ 500 →
    (∀ (i pl kd fr vl fl fp us nc nw ps mr so mv mf mw : Int32) (rf pn c w ur ua : Nat → Int32) (G A : Nat → Nat → Int64) (d : Nat) (fr0 : Int), xR n pl kd fr vl fl fp ps mr so mv mf mw → (fl.toInt = 0 → d ≤ 6 ∧ n.toInt - fr.toInt < (m : Int) ∧ 0 ≤ i.toInt ∧ i.toInt ≤ fr.toInt ∧ xUs rf us ur ua fr.toInt ∧ us.toInt ≤ fr.toInt ∧ fr0 ≤ fr.toInt ∧ 0 ≤ nc.toInt ∧ 0 ≤ nw.toInt ∧ nc.toInt + nw.toInt ≤ fr.toInt ∧ xS false d G A c w nc.toNatClampNeg nw.toNatClampNeg ∧ pn = upd pn0 (xKn r) (xnm c nc.toNatClampNeg)) → ∀ kc k1 k3 : Nat, m + 2 ≤ kc → m + 1 ≤ k1 → m + 1 ≤ k3 → xFin n fr0 pn0 pt r (K_readFormula_L3 pt r n f kc i 1 1 rf pn pl kd fr vl (nI d) fl fp (G 0) (G 1) (G 2) (G 3) (G 4) (G 5) (G 6) (A 0) (A 1) (A 2) (A 3) (A 4) (A 5) (A 6)) (R1 n f k1 k3 us nc c ur ua nw (nI d) ps mr so mv mf mw w)) ∧
    (∀ (i pl kd fr vl fl fp us nc nw ps mr so mv mf mw : Int32) (rf pn c w ur ua : Nat → Int32) (G A : Nat → Nat → Int64) (d : Nat) (fr0 : Int), xR n pl kd fr vl fl fp ps mr so mv mf mw → (fl.toInt = 0 → d ≤ 6 ∧ n.toInt - fr.toInt < (m : Int) ∧ 0 ≤ i.toInt ∧ i.toInt ≤ fr.toInt ∧ xUs rf us ur ua fr.toInt ∧ us.toInt ≤ fr.toInt ∧ fr0 ≤ fr.toInt ∧ 0 ≤ nc.toInt ∧ 0 ≤ nw.toInt ∧ nc.toInt + nw.toInt ≤ fr.toInt ∧ xS true d G A c w nc.toNatClampNeg nw.toNatClampNeg ∧ pn = upd pn0 (xKn r) (xnm c nc.toNatClampNeg)) → ∀ kc k2 k3 : Nat, m + 2 ≤ kc → m + 1 ≤ k2 → m + 1 ≤ k3 → xFin n fr0 pn0 pt r (K_readFormula_L3 pt r n f kc i 1 0 rf pn pl kd fr vl (nI d) fl fp (G 0) (G 1) (G 2) (G 3) (G 4) (G 5) (G 6) (A 0) (A 1) (A 2) (A 3) (A 4) (A 5) (A 6)) (R2 n f k2 k3 us nc c ur ua nw (nI d) ps mr so mv mf mw w)) := by
  have F1 : ∀ (i pl kd fr vl fl fp us nc nw ps mr so mv mf mw : Int32) (rf pn c w ur ua : Nat → Int32) (G A : Nat → Nat → Int64) (d : Nat) (fr0 : Int) (dp : Int32), xR n pl kd fr vl fl fp ps mr so mv mf mw → ¬ fl.toInt = 0 → ∀ kc k1 k3 : Nat, xFin n fr0 pn0 pt r (K_readFormula_L3 pt r n f (kc + 1) i 1 1 rf pn pl kd fr vl (nI d) fl fp (G 0) (G 1) (G 2) (G 3) (G 4) (G 5) (G 6) (A 0) (A 1) (A 2) (A 3) (A 4) (A 5) (A 6)) (R1 n f (k1 + 1) (k3 + 1) us nc c ur ua nw dp ps mr so mv mf mw w) := by
    intro i pl kd fr vl fl fp us nc nw ps mr so mv mf mw rf pn c w ur ua G A d fr0 dp h q kc k1 k3
    have q2 : mf.toInt ≠ 0 := by rw [← h.1]; exact q
    rw [C_fault q, R1_fault q2, show R2 n f 100000 (k3 + 1) us nc c ur ua nw dp ps mr so mv mf mw w = _ from R2_fault q2 99999 k3]
    exact fin_fault h q
  have F2 : ∀ (i pl kd fr vl fl fp us nc nw ps mr so mv mf mw : Int32) (rf pn c w ur ua : Nat → Int32) (G A : Nat → Nat → Int64) (d : Nat) (fr0 : Int) (x dp : Int32), xR n pl kd fr vl fl fp ps mr so mv mf mw → ¬ fl.toInt = 0 → ∀ kc k2 k3 : Nat, xFin n fr0 pn0 pt r (K_readFormula_L3 pt r n f (kc + 1) i 1 x rf pn pl kd fr vl (nI d) fl fp (G 0) (G 1) (G 2) (G 3) (G 4) (G 5) (G 6) (A 0) (A 1) (A 2) (A 3) (A 4) (A 5) (A 6)) (R2 n f (k2 + 1) (k3 + 1) us nc c ur ua nw dp ps mr so mv mf mw w) := by
    intro i pl kd fr vl fl fp us nc nw ps mr so mv mf mw rf pn c w ur ua G A d fr0 x dp h q kc k2 k3
    have q2 : mf.toInt ≠ 0 := by rw [← h.1]; exact q
    rw [C_fault q, R2_fault q2]
    exact fin_fault h q
  intro m
  induction m with
  | zero =>
    intro _
    refine ⟨fun i pl kd fr vl fl fp us nc nw ps mr so mv mf mw rf pn c w ur ua G A d fr0 h g kc k1 k3 a1 a2 a3 => ?_, fun i pl kd fr vl fl fp us nc nw ps mr so mv mf mw rf pn c w ur ua G A d fr0 h g kc k2 k3 a1 a2 a3 => ?_⟩
    all_goals
      have q : ¬ fl.toInt = 0 := fun z => by
        have b := (g z).2.1
        have c := h.2.2.2 z
        omega
    · obtain ⟨kc, rfl⟩ : ∃ j, kc = j + 1 := ⟨kc - 1, by omega⟩
      obtain ⟨k1, rfl⟩ : ∃ j, k1 = j + 1 := ⟨k1 - 1, by omega⟩
      obtain ⟨k3, rfl⟩ : ∃ j, k3 = j + 1 := ⟨k3 - 1, by omega⟩
      exact F1 _ _ _ _ _ _ _ _ _ _ _ _ _ _ _ _ _ _ _ _ _ _ _ _ _ _ _ h q _ _ _
    · obtain ⟨kc, rfl⟩ : ∃ j, kc = j + 1 := ⟨kc - 1, by omega⟩
      obtain ⟨k2, rfl⟩ : ∃ j, k2 = j + 1 := ⟨k2 - 1, by omega⟩
      obtain ⟨k3, rfl⟩ : ∃ j, k3 = j + 1 := ⟨k3 - 1, by omega⟩
      exact F2 _ _ _ _ _ _ _ _ _ _ _ _ _ _ _ _ _ _ _ _ _ _ _ _ _ _ _ _ h q _ _ _
  | succ m ih =>
    intro hm
    obtain ⟨ih1, ih2⟩ := ih (by omega)
    refine ⟨fun i pl kd fr vl fl fp us nc nw ps mr so mv mf mw rf pn c w ur ua G A d fr0 h g kc k1 k3 a1 a2 a3 => ?_, fun i pl kd fr vl fl fp us nc nw ps mr so mv mf mw rf pn c w ur ua G A d fr0 h g kc k2 k3 a1 a2 a3 => ?_⟩
    · obtain ⟨kc, rfl⟩ : ∃ j, kc = j + 1 := ⟨kc - 1, by omega⟩
      obtain ⟨k1, rfl⟩ : ∃ j, k1 = j + 1 := ⟨k1 - 1, by omega⟩
      obtain ⟨k3, rfl⟩ : ∃ j, k3 = j + 1 := ⟨k3 - 1, by omega⟩
      by_cases q : fl.toInt = 0
      · obtain ⟨d6, gm, i0, i1, gu, gl, g0, nc0, nw0, ncw, gs, gn⟩ := g q
        obtain ⟨e, hp, hw, hk⟩ := h
        subst e
        obtain ⟨e1, e2, r0, r1, r2, r3, k⟩ := hk q
        subst e1
        subst e2
        have dd : (nI d).toInt = (d : Int) := nI_toInt (by omega)
        have ii : (i + 1).toInt = i.toInt + 1 := xadd rfl (by decide) (by omega) (by omega)
        have rt := r_tok (fp := fp) (kd := kd) (mv := mv) (mw := mw) (mr := fr) (so := so) hf hn (by omega) r2 (rfl : fl = fl) q
        by_cases c40 : kd.toInt = 3 ∧ vl.toInt = 40
        · have s3 : so.toInt = 3 := by unfold xK at k; omega
          have lt := r3 (by omega)
          by_cases dl : d < 6
          · rw [C_want q (by omega) (by decide) (by decide), U_left q c40.1 c40.2 (by omega), R1_left q s3 (by omega), nI_1, r_open (show d + 1 ≤ 6 by omega) G A]
            have nw1 : (nw + 1).toInt = nw.toInt + 1 := xadd rfl (by decide) (by omega) (by omega)
            have nw2 : (nw + 1).toNatClampNeg = nw.toNatClampNeg + 1 := xtn1 nw0 nw1
            dsimp only [xt7]
            refine ih1 _ _ _ _ _ _ _ _ _ _ _ _ _ _ _ _ _ _ _ _ _ _ (zst G (d + 1) (M_fillJ 8 0 (G (d + 1)))) (zst A (d + 1) (M_fillJ 8 (-1) (A (d + 1)))) (d + 1) _ rt.1 (fun z => ?_) _ _ _ (by omega) (by omega) (by omega)
            have b := rt.2 z
            refine ⟨by omega, by omega, by omega, by omega, xUs_up gu (by omega), by omega, by omega, nc0, by omega, by omega, ?_, gn⟩
            rw [nw2]
            exact s_open gs (fun x hx => by unfold M_fillJ; rw [if_pos hx]) (fun x hx => by unfold M_fillJ; rw [if_pos hx])
          · rw [C_want q (by omega) (by decide) (by decide), U_deep q c40.1 c40.2 (by omega), R1_deep q s3 (by omega)]
            obtain ⟨kc, rfl⟩ : ∃ j, kc = j + 1 := ⟨kc - 1, by omega⟩
            obtain ⟨k1, rfl⟩ : ∃ j, k1 = j + 1 := ⟨k1 - 1, by omega⟩
            exact F1 _ _ _ _ _ _ _ _ _ _ _ _ _ _ _ _ _ _ _ _ _ _ _ _ _ _ _ (xR_no rfl (by dsimp only; decide) rfl) (by dsimp only; decide) _ _ _
        · by_cases c1 : kd.toInt = 1
          · have s1 : so.toInt = 1 := (xK1 k).1.mp c1
            have lt := r3 (by omega)
            have nc1 : (nc + 1).toInt = nc.toInt + 1 := xadd rfl (by decide) (by omega) (by omega)
            have nc2 : (nc + 1).toNatClampNeg = nc.toNatClampNeg + 1 := xtn1 nc0 nc1
            obtain ⟨n20, n21, n22, n23, n24, n25, n26, n27, n28, nle⟩ := nm_some (f := f) (ps := pl) r0 r2 hn
            rw [C_want q (by omega) (by decide) (by decide), R1_name q s1]
            by_cases w6 : xW6 f fr pl
            · obtain ⟨a, ea, ha⟩ := r_jp d6 pn 8 r A
              rw [U_key c1 w6, L_key q (n28.mpr w6), ea]
              dsimp only
              refine ih2 _ _ _ _ _ _ _ _ _ _ _ _ _ _ _ _ _ _ _ _ _ _ G (zst A d a) d _ rt.1 (fun z => ?_) _ _ _ (by omega) (by omega) (by omega)
              have b := rt.2 z
              refine ⟨d6, by omega, by omega, by omega, xUs_up gu (by omega), by omega, by omega, by omega, nw0, by omega, ?_, ?_⟩
              · rw [nc2]
                exact s_unit (k := 8) (by decide) gs ha
              · rw [nc2, xnm_put (by decide), gn, xupd_s, xupd_2]
            · rcases nr (f := f) (pl := pl) r0 r2 hn with ⟨l0, l7, le⟩ | ⟨l4, ln⟩
              · obtain ⟨a, ea, ha⟩ := r_jp d6 pn (M_railNamed pl fr f) r A
                rw [U_letter c1 w6 l0, L_letter q (by rw [le]; exact ⟨l0, l7⟩), le, ea]
                have uu : (us + 1).toInt = us.toInt + 1 := xadd rfl (by decide) (by have := gu.1; omega) (by omega)
                obtain ⟨kk, hkk, ekk⟩ : ∃ kk : Nat, kk < 8 ∧ (M_railNamed pl fr f) = nI kk := ⟨(M_railNamed pl fr f).toNatClampNeg, by have := xtn l0; omega, (xnI l0).symm⟩
                dsimp only
                refine ih2 _ _ _ _ _ _ _ _ _ _ _ _ _ _ _ _ _ _ _ _ _ _ G (zst A d a) d _ rt.1 (fun z => ?_) _ _ _ (by omega) (by omega) (by omega)
                have b := rt.2 z
                refine ⟨d6, by omega, by omega, by omega, xUs_up (use_add gu (by omega) l0 l7 r0) (by omega), by omega, by omega, by omega, nw0, by omega, ?_, ?_⟩
                · rw [nc2, ekk]
                  rw [ekk] at ha
                  exact s_unit (by omega) gs ha
                · rw [nc2, xnm_put (by omega), gn, xupd_s, xupd_2]
              · rw [U_bad q c1 w6 l4, L_bad q ln (fun z => w6 (n28.mp z))]
                obtain ⟨kc, rfl⟩ : ∃ j, kc = j + 1 := ⟨kc - 1, by omega⟩
                exact F2 _ _ _ _ _ _ _ _ _ _ _ _ _ _ _ _ _ _ _ _ _ _ _ _ _ _ _ _ (xR_no rfl (by dsimp only; decide) rfl) (by dsimp only; decide) _ 99999 _
          · have s1 : so.toInt ≠ 1 := fun z => c1 ((xK1 k).1.mpr z)
            have s3 : so.toInt ≠ 3 := by unfold xK at k; omega
            rw [C_want q (by omega) (by decide) (by decide), U_other q c40 c1, R1_other q s3 s1]
            obtain ⟨kc, rfl⟩ : ∃ j, kc = j + 1 := ⟨kc - 1, by omega⟩
            exact F2 _ _ _ _ _ _ _ _ _ _ _ _ _ _ _ _ _ _ _ _ _ _ _ _ _ _ _ _ (xR_no rfl (by dsimp only; decide) rfl) (by dsimp only; decide) _ 99999 _
      · exact F1 _ _ _ _ _ _ _ _ _ _ _ _ _ _ _ _ _ _ _ _ _ _ _ _ _ _ _ h q _ _ _
    · obtain ⟨kc, rfl⟩ : ∃ j, kc = j + 1 := ⟨kc - 1, by omega⟩
      obtain ⟨k2, rfl⟩ : ∃ j, k2 = j + 1 := ⟨k2 - 1, by omega⟩
      obtain ⟨k3, rfl⟩ : ∃ j, k3 = j + 1 := ⟨k3 - 1, by omega⟩
      by_cases q : fl.toInt = 0
      · obtain ⟨d6, gm, i0, i1, gu, gl, g0, nc0, nw0, ncw, gs, gn⟩ := g q
        obtain ⟨e, hp, hw, hk⟩ := h
        subst e
        obtain ⟨e1, e2, r0, r1, r2, r3, k⟩ := hk q
        subst e1
        subst e2
        have dd : (nI d).toInt = (d : Int) := nI_toInt (by omega)
        have ii : (i + 1).toInt = i.toInt + 1 := xadd rfl (by decide) (by omega) (by omega)
        have rt := r_tok (fp := fp) (kd := kd) (mv := mv) (mw := mw) (mr := fr) (so := so) hf hn (by omega) r2 (rfl : fl = fl) q
        by_cases c41 : kd.toInt = 3 ∧ vl.toInt = 41
        · have s4 : so.toInt = 4 := by unfold xK at k; omega
          have lt := r3 (by omega)
          by_cases dl : 0 < d
          · obtain ⟨d, rfl⟩ : ∃ j, d = j + 1 := ⟨d - 1, by omega⟩
            obtain ⟨g1, a, a2, ecd, hga, ha2⟩ := r_cd (show d ≤ 5 by omega) G A
            obtain ⟨nc', nw', c', b1, b2, b3, b4, b5, b6⟩ := r_done 11 gs nc0 nw0 (by omega)
            rw [C_right q (by omega) (by decide) (by decide) c41.1 c41.2 (by omega), R2_right q s4 (by omega), ecd, b1, nIm1 (by omega)]
            obtain ⟨n2, en, gs2⟩ := s_close gs b5 hga ha2
            have y0 := xtn (x := nw') b2
            have y1 : (nw' - 1).toInt = nw'.toInt - 1 := xsub rfl (by decide) (by omega) (by omega)
            have y2 : (nw' - 1).toNatClampNeg = n2 := by
              have := xtn (x := nw' - 1) (by omega)
              omega
            dsimp only
            refine ih2 _ _ _ _ _ _ _ _ _ _ _ _ _ _ _ _ _ _ _ _ _ _ (zst G (d + 1) g1) (zst (zst A (d + 1) a) d a2) d _ rt.1 (fun z => ?_) _ _ _ (by omega) (by omega) (by omega)
            have b := rt.2 z
            refine ⟨by omega, by omega, by omega, by omega, xUs_up gu (by omega), by omega, by omega, by omega, by omega, by omega, ?_, ?_⟩
            · rw [y2]
              exact gs2
            · rw [b6]
              exact gn
          · obtain rfl : d = 0 := by omega
            obtain ⟨kc, rfl⟩ : ∃ j, kc = j + 1 := ⟨kc - 1, by omega⟩
            obtain ⟨k2, rfl⟩ : ∃ j, k2 = j + 1 := ⟨k2 - 1, by omega⟩
            rw [R2_right0 q s4 (by omega), R2_fault (by decide), show K_readFormula_L3 pt r n f (kc + 1 + 1) i 1 0 rf pn pl kd fr vl (nI 0) fl fp (G 0) (G 1) (G 2) (G 3) (G 4) (G 5) (G 6) (A 0) (A 1) (A 2) (A 3) (A 4) (A 5) (A 6) = _ from C_last q (by omega) (by decide) (by decide) (by omega) kc, if_pos (by omega)]
            exact Or.inr ⟨q, c41.1, c41.2, rfl, rfl⟩
        · by_cases op : kd.toInt = 3 ∧ vl.toInt = 38
          · have s5 : so.toInt = 5 := by unfold xK at k; omega
            have lt := r3 (by omega)
            obtain ⟨nc', nw', c', b1, b2, b3, b4, b5, b6⟩ := r_done 10 gs nc0 nw0 (by omega)
            rw [C_and q (by omega) (by decide) (by decide) op.1 op.2, R2_and q s5, b1]
            have y1 : (nw' + 1).toInt = nw'.toInt + 1 := xadd rfl (by decide) (by omega) (by omega)
            have y2 : (nw' + 1).toNatClampNeg = nw'.toNatClampNeg + 1 := xtn1 b2 y1
            dsimp only
            refine ih1 _ _ _ _ _ _ _ _ _ _ _ _ _ _ _ _ _ _ _ _ _ _ G A d _ rt.1 (fun z => ?_) _ _ _ (by omega) (by omega) (by omega)
            have b := rt.2 z
            refine ⟨d6, by omega, by omega, by omega, xUs_up gu (by omega), by omega, by omega, by omega, by omega, by omega, ?_, ?_⟩
            · rw [y2]
              exact s_and gs b5
            · rw [b6]
              exact gn
          · by_cases op2 : kd.toInt = 3 ∧ vl.toInt = 124
            · have s6 : so.toInt = 6 := by unfold xK at k; omega
              have lt := r3 (by omega)
              obtain ⟨g1, a, ea, hga⟩ := r_ja d6 G A
              obtain ⟨nc', nw', c', b1, b2, b3, b4, b5, b6⟩ := r_done 11 gs nc0 nw0 (by omega)
              rw [C_or q (by omega) (by decide) (by decide) op2.1 op2.2, R2_or q s6, b1, ea]
              have y1 : (nw' + 1).toInt = nw'.toInt + 1 := xadd rfl (by decide) (by omega) (by omega)
              have y2 : (nw' + 1).toNatClampNeg = nw'.toNatClampNeg + 1 := xtn1 b2 y1
              dsimp only [xt7]
              refine ih1 _ _ _ _ _ _ _ _ _ _ _ _ _ _ _ _ _ _ _ _ _ _ (zst G d g1) (zst A d a) d _ rt.1 (fun z => ?_) _ _ _ (by omega) (by omega) (by omega)
              have b := rt.2 z
              refine ⟨d6, by omega, by omega, by omega, xUs_up gu (by omega), by omega, by omega, by omega, by omega, by omega, ?_, ?_⟩
              · rw [y2]
                exact s_or gs b5 hga
              · rw [b6]
                exact gn
            · have ss : so.toInt ≠ 4 ∧ so.toInt ≠ 5 ∧ so.toInt ≠ 6 := by unfold xK at k; omega
              obtain ⟨kc, rfl⟩ : ∃ j, kc = j + 1 := ⟨kc - 1, by omega⟩
              rw [R2_end q ss.1 ss.2.1 ss.2.2, show K_readFormula_L3 pt r n f (kc + 1 + 1) i 1 0 rf pn pl kd fr vl (nI d) fl fp (G 0) (G 1) (G 2) (G 3) (G 4) (G 5) (G 6) (A 0) (A 1) (A 2) (A 3) (A 4) (A 5) (A 6) = _ from C_last q (by omega) (by decide) (by decide) (by omega) kc]
              by_cases dz : d = 0
              · subst dz
                obtain ⟨g1, a, ea, hga⟩ := r_ja d6 G A
                obtain ⟨nc', nw', c', b1, b2, b3, b4, b5, b6⟩ := r_done 11 gs nc0 nw0 (by omega)
                have fin := s_end gs b5 (fun x hx => (hga x hx).1)
                rw [if_pos (by omega), if_pos (by omega), ea, b1]
                exact Or.inl ⟨xR_ok rfl q r0 r1 r2 r3 k rfl, fun _ => ⟨gu, gl, g0, by show 0 ≤ nc'.toInt; omega, by show nc'.toInt ≤ fr.toInt; omega, by rw [b6]; exact gn, g1, rfl, fin.1, fin.2.1, fin.2.2⟩⟩
              · rw [if_neg (by omega), if_neg (by omega)]
                exact fin_fault (xR_no rfl (by decide) rfl) (by decide)
      · exact F2 _ _ _ _ _ _ _ _ _ _ _ _ _ _ _ _ _ _ _ _ _ _ _ _ _ _ _ _ h q _ _ _
-- 71.keep
theorem u01 {p : Nat → Int32} {i : Nat} {x : Int32} (h : p 0 = 0 ∨ p 0 = 1) (hx : x = 0 ∨ x = 1) : upd p i x 0 = 0 ∨ upd p i x 0 = 1 := by
  by_cases q : 0 = i
  · rw [← q, xupd_s]
    exact hx
  · rw [xupd_o q]
    exact h
theorem w01_L {c : Nat → Int32} {nc s : Int32} : ∀ (k : Nat) (x h : Int32) (p : Nat → Int32), (p 0 = 0 ∨ p 0 = 1) → (K_m_worth_L2 nc c s k x h p).1 = 0 ∨ (K_m_worth_L2 nc c s k x h p).1 = 1 := by
  have n0 : vp_nar .boolean (0 : Int32) = 0 := by decide
  have n1 : vp_nar .boolean (1 : Int32) = 1 := by decide
  intro k
  induction k with
  | zero => exact fun _ _ _ _ => Or.inl rfl
  | succ k ih =>
    intro x h p hp
    simp only [K_m_worth_L2, K_m_worth_3, K_m_worth_13, K_m_worth_15, K_m_worth_16, K_m_worth_14, K_m_worth_8, K_m_worth_11, K_m_worth_12, K_m_worth_10, K_m_worth_9, K_m_worth_7, K_m_worth_5, K_m_worth_18, K_m_worth_17, K_m_worth_6, K_m_worth_4, K_m_worth_2, K_m_worth_1, M_m_worth, n0, n1]
    repeat' split
    all_goals first | exact hp | exact ih _ _ _ (u01 hp (Or.inl rfl)) | exact ih _ _ _ (u01 hp (Or.inr rfl))
theorem r_worth2 {c p : Nat → Int32} {nc : Int32} {s : Nat} {b : Bool} (hs : s < 512) (h0 : 0 ≤ nc.toInt) (h4 : nc.toInt ≤ 400) (hl : ∀ j : Nat, j < nc.toNatClampNeg → 0 ≤ (c j).toInt ∧ ((c j).toInt < 9 ∨ (c j).toInt = 10 ∨ (c j).toInt = 11)) (wk : xwk c nc.toNatClampNeg) (hv : xev c s nc.toNatClampNeg = [b]) : vp_nar .boolean (M_m_worth nc c (nI s) p).1 = if b = true then 1 else 0 := by
  have n0 : vp_nar .boolean (0 : Int32) = 0 := by decide
  have n1 : vp_nar .boolean (1 : Int32) = 1 := by decide
  have c0 : (0 : Int32).toNatClampNeg = 0 := by decide
  have z0 : (0 : Int32).toInt = 0 := by decide
  have ncn := xtn (x := nc) h0
  have r := r_worth (p := p) hs h0 h4 (fun j hj => hl j (by omega)) wk hv
  have pos : 0 < nc.toNatClampNeg := by
    rcases Nat.eq_zero_or_pos nc.toNatClampNeg with z | z
    · rw [z] at hv
      exact absurd hv (by simp [xev])
    · exact z
  have l0 : (c 0).toInt < 9 := by
    by_cases z : 9 ≤ (c 0).toInt
    · obtain ⟨y, x, t, e⟩ := wk 0 pos z s hs
      exact absurd e (by simp [xev])
    · omega
  have e : (M_m_worth nc c (nI s) p).1 = 0 ∨ (M_m_worth nc c (nI s) p).1 = 1 := by
    have go : M_m_worth nc c (nI s) p = if ((nI s >>> (c 0 &&& 31)) &&& (1 : Int32)).toInt = 1 then K_m_worth_L2 nc c (nI s) 99999 (0 + 1) (0 + 1) (upd p 0 1) else K_m_worth_L2 nc c (nI s) 99999 (0 + 1) (0 + 1) (upd p 0 0) := by
      show K_m_worth_L2 nc c (nI s) (99999 + 1) 0 0 p = _
      generalize 99999 = j
      simp only [K_m_worth_L2, K_m_worth_3, K_m_worth_13, K_m_worth_15, K_m_worth_16, K_m_worth_14, K_m_worth_8, K_m_worth_11, K_m_worth_12, K_m_worth_10, K_m_worth_9, K_m_worth_7, K_m_worth_5, K_m_worth_18, K_m_worth_17, K_m_worth_6, K_m_worth_4, K_m_worth_2, K_m_worth_1, M_m_worth, n0, n1, c0]
      rw [if_neg (by omega), if_neg (by omega)]
    rw [go]
    split
    · exact w01_L _ _ _ _ (Or.inr xupd_s)
    · exact w01_L _ _ _ _ (Or.inl xupd_s)
  rcases e with e | e
  · rw [e, n0]
    rw [e] at r
    have : b = false := r.mp z0
    rw [this]
    rfl
  · rw [e, n1]
    rw [e] at r
    have : b = true := by
      cases b
      · exact absurd (r.mpr rfl) (by decide)
      · rfl
    rw [this]
    rfl
theorem b_kt {f c : Nat → Int32} {nc : Int32} {q : Nat} {v : Nat → Bool} (hq : q < 8) (h0 : 0 ≤ nc.toInt) (h4 : nc.toInt ≤ 400) (hl : ∀ j : Nat, j < nc.toNatClampNeg → 0 ≤ (c j).toInt ∧ ((c j).toInt < 9 ∨ (c j).toInt = 10 ∨ (c j).toInt = 11)) (wk : xwk c nc.toNatClampNeg) (hv : ∀ s, s < 512 → xev c s nc.toNatClampNeg = [v s]) : ∀ (m x k : Nat) (T P : Nat → Int32), x + m = 512 → ∃ T' P' : Nat → Int32, K_m_keepFormula_L5 f (nI q) nc c (k + m + 1) (nI x) T P = (f, T', P') ∧ (∀ s, x ≤ s → s < 512 → T' (512 * q + s) = if v s = true then 1 else 0) ∧ (∀ j, j < 512 * q + x ∨ 512 * q + 512 ≤ j → T' j = T j) := by
  intro m
  induction m with
  | zero =>
    intro x k T P hx
    have ex : (nI x).toInt = (x : Int) := nI_toInt (by omega)
    refine ⟨T, P, ?_, fun s a b => absurd a (by omega), fun j _ => rfl⟩
    simp only [K_m_keepFormula_L5, K_m_keepFormula_6, K_m_keepFormula_8, K_m_keepFormula_7, K_m_keepFormula_5, K_m_keepFormula_3, K_m_keepFormula_9, K_m_keepFormula_10, K_m_keepFormula_4, K_m_keepFormula_2, K_m_keepFormula_1, M_m_keepFormula]
    rw [if_pos (by omega)]
  | succ m ih =>
    intro x k T P hx
    have ex : (nI x).toInt = (x : Int) := nI_toInt (by omega)
    have ei : ((512 : Int32) * nI q + nI x).toNatClampNeg = 512 * q + x := by
      have e1 : (512 : Int32) * nI q = nI (512 * q) := pk_mul 512 q
      rw [e1, nI_add, nI_clamp (by omega)]
    obtain ⟨T', P', a1, a2, a3⟩ := ih (x + 1) k (upd T (512 * q + x) (vp_nar .boolean (M_m_worth nc c (nI x) P).1)) (M_m_worth nc c (nI x) P).2 (by omega)
    have w := r_worth2 (p := P) (show x < 512 by omega) h0 h4 hl wk (hv x (by omega))
    refine ⟨T', P', ?_, fun s s1 s2 => ?_, fun j hj => ?_⟩
    · show K_m_keepFormula_L5 f (nI q) nc c ((k + m + 1) + 1) (nI x) T P = _
      rw [← a1]
      generalize k + m + 1 = j
      simp only [K_m_keepFormula_L5, K_m_keepFormula_6, K_m_keepFormula_8, K_m_keepFormula_7, K_m_keepFormula_5, K_m_keepFormula_3, K_m_keepFormula_9, K_m_keepFormula_10, K_m_keepFormula_4, K_m_keepFormula_2, K_m_keepFormula_1, M_m_keepFormula]
      rw [if_neg (by omega), ei, nI_1]
    · by_cases y : s = x
      · rw [y, a3 (512 * q + x) (by omega), xupd_s, w]
      · exact a2 s (by omega) s2
    · rw [a3 j (by omega), xupd_o (by omega)]
theorem b_kn {f c T P : Nat → Int32} {nc : Int32} {q : Nat} (hq : q < 8) (h0 : 0 ≤ nc.toInt) (h4 : nc.toInt ≤ 400) : ∀ (m x k : Nat), x + m = nc.toNatClampNeg → K_m_keepFormula_L2 nc (nI q) c T P (k + m + 1) (nI x) (upd f q (xnm c x)) = K_m_keepFormula_L5 (upd f q (xnm c (x + m))) (nI q) nc c 100000 0 T P := by
  have ncn := xtn (x := nc) h0
  have eq : (nI q).toNatClampNeg = q := nI_clamp (by omega)
  intro m
  induction m with
  | zero =>
    intro x k hx
    have ex : (nI x).toInt = (x : Int) := nI_toInt (by omega)
    simp only [K_m_keepFormula_L2, K_m_keepFormula_2, K_m_keepFormula_3]
    rw [if_pos (by omega)]
    rfl
  | succ m ih =>
    intro x k hx
    have ex : (nI x).toInt = (x : Int) := nI_toInt (by omega)
    have exc : (nI x).toNatClampNeg = x := nI_clamp (by omega)
    have z := ih (x + 1) k (by omega)
    rw [show x + 1 + m = x + (m + 1) from by omega] at z
    rw [← z]
    show K_m_keepFormula_L2 nc (nI q) c T P ((k + m + 1) + 1) (nI x) (upd f q (xnm c x)) = _
    generalize k + m + 1 = j
    have go : K_m_keepFormula_L2 nc (nI q) c T P (j + 1) (nI x) (upd f q (xnm c x)) = if 9 ≤ (c x).toInt then K_m_keepFormula_L2 nc (nI q) c T P j (nI x + 1) (upd (upd f q (xnm c x)) q (xnm c x ||| 0)) else K_m_keepFormula_L2 nc (nI q) c T P j (nI x + 1) (upd (upd f q (xnm c x)) q (xnm c x ||| ((1 : Int32) <<< (c x &&& 31)))) := by
      simp only [K_m_keepFormula_L2, K_m_keepFormula_2, K_m_keepFormula_4, K_m_keepFormula_9, K_m_keepFormula_10, eq, exc, xupd_s]
      rw [if_neg (by omega)]
    rw [go, xnm, nI_1]
    by_cases y : 9 ≤ (c x).toInt
    · rw [if_pos y, if_pos y, xupd_2]
    · rw [if_neg y, if_neg y, xupd_2]
/-- what the reference keeps of a formula: its names, its table -/
theorem r_keep {c T P f : Nat → Int32} {nc : Int32} {q : Nat} {v : Nat → Bool} (hq : q < 8) (h0 : 0 ≤ nc.toInt) (h4 : nc.toInt ≤ 400) (hl : ∀ j : Nat, j < nc.toNatClampNeg → 0 ≤ (c j).toInt ∧ ((c j).toInt < 9 ∨ (c j).toInt = 10 ∨ (c j).toInt = 11)) (wk : xwk c nc.toNatClampNeg) (hv : ∀ s, s < 512 → xev c s nc.toNatClampNeg = [v s]) : ∃ T' P' : Nat → Int32, M_m_keepFormula nc (nI q) c T P f = (upd f q (xnm c nc.toNatClampNeg), T', P') ∧ (∀ s, s < 512 → T' (512 * q + s) = if v s = true then 1 else 0) ∧ (∀ j, j < 512 * q ∨ 512 * q + 512 ≤ j → T' j = T j) := by
  have ncn := xtn (x := nc) h0
  obtain ⟨T', P', a1, a2, a3⟩ := b_kt (f := upd f q (xnm c nc.toNatClampNeg)) hq h0 h4 hl wk hv 512 0 99487 T P (by omega)
  refine ⟨T', P', ?_, fun s hs => a2 s (by omega) hs, fun j hj => a3 j (by omega)⟩
  rw [← a1]
  have z := b_kn (f := f) (c := c) (T := T) (P := P) hq h0 h4 nc.toNatClampNeg 0 (99999 - nc.toNatClampNeg) (by omega)
  rw [show 99999 - nc.toNatClampNeg + nc.toNatClampNeg + 1 = 100000 from by omega, Nat.zero_add] at z
  have eq : (nI q).toNatClampNeg = q := nI_clamp (by omega)
  show K_m_keepFormula_L2 nc (nI q) c T P 100000 0 (upd f (nI q).toNatClampNeg 0) = _
  rw [eq]
  exact z
-- 72.withs
/-- one RAIL's numbers, on both sides; nothing else is touched -/
def xRw (q : Nat) (pn0 Td0 pn Td : Nat → Int32) : Prop := (∀ k, k < 7 → pn (8 * q + k) = Td (7 * q + k)) ∧ (∀ j, j < 8 * q ∨ 8 * q + 7 ≤ j → pn j = pn0 j) ∧ (∀ j, j < 7 * q ∨ 7 * q + 7 ≤ j → Td j = Td0 j) ∧ 0 ≤ (Td (7 * q + 5)).toInt ∧ (Td (7 * q + 5)).toInt ≤ 9
theorem rw_put {q k : Nat} {x : Int32} {pn0 Td0 pn Td : Nat → Int32} (h : xRw q pn0 Td0 pn Td) (hk : k < 7) (hx : k = 5 → 0 ≤ x.toInt ∧ x.toInt ≤ 9) : xRw q pn0 Td0 (upd pn (8 * q + k) x) (upd Td (7 * q + k) x) := by
  refine ⟨fun j hj => ?_, fun j hj => ?_, fun j hj => ?_, ?_⟩
  · by_cases e : j = k
    · rw [e, xupd_s, xupd_s]
    · rw [xupd_o (by omega), xupd_o (by omega)]
      exact h.1 j hj
  · rw [xupd_o (by omega)]
    exact h.2.1 j hj
  · rw [xupd_o (by omega)]
    exact h.2.2.1 j hj
  · by_cases e : k = 5
    · rw [e, xupd_s]
      exact hx e
    · rw [xupd_o (by omega)]
      exact h.2.2.2
theorem xi8 {q k : Nat} (hq : q < 8) (hk : k < 8) : ((nI q * 8) + nI k).toNatClampNeg = 8 * q + k := by
  have e : nI q * 8 = nI (q * 8) := pk_mul q 8
  rw [e, nI_add, nI_clamp (by omega)]
  omega
theorem xi7 {q k : Nat} (hq : q < 8) (hk : k < 8) : (((7 : Int32) * nI q) + nI k).toNatClampNeg = 7 * q + k := by
  have e : (7 : Int32) * nI q = nI (7 * q) := pk_mul 7 q
  rw [e, nI_add, nI_clamp (by omega)]
theorem t_setN {q k : Nat} {pn : Nat → Int32} {x : Int32} (hq : q < 8) (hk : k < 8) : M_setNumber pn (nI q) (nI k) x = upd pn (8 * q + k) x := by
  simp only [K_setNumber_1, M_setNumber]
  rw [xi8 hq hk]
theorem r_with_fall {f : Nat → Int32} {n pl kd fr vl told fl fp ps mr so mv mf mw had : Int32} {q : Nat} {pn0 Td0 pn Td : Nat → Int32} (hf : ∀ j, 0 ≤ (f j).toInt) (hn : n.toInt ≤ 400) (hq : q < 8) (h : xR n pl kd fr vl fl fp ps mr so mv mf mw) (q0 : fl.toInt = 0) (c1 : kd.toInt = 1) (w : xW2 f fr pl) (hh : xH told had) (hr : xRw q pn0 Td0 pn Td) :
    ∃ (pl' kd' fr' vl' td' fl' fp' ps' mr' so' mv' mf' mw' had' : Int32) (pn' Td' : Nat → Int32), M_readWith pl kd fr vl told pn fl fp (nI q) n f = (pl', kd', fr', vl', td', fl', fp', pn') ∧ (∀ (k : Nat) (us nw dp : Int32) (Tb P Nm c ur ua w : Nat → Int32), K_m_readRail_L7 (nI q) Tb P Nm n f us c ur ua w nw dp (k + 1) had Td ps mr so mv mf mw = K_m_readRail_L7 (nI q) Tb P Nm n f us c ur ua w nw dp k had' Td' ps' mr' so' mv' mf' mw') ∧ xR n pl' kd' fr' vl' fl' fp' ps' mr' so' mv' mf' mw' ∧ (fl'.toInt = 0 → xH td' had' ∧ cn td' = cn told + 1 ∧ pl.toInt ≤ fr'.toInt ∧ (td' &&& 1) = (told &&& 1) ∧ (td' &&& 2) = (told &&& 2) ∧ xRw q pn0 Td0 pn' Td') := by
  obtain ⟨e, hp, hw, hk⟩ := h
  subst e
  obtain ⟨e1, e2, r0, r1, r2, r3, k⟩ := hk q0
  subst e1
  subst e2
  have s1 : so.toInt = 1 := (xK1 k).1.mp c1
  have rt := r_tok (fp := fp) (kd := kd) (mv := mv) (mw := mw) (mr := fr) (so := so) hf hn (by omega) r2 (rfl : fl = fl) q0
  have x4 : xR n pl kd fr vl 4 fr pl fr so mv 4 fr := xR_no rfl (by decide) rfl
  obtain ⟨n20, n21, n22, n23, n24, n25, n26, n27, n28, nle⟩ := nm_some (f := f) (ps := pl) r0 r2 hn
  have vc := n23.mpr w
  have ec : M_m_nameNow pl fr n f = 23 := Int32.toInt_inj.mp (by rw [vc]; decide)
  have hb := fin64 (P := fun x => xHs x 4 (23 - 23)) h4 hh.1.1 hh.1.2
  unfold xHs at hb
  rw [← hh.2] at hb
  have i2 : ¬ (M_isWord kd pl fr 4 f 2).toInt = 0 := by rw [w_fall, if_pos ⟨c1, w⟩]; decide
  by_cases hb0 : (told &&& 4).toInt = 0
  · have o1 := t_once0 (f := f) (n := n) (fl := fl) (fp := fp) (kd := kd) (pl := pl) (fr := fr) (vl := vl) hb0
    generalize hS : M_step n f fl fp kd pl = S at rt o1
    generalize hV : M_m_next fl mv mw n f pl fr so = V at rt
    have rn0 := r_num (lo := 0) (hi := 9) hf hn rt.1
    generalize hT0 : M_takeNumber S.2.2.2.2.1 S.2.1 S.2.2.2.1 0 S.1 S.2.2.1 S.2.2.2.2.2 9 n f = T0 at rn0
    generalize hU0 : M_m_readNumber V.2.2.2.2.1 V.2.2.1 V.2.2.2.1 n f V.1 V.2.1 0 9 V.2.2.2.2.2 = U0 at rn0
    refine ⟨T0.2.1, T0.2.2.1, T0.2.2.2.1, T0.2.2.2.2.1, told ||| 4, T0.2.2.2.2.2.1, T0.2.2.2.2.2.2, U0.2.1, U0.2.2.1, U0.2.2.2.1, U0.2.2.2.2.1, U0.2.2.2.2.2.1, U0.2.2.2.2.2.2, had ||| ((1 : Int32) <<< (((23 : Int32) - 23) &&& 31)), (upd pn (8 * q + 2) T0.1), (upd Td (7 * q + 2) U0.1), ?_, fun k us nw dp Tb P Nm c ur ua w => ?_, rn0.1, ?_⟩
    · simp only [K_readWith_14, K_readWith_12, K_readWith_17, K_readWith_16, K_readWith_15, K_readWith_13, K_readWith_11, K_readWith_9, K_readWith_20, K_readWith_19, K_readWith_18, K_readWith_10, K_readWith_8, K_readWith_6, K_readWith_25, K_readWith_24, K_readWith_23, K_readWith_22, K_readWith_21, K_readWith_7, K_readWith_5, K_readWith_3, K_readWith_28, K_readWith_27, K_readWith_26, K_readWith_4, K_readWith_2, K_readWith_1, M_readWith]
      rw [if_neg i2, o1, hT0, show M_setNumber pn (nI q) 2 T0.1 = _ from t_setN (k := 2) hq (by decide)]
    · simp only [K_m_readRail_L7, K_m_readRail_17, K_m_readRail_15, K_m_readRail_19, K_m_readRail_18, K_m_readRail_27, K_m_readRail_25, K_m_readRail_26, K_m_readRail_24, K_m_readRail_23, K_m_readRail_22, K_m_readRail_21, K_m_readRail_20, K_m_readRail_16, K_m_readRail_14, K_m_readRail_12, K_m_readRail_13, K_m_readRail_11, K_m_readRail_9, K_m_readRail_10, K_m_readRail_8, K_m_readRail_7, K_m_readRail_5, K_m_readRail_6, K_m_readRail_4, K_m_readRail_28, K_m_readRail_3, K_m_readRail_30, K_m_readRail_29, K_m_readRail_51, K_m_readRail_49, K_m_readRail_50, K_m_readRail_48, K_m_readRail_47, K_m_readRail_46, K_m_readRail_45, K_m_readRail_44, K_m_readRail_35, K_m_readRail_43, K_m_readRail_41, K_m_readRail_42, K_m_readRail_40, K_m_readRail_39, K_m_readRail_38, K_m_readRail_37, K_m_readRail_36, K_m_readRail_34, K_m_readRail_33, K_m_readRail_32, K_m_readRail_31, K_m_readRail_55, K_m_readRail_54, K_m_readRail_52, K_m_readRail_57, K_m_readRail_56, K_m_readRail_53, K_m_readRail_1, M_m_readRail]
      rw [if_pos q0, if_pos s1, ec, if_neg (by decide : ¬ (23 : Int32).toInt = 27), if_pos (by decide : (23 : Int) ≤ (23 : Int32).toInt ∧ (23 : Int32).toInt ≤ 26), t_wants1, if_pos q0, if_pos (hb.1.mp hb0), t_wants1]
      simp only [K_m_readWith_14, K_m_readWith_4, K_m_readWith_12, K_m_readWith_11, K_m_readWith_13, K_m_readWith_6, K_m_readWith_10, K_m_readWith_8, K_m_readWith_9, K_m_readWith_7, K_m_readWith_5, K_m_readWith_3, K_m_readWith_2, K_m_readWith_15, K_m_readWith_1, M_m_readWith]
      rw [if_pos (by decide : (23 : Int32).toInt = 23), hV, hU0, show (((7 : Int32) * nI q) + 2).toNatClampNeg = _ from xi7 (k := 2) hq (by decide)]
    · intro z
      have a0 := rn0.2 z
      have b0 := rt.2 a0.1
      have b1 := (rt.1.2.2.2 a0.1).2.2.2.1
      refine ⟨⟨hb.2.1, hb.2.2.1⟩, hb.2.2.2.1 hb0, by omega, hb.2.2.2.2.1, hb.2.2.2.2.2, ?_⟩
      rw [a0.2.1]
      exact (rw_put hr (by decide : 2 < 7) (fun y => absurd y (by decide)))
  · have o1 := t_once1 (f := f) (n := n) (fl := fl) (fp := fp) (kd := kd) (pl := pl) (fr := fr) (vl := vl) hb0 q0
    have rn0 := r_num (lo := 0) (hi := 9) hf hn x4
    generalize hT0 : M_takeNumber 4 kd vl 0 pl fr fr 9 n f = T0 at rn0
    generalize hU0 : M_m_readNumber 4 so mv n f pl fr 0 9 fr = U0 at rn0
    refine ⟨T0.2.1, T0.2.2.1, T0.2.2.2.1, T0.2.2.2.2.1, told, T0.2.2.2.2.2.1, T0.2.2.2.2.2.2, U0.2.1, U0.2.2.1, U0.2.2.2.1, U0.2.2.2.2.1, U0.2.2.2.2.2.1, U0.2.2.2.2.2.2, had ||| ((1 : Int32) <<< (((23 : Int32) - 23) &&& 31)), (upd pn (8 * q + 2) T0.1), (upd Td (7 * q + 2) U0.1), ?_, fun k us nw dp Tb P Nm c ur ua w => ?_, rn0.1, ?_⟩
    · simp only [K_readWith_14, K_readWith_12, K_readWith_17, K_readWith_16, K_readWith_15, K_readWith_13, K_readWith_11, K_readWith_9, K_readWith_20, K_readWith_19, K_readWith_18, K_readWith_10, K_readWith_8, K_readWith_6, K_readWith_25, K_readWith_24, K_readWith_23, K_readWith_22, K_readWith_21, K_readWith_7, K_readWith_5, K_readWith_3, K_readWith_28, K_readWith_27, K_readWith_26, K_readWith_4, K_readWith_2, K_readWith_1, M_readWith]
      rw [if_neg i2, o1, hT0, show M_setNumber pn (nI q) 2 T0.1 = _ from t_setN (k := 2) hq (by decide)]
    · simp only [K_m_readRail_L7, K_m_readRail_17, K_m_readRail_15, K_m_readRail_19, K_m_readRail_18, K_m_readRail_27, K_m_readRail_25, K_m_readRail_26, K_m_readRail_24, K_m_readRail_23, K_m_readRail_22, K_m_readRail_21, K_m_readRail_20, K_m_readRail_16, K_m_readRail_14, K_m_readRail_12, K_m_readRail_13, K_m_readRail_11, K_m_readRail_9, K_m_readRail_10, K_m_readRail_8, K_m_readRail_7, K_m_readRail_5, K_m_readRail_6, K_m_readRail_4, K_m_readRail_28, K_m_readRail_3, K_m_readRail_30, K_m_readRail_29, K_m_readRail_51, K_m_readRail_49, K_m_readRail_50, K_m_readRail_48, K_m_readRail_47, K_m_readRail_46, K_m_readRail_45, K_m_readRail_44, K_m_readRail_35, K_m_readRail_43, K_m_readRail_41, K_m_readRail_42, K_m_readRail_40, K_m_readRail_39, K_m_readRail_38, K_m_readRail_37, K_m_readRail_36, K_m_readRail_34, K_m_readRail_33, K_m_readRail_32, K_m_readRail_31, K_m_readRail_55, K_m_readRail_54, K_m_readRail_52, K_m_readRail_57, K_m_readRail_56, K_m_readRail_53, K_m_readRail_1, M_m_readRail]
      rw [if_pos q0, if_pos s1, ec, if_neg (by decide : ¬ (23 : Int32).toInt = 27), if_pos (by decide : (23 : Int) ≤ (23 : Int32).toInt ∧ (23 : Int32).toInt ≤ 26), t_wants1, if_pos q0, if_neg (fun z => hb0 (hb.1.mpr z)), t_wantsF q0]
      simp only [K_m_readWith_14, K_m_readWith_4, K_m_readWith_12, K_m_readWith_11, K_m_readWith_13, K_m_readWith_6, K_m_readWith_10, K_m_readWith_8, K_m_readWith_9, K_m_readWith_7, K_m_readWith_5, K_m_readWith_3, K_m_readWith_2, K_m_readWith_15, K_m_readWith_1, M_m_readWith]
      rw [if_pos (by decide : (23 : Int32).toInt = 23), t_next_id (show 0 < (4 : Int32).toInt from by decide), hU0, show (((7 : Int32) * nI q) + 2).toNatClampNeg = _ from xi7 (k := 2) hq (by decide)]
    · intro z
      exact absurd (rn0.2 z).1 (by decide)
theorem r_with_draw {f : Nat → Int32} {n pl kd fr vl told fl fp ps mr so mv mf mw had : Int32} {q : Nat} {pn0 Td0 pn Td : Nat → Int32} (hf : ∀ j, 0 ≤ (f j).toInt) (hn : n.toInt ≤ 400) (hq : q < 8) (h : xR n pl kd fr vl fl fp ps mr so mv mf mw) (q0 : fl.toInt = 0) (c1 : kd.toInt = 1) (w : xW3 f fr pl) (hh : xH told had) (hr : xRw q pn0 Td0 pn Td) :
    ∃ (pl' kd' fr' vl' td' fl' fp' ps' mr' so' mv' mf' mw' had' : Int32) (pn' Td' : Nat → Int32), M_readWith pl kd fr vl told pn fl fp (nI q) n f = (pl', kd', fr', vl', td', fl', fp', pn') ∧ (∀ (k : Nat) (us nw dp : Int32) (Tb P Nm c ur ua w : Nat → Int32), K_m_readRail_L7 (nI q) Tb P Nm n f us c ur ua w nw dp (k + 1) had Td ps mr so mv mf mw = K_m_readRail_L7 (nI q) Tb P Nm n f us c ur ua w nw dp k had' Td' ps' mr' so' mv' mf' mw') ∧ xR n pl' kd' fr' vl' fl' fp' ps' mr' so' mv' mf' mw' ∧ (fl'.toInt = 0 → xH td' had' ∧ cn td' = cn told + 1 ∧ pl.toInt ≤ fr'.toInt ∧ (td' &&& 1) = (told &&& 1) ∧ (td' &&& 2) = (told &&& 2) ∧ xRw q pn0 Td0 pn' Td') := by
  obtain ⟨e, hp, hw, hk⟩ := h
  subst e
  obtain ⟨e1, e2, r0, r1, r2, r3, k⟩ := hk q0
  subst e1
  subst e2
  have s1 : so.toInt = 1 := (xK1 k).1.mp c1
  have rt := r_tok (fp := fp) (kd := kd) (mv := mv) (mw := mw) (mr := fr) (so := so) hf hn (by omega) r2 (rfl : fl = fl) q0
  have x4 : xR n pl kd fr vl 4 fr pl fr so mv 4 fr := xR_no rfl (by decide) rfl
  obtain ⟨n20, n21, n22, n23, n24, n25, n26, n27, n28, nle⟩ := nm_some (f := f) (ps := pl) r0 r2 hn
  have vc := n24.mpr w
  have ec : M_m_nameNow pl fr n f = 24 := Int32.toInt_inj.mp (by rw [vc]; decide)
  have hb := fin64 (P := fun x => xHs x 8 (24 - 23)) h8 hh.1.1 hh.1.2
  unfold xHs at hb
  rw [← hh.2] at hb
  have i2 : (M_isWord kd pl fr 4 f 2).toInt = 0 := by rw [w_fall, if_neg (fun z => absurd (n23.mpr z.2) (by omega))]; decide
  have i3 : ¬ (M_isWord kd pl fr 4 f 3).toInt = 0 := by rw [w_draw, if_pos ⟨c1, w⟩]; decide
  by_cases hb0 : (told &&& 8).toInt = 0
  · have o1 := t_once0 (f := f) (n := n) (fl := fl) (fp := fp) (kd := kd) (pl := pl) (fr := fr) (vl := vl) hb0
    generalize hS : M_step n f fl fp kd pl = S at rt o1
    generalize hV : M_m_next fl mv mw n f pl fr so = V at rt
    have rn0 := r_num (lo := 0) (hi := 99) hf hn rt.1
    generalize hT0 : M_takeNumber S.2.2.2.2.1 S.2.1 S.2.2.2.1 0 S.1 S.2.2.1 S.2.2.2.2.2 99 n f = T0 at rn0
    generalize hU0 : M_m_readNumber V.2.2.2.2.1 V.2.2.1 V.2.2.2.1 n f V.1 V.2.1 0 99 V.2.2.2.2.2 = U0 at rn0
    have rn1 := r_num (lo := 0) (hi := 99) hf hn rn0.1
    generalize hT1 : M_takeNumber T0.2.2.2.2.2.1 T0.2.2.1 T0.2.2.2.2.1 0 T0.2.1 T0.2.2.2.1 T0.2.2.2.2.2.2 99 n f = T1 at rn1
    generalize hU1 : M_m_readNumber U0.2.2.2.2.2.1 U0.2.2.2.1 U0.2.2.2.2.1 n f U0.2.1 U0.2.2.1 0 99 U0.2.2.2.2.2.2 = U1 at rn1
    refine ⟨T1.2.1, T1.2.2.1, T1.2.2.2.1, T1.2.2.2.2.1, told ||| 8, T1.2.2.2.2.2.1, T1.2.2.2.2.2.2, U1.2.1, U1.2.2.1, U1.2.2.2.1, U1.2.2.2.2.1, U1.2.2.2.2.2.1, U1.2.2.2.2.2.2, had ||| ((1 : Int32) <<< (((24 : Int32) - 23) &&& 31)), (upd (upd pn (8 * q + 3) T0.1) (8 * q + 4) T1.1), (upd (upd Td (7 * q + 3) U0.1) (7 * q + 4) U1.1), ?_, fun k us nw dp Tb P Nm c ur ua w => ?_, rn1.1, ?_⟩
    · simp only [K_readWith_14, K_readWith_12, K_readWith_17, K_readWith_16, K_readWith_15, K_readWith_13, K_readWith_11, K_readWith_9, K_readWith_20, K_readWith_19, K_readWith_18, K_readWith_10, K_readWith_8, K_readWith_6, K_readWith_25, K_readWith_24, K_readWith_23, K_readWith_22, K_readWith_21, K_readWith_7, K_readWith_5, K_readWith_3, K_readWith_28, K_readWith_27, K_readWith_26, K_readWith_4, K_readWith_2, K_readWith_1, M_readWith]
      rw [if_pos i2, if_neg i3, o1, hT0, hT1, show M_setNumber pn (nI q) 3 T0.1 = _ from t_setN (k := 3) hq (by decide), show M_setNumber (upd pn (8 * q + 3) T0.1) (nI q) 4 T1.1 = _ from t_setN (k := 4) hq (by decide)]
    · simp only [K_m_readRail_L7, K_m_readRail_17, K_m_readRail_15, K_m_readRail_19, K_m_readRail_18, K_m_readRail_27, K_m_readRail_25, K_m_readRail_26, K_m_readRail_24, K_m_readRail_23, K_m_readRail_22, K_m_readRail_21, K_m_readRail_20, K_m_readRail_16, K_m_readRail_14, K_m_readRail_12, K_m_readRail_13, K_m_readRail_11, K_m_readRail_9, K_m_readRail_10, K_m_readRail_8, K_m_readRail_7, K_m_readRail_5, K_m_readRail_6, K_m_readRail_4, K_m_readRail_28, K_m_readRail_3, K_m_readRail_30, K_m_readRail_29, K_m_readRail_51, K_m_readRail_49, K_m_readRail_50, K_m_readRail_48, K_m_readRail_47, K_m_readRail_46, K_m_readRail_45, K_m_readRail_44, K_m_readRail_35, K_m_readRail_43, K_m_readRail_41, K_m_readRail_42, K_m_readRail_40, K_m_readRail_39, K_m_readRail_38, K_m_readRail_37, K_m_readRail_36, K_m_readRail_34, K_m_readRail_33, K_m_readRail_32, K_m_readRail_31, K_m_readRail_55, K_m_readRail_54, K_m_readRail_52, K_m_readRail_57, K_m_readRail_56, K_m_readRail_53, K_m_readRail_1, M_m_readRail]
      rw [if_pos q0, if_pos s1, ec, if_neg (by decide : ¬ (24 : Int32).toInt = 27), if_pos (by decide : (23 : Int) ≤ (24 : Int32).toInt ∧ (24 : Int32).toInt ≤ 26), t_wants1, if_pos q0, if_pos (hb.1.mp hb0), t_wants1]
      simp only [K_m_readWith_14, K_m_readWith_4, K_m_readWith_12, K_m_readWith_11, K_m_readWith_13, K_m_readWith_6, K_m_readWith_10, K_m_readWith_8, K_m_readWith_9, K_m_readWith_7, K_m_readWith_5, K_m_readWith_3, K_m_readWith_2, K_m_readWith_15, K_m_readWith_1, M_m_readWith]
      rw [if_neg (by decide : ¬ (24 : Int32).toInt = 23), if_pos (by decide : (24 : Int32).toInt = 24), hV, hU0, hU1, show (((7 : Int32) * nI q) + 3).toNatClampNeg = _ from xi7 (k := 3) hq (by decide), show (((7 : Int32) * nI q) + 4).toNatClampNeg = _ from xi7 (k := 4) hq (by decide)]
    · intro z
      have a1 := rn1.2 z
      have a0 := rn0.2 a1.1
      have b0 := rt.2 a0.1
      have b1 := (rt.1.2.2.2 a0.1).2.2.2.1
      have d1 := (rn0.1.2.2.2 a1.1).2.2.2.1
      refine ⟨⟨hb.2.1, hb.2.2.1⟩, hb.2.2.2.1 hb0, by omega, hb.2.2.2.2.1, hb.2.2.2.2.2, ?_⟩
      rw [a0.2.1, a1.2.1]
      exact (rw_put (rw_put hr (by decide : 3 < 7) (fun y => absurd y (by decide))) (by decide : 4 < 7) (fun y => absurd y (by decide)))
  · have o1 := t_once1 (f := f) (n := n) (fl := fl) (fp := fp) (kd := kd) (pl := pl) (fr := fr) (vl := vl) hb0 q0
    have rn0 := r_num (lo := 0) (hi := 99) hf hn x4
    generalize hT0 : M_takeNumber 4 kd vl 0 pl fr fr 99 n f = T0 at rn0
    generalize hU0 : M_m_readNumber 4 so mv n f pl fr 0 99 fr = U0 at rn0
    have rn1 := r_num (lo := 0) (hi := 99) hf hn rn0.1
    generalize hT1 : M_takeNumber T0.2.2.2.2.2.1 T0.2.2.1 T0.2.2.2.2.1 0 T0.2.1 T0.2.2.2.1 T0.2.2.2.2.2.2 99 n f = T1 at rn1
    generalize hU1 : M_m_readNumber U0.2.2.2.2.2.1 U0.2.2.2.1 U0.2.2.2.2.1 n f U0.2.1 U0.2.2.1 0 99 U0.2.2.2.2.2.2 = U1 at rn1
    refine ⟨T1.2.1, T1.2.2.1, T1.2.2.2.1, T1.2.2.2.2.1, told, T1.2.2.2.2.2.1, T1.2.2.2.2.2.2, U1.2.1, U1.2.2.1, U1.2.2.2.1, U1.2.2.2.2.1, U1.2.2.2.2.2.1, U1.2.2.2.2.2.2, had ||| ((1 : Int32) <<< (((24 : Int32) - 23) &&& 31)), (upd (upd pn (8 * q + 3) T0.1) (8 * q + 4) T1.1), (upd (upd Td (7 * q + 3) U0.1) (7 * q + 4) U1.1), ?_, fun k us nw dp Tb P Nm c ur ua w => ?_, rn1.1, ?_⟩
    · simp only [K_readWith_14, K_readWith_12, K_readWith_17, K_readWith_16, K_readWith_15, K_readWith_13, K_readWith_11, K_readWith_9, K_readWith_20, K_readWith_19, K_readWith_18, K_readWith_10, K_readWith_8, K_readWith_6, K_readWith_25, K_readWith_24, K_readWith_23, K_readWith_22, K_readWith_21, K_readWith_7, K_readWith_5, K_readWith_3, K_readWith_28, K_readWith_27, K_readWith_26, K_readWith_4, K_readWith_2, K_readWith_1, M_readWith]
      rw [if_pos i2, if_neg i3, o1, hT0, hT1, show M_setNumber pn (nI q) 3 T0.1 = _ from t_setN (k := 3) hq (by decide), show M_setNumber (upd pn (8 * q + 3) T0.1) (nI q) 4 T1.1 = _ from t_setN (k := 4) hq (by decide)]
    · simp only [K_m_readRail_L7, K_m_readRail_17, K_m_readRail_15, K_m_readRail_19, K_m_readRail_18, K_m_readRail_27, K_m_readRail_25, K_m_readRail_26, K_m_readRail_24, K_m_readRail_23, K_m_readRail_22, K_m_readRail_21, K_m_readRail_20, K_m_readRail_16, K_m_readRail_14, K_m_readRail_12, K_m_readRail_13, K_m_readRail_11, K_m_readRail_9, K_m_readRail_10, K_m_readRail_8, K_m_readRail_7, K_m_readRail_5, K_m_readRail_6, K_m_readRail_4, K_m_readRail_28, K_m_readRail_3, K_m_readRail_30, K_m_readRail_29, K_m_readRail_51, K_m_readRail_49, K_m_readRail_50, K_m_readRail_48, K_m_readRail_47, K_m_readRail_46, K_m_readRail_45, K_m_readRail_44, K_m_readRail_35, K_m_readRail_43, K_m_readRail_41, K_m_readRail_42, K_m_readRail_40, K_m_readRail_39, K_m_readRail_38, K_m_readRail_37, K_m_readRail_36, K_m_readRail_34, K_m_readRail_33, K_m_readRail_32, K_m_readRail_31, K_m_readRail_55, K_m_readRail_54, K_m_readRail_52, K_m_readRail_57, K_m_readRail_56, K_m_readRail_53, K_m_readRail_1, M_m_readRail]
      rw [if_pos q0, if_pos s1, ec, if_neg (by decide : ¬ (24 : Int32).toInt = 27), if_pos (by decide : (23 : Int) ≤ (24 : Int32).toInt ∧ (24 : Int32).toInt ≤ 26), t_wants1, if_pos q0, if_neg (fun z => hb0 (hb.1.mpr z)), t_wantsF q0]
      simp only [K_m_readWith_14, K_m_readWith_4, K_m_readWith_12, K_m_readWith_11, K_m_readWith_13, K_m_readWith_6, K_m_readWith_10, K_m_readWith_8, K_m_readWith_9, K_m_readWith_7, K_m_readWith_5, K_m_readWith_3, K_m_readWith_2, K_m_readWith_15, K_m_readWith_1, M_m_readWith]
      rw [if_neg (by decide : ¬ (24 : Int32).toInt = 23), if_pos (by decide : (24 : Int32).toInt = 24), t_next_id (show 0 < (4 : Int32).toInt from by decide), hU0, hU1, show (((7 : Int32) * nI q) + 3).toNatClampNeg = _ from xi7 (k := 3) hq (by decide), show (((7 : Int32) * nI q) + 4).toNatClampNeg = _ from xi7 (k := 4) hq (by decide)]
    · intro z
      exact absurd (rn0.2 (rn1.2 z).1).1 (by decide)
theorem r_with_wait {f : Nat → Int32} {n pl kd fr vl told fl fp ps mr so mv mf mw had : Int32} {q : Nat} {pn0 Td0 pn Td : Nat → Int32} (hf : ∀ j, 0 ≤ (f j).toInt) (hn : n.toInt ≤ 400) (hq : q < 8) (h : xR n pl kd fr vl fl fp ps mr so mv mf mw) (q0 : fl.toInt = 0) (c1 : kd.toInt = 1) (w : xW4 f fr pl) (hh : xH told had) (hr : xRw q pn0 Td0 pn Td) :
    ∃ (pl' kd' fr' vl' td' fl' fp' ps' mr' so' mv' mf' mw' had' : Int32) (pn' Td' : Nat → Int32), M_readWith pl kd fr vl told pn fl fp (nI q) n f = (pl', kd', fr', vl', td', fl', fp', pn') ∧ (∀ (k : Nat) (us nw dp : Int32) (Tb P Nm c ur ua w : Nat → Int32), K_m_readRail_L7 (nI q) Tb P Nm n f us c ur ua w nw dp (k + 1) had Td ps mr so mv mf mw = K_m_readRail_L7 (nI q) Tb P Nm n f us c ur ua w nw dp k had' Td' ps' mr' so' mv' mf' mw') ∧ xR n pl' kd' fr' vl' fl' fp' ps' mr' so' mv' mf' mw' ∧ (fl'.toInt = 0 → xH td' had' ∧ cn td' = cn told + 1 ∧ pl.toInt ≤ fr'.toInt ∧ (td' &&& 1) = (told &&& 1) ∧ (td' &&& 2) = (told &&& 2) ∧ xRw q pn0 Td0 pn' Td') := by
  obtain ⟨e, hp, hw, hk⟩ := h
  subst e
  obtain ⟨e1, e2, r0, r1, r2, r3, k⟩ := hk q0
  subst e1
  subst e2
  have s1 : so.toInt = 1 := (xK1 k).1.mp c1
  have rt := r_tok (fp := fp) (kd := kd) (mv := mv) (mw := mw) (mr := fr) (so := so) hf hn (by omega) r2 (rfl : fl = fl) q0
  have x4 : xR n pl kd fr vl 4 fr pl fr so mv 4 fr := xR_no rfl (by decide) rfl
  obtain ⟨n20, n21, n22, n23, n24, n25, n26, n27, n28, nle⟩ := nm_some (f := f) (ps := pl) r0 r2 hn
  have vc := n25.mpr w
  have ec : M_m_nameNow pl fr n f = 25 := Int32.toInt_inj.mp (by rw [vc]; decide)
  have hb := fin64 (P := fun x => xHs x 16 (25 - 23)) h16 hh.1.1 hh.1.2
  unfold xHs at hb
  rw [← hh.2] at hb
  have i2 : (M_isWord kd pl fr 4 f 2).toInt = 0 := by rw [w_fall, if_neg (fun z => absurd (n23.mpr z.2) (by omega))]; decide
  have i3 : (M_isWord kd pl fr 4 f 3).toInt = 0 := by rw [w_draw, if_neg (fun z => absurd (n24.mpr z.2) (by omega))]; decide
  have i4 : ¬ (M_isWord kd pl fr 4 f 4).toInt = 0 := by rw [w_wait, if_pos ⟨c1, w⟩]; decide
  by_cases hb0 : (told &&& 16).toInt = 0
  · have o1 := t_once0 (f := f) (n := n) (fl := fl) (fp := fp) (kd := kd) (pl := pl) (fr := fr) (vl := vl) hb0
    generalize hS : M_step n f fl fp kd pl = S at rt o1
    generalize hV : M_m_next fl mv mw n f pl fr so = V at rt
    have rn0 := r_num (lo := 0) (hi := 9) hf hn rt.1
    generalize hT0 : M_takeNumber S.2.2.2.2.1 S.2.1 S.2.2.2.1 0 S.1 S.2.2.1 S.2.2.2.2.2 9 n f = T0 at rn0
    generalize hU0 : M_m_readNumber V.2.2.2.2.1 V.2.2.1 V.2.2.2.1 n f V.1 V.2.1 0 9 V.2.2.2.2.2 = U0 at rn0
    refine ⟨T0.2.1, T0.2.2.1, T0.2.2.2.1, T0.2.2.2.2.1, told ||| 16, T0.2.2.2.2.2.1, T0.2.2.2.2.2.2, U0.2.1, U0.2.2.1, U0.2.2.2.1, U0.2.2.2.2.1, U0.2.2.2.2.2.1, U0.2.2.2.2.2.2, had ||| ((1 : Int32) <<< (((25 : Int32) - 23) &&& 31)), (upd pn (8 * q + 5) T0.1), (upd Td (7 * q + 5) U0.1), ?_, fun k us nw dp Tb P Nm c ur ua w => ?_, rn0.1, ?_⟩
    · simp only [K_readWith_14, K_readWith_12, K_readWith_17, K_readWith_16, K_readWith_15, K_readWith_13, K_readWith_11, K_readWith_9, K_readWith_20, K_readWith_19, K_readWith_18, K_readWith_10, K_readWith_8, K_readWith_6, K_readWith_25, K_readWith_24, K_readWith_23, K_readWith_22, K_readWith_21, K_readWith_7, K_readWith_5, K_readWith_3, K_readWith_28, K_readWith_27, K_readWith_26, K_readWith_4, K_readWith_2, K_readWith_1, M_readWith]
      rw [if_pos i2, if_pos i3, if_neg i4, o1, hT0, show M_setNumber pn (nI q) 5 T0.1 = _ from t_setN (k := 5) hq (by decide)]
    · simp only [K_m_readRail_L7, K_m_readRail_17, K_m_readRail_15, K_m_readRail_19, K_m_readRail_18, K_m_readRail_27, K_m_readRail_25, K_m_readRail_26, K_m_readRail_24, K_m_readRail_23, K_m_readRail_22, K_m_readRail_21, K_m_readRail_20, K_m_readRail_16, K_m_readRail_14, K_m_readRail_12, K_m_readRail_13, K_m_readRail_11, K_m_readRail_9, K_m_readRail_10, K_m_readRail_8, K_m_readRail_7, K_m_readRail_5, K_m_readRail_6, K_m_readRail_4, K_m_readRail_28, K_m_readRail_3, K_m_readRail_30, K_m_readRail_29, K_m_readRail_51, K_m_readRail_49, K_m_readRail_50, K_m_readRail_48, K_m_readRail_47, K_m_readRail_46, K_m_readRail_45, K_m_readRail_44, K_m_readRail_35, K_m_readRail_43, K_m_readRail_41, K_m_readRail_42, K_m_readRail_40, K_m_readRail_39, K_m_readRail_38, K_m_readRail_37, K_m_readRail_36, K_m_readRail_34, K_m_readRail_33, K_m_readRail_32, K_m_readRail_31, K_m_readRail_55, K_m_readRail_54, K_m_readRail_52, K_m_readRail_57, K_m_readRail_56, K_m_readRail_53, K_m_readRail_1, M_m_readRail]
      rw [if_pos q0, if_pos s1, ec, if_neg (by decide : ¬ (25 : Int32).toInt = 27), if_pos (by decide : (23 : Int) ≤ (25 : Int32).toInt ∧ (25 : Int32).toInt ≤ 26), t_wants1, if_pos q0, if_pos (hb.1.mp hb0), t_wants1]
      simp only [K_m_readWith_14, K_m_readWith_4, K_m_readWith_12, K_m_readWith_11, K_m_readWith_13, K_m_readWith_6, K_m_readWith_10, K_m_readWith_8, K_m_readWith_9, K_m_readWith_7, K_m_readWith_5, K_m_readWith_3, K_m_readWith_2, K_m_readWith_15, K_m_readWith_1, M_m_readWith]
      rw [if_neg (by decide : ¬ (25 : Int32).toInt = 23), if_neg (by decide : ¬ (25 : Int32).toInt = 24), if_pos (by decide : (25 : Int32).toInt = 25), hV, hU0, show (((7 : Int32) * nI q) + 5).toNatClampNeg = _ from xi7 (k := 5) hq (by decide)]
    · intro z
      have a0 := rn0.2 z
      have b0 := rt.2 a0.1
      have b1 := (rt.1.2.2.2 a0.1).2.2.2.1
      refine ⟨⟨hb.2.1, hb.2.2.1⟩, hb.2.2.2.1 hb0, by omega, hb.2.2.2.2.1, hb.2.2.2.2.2, ?_⟩
      have z0 : (0 : Int32).toInt = 0 := by decide
      have z9 : (9 : Int32).toInt = 9 := by decide
      have lo9 := a0.2.2.1
      have hi9 := a0.2.2.2.1
      rw [a0.2.1] at lo9 hi9 ⊢
      exact (rw_put hr (by decide : 5 < 7) (fun _ => ⟨by omega, by omega⟩))
  · have o1 := t_once1 (f := f) (n := n) (fl := fl) (fp := fp) (kd := kd) (pl := pl) (fr := fr) (vl := vl) hb0 q0
    have rn0 := r_num (lo := 0) (hi := 9) hf hn x4
    generalize hT0 : M_takeNumber 4 kd vl 0 pl fr fr 9 n f = T0 at rn0
    generalize hU0 : M_m_readNumber 4 so mv n f pl fr 0 9 fr = U0 at rn0
    refine ⟨T0.2.1, T0.2.2.1, T0.2.2.2.1, T0.2.2.2.2.1, told, T0.2.2.2.2.2.1, T0.2.2.2.2.2.2, U0.2.1, U0.2.2.1, U0.2.2.2.1, U0.2.2.2.2.1, U0.2.2.2.2.2.1, U0.2.2.2.2.2.2, had ||| ((1 : Int32) <<< (((25 : Int32) - 23) &&& 31)), (upd pn (8 * q + 5) T0.1), (upd Td (7 * q + 5) U0.1), ?_, fun k us nw dp Tb P Nm c ur ua w => ?_, rn0.1, ?_⟩
    · simp only [K_readWith_14, K_readWith_12, K_readWith_17, K_readWith_16, K_readWith_15, K_readWith_13, K_readWith_11, K_readWith_9, K_readWith_20, K_readWith_19, K_readWith_18, K_readWith_10, K_readWith_8, K_readWith_6, K_readWith_25, K_readWith_24, K_readWith_23, K_readWith_22, K_readWith_21, K_readWith_7, K_readWith_5, K_readWith_3, K_readWith_28, K_readWith_27, K_readWith_26, K_readWith_4, K_readWith_2, K_readWith_1, M_readWith]
      rw [if_pos i2, if_pos i3, if_neg i4, o1, hT0, show M_setNumber pn (nI q) 5 T0.1 = _ from t_setN (k := 5) hq (by decide)]
    · simp only [K_m_readRail_L7, K_m_readRail_17, K_m_readRail_15, K_m_readRail_19, K_m_readRail_18, K_m_readRail_27, K_m_readRail_25, K_m_readRail_26, K_m_readRail_24, K_m_readRail_23, K_m_readRail_22, K_m_readRail_21, K_m_readRail_20, K_m_readRail_16, K_m_readRail_14, K_m_readRail_12, K_m_readRail_13, K_m_readRail_11, K_m_readRail_9, K_m_readRail_10, K_m_readRail_8, K_m_readRail_7, K_m_readRail_5, K_m_readRail_6, K_m_readRail_4, K_m_readRail_28, K_m_readRail_3, K_m_readRail_30, K_m_readRail_29, K_m_readRail_51, K_m_readRail_49, K_m_readRail_50, K_m_readRail_48, K_m_readRail_47, K_m_readRail_46, K_m_readRail_45, K_m_readRail_44, K_m_readRail_35, K_m_readRail_43, K_m_readRail_41, K_m_readRail_42, K_m_readRail_40, K_m_readRail_39, K_m_readRail_38, K_m_readRail_37, K_m_readRail_36, K_m_readRail_34, K_m_readRail_33, K_m_readRail_32, K_m_readRail_31, K_m_readRail_55, K_m_readRail_54, K_m_readRail_52, K_m_readRail_57, K_m_readRail_56, K_m_readRail_53, K_m_readRail_1, M_m_readRail]
      rw [if_pos q0, if_pos s1, ec, if_neg (by decide : ¬ (25 : Int32).toInt = 27), if_pos (by decide : (23 : Int) ≤ (25 : Int32).toInt ∧ (25 : Int32).toInt ≤ 26), t_wants1, if_pos q0, if_neg (fun z => hb0 (hb.1.mpr z)), t_wantsF q0]
      simp only [K_m_readWith_14, K_m_readWith_4, K_m_readWith_12, K_m_readWith_11, K_m_readWith_13, K_m_readWith_6, K_m_readWith_10, K_m_readWith_8, K_m_readWith_9, K_m_readWith_7, K_m_readWith_5, K_m_readWith_3, K_m_readWith_2, K_m_readWith_15, K_m_readWith_1, M_m_readWith]
      rw [if_neg (by decide : ¬ (25 : Int32).toInt = 23), if_neg (by decide : ¬ (25 : Int32).toInt = 24), if_pos (by decide : (25 : Int32).toInt = 25), t_next_id (show 0 < (4 : Int32).toInt from by decide), hU0, show (((7 : Int32) * nI q) + 5).toNatClampNeg = _ from xi7 (k := 5) hq (by decide)]
    · intro z
      exact absurd (rn0.2 z).1 (by decide)
theorem r_with_within {f : Nat → Int32} {n pl kd fr vl told fl fp ps mr so mv mf mw had : Int32} {q : Nat} {pn0 Td0 pn Td : Nat → Int32} (hf : ∀ j, 0 ≤ (f j).toInt) (hn : n.toInt ≤ 400) (hq : q < 8) (h : xR n pl kd fr vl fl fp ps mr so mv mf mw) (q0 : fl.toInt = 0) (c1 : kd.toInt = 1) (w : xW5 f fr pl) (hh : xH told had) (hr : xRw q pn0 Td0 pn Td) :
    ∃ (pl' kd' fr' vl' td' fl' fp' ps' mr' so' mv' mf' mw' had' : Int32) (pn' Td' : Nat → Int32), M_readWith pl kd fr vl told pn fl fp (nI q) n f = (pl', kd', fr', vl', td', fl', fp', pn') ∧ (∀ (k : Nat) (us nw dp : Int32) (Tb P Nm c ur ua w : Nat → Int32), K_m_readRail_L7 (nI q) Tb P Nm n f us c ur ua w nw dp (k + 1) had Td ps mr so mv mf mw = K_m_readRail_L7 (nI q) Tb P Nm n f us c ur ua w nw dp k had' Td' ps' mr' so' mv' mf' mw') ∧ xR n pl' kd' fr' vl' fl' fp' ps' mr' so' mv' mf' mw' ∧ (fl'.toInt = 0 → xH td' had' ∧ cn td' = cn told + 1 ∧ pl.toInt ≤ fr'.toInt ∧ (td' &&& 1) = (told &&& 1) ∧ (td' &&& 2) = (told &&& 2) ∧ xRw q pn0 Td0 pn' Td') := by
  obtain ⟨e, hp, hw, hk⟩ := h
  subst e
  obtain ⟨e1, e2, r0, r1, r2, r3, k⟩ := hk q0
  subst e1
  subst e2
  have s1 : so.toInt = 1 := (xK1 k).1.mp c1
  have rt := r_tok (fp := fp) (kd := kd) (mv := mv) (mw := mw) (mr := fr) (so := so) hf hn (by omega) r2 (rfl : fl = fl) q0
  have x4 : xR n pl kd fr vl 4 fr pl fr so mv 4 fr := xR_no rfl (by decide) rfl
  obtain ⟨n20, n21, n22, n23, n24, n25, n26, n27, n28, nle⟩ := nm_some (f := f) (ps := pl) r0 r2 hn
  have vc := n26.mpr w
  have ec : M_m_nameNow pl fr n f = 26 := Int32.toInt_inj.mp (by rw [vc]; decide)
  have hb := fin64 (P := fun x => xHs x 32 (26 - 23)) h32 hh.1.1 hh.1.2
  unfold xHs at hb
  rw [← hh.2] at hb
  have i2 : (M_isWord kd pl fr 4 f 2).toInt = 0 := by rw [w_fall, if_neg (fun z => absurd (n23.mpr z.2) (by omega))]; decide
  have i3 : (M_isWord kd pl fr 4 f 3).toInt = 0 := by rw [w_draw, if_neg (fun z => absurd (n24.mpr z.2) (by omega))]; decide
  have i4 : (M_isWord kd pl fr 4 f 4).toInt = 0 := by rw [w_wait, if_neg (fun z => absurd (n25.mpr z.2) (by omega))]; decide
  have i5 : ¬ (M_isWord kd pl fr 6 f 5).toInt = 0 := by rw [w_within, if_pos ⟨c1, w⟩]; decide
  by_cases hb0 : (told &&& 32).toInt = 0
  · have o1 := t_once0 (f := f) (n := n) (fl := fl) (fp := fp) (kd := kd) (pl := pl) (fr := fr) (vl := vl) hb0
    generalize hS : M_step n f fl fp kd pl = S at rt o1
    generalize hV : M_m_next fl mv mw n f pl fr so = V at rt
    have rn0 := r_num (lo := 1) (hi := 99) hf hn rt.1
    generalize hT0 : M_takeNumber S.2.2.2.2.1 S.2.1 S.2.2.2.1 1 S.1 S.2.2.1 S.2.2.2.2.2 99 n f = T0 at rn0
    generalize hU0 : M_m_readNumber V.2.2.2.2.1 V.2.2.1 V.2.2.2.1 n f V.1 V.2.1 1 99 V.2.2.2.2.2 = U0 at rn0
    refine ⟨T0.2.1, T0.2.2.1, T0.2.2.2.1, T0.2.2.2.2.1, told ||| 32, T0.2.2.2.2.2.1, T0.2.2.2.2.2.2, U0.2.1, U0.2.2.1, U0.2.2.2.1, U0.2.2.2.2.1, U0.2.2.2.2.2.1, U0.2.2.2.2.2.2, had ||| ((1 : Int32) <<< (((26 : Int32) - 23) &&& 31)), (upd pn (8 * q + 6) T0.1), (upd Td (7 * q + 6) U0.1), ?_, fun k us nw dp Tb P Nm c ur ua w => ?_, rn0.1, ?_⟩
    · simp only [K_readWith_14, K_readWith_12, K_readWith_17, K_readWith_16, K_readWith_15, K_readWith_13, K_readWith_11, K_readWith_9, K_readWith_20, K_readWith_19, K_readWith_18, K_readWith_10, K_readWith_8, K_readWith_6, K_readWith_25, K_readWith_24, K_readWith_23, K_readWith_22, K_readWith_21, K_readWith_7, K_readWith_5, K_readWith_3, K_readWith_28, K_readWith_27, K_readWith_26, K_readWith_4, K_readWith_2, K_readWith_1, M_readWith]
      rw [if_pos i2, if_pos i3, if_pos i4, if_neg i5, o1, hT0, show M_setNumber pn (nI q) 6 T0.1 = _ from t_setN (k := 6) hq (by decide)]
    · simp only [K_m_readRail_L7, K_m_readRail_17, K_m_readRail_15, K_m_readRail_19, K_m_readRail_18, K_m_readRail_27, K_m_readRail_25, K_m_readRail_26, K_m_readRail_24, K_m_readRail_23, K_m_readRail_22, K_m_readRail_21, K_m_readRail_20, K_m_readRail_16, K_m_readRail_14, K_m_readRail_12, K_m_readRail_13, K_m_readRail_11, K_m_readRail_9, K_m_readRail_10, K_m_readRail_8, K_m_readRail_7, K_m_readRail_5, K_m_readRail_6, K_m_readRail_4, K_m_readRail_28, K_m_readRail_3, K_m_readRail_30, K_m_readRail_29, K_m_readRail_51, K_m_readRail_49, K_m_readRail_50, K_m_readRail_48, K_m_readRail_47, K_m_readRail_46, K_m_readRail_45, K_m_readRail_44, K_m_readRail_35, K_m_readRail_43, K_m_readRail_41, K_m_readRail_42, K_m_readRail_40, K_m_readRail_39, K_m_readRail_38, K_m_readRail_37, K_m_readRail_36, K_m_readRail_34, K_m_readRail_33, K_m_readRail_32, K_m_readRail_31, K_m_readRail_55, K_m_readRail_54, K_m_readRail_52, K_m_readRail_57, K_m_readRail_56, K_m_readRail_53, K_m_readRail_1, M_m_readRail]
      rw [if_pos q0, if_pos s1, ec, if_neg (by decide : ¬ (26 : Int32).toInt = 27), if_pos (by decide : (23 : Int) ≤ (26 : Int32).toInt ∧ (26 : Int32).toInt ≤ 26), t_wants1, if_pos q0, if_pos (hb.1.mp hb0), t_wants1]
      simp only [K_m_readWith_14, K_m_readWith_4, K_m_readWith_12, K_m_readWith_11, K_m_readWith_13, K_m_readWith_6, K_m_readWith_10, K_m_readWith_8, K_m_readWith_9, K_m_readWith_7, K_m_readWith_5, K_m_readWith_3, K_m_readWith_2, K_m_readWith_15, K_m_readWith_1, M_m_readWith]
      rw [if_neg (by decide : ¬ (26 : Int32).toInt = 23), if_neg (by decide : ¬ (26 : Int32).toInt = 24), if_neg (by decide : ¬ (26 : Int32).toInt = 25), hV, hU0, show (((7 : Int32) * nI q) + 6).toNatClampNeg = _ from xi7 (k := 6) hq (by decide)]
    · intro z
      have a0 := rn0.2 z
      have b0 := rt.2 a0.1
      have b1 := (rt.1.2.2.2 a0.1).2.2.2.1
      refine ⟨⟨hb.2.1, hb.2.2.1⟩, hb.2.2.2.1 hb0, by omega, hb.2.2.2.2.1, hb.2.2.2.2.2, ?_⟩
      rw [a0.2.1]
      exact (rw_put hr (by decide : 6 < 7) (fun y => absurd y (by decide)))
  · have o1 := t_once1 (f := f) (n := n) (fl := fl) (fp := fp) (kd := kd) (pl := pl) (fr := fr) (vl := vl) hb0 q0
    have rn0 := r_num (lo := 1) (hi := 99) hf hn x4
    generalize hT0 : M_takeNumber 4 kd vl 1 pl fr fr 99 n f = T0 at rn0
    generalize hU0 : M_m_readNumber 4 so mv n f pl fr 1 99 fr = U0 at rn0
    refine ⟨T0.2.1, T0.2.2.1, T0.2.2.2.1, T0.2.2.2.2.1, told, T0.2.2.2.2.2.1, T0.2.2.2.2.2.2, U0.2.1, U0.2.2.1, U0.2.2.2.1, U0.2.2.2.2.1, U0.2.2.2.2.2.1, U0.2.2.2.2.2.2, had ||| ((1 : Int32) <<< (((26 : Int32) - 23) &&& 31)), (upd pn (8 * q + 6) T0.1), (upd Td (7 * q + 6) U0.1), ?_, fun k us nw dp Tb P Nm c ur ua w => ?_, rn0.1, ?_⟩
    · simp only [K_readWith_14, K_readWith_12, K_readWith_17, K_readWith_16, K_readWith_15, K_readWith_13, K_readWith_11, K_readWith_9, K_readWith_20, K_readWith_19, K_readWith_18, K_readWith_10, K_readWith_8, K_readWith_6, K_readWith_25, K_readWith_24, K_readWith_23, K_readWith_22, K_readWith_21, K_readWith_7, K_readWith_5, K_readWith_3, K_readWith_28, K_readWith_27, K_readWith_26, K_readWith_4, K_readWith_2, K_readWith_1, M_readWith]
      rw [if_pos i2, if_pos i3, if_pos i4, if_neg i5, o1, hT0, show M_setNumber pn (nI q) 6 T0.1 = _ from t_setN (k := 6) hq (by decide)]
    · simp only [K_m_readRail_L7, K_m_readRail_17, K_m_readRail_15, K_m_readRail_19, K_m_readRail_18, K_m_readRail_27, K_m_readRail_25, K_m_readRail_26, K_m_readRail_24, K_m_readRail_23, K_m_readRail_22, K_m_readRail_21, K_m_readRail_20, K_m_readRail_16, K_m_readRail_14, K_m_readRail_12, K_m_readRail_13, K_m_readRail_11, K_m_readRail_9, K_m_readRail_10, K_m_readRail_8, K_m_readRail_7, K_m_readRail_5, K_m_readRail_6, K_m_readRail_4, K_m_readRail_28, K_m_readRail_3, K_m_readRail_30, K_m_readRail_29, K_m_readRail_51, K_m_readRail_49, K_m_readRail_50, K_m_readRail_48, K_m_readRail_47, K_m_readRail_46, K_m_readRail_45, K_m_readRail_44, K_m_readRail_35, K_m_readRail_43, K_m_readRail_41, K_m_readRail_42, K_m_readRail_40, K_m_readRail_39, K_m_readRail_38, K_m_readRail_37, K_m_readRail_36, K_m_readRail_34, K_m_readRail_33, K_m_readRail_32, K_m_readRail_31, K_m_readRail_55, K_m_readRail_54, K_m_readRail_52, K_m_readRail_57, K_m_readRail_56, K_m_readRail_53, K_m_readRail_1, M_m_readRail]
      rw [if_pos q0, if_pos s1, ec, if_neg (by decide : ¬ (26 : Int32).toInt = 27), if_pos (by decide : (23 : Int) ≤ (26 : Int32).toInt ∧ (26 : Int32).toInt ≤ 26), t_wants1, if_pos q0, if_neg (fun z => hb0 (hb.1.mpr z)), t_wantsF q0]
      simp only [K_m_readWith_14, K_m_readWith_4, K_m_readWith_12, K_m_readWith_11, K_m_readWith_13, K_m_readWith_6, K_m_readWith_10, K_m_readWith_8, K_m_readWith_9, K_m_readWith_7, K_m_readWith_5, K_m_readWith_3, K_m_readWith_2, K_m_readWith_15, K_m_readWith_1, M_m_readWith]
      rw [if_neg (by decide : ¬ (26 : Int32).toInt = 23), if_neg (by decide : ¬ (26 : Int32).toInt = 24), if_neg (by decide : ¬ (26 : Int32).toInt = 25), t_next_id (show 0 < (4 : Int32).toInt from by decide), hU0, show (((7 : Int32) * nI q) + 6).toNatClampNeg = _ from xi7 (k := 6) hq (by decide)]
    · intro z
      exact absurd (rn0.2 z).1 (by decide)
-- 73.loop
theorem r_with_other {f : Nat → Int32} {n pl kd fr vl told fl fp ps mr so mv mf mw had : Int32} {q : Nat} {pn Td : Nat → Int32} (hn : n.toInt ≤ 400) (h : xR n pl kd fr vl fl fp ps mr so mv mf mw) (q0 : fl.toInt = 0) (c1 : kd.toInt = 1) (w1 : ¬ xW1 f fr pl) (w2 : ¬ xW2 f fr pl) (w3 : ¬ xW3 f fr pl) (w4 : ¬ xW4 f fr pl) (w5 : ¬ xW5 f fr pl) :
    M_readWith pl kd fr vl told pn fl fp (nI q) n f = (pl, kd, fr, vl, told, 2, fr, pn) ∧ (∀ (k : Nat) (us nw dp : Int32) (Tb P Nm c ur ua w : Nat → Int32), K_m_readRail_L7 (nI q) Tb P Nm n f us c ur ua w nw dp (k + 1) had Td ps mr so mv mf mw = K_m_readRail_L7 (nI q) Tb P Nm n f us c ur ua w nw dp k had Td ps mr so mv 2 fr) ∧ xR n pl kd fr vl 2 fr ps mr so mv 2 fr := by
  obtain ⟨e, hp, hw, hk⟩ := h
  subst e
  obtain ⟨e1, e2, r0, r1, r2, r3, k⟩ := hk q0
  subst e1
  subst e2
  have s1 : so.toInt = 1 := (xK1 k).1.mp c1
  obtain ⟨n20, n21, n22, n23, n24, n25, n26, n27, n28, nle⟩ := nm_some (f := f) (ps := pl) r0 r2 hn
  have a23 : ¬ (M_m_nameNow pl fr n f).toInt = 23 := fun z => w2 (n23.mp z)
  have a24 : ¬ (M_m_nameNow pl fr n f).toInt = 24 := fun z => w3 (n24.mp z)
  have a25 : ¬ (M_m_nameNow pl fr n f).toInt = 25 := fun z => w4 (n25.mp z)
  have a26 : ¬ (M_m_nameNow pl fr n f).toInt = 26 := fun z => w5 (n26.mp z)
  have a27 : ¬ (M_m_nameNow pl fr n f).toInt = 27 := fun z => w1 (n27.mp z)
  have i2 : (M_isWord kd pl fr 4 f 2).toInt = 0 := by rw [w_fall, if_neg (fun z => w2 z.2)]; decide
  have i3 : (M_isWord kd pl fr 4 f 3).toInt = 0 := by rw [w_draw, if_neg (fun z => w3 z.2)]; decide
  have i4 : (M_isWord kd pl fr 4 f 4).toInt = 0 := by rw [w_wait, if_neg (fun z => w4 z.2)]; decide
  have i5 : (M_isWord kd pl fr 6 f 5).toInt = 0 := by rw [w_within, if_neg (fun z => w5 z.2)]; decide
  refine ⟨?_, fun k us nw dp Tb P Nm c ur ua w => ?_, xR_no rfl (by decide) rfl⟩
  · simp only [K_readWith_14, K_readWith_12, K_readWith_17, K_readWith_16, K_readWith_15, K_readWith_13, K_readWith_11, K_readWith_9, K_readWith_20, K_readWith_19, K_readWith_18, K_readWith_10, K_readWith_8, K_readWith_6, K_readWith_25, K_readWith_24, K_readWith_23, K_readWith_22, K_readWith_21, K_readWith_7, K_readWith_5, K_readWith_3, K_readWith_28, K_readWith_27, K_readWith_26, K_readWith_4, K_readWith_2, K_readWith_1, M_readWith]
    rw [if_pos i2, if_pos i3, if_pos i4, if_pos i5, t_refuse q0]
  · simp only [K_m_readRail_L7, K_m_readRail_17, K_m_readRail_15, K_m_readRail_19, K_m_readRail_18, K_m_readRail_27, K_m_readRail_25, K_m_readRail_26, K_m_readRail_24, K_m_readRail_23, K_m_readRail_22, K_m_readRail_21, K_m_readRail_20, K_m_readRail_16, K_m_readRail_14, K_m_readRail_12, K_m_readRail_13, K_m_readRail_11, K_m_readRail_9, K_m_readRail_10, K_m_readRail_8, K_m_readRail_7, K_m_readRail_5, K_m_readRail_6, K_m_readRail_4, K_m_readRail_28, K_m_readRail_3, K_m_readRail_30, K_m_readRail_29, K_m_readRail_51, K_m_readRail_49, K_m_readRail_50, K_m_readRail_48, K_m_readRail_47, K_m_readRail_46, K_m_readRail_45, K_m_readRail_44, K_m_readRail_35, K_m_readRail_43, K_m_readRail_41, K_m_readRail_42, K_m_readRail_40, K_m_readRail_39, K_m_readRail_38, K_m_readRail_37, K_m_readRail_36, K_m_readRail_34, K_m_readRail_33, K_m_readRail_32, K_m_readRail_31, K_m_readRail_55, K_m_readRail_54, K_m_readRail_52, K_m_readRail_57, K_m_readRail_56, K_m_readRail_53, K_m_readRail_1, M_m_readRail]
    rw [if_pos q0, if_pos s1, if_neg a27, if_neg (by omega : ¬ (23 ≤ (M_m_nameNow pl fr n f).toInt ∧ (M_m_nameNow pl fr n f).toInt ≤ 26)), t_wantsF q0, if_neg (show ¬ (2 : Int32).toInt = 0 from by decide)]
/-- the class's loop over withs: one round, its end -/
theorem c_go {f rf pn : Nat → Int32} {pt : Nat → Int64} {G A : Nat → Nat → Int64} {dep rails r n pl kd fr vl td fl fp i : Int32} (hi : i.toInt ≤ 4) (q0 : fl.toInt = 0) (c1 : kd.toInt = 1) (w1 : ¬ xW1 f fr pl) (k : Nat) : K_readRail_L11 dep rf (G 0) (G 1) (G 2) (G 3) (G 4) (G 5) (G 6) (A 0) (A 1) (A 2) (A 3) (A 4) (A 5) (A 6) rails pt r n f (k + 1) i pl kd fr vl td fl fp pn = (fun t => K_readRail_L11 dep rf (G 0) (G 1) (G 2) (G 3) (G 4) (G 5) (G 6) (A 0) (A 1) (A 2) (A 3) (A 4) (A 5) (A 6) rails pt r n f k (i + 1) t.1 t.2.1 t.2.2.1 t.2.2.2.1 t.2.2.2.2.1 t.2.2.2.2.2.1 t.2.2.2.2.2.2.1 t.2.2.2.2.2.2.2) (M_readWith pl kd fr vl td pn fl fp r n f) := by
  have i1 : (M_isWord kd pl fr 4 f 1).toInt = 0 := by rw [w_when, if_neg (fun z => w1 z.2)]; decide
  simp only [K_readRail_L11, K_readRail_17, K_readRail_21, K_readRail_20, K_readRail_19, K_readRail_18, K_readRail_16, K_readRail_15, K_readRail_14, K_readRail_12, K_readRail_49, K_readRail_42, K_readRail_44, K_readRail_48, K_readRail_47, K_readRail_46, K_readRail_45, K_readRail_43, K_readRail_41, K_readRail_40, K_readRail_33, K_readRail_35, K_readRail_39, K_readRail_38, K_readRail_37, K_readRail_36, K_readRail_34, K_readRail_32, K_readRail_23, K_readRail_27, K_readRail_31, K_readRail_30, K_readRail_29, K_readRail_28, K_readRail_26, K_readRail_25, K_readRail_24, K_readRail_22, K_readRail_13, K_readRail_11, K_readRail_10, K_readRail_9, K_readRail_8, K_readRail_7, K_readRail_6, K_readRail_5, K_readRail_4, K_readRail_2, K_readRail_50, K_readRail_3, K_readRail_1, M_readRail]
  rw [if_neg (by omega), if_pos q0, if_pos c1, if_pos i1]
theorem c_end {f rf pn : Nat → Int32} {pt : Nat → Int64} {G A : Nat → Nat → Int64} {dep rails r n pl kd fr vl td fl fp i : Int32} (h : 4 < i.toInt ∨ ¬ fl.toInt = 0 ∨ ¬ kd.toInt = 1 ∨ xW1 f fr pl) (k : Nat) : K_readRail_L11 dep rf (G 0) (G 1) (G 2) (G 3) (G 4) (G 5) (G 6) (A 0) (A 1) (A 2) (A 3) (A 4) (A 5) (A 6) rails pt r n f (k + 1) i pl kd fr vl td fl fp pn = K_readRail_L11 dep rf (G 0) (G 1) (G 2) (G 3) (G 4) (G 5) (G 6) (A 0) (A 1) (A 2) (A 3) (A 4) (A 5) (A 6) rails pt r n f 1 5 pl kd fr vl td fl fp pn := by
  simp only [K_readRail_L11, K_readRail_17, K_readRail_21, K_readRail_20, K_readRail_19, K_readRail_18, K_readRail_16, K_readRail_15, K_readRail_14, K_readRail_12, K_readRail_49, K_readRail_42, K_readRail_44, K_readRail_48, K_readRail_47, K_readRail_46, K_readRail_45, K_readRail_43, K_readRail_41, K_readRail_40, K_readRail_33, K_readRail_35, K_readRail_39, K_readRail_38, K_readRail_37, K_readRail_36, K_readRail_34, K_readRail_32, K_readRail_23, K_readRail_27, K_readRail_31, K_readRail_30, K_readRail_29, K_readRail_28, K_readRail_26, K_readRail_25, K_readRail_24, K_readRail_22, K_readRail_13, K_readRail_11, K_readRail_10, K_readRail_9, K_readRail_8, K_readRail_7, K_readRail_6, K_readRail_5, K_readRail_4, K_readRail_2, K_readRail_50, K_readRail_3, K_readRail_1, M_readRail]
  rw [if_pos (by decide : 4 < (5 : Int32).toInt)]
  by_cases a : 4 < i.toInt
  · rw [if_pos a]
  · rw [if_neg a]
    by_cases q : fl.toInt = 0
    · by_cases c1 : kd.toInt = 1
      · have w : xW1 f fr pl := by
          rcases h with h | h | h | h
          · exact absurd h a
          · exact absurd q h
          · exact absurd c1 h
          · exact h
        have i1 : ¬ (M_isWord kd pl fr 4 f 1).toInt = 0 := by rw [w_when, if_pos ⟨c1, w⟩]; decide
        simp only [if_pos q, if_pos c1, if_neg i1]
      · simp only [if_pos q, if_neg c1]
    · simp only [if_neg q]
theorem m_end {f Td Tb P Nm c ur ua w : Nat → Int32} {n ps mr so mv mf mw had dr us nw dp : Int32} (h : ¬ mf.toInt = 0 ∨ ¬ so.toInt = 1 ∨ (M_m_nameNow ps mr n f).toInt = 27) (k : Nat) : K_m_readRail_L7 dr Tb P Nm n f us c ur ua w nw dp (k + 1) had Td ps mr so mv mf mw = K_m_readRail_L7 dr Tb P Nm n f us c ur ua w nw dp 1 0 Td ps mr so mv mf mw := by
  simp only [K_m_readRail_L7, K_m_readRail_17, K_m_readRail_15, K_m_readRail_19, K_m_readRail_18, K_m_readRail_27, K_m_readRail_25, K_m_readRail_26, K_m_readRail_24, K_m_readRail_23, K_m_readRail_22, K_m_readRail_21, K_m_readRail_20, K_m_readRail_16, K_m_readRail_14, K_m_readRail_12, K_m_readRail_13, K_m_readRail_11, K_m_readRail_9, K_m_readRail_10, K_m_readRail_8, K_m_readRail_7, K_m_readRail_5, K_m_readRail_6, K_m_readRail_4, K_m_readRail_28, K_m_readRail_3, K_m_readRail_30, K_m_readRail_29, K_m_readRail_51, K_m_readRail_49, K_m_readRail_50, K_m_readRail_48, K_m_readRail_47, K_m_readRail_46, K_m_readRail_45, K_m_readRail_44, K_m_readRail_35, K_m_readRail_43, K_m_readRail_41, K_m_readRail_42, K_m_readRail_40, K_m_readRail_39, K_m_readRail_38, K_m_readRail_37, K_m_readRail_36, K_m_readRail_34, K_m_readRail_33, K_m_readRail_32, K_m_readRail_31, K_m_readRail_55, K_m_readRail_54, K_m_readRail_52, K_m_readRail_57, K_m_readRail_56, K_m_readRail_53, K_m_readRail_1, M_m_readRail]
  by_cases q : mf.toInt = 0
  · by_cases s : so.toInt = 1
    · have w : (M_m_nameNow ps mr n f).toInt = 27 := by
        rcases h with h | h | h
        · exact absurd q h
        · exact absurd s h
        · exact h
      simp only [if_pos q, if_pos s, if_pos w]
    · simp only [if_pos q, if_neg s]
  · simp only [if_neg q]
/-- all withs of a rail, one by one, on both sides -/
theorem r_withs {f rf pn0 Td0 : Nat → Int32} {pt : Nat → Int64} {G A : Nat → Nat → Int64} {dep rails n : Int32} {q : Nat} (hf : ∀ j, 0 ≤ (f j).toInt) (hn : n.toInt ≤ 400) (hq : q < 8) : ∀ (m : Nat) (i pl kd fr vl td fl fp ps mr so mv mf mw had : Int32) (pn Td : Nat → Int32), m ≤ 5 → i.toInt = 5 - (m : Int) → xR n pl kd fr vl fl fp ps mr so mv mf mw → (fl.toInt = 0 → xH td had ∧ (cn td : Int) = i.toInt ∧ xRw q pn0 Td0 pn Td) →
    ∃ (pl' kd' fr' vl' td' fl' fp' ps' mr' so' mv' mf' mw' : Int32) (pn' Td' : Nat → Int32), (∀ k : Nat, K_readRail_L11 dep rf (G 0) (G 1) (G 2) (G 3) (G 4) (G 5) (G 6) (A 0) (A 1) (A 2) (A 3) (A 4) (A 5) (A 6) rails pt (nI q) n f (k + m + 1) i pl kd fr vl td fl fp pn = K_readRail_L11 dep rf (G 0) (G 1) (G 2) (G 3) (G 4) (G 5) (G 6) (A 0) (A 1) (A 2) (A 3) (A 4) (A 5) (A 6) rails pt (nI q) n f 1 5 pl' kd' fr' vl' td' fl' fp' pn') ∧ (∀ (k : Nat) (us nw dp : Int32) (Tb P Nm c ur ua w : Nat → Int32), K_m_readRail_L7 (nI q) Tb P Nm n f us c ur ua w nw dp (k + m + 1) had Td ps mr so mv mf mw = K_m_readRail_L7 (nI q) Tb P Nm n f us c ur ua w nw dp 1 0 Td' ps' mr' so' mv' mf' mw') ∧ xR n pl' kd' fr' vl' fl' fp' ps' mr' so' mv' mf' mw' ∧ (¬ fl'.toInt = 0 ∨ ¬ kd'.toInt = 1 ∨ xW1 f fr' pl') ∧ (fl'.toInt = 0 → fl.toInt = 0 ∧ fr.toInt ≤ fr'.toInt ∧ (td' &&& 1) = (td &&& 1) ∧ (td' &&& 2) = (td &&& 2) ∧ (0 ≤ td'.toInt ∧ td'.toInt < 64) ∧ xRw q pn0 Td0 pn' Td') := by
  intro m
  induction m with
  | zero =>
    intro i pl kd fr vl td fl fp ps mr so mv mf mw had pn Td hm hi h hH
    have q0 : ¬ fl.toInt = 0 := fun z => by
      have a := (hH z).2.1
      have b := cn_le td
      omega
    have q2 : ¬ mf.toInt = 0 := by rw [← h.1]; exact q0
    exact ⟨pl, kd, fr, vl, td, fl, fp, ps, mr, so, mv, mf, mw, pn, Td, fun k => c_end (Or.inr (Or.inl q0)) k, fun k us nw dp Tb P Nm c ur ua w => m_end (Or.inl q2) k, h, Or.inl q0, fun z => absurd z q0⟩
  | succ m ih =>
    intro i pl kd fr vl td fl fp ps mr so mv mf mw had pn Td hm hi h hH
    by_cases q0 : fl.toInt = 0
    · obtain ⟨hh, hc, hr⟩ := hH q0
      have hx := h.2.2.2 q0
      obtain ⟨e1, e2, r0, r1, r2, r3, k⟩ := hx
      by_cases c1 : kd.toInt = 1
      · have s1 : so.toInt = 1 := (xK1 k).1.mp c1
        by_cases w1 : xW1 f fr pl
        · have v : (M_m_nameNow ps mr n f).toInt = 27 := by
            obtain ⟨n20, n21, n22, n23, n24, n25, n26, n27, n28, nle⟩ := nm_some (f := f) (ps := pl) r0 r2 hn
            rw [← e1, ← e2]
            exact n27.mpr w1
          exact ⟨pl, kd, fr, vl, td, fl, fp, ps, mr, so, mv, mf, mw, pn, Td, fun k => c_end (Or.inr (Or.inr (Or.inr w1))) (k + (m + 1)), fun k us nw dp Tb P Nm c ur ua w => m_end (Or.inr (Or.inr v)) (k + (m + 1)), h, Or.inr (Or.inr w1), fun _ => ⟨q0, Int.le_refl _, rfl, rfl, hh.1, hr⟩⟩
        · have ii : (i + 1).toInt = i.toInt + 1 := xadd rfl (by decide) (by omega) (by omega)
          have go : ∀ (pl1 kd1 fr1 vl1 td1 fl1 fp1 ps1 mr1 so1 mv1 mf1 mw1 had1 : Int32) (pn1 Td1 : Nat → Int32), M_readWith pl kd fr vl td pn fl fp (nI q) n f = (pl1, kd1, fr1, vl1, td1, fl1, fp1, pn1) → (∀ (k : Nat) (us nw dp : Int32) (Tb P Nm c ur ua w : Nat → Int32), K_m_readRail_L7 (nI q) Tb P Nm n f us c ur ua w nw dp (k + 1) had Td ps mr so mv mf mw = K_m_readRail_L7 (nI q) Tb P Nm n f us c ur ua w nw dp k had1 Td1 ps1 mr1 so1 mv1 mf1 mw1) → xR n pl1 kd1 fr1 vl1 fl1 fp1 ps1 mr1 so1 mv1 mf1 mw1 → (fl1.toInt = 0 → xH td1 had1 ∧ cn td1 = cn td + 1 ∧ pl.toInt ≤ fr1.toInt ∧ (td1 &&& 1) = (td &&& 1) ∧ (td1 &&& 2) = (td &&& 2) ∧ xRw q pn0 Td0 pn1 Td1) →
              ∃ (pl' kd' fr' vl' td' fl' fp' ps' mr' so' mv' mf' mw' : Int32) (pn' Td' : Nat → Int32), (∀ k : Nat, K_readRail_L11 dep rf (G 0) (G 1) (G 2) (G 3) (G 4) (G 5) (G 6) (A 0) (A 1) (A 2) (A 3) (A 4) (A 5) (A 6) rails pt (nI q) n f (k + (m + 1) + 1) i pl kd fr vl td fl fp pn = K_readRail_L11 dep rf (G 0) (G 1) (G 2) (G 3) (G 4) (G 5) (G 6) (A 0) (A 1) (A 2) (A 3) (A 4) (A 5) (A 6) rails pt (nI q) n f 1 5 pl' kd' fr' vl' td' fl' fp' pn') ∧ (∀ (k : Nat) (us nw dp : Int32) (Tb P Nm c ur ua w : Nat → Int32), K_m_readRail_L7 (nI q) Tb P Nm n f us c ur ua w nw dp (k + (m + 1) + 1) had Td ps mr so mv mf mw = K_m_readRail_L7 (nI q) Tb P Nm n f us c ur ua w nw dp 1 0 Td' ps' mr' so' mv' mf' mw') ∧ xR n pl' kd' fr' vl' fl' fp' ps' mr' so' mv' mf' mw' ∧ (¬ fl'.toInt = 0 ∨ ¬ kd'.toInt = 1 ∨ xW1 f fr' pl') ∧ (fl'.toInt = 0 → fl.toInt = 0 ∧ fr.toInt ≤ fr'.toInt ∧ (td' &&& 1) = (td &&& 1) ∧ (td' &&& 2) = (td &&& 2) ∧ (0 ≤ td'.toInt ∧ td'.toInt < 64) ∧ xRw q pn0 Td0 pn' Td') := by
            intro pl1 kd1 fr1 vl1 td1 fl1 fp1 ps1 mr1 so1 mv1 mf1 mw1 had1 pn1 Td1 ec em hr1 hz
            obtain ⟨pl', kd', fr', vl', td', fl', fp', ps', mr', so', mv', mf', mw', pn', Td', ic, im, ir, ie, iz⟩ := ih (i + 1) pl1 kd1 fr1 vl1 td1 fl1 fp1 ps1 mr1 so1 mv1 mf1 mw1 had1 pn1 Td1 (by omega) (by omega) hr1 (fun z => ⟨(hz z).1, by have := (hz z).2.1; omega, (hz z).2.2.2.2.2⟩)
            refine ⟨pl', kd', fr', vl', td', fl', fp', ps', mr', so', mv', mf', mw', pn', Td', fun k => ?_, fun k us nw dp Tb P Nm c ur ua w => ?_, ir, ie, fun z => ?_⟩
            · rw [c_go (by omega) q0 c1 w1, ec]
              exact ic k
            · rw [em]
              exact im k us nw dp Tb P Nm c ur ua w
            · obtain ⟨a, b, c, d, e⟩ := iz z
              obtain ⟨-, -, g1, g2, g3, -⟩ := hz a
              exact ⟨q0, by omega, c.trans g2, d.trans g3, e⟩
          by_cases w2 : xW2 f fr pl
          · obtain ⟨a1, a2, a3, a4, a5, a6, a7, b1, b2, b3, b4, b5, b6, b7, pa, ta, x1, x2, x3, x4⟩ := r_with_fall hf hn hq h q0 c1 w2 hh hr
            exact go a1 a2 a3 a4 a5 a6 a7 b1 b2 b3 b4 b5 b6 b7 pa ta x1 x2 x3 x4
          · by_cases w3 : xW3 f fr pl
            · obtain ⟨a1, a2, a3, a4, a5, a6, a7, b1, b2, b3, b4, b5, b6, b7, pa, ta, x1, x2, x3, x4⟩ := r_with_draw hf hn hq h q0 c1 w3 hh hr
              exact go a1 a2 a3 a4 a5 a6 a7 b1 b2 b3 b4 b5 b6 b7 pa ta x1 x2 x3 x4
            · by_cases w4 : xW4 f fr pl
              · obtain ⟨a1, a2, a3, a4, a5, a6, a7, b1, b2, b3, b4, b5, b6, b7, pa, ta, x1, x2, x3, x4⟩ := r_with_wait hf hn hq h q0 c1 w4 hh hr
                exact go a1 a2 a3 a4 a5 a6 a7 b1 b2 b3 b4 b5 b6 b7 pa ta x1 x2 x3 x4
              · by_cases w5 : xW5 f fr pl
                · obtain ⟨a1, a2, a3, a4, a5, a6, a7, b1, b2, b3, b4, b5, b6, b7, pa, ta, x1, x2, x3, x4⟩ := r_with_within hf hn hq h q0 c1 w5 hh hr
                  exact go a1 a2 a3 a4 a5 a6 a7 b1 b2 b3 b4 b5 b6 b7 pa ta x1 x2 x3 x4
                · obtain ⟨x1, x2, x3⟩ := r_with_other (q := q) (pn := pn) (Td := Td) (told := td) (had := had) hn h q0 c1 w1 w2 w3 w4 w5
                  exact go _ _ _ _ _ _ _ _ _ _ _ _ _ _ _ _ x1 x2 x3 (fun z => absurd z (by decide))
      · have s1 : ¬ so.toInt = 1 := fun z => c1 ((xK1 k).1.mpr z)
        exact ⟨pl, kd, fr, vl, td, fl, fp, ps, mr, so, mv, mf, mw, pn, Td, fun k => c_end (Or.inr (Or.inr (Or.inl c1))) (k + (m + 1)), fun k us nw dp Tb P Nm c ur ua w => m_end (Or.inr (Or.inl s1)) (k + (m + 1)), h, Or.inr (Or.inl c1), fun _ => ⟨q0, Int.le_refl _, rfl, rfl, hh.1, hr⟩⟩
    · have q2 : ¬ mf.toInt = 0 := by rw [← h.1]; exact q0
      exact ⟨pl, kd, fr, vl, td, fl, fp, ps, mr, so, mv, mf, mw, pn, Td, fun k => c_end (Or.inr (Or.inl q0)) (k + (m + 1)), fun k us nw dp Tb P Nm c ur ua w => m_end (Or.inl q2) (k + (m + 1)), h, Or.inl q0, fun z => absurd z q0⟩
-- 74.rail0
/-- a RAIL as both sides have told it: its numbers (but its wait, if wt is not told), its names, its table -/
def xEr (wt : Bool) (r : Nat) (pn : Nat → Int32) (pt : Nat → Int64) (Td Nm Tb : Nat → Int32) : Prop := (∀ k, k < 7 → (k ≠ 5 ∨ wt = true) → pn (8 * r + k) = Td (7 * r + k)) ∧ pn (8 * r + 7) = Nm r ∧ (∀ s, s < 512 → Tb (512 * r + s) = if xbt (fun i => pt (8 * r + i)) s = true then 1 else 0) ∧ (∀ s t, s < 512 → t < 512 → (∀ k, k < 9 → (Nm r).toBitVec.getLsbD k = true → s.testBit k = true → t.testBit k = true) → xbt (fun i => pt (8 * r + i)) s = true → xbt (fun i => pt (8 * r + i)) t = true) ∧ (wt = true → 0 ≤ (Td (7 * r + 5)).toInt ∧ (Td (7 * r + 5)).toInt ≤ 9)
def xE (wt : Bool) (q : Nat) (pn : Nat → Int32) (pt : Nat → Int64) (Td Nm Tb : Nat → Int32) : Prop := ∀ r, r < q → xEr wt r pn pt Td Nm Tb
theorem xbt_ext {g h : Nat → Int64} {s : Nat} (hs : s < 512) (e : ∀ i, i < 8 → g i = h i) : xbt g s = xbt h s := by
  unfold xbt
  rw [e _ (by omega)]
theorem xE_keep {wt : Bool} {q : Nat} {pn pn' : Nat → Int32} {pt pt' : Nat → Int64} {Td Nm Tb Td' Nm' Tb' : Nat → Int32} (h : xE wt q pn pt Td Nm Tb) (h1 : ∀ j, j < 8 * q → pn' j = pn j) (h2 : ∀ j, j < 8 * q → pt' j = pt j) (h3 : ∀ j, j < 7 * q → Td' j = Td j) (h4 : ∀ j, j < q → Nm' j = Nm j) (h5 : ∀ j, j < 512 * q → Tb' j = Tb j) : xE wt q pn' pt' Td' Nm' Tb' := by
  intro r hr
  obtain ⟨a, b, c, d, e⟩ := h r hr
  refine ⟨fun k hk hw => ?_, ?_, fun s hs => ?_, fun s t hs ht hst hv => ?_, fun hw => ?_⟩
  · rw [h1 _ (by omega), h3 _ (by omega)]
    exact a k hk hw
  · rw [h1 _ (by omega), h4 _ hr]
    exact b
  · rw [h5 _ (by omega), c s hs, xbt_ext (g := fun i => pt' (8 * r + i)) (h := fun i => pt (8 * r + i)) hs (fun i hi => h2 _ (by omega))]
  · rw [h4 _ hr] at hst
    rw [xbt_ext (g := fun i => pt' (8 * r + i)) (h := fun i => pt (8 * r + i)) ht (fun i hi => h2 _ (by omega))]
    rw [xbt_ext (g := fun i => pt' (8 * r + i)) (h := fun i => pt (8 * r + i)) hs (fun i hi => h2 _ (by omega))] at hv
    exact d s t hs ht hst hv
  · rw [h3 _ (by omega)]
    exact e hw
theorem xE_add {wt : Bool} {q : Nat} {pn : Nat → Int32} {pt : Nat → Int64} {Td Nm Tb : Nat → Int32} (h : xE wt q pn pt Td Nm Tb) (h1 : xEr wt q pn pt Td Nm Tb) : xE wt (q + 1) pn pt Td Nm Tb := by
  intro r hr
  by_cases e : r = q
  · rw [e]
    exact h1
  · exact h r (by omega)
/-- a formula that is not told: the key -/
theorem xdef_bit : ∀ s : Fin 512, ((if s.val / 64 < 4 then (0 : Int64) else -1)).toBitVec.getLsbD (s.val % 64) = s.val.testBit 8 := by decide +kernel
def xDf (q : Nat) (pt : Nat → Int64) : Prop := ∀ i, i < 8 → pt (8 * q + i) = if i < 4 then 0 else -1
theorem xdf_bit {q s : Nat} {pt : Nat → Int64} (hs : s < 512) (h : xDf q pt) : xbt (fun i => pt (8 * q + i)) s = s.testBit 8 := by
  show (pt (8 * q + s / 64)).toBitVec.getLsbD (s % 64) = s.testBit 8
  rw [h (s / 64) (by omega)]
  exact xdef_bit ⟨s, hs⟩
def xPd (q : Nat) (pn : Nat → Int32) : Nat → Int32 := (upd (upd (upd (upd (upd (upd pn (8 * q + 2) 1) (8 * q + 3) 1) (8 * q + 4) 2) (8 * q + 5) 0) (8 * q + 6) 0) (8 * q + 7) 256)
theorem b_add {q : Nat} (hq : q < 8) {pn : Nat → Int32} : ∀ (m x k : Nat) (pt : Nat → Int64), x + m = 8 → ∃ pt' : Nat → Int64, K_addRail_L8 (nI q) pn (k + m + 1) (nI x) pt = (nI (q + 1), pn, pt') ∧ (∀ i, x ≤ i → i < 8 → pt' (8 * q + i) = if i < 4 then 0 else -1) ∧ (∀ j, j < 8 * q + x ∨ 8 * q + 8 ≤ j → pt' j = pt j) := by
  intro m
  induction m with
  | zero =>
    intro x k pt hx
    have ex : (nI x).toInt = (x : Int) := nI_toInt (by omega)
    refine ⟨pt, ?_, fun i a b => absurd a (by omega), fun j _ => rfl⟩
    simp only [K_addRail_L8, K_addRail_9, K_addRail_11, K_addRail_12, K_addRail_10, K_addRail_8, K_addRail_7, K_addRail_6, K_addRail_5, K_addRail_4, K_addRail_3, K_addRail_2, K_addRail_1, M_addRail]
    rw [if_pos (by omega), nI_1]
  | succ m ih =>
    intro x k pt hx
    have ex : (nI x).toInt = (x : Int) := nI_toInt (by omega)
    have ei : ((nI q * 8) + nI x).toNatClampNeg = 8 * q + x := xi8 hq (by omega)
    obtain ⟨pt', a1, a2, a3⟩ := ih (x + 1) k (vp_updL pt (8 * q + x) (if x < 4 then 0 else -1)) (by omega)
    refine ⟨pt', ?_, fun i i1 i2 => ?_, fun j hj => ?_⟩
    · show K_addRail_L8 (nI q) pn ((k + m + 1) + 1) (nI x) pt = _
      rw [← a1]
      generalize k + m + 1 = j
      simp only [K_addRail_L8, K_addRail_9, K_addRail_11, K_addRail_12, K_addRail_10, K_addRail_8, K_addRail_7, K_addRail_6, K_addRail_5, K_addRail_4, K_addRail_3, K_addRail_2, K_addRail_1, M_addRail]
      rw [if_neg (by omega), ei, nI_1]
      by_cases y : x < 4
      · rw [if_pos (by omega), if_pos y]
      · rw [if_neg (by omega), if_neg y]
    · by_cases y : i = x
      · rw [y, a3 (8 * q + x) (by omega), xupL_s]
      · exact a2 i (by omega) i2
    · rw [a3 j (by omega), xupL_o (by omega)]
theorem t_addRail {q : Nat} (hq : q < 8) (pn : Nat → Int32) (pt : Nat → Int64) : ∃ pt' : Nat → Int64, M_addRail (nI q) pt pn = (nI (q + 1), xPd q pn, pt') ∧ xDf q pt' ∧ (∀ j, j < 8 * q ∨ 8 * q + 8 ≤ j → pt' j = pt j) := by
  obtain ⟨pt', a1, a2, a3⟩ := b_add hq (pn := xPd q pn) 8 0 99991 pt (by omega)
  refine ⟨pt', ?_, fun i hi => a2 i (by omega) hi, fun j hj => a3 j (by omega)⟩
  rw [← a1]
  simp only [K_addRail_9, K_addRail_11, K_addRail_12, K_addRail_10, K_addRail_8, K_addRail_7, K_addRail_6, K_addRail_5, K_addRail_4, K_addRail_3, K_addRail_2, K_addRail_1, M_addRail]
  rw [show M_setNumber pn (nI q) 2 1 = _ from t_setN (k := 2) hq (by decide), show M_setNumber (upd pn (8 * q + 2) 1) (nI q) 3 1 = _ from t_setN (k := 3) hq (by decide), show M_setNumber (upd (upd pn (8 * q + 2) 1) (8 * q + 3) 1) (nI q) 4 2 = _ from t_setN (k := 4) hq (by decide), show M_setNumber (upd (upd (upd pn (8 * q + 2) 1) (8 * q + 3) 1) (8 * q + 4) 2) (nI q) 5 0 = _ from t_setN (k := 5) hq (by decide), show M_setNumber (upd (upd (upd (upd pn (8 * q + 2) 1) (8 * q + 3) 1) (8 * q + 4) 2) (8 * q + 5) 0) (nI q) 6 0 = _ from t_setN (k := 6) hq (by decide), show M_setNumber (upd (upd (upd (upd (upd pn (8 * q + 2) 1) (8 * q + 3) 1) (8 * q + 4) 2) (8 * q + 5) 0) (8 * q + 6) 0) (nI q) 7 256 = _ from t_setN (k := 7) hq (by decide)]
  rfl
def xTd (q : Nat) (Td : Nat → Int32) (a b : Int32) : Nat → Int32 := (upd (upd (upd (upd (upd (upd (upd Td (7 * q + 0) a) (7 * q + 1) b) (7 * q + 2) 1) (7 * q + 3) 1) (7 * q + 4) 2) (7 * q + 5) 0) (7 * q + 6) 0)
def xP1 (q : Nat) (pn : Nat → Int32) (a b : Int32) : Nat → Int32 := (upd (upd (xPd q pn) (8 * q + 0) a) (8 * q + 1) b)
theorem rw_start {q : Nat} {pn Td : Nat → Int32} {a b : Int32} : xRw q (xP1 q pn a b) (xTd q Td a b) (xP1 q pn a b) (xTd q Td a b) := by
  have r5 : xTd q Td a b (7 * q + 5) = 0 := by
    show (upd (upd (upd (upd (upd (upd (upd Td (7 * q + 0) a) (7 * q + 1) b) (7 * q + 2) 1) (7 * q + 3) 1) (7 * q + 4) 2) (7 * q + 5) 0) (7 * q + 6) 0) (7 * q + 5) = 0
    rw [xupd_o (by omega), xupd_s]
  refine ⟨?_, fun j _ => rfl, fun j _ => rfl, by rw [r5]; decide, by rw [r5]; decide⟩
  intro k hk
  exact match k, hk with
  | 0, _ => by
    show (upd (upd (upd (upd (upd (upd (upd (upd pn (8 * q + 2) 1) (8 * q + 3) 1) (8 * q + 4) 2) (8 * q + 5) 0) (8 * q + 6) 0) (8 * q + 7) 256) (8 * q + 0) a) (8 * q + 1) b) (8 * q + 0) = (upd (upd (upd (upd (upd (upd (upd Td (7 * q + 0) a) (7 * q + 1) b) (7 * q + 2) 1) (7 * q + 3) 1) (7 * q + 4) 2) (7 * q + 5) 0) (7 * q + 6) 0) (7 * q + 0)
    rw [xupd_o (by omega), xupd_s, xupd_o (by omega), xupd_o (by omega), xupd_o (by omega), xupd_o (by omega), xupd_o (by omega), xupd_o (by omega), xupd_s]
  | 1, _ => by
    show (upd (upd (upd (upd (upd (upd (upd (upd pn (8 * q + 2) 1) (8 * q + 3) 1) (8 * q + 4) 2) (8 * q + 5) 0) (8 * q + 6) 0) (8 * q + 7) 256) (8 * q + 0) a) (8 * q + 1) b) (8 * q + 1) = (upd (upd (upd (upd (upd (upd (upd Td (7 * q + 0) a) (7 * q + 1) b) (7 * q + 2) 1) (7 * q + 3) 1) (7 * q + 4) 2) (7 * q + 5) 0) (7 * q + 6) 0) (7 * q + 1)
    rw [xupd_s, xupd_o (by omega), xupd_o (by omega), xupd_o (by omega), xupd_o (by omega), xupd_o (by omega), xupd_s]
  | 2, _ => by
    show (upd (upd (upd (upd (upd (upd (upd (upd pn (8 * q + 2) 1) (8 * q + 3) 1) (8 * q + 4) 2) (8 * q + 5) 0) (8 * q + 6) 0) (8 * q + 7) 256) (8 * q + 0) a) (8 * q + 1) b) (8 * q + 2) = (upd (upd (upd (upd (upd (upd (upd Td (7 * q + 0) a) (7 * q + 1) b) (7 * q + 2) 1) (7 * q + 3) 1) (7 * q + 4) 2) (7 * q + 5) 0) (7 * q + 6) 0) (7 * q + 2)
    rw [xupd_o (by omega), xupd_o (by omega), xupd_o (by omega), xupd_o (by omega), xupd_o (by omega), xupd_o (by omega), xupd_o (by omega), xupd_s, xupd_o (by omega), xupd_o (by omega), xupd_o (by omega), xupd_o (by omega), xupd_s]
  | 3, _ => by
    show (upd (upd (upd (upd (upd (upd (upd (upd pn (8 * q + 2) 1) (8 * q + 3) 1) (8 * q + 4) 2) (8 * q + 5) 0) (8 * q + 6) 0) (8 * q + 7) 256) (8 * q + 0) a) (8 * q + 1) b) (8 * q + 3) = (upd (upd (upd (upd (upd (upd (upd Td (7 * q + 0) a) (7 * q + 1) b) (7 * q + 2) 1) (7 * q + 3) 1) (7 * q + 4) 2) (7 * q + 5) 0) (7 * q + 6) 0) (7 * q + 3)
    rw [xupd_o (by omega), xupd_o (by omega), xupd_o (by omega), xupd_o (by omega), xupd_o (by omega), xupd_o (by omega), xupd_s, xupd_o (by omega), xupd_o (by omega), xupd_o (by omega), xupd_s]
  | 4, _ => by
    show (upd (upd (upd (upd (upd (upd (upd (upd pn (8 * q + 2) 1) (8 * q + 3) 1) (8 * q + 4) 2) (8 * q + 5) 0) (8 * q + 6) 0) (8 * q + 7) 256) (8 * q + 0) a) (8 * q + 1) b) (8 * q + 4) = (upd (upd (upd (upd (upd (upd (upd Td (7 * q + 0) a) (7 * q + 1) b) (7 * q + 2) 1) (7 * q + 3) 1) (7 * q + 4) 2) (7 * q + 5) 0) (7 * q + 6) 0) (7 * q + 4)
    rw [xupd_o (by omega), xupd_o (by omega), xupd_o (by omega), xupd_o (by omega), xupd_o (by omega), xupd_s, xupd_o (by omega), xupd_o (by omega), xupd_s]
  | 5, _ => by
    show (upd (upd (upd (upd (upd (upd (upd (upd pn (8 * q + 2) 1) (8 * q + 3) 1) (8 * q + 4) 2) (8 * q + 5) 0) (8 * q + 6) 0) (8 * q + 7) 256) (8 * q + 0) a) (8 * q + 1) b) (8 * q + 5) = (upd (upd (upd (upd (upd (upd (upd Td (7 * q + 0) a) (7 * q + 1) b) (7 * q + 2) 1) (7 * q + 3) 1) (7 * q + 4) 2) (7 * q + 5) 0) (7 * q + 6) 0) (7 * q + 5)
    rw [xupd_o (by omega), xupd_o (by omega), xupd_o (by omega), xupd_o (by omega), xupd_s, xupd_o (by omega), xupd_s]
  | 6, _ => by
    show (upd (upd (upd (upd (upd (upd (upd (upd pn (8 * q + 2) 1) (8 * q + 3) 1) (8 * q + 4) 2) (8 * q + 5) 0) (8 * q + 6) 0) (8 * q + 7) 256) (8 * q + 0) a) (8 * q + 1) b) (8 * q + 6) = (upd (upd (upd (upd (upd (upd (upd Td (7 * q + 0) a) (7 * q + 1) b) (7 * q + 2) 1) (7 * q + 3) 1) (7 * q + 4) 2) (7 * q + 5) 0) (7 * q + 6) 0) (7 * q + 6)
    rw [xupd_o (by omega), xupd_o (by omega), xupd_o (by omega), xupd_s, xupd_s]
theorem p1_7 {q : Nat} {pn : Nat → Int32} {a b : Int32} : xP1 q pn a b (8 * q + 7) = 256 := by
  show (upd (upd (upd (upd (upd (upd (upd (upd pn (8 * q + 2) 1) (8 * q + 3) 1) (8 * q + 4) 2) (8 * q + 5) 0) (8 * q + 6) 0) (8 * q + 7) 256) (8 * q + 0) a) (8 * q + 1) b) (8 * q + 7) = 256
  rw [xupd_o (by omega), xupd_o (by omega), xupd_s]
theorem p1_o {q j : Nat} {pn : Nat → Int32} {a b : Int32} (h : j < 8 * q ∨ 8 * q + 8 ≤ j) : xP1 q pn a b j = pn j := by
  show (upd (upd (upd (upd (upd (upd (upd (upd pn (8 * q + 2) 1) (8 * q + 3) 1) (8 * q + 4) 2) (8 * q + 5) 0) (8 * q + 6) 0) (8 * q + 7) 256) (8 * q + 0) a) (8 * q + 1) b) j = pn j
  rw [xupd_o (by omega), xupd_o (by omega), xupd_o (by omega), xupd_o (by omega), xupd_o (by omega), xupd_o (by omega), xupd_o (by omega), xupd_o (by omega)]
theorem td_o {q j : Nat} {Td : Nat → Int32} {a b : Int32} (h : j < 7 * q ∨ 7 * q + 7 ≤ j) : xTd q Td a b j = Td j := by
  show (upd (upd (upd (upd (upd (upd (upd Td (7 * q + 0) a) (7 * q + 1) b) (7 * q + 2) 1) (7 * q + 3) 1) (7 * q + 4) 2) (7 * q + 5) 0) (7 * q + 6) 0) j = Td j
  rw [xupd_o (by omega), xupd_o (by omega), xupd_o (by omega), xupd_o (by omega), xupd_o (by omega), xupd_o (by omega), xupd_o (by omega)]
