abbrev xF : Type := Int32 × Int32 × Int32 × Int32 × Int32 × Int32 × Int32 × Int32 × (Nat → Int32) × (Nat → Int32)
def xGo (n : Int32) (f : Nat → Int32) (k3 : Nat) (t : xF) : xF := K_m_readFormula_L3 n f k3 t.1 t.2.1 t.2.2.1 t.2.2.2.1 t.2.2.2.2.1 t.2.2.2.2.2.1 t.2.2.2.2.2.2.1 t.2.2.2.2.2.2.2.1 t.2.2.2.2.2.2.2.2.1 t.2.2.2.2.2.2.2.2.2
def R1 (n : Int32) (f : Nat → Int32) (k1 k3 : Nat) (us : Int32) (ur ua : Nat → Int32) (dp ps mr so mv mf mw : Int32) : xF := xGo n f k3 (K_m_readUnit_L20 n f us ur ua k1 dp ps mr so mv mf mw)
def R2 (n : Int32) (f : Nat → Int32) (k2 k3 : Nat) (us : Int32) (ur ua : Nat → Int32) (dp ps mr so mv mf mw : Int32) : xF := xGo n f k3 (K_m_readUnit_L3 n f us ur ua k2 dp ps mr so mv mf mw)
section
variable {f ur ua : Nat → Int32} {n us dp ps mr so mv mf mw : Int32}
theorem R1_left (q : mf.toInt = 0) (s : so.toInt = 3) (d : dp.toInt < 6) (k1 k3 : Nat) : R1 n f (k1 + 1) k3 us ur ua dp ps mr so mv mf mw = R1 n f k1 k3 us ur ua (dp + 1) (M_m_next mf mv mw n f ps mr so).1 (M_m_next mf mv mw n f ps mr so).2.1 (M_m_next mf mv mw n f ps mr so).2.2.1 (M_m_next mf mv mw n f ps mr so).2.2.2.1 (M_m_next mf mv mw n f ps mr so).2.2.2.2.1 (M_m_next mf mv mw n f ps mr so).2.2.2.2.2 := by
  unfold R1
  rw [show K_m_readUnit_L20 n f us ur ua (k1 + 1) dp ps mr so mv mf mw = _ from by
    simp only [K_m_readUnit_L20, K_m_readUnit_38, K_m_readUnit_37, K_m_readUnit_35, K_m_readUnit_40, K_m_readUnit_39, K_m_readUnit_36, K_m_readUnit_24, K_m_readUnit_14, K_m_readUnit_12, K_m_readUnit_13, K_m_readUnit_11, K_m_readUnit_10, K_m_readUnit_8, K_m_readUnit_19, K_m_readUnit_17, K_m_readUnit_18, K_m_readUnit_16, K_m_readUnit_15, K_m_readUnit_9, K_m_readUnit_7, K_m_readUnit_6, K_m_readUnit_5, K_m_readUnit_4, K_m_readUnit_3, K_m_readUnit_34, K_m_readUnit_33, K_m_readUnit_32, K_m_readUnit_31, K_m_readUnit_26, K_m_readUnit_30, K_m_readUnit_29, K_m_readUnit_28, K_m_readUnit_27, K_m_readUnit_25, K_m_readUnit_23, K_m_readUnit_22, K_m_readUnit_21, K_m_readUnit_20, K_m_readUnit_1, M_m_readUnit]
    rw [if_pos q, if_pos s, if_neg (by omega), t_wants1]]
theorem R1_deep (q : mf.toInt = 0) (s : so.toInt = 3) (d : 6 ≤ dp.toInt) (k1 k3 : Nat) : R1 n f (k1 + 1) k3 us ur ua dp ps mr so mv mf mw = R1 n f k1 k3 us ur ua (dp + 1) ps mr so mv 5 mr := by
  unfold R1
  rw [show K_m_readUnit_L20 n f us ur ua (k1 + 1) dp ps mr so mv mf mw = _ from by
    simp only [K_m_readUnit_L20, K_m_readUnit_38, K_m_readUnit_37, K_m_readUnit_35, K_m_readUnit_40, K_m_readUnit_39, K_m_readUnit_36, K_m_readUnit_24, K_m_readUnit_14, K_m_readUnit_12, K_m_readUnit_13, K_m_readUnit_11, K_m_readUnit_10, K_m_readUnit_8, K_m_readUnit_19, K_m_readUnit_17, K_m_readUnit_18, K_m_readUnit_16, K_m_readUnit_15, K_m_readUnit_9, K_m_readUnit_7, K_m_readUnit_6, K_m_readUnit_5, K_m_readUnit_4, K_m_readUnit_3, K_m_readUnit_34, K_m_readUnit_33, K_m_readUnit_32, K_m_readUnit_31, K_m_readUnit_26, K_m_readUnit_30, K_m_readUnit_29, K_m_readUnit_28, K_m_readUnit_27, K_m_readUnit_25, K_m_readUnit_23, K_m_readUnit_22, K_m_readUnit_21, K_m_readUnit_20, K_m_readUnit_1, M_m_readUnit]
    rw [if_pos q, if_pos s, if_pos d, t_wantsF q, t_next_id (show 0 < (5 : Int32).toInt from by decide)]]
theorem R1_name (q : mf.toInt = 0) (s : so.toInt = 1) (k1 k3 : Nat) : R1 n f (k1 + 1) k3 us ur ua dp ps mr so mv mf mw = (fun t => R2 n f 100000 k3 t.1 t.2.2.2.2.2.2.2.1 t.2.2.2.2.2.2.2.2 dp t.2.1 t.2.2.1 t.2.2.2.1 t.2.2.2.2.1 t.2.2.2.2.2.1 t.2.2.2.2.2.2.1) (M_m_readLetter us ur ua mr mv n f ps so mf mw) := by
  unfold R1 R2
  rw [show K_m_readUnit_L20 n f us ur ua (k1 + 1) dp ps mr so mv mf mw = _ from by
    simp only [K_m_readUnit_L20, K_m_readUnit_38, K_m_readUnit_37, K_m_readUnit_35, K_m_readUnit_40, K_m_readUnit_39, K_m_readUnit_36, K_m_readUnit_24, K_m_readUnit_14, K_m_readUnit_12, K_m_readUnit_13, K_m_readUnit_11, K_m_readUnit_10, K_m_readUnit_8, K_m_readUnit_19, K_m_readUnit_17, K_m_readUnit_18, K_m_readUnit_16, K_m_readUnit_15, K_m_readUnit_9, K_m_readUnit_7, K_m_readUnit_6, K_m_readUnit_5, K_m_readUnit_4, K_m_readUnit_3, K_m_readUnit_34, K_m_readUnit_33, K_m_readUnit_32, K_m_readUnit_31, K_m_readUnit_26, K_m_readUnit_30, K_m_readUnit_29, K_m_readUnit_28, K_m_readUnit_27, K_m_readUnit_25, K_m_readUnit_23, K_m_readUnit_22, K_m_readUnit_21, K_m_readUnit_20, K_m_readUnit_1, M_m_readUnit]
    rw [if_pos q, if_neg (by omega), if_pos s, t_wants1, if_pos q]]
  rfl
theorem R1_other (q : mf.toInt = 0) (s : so.toInt ≠ 3) (s1 : so.toInt ≠ 1) (k1 k3 : Nat) : R1 n f (k1 + 1) k3 us ur ua dp ps mr so mv mf mw = R2 n f 100000 k3 us ur ua dp ps mr so mv 2 mr := by
  unfold R1 R2
  rw [show K_m_readUnit_L20 n f us ur ua (k1 + 1) dp ps mr so mv mf mw = _ from by
    simp only [K_m_readUnit_L20, K_m_readUnit_38, K_m_readUnit_37, K_m_readUnit_35, K_m_readUnit_40, K_m_readUnit_39, K_m_readUnit_36, K_m_readUnit_24, K_m_readUnit_14, K_m_readUnit_12, K_m_readUnit_13, K_m_readUnit_11, K_m_readUnit_10, K_m_readUnit_8, K_m_readUnit_19, K_m_readUnit_17, K_m_readUnit_18, K_m_readUnit_16, K_m_readUnit_15, K_m_readUnit_9, K_m_readUnit_7, K_m_readUnit_6, K_m_readUnit_5, K_m_readUnit_4, K_m_readUnit_3, K_m_readUnit_34, K_m_readUnit_33, K_m_readUnit_32, K_m_readUnit_31, K_m_readUnit_26, K_m_readUnit_30, K_m_readUnit_29, K_m_readUnit_28, K_m_readUnit_27, K_m_readUnit_25, K_m_readUnit_23, K_m_readUnit_22, K_m_readUnit_21, K_m_readUnit_20, K_m_readUnit_1, M_m_readUnit]
    rw [if_pos q, if_neg s, if_neg s1, t_wantsF q, if_neg (show ¬ (2 : Int32).toInt = 0 from by decide)]]
  rfl
theorem R1_fault (q : mf.toInt ≠ 0) (k1 k3 : Nat) : R1 n f (k1 + 1) k3 us ur ua dp ps mr so mv mf mw = R2 n f 100000 k3 us ur ua dp ps mr so mv mf mw := by
  unfold R1 R2
  rw [show K_m_readUnit_L20 n f us ur ua (k1 + 1) dp ps mr so mv mf mw = _ from by
    simp only [K_m_readUnit_L20, K_m_readUnit_38, K_m_readUnit_37, K_m_readUnit_35, K_m_readUnit_40, K_m_readUnit_39, K_m_readUnit_36, K_m_readUnit_24, K_m_readUnit_14, K_m_readUnit_12, K_m_readUnit_13, K_m_readUnit_11, K_m_readUnit_10, K_m_readUnit_8, K_m_readUnit_19, K_m_readUnit_17, K_m_readUnit_18, K_m_readUnit_16, K_m_readUnit_15, K_m_readUnit_9, K_m_readUnit_7, K_m_readUnit_6, K_m_readUnit_5, K_m_readUnit_4, K_m_readUnit_3, K_m_readUnit_34, K_m_readUnit_33, K_m_readUnit_32, K_m_readUnit_31, K_m_readUnit_26, K_m_readUnit_30, K_m_readUnit_29, K_m_readUnit_28, K_m_readUnit_27, K_m_readUnit_25, K_m_readUnit_23, K_m_readUnit_22, K_m_readUnit_21, K_m_readUnit_20, K_m_readUnit_1, M_m_readUnit]
    rw [if_neg q]]
  rfl
theorem R2_out (h : mf.toInt ≠ 0 ∨ so.toInt ≠ 4) (k2 : Nat) : K_m_readUnit_L3 n f us ur ua (k2 + 1) dp ps mr so mv mf mw = (us, dp, ps, mr, so, mv, mf, mw, ur, ua) := by
  simp only [K_m_readUnit_L3, K_m_readUnit_38, K_m_readUnit_37, K_m_readUnit_35, K_m_readUnit_40, K_m_readUnit_39, K_m_readUnit_36, K_m_readUnit_24, K_m_readUnit_14, K_m_readUnit_12, K_m_readUnit_13, K_m_readUnit_11, K_m_readUnit_10, K_m_readUnit_8, K_m_readUnit_19, K_m_readUnit_17, K_m_readUnit_18, K_m_readUnit_16, K_m_readUnit_15, K_m_readUnit_9, K_m_readUnit_7, K_m_readUnit_6, K_m_readUnit_5, K_m_readUnit_4, K_m_readUnit_3, K_m_readUnit_34, K_m_readUnit_33, K_m_readUnit_32, K_m_readUnit_31, K_m_readUnit_26, K_m_readUnit_30, K_m_readUnit_29, K_m_readUnit_28, K_m_readUnit_27, K_m_readUnit_25, K_m_readUnit_23, K_m_readUnit_22, K_m_readUnit_21, K_m_readUnit_20, K_m_readUnit_1, M_m_readUnit]
  by_cases q : mf.toInt = 0
  · have s : ¬ so.toInt = 4 := by
      rcases h with h | h
      · exact absurd q h
      · exact h
    rw [if_pos q, if_neg s]
  · rw [if_neg q]
theorem R2_fault (q : mf.toInt ≠ 0) (k2 k3 : Nat) : R2 n f (k2 + 1) (k3 + 1) us ur ua dp ps mr so mv mf mw = (us, dp, ps, mr, so, mv, mf, mw, ur, ua) := by
  unfold R2
  rw [R2_out (Or.inl q)]
  unfold xGo
  simp only [K_m_readFormula_L3, K_m_readFormula_8, K_m_readFormula_7, K_m_readFormula_12, K_m_readFormula_10, K_m_readFormula_11, K_m_readFormula_9, K_m_readFormula_6, K_m_readFormula_13, K_m_readFormula_16, K_m_readFormula_24, K_m_readFormula_23, K_m_readFormula_22, K_m_readFormula_18, K_m_readFormula_21, K_m_readFormula_20, K_m_readFormula_19, K_m_readFormula_17, K_m_readFormula_15, K_m_readFormula_14, K_m_readFormula_5, K_m_readFormula_4, K_m_readFormula_3, K_m_readFormula_2, K_m_readFormula_1, M_m_readFormula]
  rw [if_neg q]
theorem R2_right (q : mf.toInt = 0) (s : so.toInt = 4) (d : 0 < dp.toInt) (k2 k3 : Nat) : R2 n f (k2 + 1) k3 us ur ua dp ps mr so mv mf mw = R2 n f k2 k3 us ur ua (dp - 1) (M_m_next mf mv mw n f ps mr so).1 (M_m_next mf mv mw n f ps mr so).2.1 (M_m_next mf mv mw n f ps mr so).2.2.1 (M_m_next mf mv mw n f ps mr so).2.2.2.1 (M_m_next mf mv mw n f ps mr so).2.2.2.2.1 (M_m_next mf mv mw n f ps mr so).2.2.2.2.2 := by
  unfold R2
  rw [show K_m_readUnit_L3 n f us ur ua (k2 + 1) dp ps mr so mv mf mw = _ from by
    simp only [K_m_readUnit_L3, K_m_readUnit_38, K_m_readUnit_37, K_m_readUnit_35, K_m_readUnit_40, K_m_readUnit_39, K_m_readUnit_36, K_m_readUnit_24, K_m_readUnit_14, K_m_readUnit_12, K_m_readUnit_13, K_m_readUnit_11, K_m_readUnit_10, K_m_readUnit_8, K_m_readUnit_19, K_m_readUnit_17, K_m_readUnit_18, K_m_readUnit_16, K_m_readUnit_15, K_m_readUnit_9, K_m_readUnit_7, K_m_readUnit_6, K_m_readUnit_5, K_m_readUnit_4, K_m_readUnit_3, K_m_readUnit_34, K_m_readUnit_33, K_m_readUnit_32, K_m_readUnit_31, K_m_readUnit_26, K_m_readUnit_30, K_m_readUnit_29, K_m_readUnit_28, K_m_readUnit_27, K_m_readUnit_25, K_m_readUnit_23, K_m_readUnit_22, K_m_readUnit_21, K_m_readUnit_20, K_m_readUnit_1, M_m_readUnit]
    rw [if_pos q, if_pos s, if_neg (by omega), t_wants1, if_pos q]]
theorem R2_right0 (q : mf.toInt = 0) (s : so.toInt = 4) (d : dp.toInt ≤ 0) (k2 k3 : Nat) : R2 n f (k2 + 1) k3 us ur ua dp ps mr so mv mf mw = R2 n f k2 k3 us ur ua dp ps mr so mv 2 mr := by
  unfold R2
  rw [show K_m_readUnit_L3 n f us ur ua (k2 + 1) dp ps mr so mv mf mw = _ from by
    simp only [K_m_readUnit_L3, K_m_readUnit_38, K_m_readUnit_37, K_m_readUnit_35, K_m_readUnit_40, K_m_readUnit_39, K_m_readUnit_36, K_m_readUnit_24, K_m_readUnit_14, K_m_readUnit_12, K_m_readUnit_13, K_m_readUnit_11, K_m_readUnit_10, K_m_readUnit_8, K_m_readUnit_19, K_m_readUnit_17, K_m_readUnit_18, K_m_readUnit_16, K_m_readUnit_15, K_m_readUnit_9, K_m_readUnit_7, K_m_readUnit_6, K_m_readUnit_5, K_m_readUnit_4, K_m_readUnit_3, K_m_readUnit_34, K_m_readUnit_33, K_m_readUnit_32, K_m_readUnit_31, K_m_readUnit_26, K_m_readUnit_30, K_m_readUnit_29, K_m_readUnit_28, K_m_readUnit_27, K_m_readUnit_25, K_m_readUnit_23, K_m_readUnit_22, K_m_readUnit_21, K_m_readUnit_20, K_m_readUnit_1, M_m_readUnit]
    rw [if_pos q, if_pos s, if_pos d, t_wantsF q, if_neg (show ¬ (2 : Int32).toInt = 0 from by decide), t_next_id (show 0 < (2 : Int32).toInt from by decide)]]
theorem R2_op (q : mf.toInt = 0) (s : so.toInt = 5 ∨ so.toInt = 6) (k2 k3 : Nat) : R2 n f (k2 + 1) (k3 + 1) us ur ua dp ps mr so mv mf mw = R1 n f 100000 k3 us ur ua dp (M_m_next mf mv mw n f ps mr so).1 (M_m_next mf mv mw n f ps mr so).2.1 (M_m_next mf mv mw n f ps mr so).2.2.1 (M_m_next mf mv mw n f ps mr so).2.2.2.1 (M_m_next mf mv mw n f ps mr so).2.2.2.2.1 (M_m_next mf mv mw n f ps mr so).2.2.2.2.2 := by
  unfold R2
  rw [R2_out (Or.inr (by omega))]
  unfold xGo R1
  simp only [K_m_readFormula_L3, K_m_readFormula_8, K_m_readFormula_7, K_m_readFormula_12, K_m_readFormula_10, K_m_readFormula_11, K_m_readFormula_9, K_m_readFormula_6, K_m_readFormula_13, K_m_readFormula_16, K_m_readFormula_24, K_m_readFormula_23, K_m_readFormula_22, K_m_readFormula_18, K_m_readFormula_21, K_m_readFormula_20, K_m_readFormula_19, K_m_readFormula_17, K_m_readFormula_15, K_m_readFormula_14, K_m_readFormula_5, K_m_readFormula_4, K_m_readFormula_3, K_m_readFormula_2, K_m_readFormula_1, M_m_readFormula]
  rw [if_pos q]
  by_cases s5 : so.toInt = 5
  · simp only [if_pos s5]
    rfl
  · simp only [if_neg s5, if_pos (by omega : so.toInt = 6)]
    rfl
theorem R2_end (q : mf.toInt = 0) (s4 : so.toInt ≠ 4) (s5 : so.toInt ≠ 5) (s6 : so.toInt ≠ 6) (k2 k3 : Nat) : R2 n f (k2 + 1) (k3 + 1) us ur ua dp ps mr so mv mf mw = if dp.toInt = 0 then (us, dp, ps, mr, so, mv, mf, mw, ur, ua) else (us, dp, ps, mr, so, mv, 2, mr, ur, ua) := by
  unfold R2
  rw [R2_out (Or.inr s4)]
  unfold xGo
  simp only [K_m_readFormula_L3, K_m_readFormula_8, K_m_readFormula_7, K_m_readFormula_12, K_m_readFormula_10, K_m_readFormula_11, K_m_readFormula_9, K_m_readFormula_6, K_m_readFormula_13, K_m_readFormula_16, K_m_readFormula_24, K_m_readFormula_23, K_m_readFormula_22, K_m_readFormula_18, K_m_readFormula_21, K_m_readFormula_20, K_m_readFormula_19, K_m_readFormula_17, K_m_readFormula_15, K_m_readFormula_14, K_m_readFormula_5, K_m_readFormula_4, K_m_readFormula_3, K_m_readFormula_2, K_m_readFormula_1, M_m_readFormula]
  rw [if_pos q, if_neg s5, if_neg s6]
  by_cases d : dp.toInt = 0
  · simp only [if_pos d, t_wants1, if_pos q]
  · simp only [if_neg d, t_wantsF q, if_neg (show ¬ (2 : Int32).toInt = 0 from by decide)]
end
