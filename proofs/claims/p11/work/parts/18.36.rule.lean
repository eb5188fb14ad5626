theorem ob_dist (t a b : Int32) : (t ||| a) &&& b = (t &&& b) ||| (a &&& b) := by
  apply Int32.toBitVec_inj.mp
  rw [Int32.toBitVec_and, Int32.toBitVec_or, Int32.toBitVec_or, Int32.toBitVec_and, Int32.toBitVec_and]
  ext i hi
  simp only [BitVec.getElem_and, BitVec.getElem_or]
  cases t.toBitVec[i] <;> cases a.toBitVec[i] <;> cases b.toBitVec[i] <;> rfl
theorem l_end {f : Nat → Int32} {n mf so dr dL dR dP hl hr us dp mv ps mr mw : Int32} {ur ua : Nat → Int32} (h : 0 ≤ mf.toInt) : K_m_readLine_2 mf so dr dL dR dP hl hr us dp ur ua mv n f ps mr mw = (dr, dL, dR, dP, hl, hr, us, dp, (if mf.toInt = 0 then (if so.toInt = 7 then M_m_next mf mv mw n f ps mr so else (ps, mr, so, mv, 2, mr)) else (ps, mr, so, mv, mf, mw)).1, (if mf.toInt = 0 then (if so.toInt = 7 then M_m_next mf mv mw n f ps mr so else (ps, mr, so, mv, 2, mr)) else (ps, mr, so, mv, mf, mw)).2.1, (if mf.toInt = 0 then (if so.toInt = 7 then M_m_next mf mv mw n f ps mr so else (ps, mr, so, mv, 2, mr)) else (ps, mr, so, mv, mf, mw)).2.2.1, (if mf.toInt = 0 then (if so.toInt = 7 then M_m_next mf mv mw n f ps mr so else (ps, mr, so, mv, 2, mr)) else (ps, mr, so, mv, mf, mw)).2.2.2.1, (if mf.toInt = 0 then (if so.toInt = 7 then M_m_next mf mv mw n f ps mr so else (ps, mr, so, mv, 2, mr)) else (ps, mr, so, mv, mf, mw)).2.2.2.2.1, (if mf.toInt = 0 then (if so.toInt = 7 then M_m_next mf mv mw n f ps mr so else (ps, mr, so, mv, 2, mr)) else (ps, mr, so, mv, mf, mw)).2.2.2.2.2, ur, ua) := by
  simp only [K_m_readLine_11, K_m_readLine_10, K_m_readLine_7, K_m_readLine_9, K_m_readLine_8, K_m_readLine_6, K_m_readLine_4, K_m_readLine_5, K_m_readLine_3, K_m_readLine_2, K_m_readLine_37, K_m_readLine_14, K_m_readLine_30, K_m_readLine_36, K_m_readLine_35, K_m_readLine_32, K_m_readLine_34, K_m_readLine_33, K_m_readLine_31, K_m_readLine_16, K_m_readLine_21, K_m_readLine_20, K_m_readLine_22, K_m_readLine_28, K_m_readLine_27, K_m_readLine_24, K_m_readLine_26, K_m_readLine_25, K_m_readLine_23, K_m_readLine_18, K_m_readLine_17, K_m_readLine_15, K_m_readLine_13, K_m_readLine_42, K_m_readLine_41, K_m_readLine_39, K_m_readLine_40, K_m_readLine_38, K_m_readLine_1, M_m_readLine]
  by_cases q : mf.toInt = 0
  · simp only [if_pos q]
    by_cases s : so.toInt = 7
    · simp only [if_pos s, t_wants1]
    · simp only [if_neg s, t_wantsF q]
      rw [t_next_id (by decide)]
  · simp only [if_neg q]
    rw [t_next_id (by omega)]
