theorem t_refuse {fl c a fp : Int32} (h : fl.toInt = 0) : M_refuse fl c a fp = (c, a) := by
  simp only [K_refuse_3, K_refuse_2, K_refuse_1, M_refuse]
  rw [if_pos h]
theorem t_wantsF {fl c s w : Int32} (h : fl.toInt = 0) : M_m_wants 0 fl c s w = (c, s) := by
  rw [t_wants0]
  unfold sp_fl sp_fp
  rw [if_pos h, if_pos h]
theorem t_wantsN {a fl c s w : Int32} (h : fl.toInt ≠ 0) : M_m_wants a fl c s w = (fl, w) := by
  simp only [K_m_wants_5, K_m_wants_4, K_m_wants_3, K_m_wants_2, K_m_wants_1, M_m_wants]
  by_cases q : a.toInt = 0
  · rw [if_pos q, if_neg h]
  · rw [if_neg q]
theorem t_next_id {f : Nat → Int32} {n fl v w ps fr so : Int32} (h : 0 < fl.toInt) : M_m_next fl v w n f ps fr so = (ps, fr, so, v, fl, w) := by
  simp only [K_m_next_7, K_m_next_69, K_m_next_68, K_m_next_67, K_m_next_66, K_m_next_65, K_m_next_64, K_m_next_63, K_m_next_12, K_m_next_48, K_m_next_50, K_m_next_49, K_m_next_43, K_m_next_46, K_m_next_44, K_m_next_47, K_m_next_45, K_m_next_42, K_m_next_41, K_m_next_40, K_m_next_38, K_m_next_60, K_m_next_62, K_m_next_61, K_m_next_55, K_m_next_58, K_m_next_56, K_m_next_59, K_m_next_57, K_m_next_54, K_m_next_53, K_m_next_52, K_m_next_51, K_m_next_39, K_m_next_33, K_m_next_36, K_m_next_34, K_m_next_37, K_m_next_35, K_m_next_32, K_m_next_31, K_m_next_14, K_m_next_30, K_m_next_16, K_m_next_29, K_m_next_18, K_m_next_28, K_m_next_20, K_m_next_27, K_m_next_22, K_m_next_26, K_m_next_24, K_m_next_25, K_m_next_23, K_m_next_21, K_m_next_19, K_m_next_17, K_m_next_15, K_m_next_13, K_m_next_11, K_m_next_9, K_m_next_10, K_m_next_8, K_m_next_6, K_m_next_5, K_m_next_4, K_m_next_2, K_m_next_3, K_m_next_1, M_m_next]
  rw [if_neg (by omega)]
theorem xK2 {kd vl so mv : Int32} (h : xK kd vl so mv) : (kd.toInt = 2 → so.toInt = 2 ∧ vl = mv) ∧ (so.toInt = 2 → kd.toInt = 2) := by
  unfold xK at h
  rcases h with h | h | h | h
  · exact ⟨fun z => absurd z (by omega), fun z => absurd z (by omega)⟩
  · exact ⟨fun z => absurd z (by omega), fun z => absurd z (by omega)⟩
  · exact ⟨fun _ => h.2, fun _ => h.1⟩
  · exact ⟨fun z => absurd z (by omega), fun z => absurd z (by omega)⟩
theorem xK1 {kd vl so mv : Int32} (h : xK kd vl so mv) : (kd.toInt = 1 ↔ so.toInt = 1) ∧ (kd.toInt = 0 ↔ so.toInt = 0) := by
  unfold xK at h
  omega
theorem r_num {f : Nat → Int32} {n lo hi pl kd fr vl fl fp ps mr so mv mf mw : Int32} (hf : ∀ j, 0 ≤ (f j).toInt) (hn : n.toInt ≤ 400) (h : xR n pl kd fr vl fl fp ps mr so mv mf mw) : xRt n (M_takeNumber fl kd vl lo pl fr fp hi n f).2 (M_m_readNumber mf so mv n f ps mr lo hi mw).2 ∧ ((M_takeNumber fl kd vl lo pl fr fp hi n f).2.2.2.2.2.1.toInt = 0 → fl.toInt = 0 ∧ (M_takeNumber fl kd vl lo pl fr fp hi n f).1 = (M_m_readNumber mf so mv n f ps mr lo hi mw).1 ∧ lo.toInt ≤ (M_takeNumber fl kd vl lo pl fr fp hi n f).1.toInt ∧ (M_takeNumber fl kd vl lo pl fr fp hi n f).1.toInt ≤ hi.toInt ∧ pl.toInt ≤ (M_takeNumber fl kd vl lo pl fr fp hi n f).2.2.2.1.toInt) := by
  obtain ⟨e, hp, hw, hk⟩ := h
  subst e
  simp only [K_takeNumber_8, K_takeNumber_6, K_takeNumber_11, K_takeNumber_9, K_takeNumber_12, K_takeNumber_10, K_takeNumber_7, K_takeNumber_4, K_takeNumber_13, K_takeNumber_5, K_takeNumber_2, K_takeNumber_3, K_takeNumber_1, M_takeNumber, K_m_readNumber_18, K_m_readNumber_17, K_m_readNumber_15, K_m_readNumber_16, K_m_readNumber_14, K_m_readNumber_13, K_m_readNumber_6, K_m_readNumber_12, K_m_readNumber_11, K_m_readNumber_9, K_m_readNumber_10, K_m_readNumber_8, K_m_readNumber_7, K_m_readNumber_5, K_m_readNumber_3, K_m_readNumber_4, K_m_readNumber_2, K_m_readNumber_1, M_m_readNumber]
  have z2 : (2 : Int32).toInt = 2 := by decide
  have z3 : (3 : Int32).toInt = 3 := by decide
  by_cases q : fl.toInt = 0
  · obtain ⟨e1, e2, r0, r1, r2, r3, k⟩ := hk q
    subst e1
    subst e2
    have k2 := xK2 k
    rw [if_pos q, if_pos q]
    by_cases q2 : kd.toInt = 2
    · obtain ⟨s2, ev⟩ := k2.1 q2
      subst ev
      rw [if_pos q2, if_pos s2]
      simp only [t_wants1]
      rw [if_pos q]
      by_cases q3 : lo.toInt ≤ vl.toInt ∧ vl.toInt ≤ hi.toInt
      · rw [if_neg (by omega : ¬ vl.toInt < lo.toInt), if_pos q3.2, if_pos q3]
        simp only [t_wants1]
        have w := r_tok (fp := fp) (kd := kd) (mv := vl) (mw := mw) (mr := fr) (so := so) hf hn (by omega) r2 (rfl : fl = fl) q
        exact ⟨w.1, fun z => ⟨q, trivial, q3.1, q3.2, w.2 z⟩⟩
      · rw [if_neg q3]
        simp only [t_wantsF q]
        rw [t_next_id (by omega)]
        by_cases q4 : vl.toInt < lo.toInt
        · rw [if_pos q4]
          simp only [t_refuse q]
          exact ⟨xR_no rfl (by show 0 < (3 : Int32).toInt; omega) rfl, fun z => absurd z (by show ¬ (3 : Int32).toInt = 0; omega)⟩
        · rw [if_neg q4, if_neg (by omega : ¬ vl.toInt ≤ hi.toInt)]
          simp only [t_refuse q]
          exact ⟨xR_no rfl (by show 0 < (3 : Int32).toInt; omega) rfl, fun z => absurd z (by show ¬ (3 : Int32).toInt = 0; omega)⟩
    · rw [if_neg q2, if_neg (fun z => q2 (k2.2 z))]
      simp only [t_wantsF q, t_refuse q]
      rw [if_neg (by omega), t_next_id (by omega)]
      exact ⟨xR_no rfl (by show 0 < (2 : Int32).toInt; omega) rfl, fun z => absurd z (by show ¬ (2 : Int32).toInt = 0; omega)⟩
  · rw [if_neg q, if_neg q, t_next_id (by omega)]
    exact ⟨xR_no rfl (by show 0 < fl.toInt; omega) (hw q), fun z => absurd z q⟩
theorem t_isSign {kd vl c : Int32} : M_isSign kd vl c = if kd.toInt = 3 ∧ vl.toInt = c.toInt then 1 else 0 := by
  simp only [K_isSign_5, K_isSign_4, K_isSign_3, K_isSign_2, K_isSign_1, M_isSign]
  by_cases q : kd.toInt = 3
  · rw [if_pos q]
    by_cases w : vl.toInt = c.toInt
    · rw [if_pos w, if_pos ⟨q, w⟩]
    · rw [if_neg w, if_neg (fun z => w z.2)]
  · rw [if_neg q, if_neg (fun z => q z.1)]
/-- the end of a line on both sides: a ; is taken -/
theorem r_sign {f : Nat → Int32} {n pl kd fr vl fl fp ps mr so mv mf mw : Int32} (hf : ∀ j, 0 ≤ (f j).toInt) (hn : n.toInt ≤ 400) (h : xR n pl kd fr vl fl fp ps mr so mv mf mw) : xRt n (M_takeSign fl pl kd fr vl fp n f 59) (if mf.toInt = 0 then (if so.toInt = 7 then M_m_next mf mv mw n f ps mr so else (ps, mr, so, mv, 2, mr)) else (ps, mr, so, mv, mf, mw)) ∧ ((M_takeSign fl pl kd fr vl fp n f 59).2.2.2.2.1.toInt = 0 → fl.toInt = 0 ∧ pl.toInt ≤ (M_takeSign fl pl kd fr vl fp n f 59).2.2.1.toInt) := by
  obtain ⟨e, hp, hw, hk⟩ := h
  subst e
  simp only [K_takeSign_7, K_takeSign_5, K_takeSign_8, K_takeSign_6, K_takeSign_4, K_takeSign_2, K_takeSign_3, K_takeSign_1, M_takeSign, t_isSign]
  by_cases q : fl.toInt = 0
  · obtain ⟨e1, e2, r0, r1, r2, r3, k⟩ := hk q
    subst e1
    subst e2
    rw [if_pos q, if_pos q]
    have z59 : (59 : Int32).toInt = 59 := by decide
    by_cases q7 : so.toInt = 7
    · have c9 : kd.toInt = 3 ∧ vl.toInt = (59 : Int32).toInt := by unfold xK at k; omega
      rw [if_pos c9, if_neg (by decide), if_pos q7]
      have w := r_tok (fp := fp) (kd := kd) (mv := mv) (mw := mw) (mr := fr) (so := so) hf hn (by omega) r2 (rfl : fl = fl) q
      exact ⟨w.1, fun z => ⟨q, w.2 z⟩⟩
    · have c9 : ¬ (kd.toInt = 3 ∧ vl.toInt = (59 : Int32).toInt) := by unfold xK at k; omega
      rw [if_neg c9, if_pos (by decide), if_neg q7]
      simp only [t_refuse q]
      exact ⟨xR_no rfl (by show 0 < (2 : Int32).toInt; decide) rfl, fun z => absurd z (by show ¬ (2 : Int32).toInt = 0; decide)⟩
  · rw [if_neg q, if_neg q]
    exact ⟨xR_no rfl (by show 0 < fl.toInt; omega) (hw q), fun z => absurd z q⟩
