theorem m_num9 {f : Nat → Int32} {n lo hi so mv ps mr mf mw : Int32} (p : 0 < mf.toInt) : M_m_readNumber mf so mv n f ps mr lo hi mw = (mv, ps, mr, so, mv, mf, mw) := by
  simp only [K_m_readNumber_18, K_m_readNumber_17, K_m_readNumber_15, K_m_readNumber_16, K_m_readNumber_14, K_m_readNumber_13, K_m_readNumber_6, K_m_readNumber_12, K_m_readNumber_11, K_m_readNumber_9, K_m_readNumber_10, K_m_readNumber_8, K_m_readNumber_7, K_m_readNumber_5, K_m_readNumber_3, K_m_readNumber_4, K_m_readNumber_2, K_m_readNumber_1, M_m_readNumber]
  rw [if_neg (by omega), t_next_id p]
theorem r_rail {f rf ur ua : Nat → Int32} {n dep rails dr us dp told pl kd fr vl fl fp ps mr so mv mf mw : Int32} (hf : ∀ j, 0 ≤ (f j).toInt) (hn : n.toInt ≤ 400) (h : xR n pl kd fr vl fl fp ps mr so mv mf mw) (q : fl.toInt = 0) (hd : rails = dr) (d0 : 0 ≤ rails.toInt) (d8 : rails.toInt ≤ 8) (hu : xUs rf us ur ua fr.toInt) (hus : us.toInt ≤ fr.toInt) (ht : 0 ≤ told.toInt ∧ told.toInt < 64) :
    ∃ (pl' kd' fr' vl' td' dep' fl' fp' rails' ps' mr' so' mv' mf' mw' dr' us' dp' : Int32) (rf' ur' ua' : Nat → Int32), M_readRail rails dep rf n f told fl fp kd pl fr vl = (pl', kd', fr', vl', td', dep', fl', fp', rf', rails') ∧ M_m_readRail dr n f us ur ua dp mv ps mr so mf mw = (dr', us', dp', ps', mr', so', mv', mf', mw', ur', ua') ∧ (0 ≤ rails'.toInt ∧ rails'.toInt ≤ 8) ∧ ((xR n pl' kd' fr' vl' fl' fp' ps' mr' so' mv' mf' mw' ∧ (fl'.toInt = 0 → dr' = rails' ∧ rails'.toInt = rails.toInt + 1 ∧ rails'.toInt ≤ 8 ∧ xUs rf' us' ur' ua' fr'.toInt ∧ us'.toInt ≤ fr'.toInt ∧ pl.toInt ≤ fr'.toInt ∧ (td' &&& 1) = (told &&& 1) ∧ (td' &&& 2) = (told &&& 2) ∧ 0 ≤ td'.toInt ∧ td'.toInt < 64)) ∨ (fl'.toInt = 0 ∧ kd'.toInt = 3 ∧ vl'.toInt = 41 ∧ mf' = 2 ∧ mw' = fr')) := by
  subst hd
  obtain ⟨e, hp, hw, hk⟩ := h
  subst e
  obtain ⟨e1, e2, r0, r1, r2, r3, k⟩ := hk q
  subst e1
  subst e2
  by_cases d : rails.toInt < 8
  · have rr : (rails + 1).toInt = rails.toInt + 1 := xadd rfl (by decide) (by omega) (by omega)
    rw [c_rail d, m_rail d]
    dsimp only
    rw [m_rail2]
    dsimp only
    have rt := r_tok (fp := fp) (kd := kd) (mv := mv) (mw := mw) (mr := fr) (so := so) hf hn (by omega) r2 (rfl : fl = fl) q
    generalize M_step n f fl fp kd pl = S at rt ⊢
    generalize M_m_next fl mv mw n f pl fr so = V at rt ⊢
    have tt := r_turn (V := V) hf hn rt.1 d0 (by omega : rails.toInt ≤ 7)
    generalize M_takeTurn S.2.2.2.2.1 S.2.1 rails n f S.2.2.2.2.2 S.1 S.2.2.1 S.2.2.2.1 = T at tt ⊢
    generalize M_m_next (xTF f n rails V) V.2.2.2.1 (xTW f n rails V) n f V.1 V.2.1 V.2.2.1 = W at tt ⊢
    have ra := r_num (lo := 1) (hi := 9) hf hn tt.1
    generalize M_takeNumber T.2.2.2.2.1 T.2.1 T.2.2.2.1 1 T.1 T.2.2.1 T.2.2.2.2.2 9 n f = A at ra ⊢
    generalize M_m_readNumber W.2.2.2.2.1 W.2.2.1 W.2.2.2.1 n f W.1 W.2.1 1 9 W.2.2.2.2.2 = A2 at ra ⊢
    have rb : xRt n (M_takeNumber A.2.2.2.2.2.1 A.2.2.1 A.2.2.2.2.1 A.1 A.2.1 A.2.2.2.1 A.2.2.2.2.2.2 9 n f).2 (M_m_readNumber A2.2.2.2.2.2.1 A2.2.2.2.1 A2.2.2.2.2.1 n f A2.2.1 A2.2.2.1 A2.1 9 A2.2.2.2.2.2.2).2 ∧ ((M_takeNumber A.2.2.2.2.2.1 A.2.2.1 A.2.2.2.2.1 A.1 A.2.1 A.2.2.2.1 A.2.2.2.2.2.2 9 n f).2.2.2.2.2.1.toInt = 0 → A.2.2.2.2.2.1.toInt = 0 ∧ A.2.1.toInt ≤ (M_takeNumber A.2.2.2.2.2.1 A.2.2.1 A.2.2.2.2.1 A.1 A.2.1 A.2.2.2.1 A.2.2.2.2.2.2 9 n f).2.2.2.1.toInt) := by
      by_cases z : A.2.2.2.2.2.1.toInt = 0
      · have g := r_num (lo := A.1) (hi := 9) hf hn ra.1
        rw [← (ra.2 z).2.1]
        exact ⟨g.1, fun y => ⟨z, (g.2 y).2.2.2.2⟩⟩
      · have g := r_numF (f := f) (lo := A.1) (lo2 := A2.1) (hi := 9) (hi2 := 9) ra.1 z
        rw [g.1, g.2]
        exact ⟨ra.1, fun y => absurd y z⟩
    generalize M_takeNumber A.2.2.2.2.2.1 A.2.2.1 A.2.2.2.2.1 A.1 A.2.1 A.2.2.2.1 A.2.2.2.2.2.2 9 n f = B at rb ⊢
    generalize M_m_readNumber A2.2.2.2.2.2.1 A2.2.2.2.1 A2.2.2.2.2.1 n f A2.2.1 A2.2.2.1 A2.1 9 A2.2.2.2.2.2.2 = B2 at rb ⊢
    have h3t := fin64 (P := fun x => (0 ≤ (x &&& 3).toInt ∧ (x &&& 3).toInt < 64) ∧ (0 : Int32) = Int32.ofNat ((x &&& 3).toInt.toNat / 4) ∧ cn (x &&& 3) = 0 ∧ ((x &&& 3) &&& 1) = (x &&& 1) ∧ ((x &&& 3) &&& 2) = (x &&& 2)) h3 ht.1 ht.2
    have bf := rb.1.1
    have bp := rb.1.2.1
    by_cases z : B.2.2.2.2.2.1.toInt = 0
    · have z2 : B2.2.2.2.2.2.1.toInt = 0 := by rw [← bf]; exact z
      rw [if_pos (by omega)]
      have c1 := rb.2 z
      have c2 := ra.2 c1.1
      have c3 := tt.2 c2.1
      have c4 := rt.2 c3.1
      have c5 := (rt.1.2.2.2 c3.1).2.2.2.1
      have c6 := (tt.1.2.2.2 c2.1).2.2.2.1
      have c7 := (ra.1.2.2.2 c1.1).2.2.2.1
      obtain ⟨pl1, kd1, fr1, vl1, td1, fl1, fp1, ps1, mr1, so1, mv1, mf1, mw1, y1, y2, y3, y4, y5⟩ := r_withs (dep := dep) (rf := rf) (rails := rails + 1) hf hn 5 0 B.2.1 B.2.2.1 B.2.2.2.1 B.2.2.2.2.1 (told &&& 3) B.2.2.2.2.2.1 B.2.2.2.2.2.2 B2.2.1 B2.2.2.1 B2.2.2.2.1 B2.2.2.2.2.1 B2.2.2.2.2.2.1 B2.2.2.2.2.2.2 0 (by decide) (by decide) rb.1 (fun _ => ⟨⟨h3t.1, h3t.2.1⟩, by rw [h3t.2.2.1]; decide⟩)
      rw [show K_readRail_L9 dep rf (rails + 1) n f 100000 0 B.2.1 B.2.2.1 B.2.2.2.1 B.2.2.2.2.1 (told &&& 3) B.2.2.2.2.2.1 B.2.2.2.2.2.2 = _ from y1 99994, show K_m_readRail_L7 rails n f us ur ua dp 100000 0 B2.2.1 B2.2.2.1 B2.2.2.2.1 B2.2.2.2.2.1 B2.2.2.2.2.2.1 B2.2.2.2.2.2.2 = _ from y2 99994 rails us dp ur ua]
      obtain ⟨pl', kd', fr', vl', dep', fl', fp', ps', mr', so', mv', mf', mw', dr', us', dp', rf', ur', ua', x1, x2, x3⟩ := r_when (rf := rf) (ur := ur) (ua := ua) (us := us) (dep := dep) (dp := dp) (rails := rails + 1) (dr := rails) (td := td1) (b := pl.toInt) hf hn y3 y4 (fun y => by
        have g := y5 y
        exact ⟨xUs_up hu (by omega), by omega, by omega⟩) rfl
      refine ⟨pl', kd', fr', vl', td1, dep', fl', fp', rails + 1, ps', mr', so', mv', mf', mw', dr', us', dp', rf', ur', ua', x1, x2, ⟨by omega, by omega⟩, ?_⟩
      rcases x3 with ⟨m1, m2⟩ | ⟨m1, m2, m3, m4, m5, m6⟩
      · refine Or.inl ⟨m1, fun y => ?_⟩
        obtain ⟨g1, g2, g3, g4, g5⟩ := m2 y
        have g := y5 g1
        exact ⟨g2, rr, by omega, g3, g4, g5, g.2.2.1.trans h3t.2.2.2.1, g.2.2.2.1.trans h3t.2.2.2.2, g.2.2.2.2⟩
      · exact Or.inr ⟨m1, m3, m4, m5, m6⟩
    · have z2 : ¬ B2.2.2.2.2.2.1.toInt = 0 := by rw [← bf]; exact z
      have z3 : 0 ≤ B2.2.2.2.2.2.1.toInt := by rw [← bf]; exact bp
      rw [if_neg (by omega), show K_readRail_L9 dep rf (rails + 1) n f 100000 0 B.2.1 B.2.2.1 B.2.2.2.1 B.2.2.2.2.1 (told &&& 3) B.2.2.2.2.2.1 B.2.2.2.2.2.2 = _ from c_end (Or.inr (Or.inl z)) 99999, c_x, if_neg z]
      exact ⟨_, _, _, _, _, _, _, _, _, _, _, _, _, _, _, _, _, _, _, _, _, rfl, rfl, ⟨by omega, by omega⟩, Or.inl ⟨rb.1, fun y => absurd y z⟩⟩
  · refine ⟨pl, kd, fr, vl, told, dep, 5, fr, rails, pl, fr, so, mv, 5, fr, rails, us, dp, rf, ur, ua, ?_, ?_, ⟨d0, d8⟩, Or.inl ⟨xR_no rfl (by decide) rfl, fun y => absurd y (by decide)⟩⟩
    · simp only [K_readRail_15, K_readRail_18, K_readRail_17, K_readRail_16, K_readRail_14, K_readRail_13, K_readRail_12, K_readRail_10, K_readRail_43, K_readRail_37, K_readRail_39, K_readRail_42, K_readRail_41, K_readRail_40, K_readRail_38, K_readRail_36, K_readRail_35, K_readRail_29, K_readRail_31, K_readRail_34, K_readRail_33, K_readRail_32, K_readRail_30, K_readRail_28, K_readRail_20, K_readRail_24, K_readRail_27, K_readRail_26, K_readRail_25, K_readRail_23, K_readRail_22, K_readRail_21, K_readRail_19, K_readRail_11, K_readRail_9, K_readRail_8, K_readRail_7, K_readRail_6, K_readRail_5, K_readRail_4, K_readRail_2, K_readRail_44, K_readRail_3, K_readRail_1, M_readRail]
      rw [if_neg d, t_refuse q]
    · simp only [K_m_readRail_17, K_m_readRail_15, K_m_readRail_19, K_m_readRail_18, K_m_readRail_27, K_m_readRail_25, K_m_readRail_26, K_m_readRail_24, K_m_readRail_23, K_m_readRail_22, K_m_readRail_21, K_m_readRail_20, K_m_readRail_16, K_m_readRail_14, K_m_readRail_12, K_m_readRail_13, K_m_readRail_11, K_m_readRail_9, K_m_readRail_10, K_m_readRail_8, K_m_readRail_7, K_m_readRail_5, K_m_readRail_6, K_m_readRail_4, K_m_readRail_28, K_m_readRail_3, K_m_readRail_30, K_m_readRail_29, K_m_readRail_51, K_m_readRail_49, K_m_readRail_50, K_m_readRail_48, K_m_readRail_47, K_m_readRail_46, K_m_readRail_45, K_m_readRail_44, K_m_readRail_35, K_m_readRail_43, K_m_readRail_41, K_m_readRail_42, K_m_readRail_40, K_m_readRail_39, K_m_readRail_38, K_m_readRail_37, K_m_readRail_36, K_m_readRail_34, K_m_readRail_33, K_m_readRail_32, K_m_readRail_31, K_m_readRail_55, K_m_readRail_54, K_m_readRail_52, K_m_readRail_57, K_m_readRail_56, K_m_readRail_53, K_m_readRail_1, M_m_readRail]
      rw [if_pos (by omega)]
      simp only [t_wantsF q, t_next_id (show 0 < (5 : Int32).toInt from by decide), if_neg (show ¬ (5 : Int32).toInt = 0 from by decide)]
      rw [m_rail2]
      simp only [t_next_id (show 0 < (5 : Int32).toInt from by decide), m_num9 (show 0 < (5 : Int32).toInt from by decide), if_neg (show ¬ (5 : Int32).toInt ≤ 0 from by decide)]
