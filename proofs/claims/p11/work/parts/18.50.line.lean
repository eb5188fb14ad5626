abbrev xLn : Type := Int32 × (Nat → Int32) × Int32 × Int32 × Int32 × Int32 × Int32 × Int32 × Int32 × Int32 × Int32 × Int32 × Int32
/-- one line of the text, the class's side: rails, rf, place, kind, from, value, told, depth, fault, its place -/
def cLine (n : Int32) (f : Nat → Int32) (rails : Int32) (rf : Nat → Int32) (pl kd fr vl told dep fl fp li re be : Int32) : xLn := if (M_isWord kd pl fr 4 f 0).toInt = 0 then (fun t => (fun s => (rails, rf, s.1, s.2.1, s.2.2.1, s.2.2.2.1, t.2.2.2.2.1, dep, s.2.2.2.2.1, s.2.2.2.2.2, t.2.2.2.2.2.2.2.1, t.2.2.2.2.2.2.2.2.1, t.2.2.2.2.2.2.2.2.2)) (M_takeSign t.2.2.2.2.2.1 t.1 t.2.1 t.2.2.1 t.2.2.2.1 t.2.2.2.2.2.2.1 n f 59)) (M_readRule pl kd fr vl told li re be fl fp n f) else (fun t => (fun s => (t.2.2.2.2.2.2.2.2.2, t.2.2.2.2.2.2.2.2.1, s.1, s.2.1, s.2.2.1, s.2.2.2.1, t.2.2.2.2.1, t.2.2.2.2.2.1, s.2.2.2.2.1, s.2.2.2.2.2, li, re, be)) (M_takeSign t.2.2.2.2.2.2.1 t.1 t.2.1 t.2.2.1 t.2.2.2.1 t.2.2.2.2.2.2.2.1 n f 59)) (M_readRail rails dep rf n f told fl fp kd pl fr vl)
theorem line_rail {f ur ua : Nat → Int32} {n dr dL dR dP us dp hl hr mv ps mr so mf mw : Int32} (q : mf.toInt = 0) (s1 : so.toInt = 1) (v : (M_m_nameNow ps mr n f).toInt = 20) : M_m_readLine so dL dR dP hl hr n f dr us ur ua dp mv ps mr mf mw = (fun t => K_m_readLine_2 t.2.2.2.2.2.2.2.1 t.2.2.2.2.2.1 t.1 dL dR dP hl hr t.2.1 t.2.2.1 t.2.2.2.2.2.2.2.2.2.1 t.2.2.2.2.2.2.2.2.2.2 t.2.2.2.2.2.2.1 n f t.2.2.2.1 t.2.2.2.2.1 t.2.2.2.2.2.2.2.2.1) (M_m_readRail dr n f us ur ua dp mv ps mr so mf mw) := by
  simp only [K_m_readLine_11, K_m_readLine_10, K_m_readLine_7, K_m_readLine_9, K_m_readLine_8, K_m_readLine_6, K_m_readLine_4, K_m_readLine_5, K_m_readLine_3, K_m_readLine_37, K_m_readLine_14, K_m_readLine_30, K_m_readLine_29, K_m_readLine_36, K_m_readLine_35, K_m_readLine_32, K_m_readLine_34, K_m_readLine_33, K_m_readLine_31, K_m_readLine_16, K_m_readLine_21, K_m_readLine_20, K_m_readLine_22, K_m_readLine_19, K_m_readLine_28, K_m_readLine_27, K_m_readLine_24, K_m_readLine_26, K_m_readLine_25, K_m_readLine_23, K_m_readLine_18, K_m_readLine_17, K_m_readLine_15, K_m_readLine_13, K_m_readLine_12, K_m_readLine_42, K_m_readLine_41, K_m_readLine_39, K_m_readLine_40, K_m_readLine_38, K_m_readLine_1, M_m_readLine]
  rw [if_pos s1, if_pos (by omega : 20 ≤ (M_m_nameNow ps mr n f).toInt ∧ (M_m_nameNow ps mr n f).toInt ≤ 22), t_wants1, if_pos v]
theorem r_sign2 {f : Nat → Int32} {n pl kd fr vl fl fp ps mr so mv mf mw : Int32} (q : fl.toInt = 0) (c : kd.toInt = 3) (v : vl.toInt = 41) (e : mf = 2) (ew : mw = fr) : xRt n (M_takeSign fl pl kd fr vl fp n f 59) (if mf.toInt = 0 then (if so.toInt = 7 then M_m_next mf mv mw n f ps mr so else (ps, mr, so, mv, 2, mr)) else (ps, mr, so, mv, mf, mw)) ∧ ¬ (M_takeSign fl pl kd fr vl fp n f 59).2.2.2.2.1.toInt = 0 := by
  subst e
  subst ew
  have z59 : (59 : Int32).toInt = 59 := by decide
  simp only [K_takeSign_7, K_takeSign_5, K_takeSign_8, K_takeSign_6, K_takeSign_4, K_takeSign_2, K_takeSign_3, K_takeSign_1, M_takeSign, t_isSign]
  rw [if_pos q, if_neg (by omega : ¬ (kd.toInt = 3 ∧ vl.toInt = (59 : Int32).toInt)), if_pos (by decide), t_refuse q, if_neg (by decide)]
  exact ⟨xR_no rfl (show 0 < (2 : Int32).toInt from by decide) rfl, show ¬ (2 : Int32).toInt = 0 from by decide⟩
theorem r_line {f rf ur ua : Nat → Int32} {n dep rails dr us dp told hl hr pl kd fr vl fl fp ps mr so mv mf mw li re be dL dR dP : Int32} (hf : ∀ j, 0 ≤ (f j).toInt) (hn : n.toInt ≤ 400) (h : xR n pl kd fr vl fl fp ps mr so mv mf mw) (q : fl.toInt = 0) (k0 : ¬ kd.toInt = 0) (hd : rails = dr) (d0 : 0 ≤ rails.toInt) (d8 : rails.toInt ≤ 8) (hu : xUs rf us ur ua fr.toInt) (hus : us.toInt ≤ fr.toInt) (ht : 0 ≤ told.toInt ∧ told.toInt < 64) (b1 : (told &&& 1).toInt = 0 ↔ hl.toInt = 0) (b2 : (told &&& 2).toInt = 0 ↔ hr.toInt = 0) (hE : li = dL ∧ re = dR ∧ be = dP) :
    ∃ (rails' pl' kd' fr' vl' td' dep' fl' fp' dr' hl' hr' us' dp' ps' mr' so' mv' mf' mw' li' re' be' dL' dR' dP' : Int32) (rf' ur' ua' : Nat → Int32), cLine n f rails rf pl kd fr vl told dep fl fp li re be = (rails', rf', pl', kd', fr', vl', td', dep', fl', fp', li', re', be') ∧ M_m_readLine so dL dR dP hl hr n f dr us ur ua dp mv ps mr mf mw = (dr', dL', dR', dP', hl', hr', us', dp', ps', mr', so', mv', mf', mw', ur', ua') ∧ (0 ≤ rails'.toInt ∧ rails'.toInt ≤ 8) ∧ xR n pl' kd' fr' vl' fl' fp' ps' mr' so' mv' mf' mw' ∧ (fl'.toInt = 0 → rails' = dr' ∧ 0 ≤ rails'.toInt ∧ rails'.toInt ≤ 8 ∧ xUs rf' us' ur' ua' fr'.toInt ∧ us'.toInt ≤ fr'.toInt ∧ fr.toInt < fr'.toInt ∧ (0 ≤ td'.toInt ∧ td'.toInt < 64) ∧ ((td' &&& 1).toInt = 0 ↔ hl'.toInt = 0) ∧ ((td' &&& 2).toInt = 0 ↔ hr'.toInt = 0) ∧ li' = dL' ∧ re' = dR' ∧ be' = dP') := by
  have hx := h.2.2.2 q
  have lt := hx.2.2.2.2.2.1 k0
  have q2 : mf.toInt = 0 := by rw [← h.1]; exact q
  by_cases w : kd.toInt = 1 ∧ xW0 f fr pl
  · have i0 : ¬ (M_isWord kd pl fr 4 f 0).toInt = 0 := by rw [w_rail, if_pos w]; decide
    have s1 : so.toInt = 1 := (xK1 hx.2.2.2.2.2.2).1.mp w.1
    have v20 : (M_m_nameNow ps mr n f).toInt = 20 := by
      rw [← hx.1, ← hx.2.1]
      exact (nm_some (f := f) (ps := pl) hx.2.2.1 hx.2.2.2.2.1 hn).1.mpr w.2
    obtain ⟨pl1, kd1, fr1, vl1, td1, dep1, fl1, fp1, rails1, ps1, mr1, so1, mv1, mf1, mw1, dr1, us1, dp1, rf1, ur1, ua1, x1, x2, x9, x3⟩ := r_rail (rf := rf) (ur := ur) (ua := ua) (dep := dep) (dp := dp) (us := us) (told := told) hf hn h q hd d0 d8 hu hus ht
    unfold cLine
    rw [if_neg i0, x1, line_rail q2 s1 v20, x2]
    dsimp only
    rcases x3 with ⟨m1, m2⟩ | ⟨m1, m2, m3, m4, m5⟩
    · have mp : 0 ≤ mf1.toInt := by rw [← m1.1]; exact m1.2.1
      rw [l_end mp]
      have rs := r_sign hf hn m1
      refine ⟨_, _, _, _, _, _, _, _, _, _, _, _, _, _, _, _, _, _, _, _, _, _, _, _, _, _, _, _, _, rfl, rfl, x9, rs.1, fun z => ?_⟩
      have g := rs.2 z
      obtain ⟨g1, g2, g3, g4, g5, g6, g7, g8, g9⟩ := m2 g.1
      have g10 := (m1.2.2.2 g.1).2.2.2.1
      exact ⟨g1.symm, by omega, g3, xUs_up g4 (by omega), by omega, by omega, g9, by rw [g7]; exact b1, by rw [g8]; exact b2, hE⟩
    · rw [l_end (by rw [m4]; decide)]
      have rs := r_sign2 (f := f) (n := n) (pl := pl1) (fp := fp1) (ps := ps1) (mr := mr1) (so := so1) (mv := mv1) m1 m2 m3 m4 m5
      exact ⟨_, _, _, _, _, _, _, _, _, _, _, _, _, _, _, _, _, _, _, _, _, _, _, _, _, _, _, _, _, rfl, rfl, x9, rs.1, fun z => absurd z rs.2⟩
  · have i0 : (M_isWord kd pl fr 4 f 0).toInt = 0 := by rw [w_rail, if_neg w]; decide
    obtain ⟨pl1, kd1, fr1, vl1, td1, fl1, fp1, ps1, mr1, so1, mv1, mf1, mw1, hl1, hr1, li1, re1, be1, dL1, dR1, dP1, x1, x2, m1, x4, x5, x6⟩ := r_rule (li := li) (re := re) (be := be) (dL := dL) (dR := dR) (dP := dP) (dr := dr) (us := us) (dp := dp) (ur := ur) (ua := ua) hf hn h q w b1 b2 ht
    unfold cLine
    rw [if_pos i0, x1, x2]
    dsimp only
    have mp : 0 ≤ mf1.toInt := by rw [← m1.1]; exact m1.2.1
    rw [l_end mp]
    have rs := r_sign hf hn m1
    refine ⟨_, _, _, _, _, _, _, _, _, _, _, _, _, _, _, _, _, _, _, _, _, _, _, _, _, _, _, _, _, rfl, rfl, ⟨d0, d8⟩, rs.1, fun z => ?_⟩
    have g := rs.2 z
    have g1 := x6.2 g.1
    have g10 := (m1.2.2.2 g.1).2.2.2.1
    exact ⟨hd, d0, d8, xUs_up hu (by omega), by omega, by omega, x6.1, x4, x5, g1.2 hE.1 hE.2.1 hE.2.2⟩
