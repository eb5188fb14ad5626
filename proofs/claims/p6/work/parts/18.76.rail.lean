def xTF (f : Nat → Int32) (n dr : Int32) (V : xT) : Int32 := if V.2.2.2.2.1.toInt = 0 then (if V.2.2.1.toInt = 1 then (if (M_m_nameNow V.1 V.2.1 n f).toInt = dr.toInt then V.2.2.2.2.1 else 3) else 2) else V.2.2.2.2.1
def xTW (f : Nat → Int32) (n dr : Int32) (V : xT) : Int32 := if V.2.2.2.2.1.toInt = 0 then (if V.2.2.1.toInt = 1 then (if (M_m_nameNow V.1 V.2.1 n f).toInt = dr.toInt then V.2.2.2.2.2 else V.2.1) else V.2.1) else V.2.2.2.2.2
theorem r_turn {f : Nat → Int32} {n r pl kd fr vl fl fp : Int32} {V : xT} (hf : ∀ j, 0 ≤ (f j).toInt) (hn : n.toInt ≤ 400) (h : xR n pl kd fr vl fl fp V.1 V.2.1 V.2.2.1 V.2.2.2.1 V.2.2.2.2.1 V.2.2.2.2.2) (r0 : 0 ≤ r.toInt) (r7 : r.toInt ≤ 7) : xRt n (M_takeTurn fl kd r n f fp pl fr vl) (M_m_next (xTF f n r V) V.2.2.2.1 (xTW f n r V) n f V.1 V.2.1 V.2.2.1) ∧ ((M_takeTurn fl kd r n f fp pl fr vl).2.2.2.2.1.toInt = 0 → fl.toInt = 0 ∧ pl.toInt ≤ (M_takeTurn fl kd r n f fp pl fr vl).2.2.1.toInt) := by
  obtain ⟨ps, mr, so, mv, mf, mw⟩ := V
  unfold xTF xTW
  dsimp only at h ⊢
  obtain ⟨e, hp, hw, hk⟩ := h
  subst e
  simp only [K_takeTurn_9, K_takeTurn_7, K_takeTurn_10, K_takeTurn_8, K_takeTurn_6, K_takeTurn_4, K_takeTurn_11, K_takeTurn_5, K_takeTurn_2, K_takeTurn_3, K_takeTurn_1, M_takeTurn]
  by_cases q : fl.toInt = 0
  · obtain ⟨e1, e2, a0, a1, a2, a3, k⟩ := hk q
    subst e1
    subst e2
    by_cases c1 : kd.toInt = 1
    · have s1 : so.toInt = 1 := (xK1 k).1.mp c1
      simp only [if_pos q, if_pos c1, if_pos s1]
      rcases nr (f := f) (pl := pl) a0 a2 hn with ⟨l0, l7, le⟩ | ⟨l4, ln⟩
      · rw [le]
        by_cases e : (M_railNamed pl fr f).toInt = r.toInt
        · simp only [if_pos e]
          have w := r_tok (fp := fp) (kd := kd) (mv := mv) (mw := mw) (mr := fr) (so := so) hf hn (by omega) a2 (rfl : fl = fl) q
          exact ⟨w.1, fun z => ⟨q, w.2 z⟩⟩
        · simp only [if_neg e, t_refuse q]
          rw [t_next_id (show 0 < (3 : Int32).toInt from by decide)]
          exact ⟨xR_no rfl (show 0 < (3 : Int32).toInt from by decide) rfl, fun z => absurd z (show ¬ (3 : Int32).toInt = 0 from by decide)⟩
      · have e : ¬ (M_railNamed pl fr f).toInt = r.toInt := by omega
        have e2 : ¬ (M_m_nameNow pl fr n f).toInt = r.toInt := by omega
        simp only [if_neg e, if_neg e2, t_refuse q]
        rw [t_next_id (show 0 < (3 : Int32).toInt from by decide)]
        exact ⟨xR_no rfl (show 0 < (3 : Int32).toInt from by decide) rfl, fun z => absurd z (show ¬ (3 : Int32).toInt = 0 from by decide)⟩
    · have s1 : ¬ so.toInt = 1 := fun z => c1 ((xK1 k).1.mpr z)
      simp only [if_pos q, if_neg c1, if_neg s1, t_refuse q]
      rw [t_next_id (show 0 < (2 : Int32).toInt from by decide)]
      exact ⟨xR_no rfl (show 0 < (2 : Int32).toInt from by decide) rfl, fun z => absurd z (show ¬ (2 : Int32).toInt = 0 from by decide)⟩
  · simp only [if_neg q]
    rw [t_next_id (by omega)]
    exact ⟨xR_no rfl (by show 0 < fl.toInt; omega) (hw q), fun z => absurd z q⟩
theorem r_numF {f : Nat → Int32} {n lo lo2 hi hi2 pl kd fr vl fl fp ps mr so mv mf mw : Int32} (h : xR n pl kd fr vl fl fp ps mr so mv mf mw) (q : ¬ fl.toInt = 0) : M_takeNumber fl kd vl lo pl fr fp hi n f = (lo, pl, kd, fr, vl, fl, fp) ∧ M_m_readNumber mf so mv n f ps mr lo2 hi2 mw = (mv, ps, mr, so, mv, mf, mw) := by
  have q2 : ¬ mf.toInt = 0 := by rw [← h.1]; exact q
  have p := h.2.1
  refine ⟨?_, ?_⟩
  · simp only [K_takeNumber_8, K_takeNumber_6, K_takeNumber_11, K_takeNumber_9, K_takeNumber_12, K_takeNumber_10, K_takeNumber_7, K_takeNumber_4, K_takeNumber_13, K_takeNumber_5, K_takeNumber_2, K_takeNumber_3, K_takeNumber_1, M_takeNumber]
    rw [if_neg q]
  · simp only [K_m_readNumber_18, K_m_readNumber_17, K_m_readNumber_15, K_m_readNumber_16, K_m_readNumber_14, K_m_readNumber_13, K_m_readNumber_6, K_m_readNumber_12, K_m_readNumber_11, K_m_readNumber_9, K_m_readNumber_10, K_m_readNumber_8, K_m_readNumber_7, K_m_readNumber_5, K_m_readNumber_3, K_m_readNumber_4, K_m_readNumber_2, K_m_readNumber_1, M_m_readNumber]
    rw [if_neg q2, t_next_id (by rw [← h.1]; omega)]
theorem m_num9 {f : Nat → Int32} {n lo hi so mv ps mr mf mw : Int32} (p : 0 < mf.toInt) : M_m_readNumber mf so mv n f ps mr lo hi mw = (mv, ps, mr, so, mv, mf, mw) := by
  simp only [K_m_readNumber_18, K_m_readNumber_17, K_m_readNumber_15, K_m_readNumber_16, K_m_readNumber_14, K_m_readNumber_13, K_m_readNumber_6, K_m_readNumber_12, K_m_readNumber_11, K_m_readNumber_9, K_m_readNumber_10, K_m_readNumber_8, K_m_readNumber_7, K_m_readNumber_5, K_m_readNumber_3, K_m_readNumber_4, K_m_readNumber_2, K_m_readNumber_1, M_m_readNumber]
  rw [if_neg (by omega), t_next_id p]
theorem c_rail {f rf pn : Nat → Int32} {pt : Nat → Int64} {G A : Nat → Nat → Int64} {n r dep told fl fp kd pl fr vl : Int32} (d : r.toInt < 8) : M_readRail r dep rf (G 0) (G 1) (G 2) (G 3) (G 4) (G 5) (G 6) (A 0) (A 1) (A 2) (A 3) (A 4) (A 5) (A 6) n f told fl fp kd pl pt pn fr vl = (fun S => (fun T => (fun Aa => (fun B => K_readRail_L11 dep rf (G 0) (G 1) (G 2) (G 3) (G 4) (G 5) (G 6) (A 0) (A 1) (A 2) (A 3) (A 4) (A 5) (A 6) (M_addRail r pt pn).1 (M_addRail r pt pn).2.2 r n f 100000 0 B.2.1 B.2.2.1 B.2.2.2.1 B.2.2.2.2.1 (told &&& 3) B.2.2.2.2.2.1 B.2.2.2.2.2.2 (M_setNumber (M_setNumber (M_addRail r pt pn).2.1 r 0 Aa.1) r 1 B.1)) (M_takeNumber Aa.2.2.2.2.2.1 Aa.2.2.1 Aa.2.2.2.2.1 Aa.1 Aa.2.1 Aa.2.2.2.1 Aa.2.2.2.2.2.2 9 n f)) (M_takeNumber T.2.2.2.2.1 T.2.1 T.2.2.2.1 1 T.1 T.2.2.1 T.2.2.2.2.2 9 n f)) (M_takeTurn S.2.2.2.2.1 S.2.1 r n f S.2.2.2.2.2 S.1 S.2.2.1 S.2.2.2.1)) (M_step n f fl fp kd pl) := by
  simp only [K_readRail_17, K_readRail_21, K_readRail_20, K_readRail_19, K_readRail_18, K_readRail_16, K_readRail_15, K_readRail_14, K_readRail_12, K_readRail_49, K_readRail_42, K_readRail_44, K_readRail_48, K_readRail_47, K_readRail_46, K_readRail_45, K_readRail_43, K_readRail_41, K_readRail_40, K_readRail_33, K_readRail_35, K_readRail_39, K_readRail_38, K_readRail_37, K_readRail_36, K_readRail_34, K_readRail_32, K_readRail_23, K_readRail_27, K_readRail_31, K_readRail_30, K_readRail_29, K_readRail_28, K_readRail_26, K_readRail_25, K_readRail_24, K_readRail_22, K_readRail_13, K_readRail_11, K_readRail_10, K_readRail_9, K_readRail_8, K_readRail_7, K_readRail_6, K_readRail_5, K_readRail_4, K_readRail_2, K_readRail_50, K_readRail_3, K_readRail_1, M_readRail]
  rw [if_pos d]
theorem m_rail {f Td Tb P Nm c ur ua w : Nat → Int32} {n dr us nc nw dp mv ps mr so mf mw : Int32} (d : dr.toInt < 8) : M_m_readRail dr Tb P Nm n f us c ur ua w nw dp Td nc mv ps mr so mf mw = (fun V => K_m_readRail_2 dr Tb P Nm n f us c ur ua w nw dp Td nc (xTF f n dr V) V.2.2.2.1 (xTW f n dr V) V.1 V.2.1 V.2.2.1) (M_m_next mf mv mw n f ps mr so) := by
  simp only [K_m_readRail_17, K_m_readRail_15, K_m_readRail_19, K_m_readRail_18, K_m_readRail_27, K_m_readRail_25, K_m_readRail_26, K_m_readRail_24, K_m_readRail_23, K_m_readRail_22, K_m_readRail_21, K_m_readRail_20, K_m_readRail_16, K_m_readRail_14, K_m_readRail_12, K_m_readRail_13, K_m_readRail_11, K_m_readRail_9, K_m_readRail_10, K_m_readRail_8, K_m_readRail_7, K_m_readRail_5, K_m_readRail_6, K_m_readRail_4, K_m_readRail_28, K_m_readRail_3, K_m_readRail_30, K_m_readRail_29, K_m_readRail_51, K_m_readRail_49, K_m_readRail_50, K_m_readRail_48, K_m_readRail_47, K_m_readRail_46, K_m_readRail_45, K_m_readRail_44, K_m_readRail_35, K_m_readRail_43, K_m_readRail_41, K_m_readRail_42, K_m_readRail_40, K_m_readRail_39, K_m_readRail_38, K_m_readRail_37, K_m_readRail_36, K_m_readRail_34, K_m_readRail_33, K_m_readRail_32, K_m_readRail_31, K_m_readRail_55, K_m_readRail_54, K_m_readRail_52, K_m_readRail_57, K_m_readRail_56, K_m_readRail_53, K_m_readRail_1, M_m_readRail]
  rw [if_neg (by omega)]
  simp only [t_wants1]
  generalize M_m_next mf mv mw n f ps mr so = V
  unfold xTF xTW
  by_cases q : V.2.2.2.2.1.toInt = 0
  · by_cases s : V.2.2.1.toInt = 1
    · by_cases e : (M_m_nameNow V.1 V.2.1 n f).toInt = dr.toInt
      · simp only [if_pos q, if_pos s, if_pos e, t_wants1]
      · simp only [if_pos q, if_pos s, if_neg e, t_wants1, t_wantsF q]
    · simp only [if_pos q, if_neg s, t_wantsF q, if_neg (show ¬ (2 : Int32).toInt = 0 from by decide)]
  · simp only [if_neg q]
theorem m_rail2 {f Td Tb P Nm c ur ua w : Nat → Int32} {n dr us nc nw dp mf mv mw ps mr so : Int32} : K_m_readRail_2 dr Tb P Nm n f us c ur ua w nw dp Td nc mf mv mw ps mr so = (fun W => (fun Aa => (fun B => if B.2.2.2.2.2.1.toInt ≤ 0 then K_m_readRail_L7 dr Tb P Nm n f us c ur ua w nw dp 100000 0 (upd (upd (upd (upd (upd (upd (upd Td (((7 : Int32) * dr) + 0).toNatClampNeg Aa.1) (((7 : Int32) * dr) + 1).toNatClampNeg B.1) (((7 : Int32) * dr) + 2).toNatClampNeg 1) (((7 : Int32) * dr) + 3).toNatClampNeg 1) (((7 : Int32) * dr) + 4).toNatClampNeg 2) (((7 : Int32) * dr) + 5).toNatClampNeg 0) (((7 : Int32) * dr) + 6).toNatClampNeg 0) B.2.1 B.2.2.1 B.2.2.2.1 B.2.2.2.2.1 B.2.2.2.2.2.1 B.2.2.2.2.2.2 else (dr, us, nc, nw, dp, B.2.1, B.2.2.1, B.2.2.2.1, B.2.2.2.2.1, B.2.2.2.2.2.1, B.2.2.2.2.2.2, c, w, ur, ua, Nm, Tb, P, Td)) (M_m_readNumber Aa.2.2.2.2.2.1 Aa.2.2.2.1 Aa.2.2.2.2.1 n f Aa.2.1 Aa.2.2.1 Aa.1 9 Aa.2.2.2.2.2.2)) (M_m_readNumber W.2.2.2.2.1 W.2.2.1 W.2.2.2.1 n f W.1 W.2.1 1 9 W.2.2.2.2.2)) (M_m_next mf mv mw n f ps mr so) := by
  simp only [K_m_readRail_17, K_m_readRail_15, K_m_readRail_19, K_m_readRail_18, K_m_readRail_27, K_m_readRail_25, K_m_readRail_26, K_m_readRail_24, K_m_readRail_23, K_m_readRail_22, K_m_readRail_21, K_m_readRail_20, K_m_readRail_16, K_m_readRail_14, K_m_readRail_12, K_m_readRail_13, K_m_readRail_11, K_m_readRail_9, K_m_readRail_10, K_m_readRail_8, K_m_readRail_7, K_m_readRail_5, K_m_readRail_6, K_m_readRail_4, K_m_readRail_28, K_m_readRail_3, K_m_readRail_30, K_m_readRail_29, K_m_readRail_2, K_m_readRail_51, K_m_readRail_49, K_m_readRail_50, K_m_readRail_48, K_m_readRail_47, K_m_readRail_46, K_m_readRail_45, K_m_readRail_44, K_m_readRail_35, K_m_readRail_43, K_m_readRail_41, K_m_readRail_42, K_m_readRail_40, K_m_readRail_39, K_m_readRail_38, K_m_readRail_37, K_m_readRail_36, K_m_readRail_34, K_m_readRail_33, K_m_readRail_32, K_m_readRail_31, K_m_readRail_55, K_m_readRail_54, K_m_readRail_52, K_m_readRail_57, K_m_readRail_56, K_m_readRail_53, K_m_readRail_1, M_m_readRail]
theorem r_rail {f rf ur ua pn c w Td Nm Tb P : Nat → Int32} {pt : Nat → Int64} {G A : Nat → Nat → Int64} {n dep us nc nw dp told pl kd fr vl fl fp ps mr so mv mf mw : Int32} {q : Nat} (hf : ∀ j, 0 ≤ (f j).toInt) (hn : n.toInt ≤ 400) (h : xR n pl kd fr vl fl fp ps mr so mv mf mw) (q0 : fl.toInt = 0) (d8 : q ≤ 8) (hu : xUs rf us ur ua fr.toInt) (hus : us.toInt ≤ fr.toInt) (ht : 0 ≤ told.toInt ∧ told.toInt < 64) (hE : xE true q pn pt Td Nm Tb) :
    ∃ (pl' kd' fr' vl' td' dep' fl' fp' us' nc' nw' dp' ps' mr' so' mv' mf' mw' dr' : Int32) (rf' ur' ua' pn' c' w' Td' Nm' Tb' P' : Nat → Int32) (pt' : Nat → Int64) (G' A' : Nat → Nat → Int64) (q' : Nat), M_readRail (nI q) dep rf (G 0) (G 1) (G 2) (G 3) (G 4) (G 5) (G 6) (A 0) (A 1) (A 2) (A 3) (A 4) (A 5) (A 6) n f told fl fp kd pl pt pn fr vl = (pl', kd', fr', vl', td', dep', fl', fp', rf', G' 0, G' 1, G' 2, G' 3, G' 4, G' 5, G' 6, A' 0, A' 1, A' 2, A' 3, A' 4, A' 5, A' 6, nI q', pn', pt') ∧ M_m_readRail (nI q) Tb P Nm n f us c ur ua w nw dp Td nc mv ps mr so mf mw = (dr', us', nc', nw', dp', ps', mr', so', mv', mf', mw', c', w', ur', ua', Nm', Tb', P', Td') ∧ q' ≤ 8 ∧ ((xR n pl' kd' fr' vl' fl' fp' ps' mr' so' mv' mf' mw' ∧ (fl'.toInt = 0 → dr' = nI q' ∧ q' = q + 1 ∧ xUs rf' us' ur' ua' fr'.toInt ∧ us'.toInt ≤ fr'.toInt ∧ pl.toInt ≤ fr'.toInt ∧ (td' &&& 1) = (told &&& 1) ∧ (td' &&& 2) = (told &&& 2) ∧ (0 ≤ td'.toInt ∧ td'.toInt < 64) ∧ xE true q' pn' pt' Td' Nm' Tb')) ∨ (fl'.toInt = 0 ∧ kd'.toInt = 3 ∧ vl'.toInt = 41 ∧ mf' = 2 ∧ mw' = fr')) := by
  obtain ⟨e, hp, hw, hk⟩ := h
  subst e
  obtain ⟨e1, e2, r0, r1, r2, r3, k⟩ := hk q0
  subst e1
  subst e2
  have qq : (nI q).toInt = (q : Int) := nI_toInt (by omega)
  by_cases hq : q < 8
  · obtain ⟨ptd, ea, hdf, hpo⟩ := t_addRail hq pn pt
    rw [c_rail (by omega), m_rail (by omega), ea]
    dsimp only
    rw [m_rail2]
    dsimp only
    have rt := r_tok (fp := fp) (kd := kd) (mv := mv) (mw := mw) (mr := fr) (so := so) hf hn (by omega) r2 (rfl : fl = fl) q0
    generalize M_step n f fl fp kd pl = S at rt ⊢
    generalize M_m_next fl mv mw n f pl fr so = V at rt ⊢
    have tt := r_turn (V := V) hf hn rt.1 (by omega : 0 ≤ (nI q).toInt) (by omega : (nI q).toInt ≤ 7)
    generalize (M_takeTurn S.2.2.2.2.1 S.2.1 (nI q) n f S.2.2.2.2.2 S.1 S.2.2.1 S.2.2.2.1) = T at tt ⊢
    generalize M_m_next (xTF f n (nI q) V) V.2.2.2.1 (xTW f n (nI q) V) n f V.1 V.2.1 V.2.2.1 = W at tt ⊢
    have ra := r_num (lo := 1) (hi := 9) hf hn tt.1
    generalize (M_takeNumber T.2.2.2.2.1 T.2.1 T.2.2.2.1 1 T.1 T.2.2.1 T.2.2.2.2.2 9 n f) = Aa at ra ⊢
    generalize (M_m_readNumber W.2.2.2.2.1 W.2.2.1 W.2.2.2.1 n f W.1 W.2.1 1 9 W.2.2.2.2.2) = A2 at ra ⊢
    have rb : xRt n (M_takeNumber Aa.2.2.2.2.2.1 Aa.2.2.1 Aa.2.2.2.2.1 Aa.1 Aa.2.1 Aa.2.2.2.1 Aa.2.2.2.2.2.2 9 n f).2 (M_m_readNumber A2.2.2.2.2.2.1 A2.2.2.2.1 A2.2.2.2.2.1 n f A2.2.1 A2.2.2.1 A2.1 9 A2.2.2.2.2.2.2).2 ∧ ((M_takeNumber Aa.2.2.2.2.2.1 Aa.2.2.1 Aa.2.2.2.2.1 Aa.1 Aa.2.1 Aa.2.2.2.1 Aa.2.2.2.2.2.2 9 n f).2.2.2.2.2.1.toInt = 0 → Aa.2.2.2.2.2.1.toInt = 0 ∧ Aa.1 = A2.1 ∧ Aa.2.1.toInt ≤ (M_takeNumber Aa.2.2.2.2.2.1 Aa.2.2.1 Aa.2.2.2.2.1 Aa.1 Aa.2.1 Aa.2.2.2.1 Aa.2.2.2.2.2.2 9 n f).2.2.2.1.toInt ∧ (M_takeNumber Aa.2.2.2.2.2.1 Aa.2.2.1 Aa.2.2.2.2.1 Aa.1 Aa.2.1 Aa.2.2.2.1 Aa.2.2.2.2.2.2 9 n f).1 = (M_m_readNumber A2.2.2.2.2.2.1 A2.2.2.2.1 A2.2.2.2.2.1 n f A2.2.1 A2.2.2.1 A2.1 9 A2.2.2.2.2.2.2).1) := by
      by_cases z : Aa.2.2.2.2.2.1.toInt = 0
      · have g := r_num (lo := Aa.1) (hi := 9) hf hn ra.1
        have e0 := (ra.2 z).2.1
        rw [← e0]
        exact ⟨g.1, fun y => ⟨z, rfl, (g.2 y).2.2.2.2, (g.2 y).2.1⟩⟩
      · have g := r_numF (f := f) (lo := Aa.1) (lo2 := A2.1) (hi := 9) (hi2 := 9) ra.1 z
        rw [g.1, g.2]
        exact ⟨ra.1, fun y => absurd y z⟩
    generalize (M_takeNumber Aa.2.2.2.2.2.1 Aa.2.2.1 Aa.2.2.2.2.1 Aa.1 Aa.2.1 Aa.2.2.2.1 Aa.2.2.2.2.2.2 9 n f) = B at rb ⊢
    generalize (M_m_readNumber A2.2.2.2.2.2.1 A2.2.2.2.1 A2.2.2.2.2.1 n f A2.2.1 A2.2.2.1 A2.1 9 A2.2.2.2.2.2.2) = B2 at rb ⊢
    have h3t := fin64 (P := fun x => (0 ≤ (x &&& 3).toInt ∧ (x &&& 3).toInt < 64) ∧ (0 : Int32) = Int32.ofNat ((x &&& 3).toInt.toNat / 4) ∧ cn (x &&& 3) = 0 ∧ ((x &&& 3) &&& 1) = (x &&& 1) ∧ ((x &&& 3) &&& 2) = (x &&& 2)) h3 ht.1 ht.2
    have bf := rb.1.1
    have bp := rb.1.2.1
    rw [show M_setNumber (xPd q pn) (nI q) 0 Aa.1 = _ from t_setN (k := 0) hq (by decide), show M_setNumber (upd (xPd q pn) (8 * q + 0) Aa.1) (nI q) 1 B.1 = xP1 q pn Aa.1 B.1 from t_setN (k := 1) hq (by decide)]
    by_cases z : B.2.2.2.2.2.1.toInt = 0
    · have z2 : B2.2.2.2.2.2.1.toInt = 0 := by rw [← bf]; exact z
      rw [if_pos (by omega), show (((7 : Int32) * nI q) + 0).toNatClampNeg = _ from xi7 (k := 0) hq (by decide), show (((7 : Int32) * nI q) + 1).toNatClampNeg = _ from xi7 (k := 1) hq (by decide), show (((7 : Int32) * nI q) + 2).toNatClampNeg = _ from xi7 (k := 2) hq (by decide), show (((7 : Int32) * nI q) + 3).toNatClampNeg = _ from xi7 (k := 3) hq (by decide), show (((7 : Int32) * nI q) + 4).toNatClampNeg = _ from xi7 (k := 4) hq (by decide), show (((7 : Int32) * nI q) + 5).toNatClampNeg = _ from xi7 (k := 5) hq (by decide), show (((7 : Int32) * nI q) + 6).toNatClampNeg = _ from xi7 (k := 6) hq (by decide)]
      have c1 := rb.2 z
      have c2 := ra.2 c1.1
      have c3 := tt.2 c2.1
      have c4 := rt.2 c3.1
      have c5 := (rt.1.2.2.2 c3.1).2.2.2.1
      have c6 := (tt.1.2.2.2 c2.1).2.2.2.1
      have c7 := (ra.1.2.2.2 c1.1).2.2.2.1
      rw [← c1.2.1, ← c1.2.2.2, show (upd (upd (upd (upd (upd (upd (upd Td (7 * q + 0) Aa.1) (7 * q + 1) B.1) (7 * q + 2) 1) (7 * q + 3) 1) (7 * q + 4) 2) (7 * q + 5) 0) (7 * q + 6) 0) = xTd q Td Aa.1 B.1 from rfl]
      obtain ⟨pl1, kd1, fr1, vl1, td1, fl1, fp1, ps1, mr1, so1, mv1, mf1, mw1, pn1, Td1, y1, y2, y3, y4, y5⟩ := r_withs (pt := ptd) (G := G) (A := A) (dep := dep) (rf := rf) (rails := nI (q + 1)) hf hn hq 5 0 B.2.1 B.2.2.1 B.2.2.2.1 B.2.2.2.2.1 (told &&& 3) B.2.2.2.2.2.1 B.2.2.2.2.2.2 B2.2.1 B2.2.2.1 B2.2.2.2.1 B2.2.2.2.2.1 B2.2.2.2.2.2.1 B2.2.2.2.2.2.2 0 (xP1 q pn Aa.1 B.1) (xTd q Td Aa.1 B.1) (by decide) (by decide) rb.1 (fun _ => ⟨⟨h3t.1, h3t.2.1⟩, by rw [h3t.2.2.1]; decide, rw_start⟩)
      rw [y1 99994, y2 99994 us nw dp Tb P Nm c ur ua w]
      obtain ⟨pl', kd', fr', vl', dep', fl', fp', us', nc', nw', dp', ps', mr', so', mv', mf', mw', dr', rf', ur', ua', pn', c', w', Nm', Tb', P', pt', G', A', x1, x2, x3⟩ := r_when (rf := rf) (ur := ur) (ua := ua) (us := us) (dep := dep) (dp := dp) (nw := nw) (c := c) (w := w) (Td := Td1) (Nm := Nm) (Tb := Tb) (P := P) (pt := ptd) (G := G) (A := A) (pn := pn1) (rails := nI (q + 1)) (td := td1) (b := pl.toInt) hf hn hq y3 y4 (fun y => by
        obtain ⟨g1, g2, g3, g4, g5, g6⟩ := y5 y
        refine ⟨xUs_up hu (by omega), by omega, by omega, xE_keep hE (fun j hj => ?_) (fun j hj => hpo j (by omega)) (fun j hj => ?_) (fun j hj => rfl) (fun j hj => rfl), g6.1, ?_, hdf, g6.2.2.2⟩
        · rw [g6.2.1 j (by omega)]
          exact p1_o (by omega)
        · rw [g6.2.2.1 j (by omega)]
          exact td_o (by omega)
        · rw [g6.2.1 _ (by omega)]
          exact p1_7)
      refine ⟨pl', kd', fr', vl', td1, dep', fl', fp', us', nc', nw', dp', ps', mr', so', mv', mf', mw', dr', rf', ur', ua', pn', c', w', Td1, Nm', Tb', P', pt', G', A', q + 1, x1, x2, by omega, ?_⟩
      rcases x3 with ⟨m1, m2⟩ | ⟨m1, m2, m3, m4, m5, m6⟩
      · refine Or.inl ⟨m1, fun y => ?_⟩
        obtain ⟨g1, g2, g3, g4, g5, g6⟩ := m2 y
        have g := y5 g1
        exact ⟨g2, rfl, g3, g4, g5, g.2.2.1.trans h3t.2.2.2.1, g.2.2.2.1.trans h3t.2.2.2.2, g.2.2.2.2.1, g6⟩
      · exact Or.inr ⟨m1, m3, m4, m5, m6⟩
    · have z2 : ¬ B2.2.2.2.2.2.1.toInt = 0 := by rw [← bf]; exact z
      have z3 : 0 ≤ B2.2.2.2.2.2.1.toInt := by rw [← bf]; exact bp
      rw [if_neg (by omega), show K_readRail_L11 dep rf (G 0) (G 1) (G 2) (G 3) (G 4) (G 5) (G 6) (A 0) (A 1) (A 2) (A 3) (A 4) (A 5) (A 6) (nI (q + 1)) ptd (nI q) n f 100000 0 B.2.1 B.2.2.1 B.2.2.2.1 B.2.2.2.2.1 (told &&& 3) B.2.2.2.2.2.1 B.2.2.2.2.2.2 (xP1 q pn Aa.1 B.1) = _ from c_end (Or.inr (Or.inl z)) 99999, c_x, if_neg z]
      exact ⟨_, _, _, _, _, _, _, _, _, _, _, _, _, _, _, _, _, _, _, _, _, _, _, _, _, _, _, _, _, ptd, G, A, q + 1, rfl, rfl, by omega, Or.inl ⟨rb.1, fun y => absurd y z⟩⟩
  · obtain rfl : q = 8 := by omega
    refine ⟨pl, kd, fr, vl, told, dep, 5, fr, us, nc, nw, dp, pl, fr, so, mv, 5, fr, nI 8, rf, ur, ua, pn, c, w, Td, Nm, Tb, P, pt, G, A, 8, ?_, ?_, by omega, Or.inl ⟨xR_no rfl (by decide) rfl, fun y => absurd y (by decide)⟩⟩
    · simp only [K_readRail_17, K_readRail_21, K_readRail_20, K_readRail_19, K_readRail_18, K_readRail_16, K_readRail_15, K_readRail_14, K_readRail_12, K_readRail_49, K_readRail_42, K_readRail_44, K_readRail_48, K_readRail_47, K_readRail_46, K_readRail_45, K_readRail_43, K_readRail_41, K_readRail_40, K_readRail_33, K_readRail_35, K_readRail_39, K_readRail_38, K_readRail_37, K_readRail_36, K_readRail_34, K_readRail_32, K_readRail_23, K_readRail_27, K_readRail_31, K_readRail_30, K_readRail_29, K_readRail_28, K_readRail_26, K_readRail_25, K_readRail_24, K_readRail_22, K_readRail_13, K_readRail_11, K_readRail_10, K_readRail_9, K_readRail_8, K_readRail_7, K_readRail_6, K_readRail_5, K_readRail_4, K_readRail_2, K_readRail_50, K_readRail_3, K_readRail_1, M_readRail]
      rw [if_neg (by decide), t_refuse q0]
    · simp only [K_m_readRail_17, K_m_readRail_15, K_m_readRail_19, K_m_readRail_18, K_m_readRail_27, K_m_readRail_25, K_m_readRail_26, K_m_readRail_24, K_m_readRail_23, K_m_readRail_22, K_m_readRail_21, K_m_readRail_20, K_m_readRail_16, K_m_readRail_14, K_m_readRail_12, K_m_readRail_13, K_m_readRail_11, K_m_readRail_9, K_m_readRail_10, K_m_readRail_8, K_m_readRail_7, K_m_readRail_5, K_m_readRail_6, K_m_readRail_4, K_m_readRail_28, K_m_readRail_3, K_m_readRail_30, K_m_readRail_29, K_m_readRail_51, K_m_readRail_49, K_m_readRail_50, K_m_readRail_48, K_m_readRail_47, K_m_readRail_46, K_m_readRail_45, K_m_readRail_44, K_m_readRail_35, K_m_readRail_43, K_m_readRail_41, K_m_readRail_42, K_m_readRail_40, K_m_readRail_39, K_m_readRail_38, K_m_readRail_37, K_m_readRail_36, K_m_readRail_34, K_m_readRail_33, K_m_readRail_32, K_m_readRail_31, K_m_readRail_55, K_m_readRail_54, K_m_readRail_52, K_m_readRail_57, K_m_readRail_56, K_m_readRail_53, K_m_readRail_1, M_m_readRail]
      rw [if_pos (by decide)]
      simp only [t_wantsF q0, t_next_id (show 0 < (5 : Int32).toInt from by decide), if_neg (show ¬ (5 : Int32).toInt = 0 from by decide)]
      rw [m_rail2]
      simp only [t_next_id (show 0 < (5 : Int32).toInt from by decide), m_num9 (show 0 < (5 : Int32).toInt from by decide), if_neg (show ¬ (5 : Int32).toInt ≤ 0 from by decide)]
