theorem r_with_fall {f : Nat → Int32} {n pl kd fr vl told fl fp ps mr so mv mf mw had : Int32} (hf : ∀ j, 0 ≤ (f j).toInt) (hn : n.toInt ≤ 400) (h : xR n pl kd fr vl fl fp ps mr so mv mf mw) (q : fl.toInt = 0) (c1 : kd.toInt = 1) (w : xW2 f fr pl) (hh : xH told had) :
    ∃ pl' kd' fr' vl' td' fl' fp' ps' mr' so' mv' mf' mw' had' : Int32, M_readWith pl kd fr vl told fl fp n f = (pl', kd', fr', vl', td', fl', fp') ∧ (∀ (k : Nat) (dr us dp : Int32) (ur ua : Nat → Int32), K_m_readRail_L7 dr n f us ur ua dp (k + 1) had ps mr so mv mf mw = K_m_readRail_L7 dr n f us ur ua dp k had' ps' mr' so' mv' mf' mw') ∧ xR n pl' kd' fr' vl' fl' fp' ps' mr' so' mv' mf' mw' ∧ (fl'.toInt = 0 → xH td' had' ∧ cn td' = cn told + 1 ∧ pl.toInt ≤ fr'.toInt ∧ (td' &&& 1) = (told &&& 1) ∧ (td' &&& 2) = (told &&& 2)) := by
  obtain ⟨e, hp, hw, hk⟩ := h
  subst e
  obtain ⟨e1, e2, r0, r1, r2, r3, k⟩ := hk q
  subst e1
  subst e2
  have s1 : so.toInt = 1 := (xK1 k).1.mp c1
  have rt := r_tok (fp := fp) (kd := kd) (mv := mv) (mw := mw) (mr := fr) (so := so) hf hn (by omega) r2 (rfl : fl = fl) q
  have x4 : xR n pl kd fr vl 4 fr pl fr so mv 4 fr := xR_no rfl (by decide) rfl
  obtain ⟨n20, n21, n22, n23, n24, n25, n26, n27, n28, nle⟩ := nm_some (f := f) (ps := pl) r0 r2 hn
  have vc := n23.mpr w
  have ec : M_m_nameNow pl fr n f = 23 := Int32.toInt_inj.mp (by rw [vc]; decide)
  have hb := fin64 (P := fun x => xHs x 4 (23 - 23)) h4 hh.1.1 hh.1.2
  unfold xHs at hb
  rw [← hh.2] at hb
  have i2 : ¬ (M_isWord kd pl fr 4 f 2).toInt = 0 := by rw [w_fall, if_pos ⟨c1, w⟩]; decide
  by_cases hb0 : (told &&& 4).toInt = 0
  · have o1 := t_once0 (f := f) (n := n) (fl := fl) (fp := fp) (kd := kd) (pl := pl) (fr := fr) (vl := vl) hb0
    generalize hS : M_step n f fl fp kd pl = S at rt o1
    generalize hV : M_m_next fl mv mw n f pl fr so = V at rt
    have rn0 := r_num (lo := 0) (hi := 9) hf hn rt.1
    generalize hT0 : M_takeNumber S.2.2.2.2.1 S.2.1 S.2.2.2.1 0 S.1 S.2.2.1 S.2.2.2.2.2 9 n f = T0 at rn0
    generalize hU0 : M_m_readNumber V.2.2.2.2.1 V.2.2.1 V.2.2.2.1 n f V.1 V.2.1 0 9 V.2.2.2.2.2 = U0 at rn0
    refine ⟨T0.2.1, T0.2.2.1, T0.2.2.2.1, T0.2.2.2.2.1, told ||| 4, T0.2.2.2.2.2.1, T0.2.2.2.2.2.2, U0.2.1, U0.2.2.1, U0.2.2.2.1, U0.2.2.2.2.1, U0.2.2.2.2.2.1, U0.2.2.2.2.2.2, had ||| ((1 : Int32) <<< (((23 : Int32) - 23) &&& 31)), ?_, fun k dr us dp ur ua => ?_, rn0.1, ?_⟩
    · simp only [K_readWith_14, K_readWith_12, K_readWith_16, K_readWith_15, K_readWith_13, K_readWith_11, K_readWith_9, K_readWith_18, K_readWith_17, K_readWith_10, K_readWith_8, K_readWith_6, K_readWith_21, K_readWith_20, K_readWith_19, K_readWith_7, K_readWith_5, K_readWith_3, K_readWith_23, K_readWith_22, K_readWith_4, K_readWith_2, K_readWith_1, M_readWith]
      rw [if_neg i2, o1, hT0]
    · simp only [K_m_readRail_L7, K_m_readRail_17, K_m_readRail_15, K_m_readRail_19, K_m_readRail_18, K_m_readRail_27, K_m_readRail_25, K_m_readRail_26, K_m_readRail_24, K_m_readRail_23, K_m_readRail_22, K_m_readRail_21, K_m_readRail_20, K_m_readRail_16, K_m_readRail_14, K_m_readRail_12, K_m_readRail_13, K_m_readRail_11, K_m_readRail_9, K_m_readRail_10, K_m_readRail_8, K_m_readRail_7, K_m_readRail_5, K_m_readRail_6, K_m_readRail_4, K_m_readRail_28, K_m_readRail_3, K_m_readRail_30, K_m_readRail_29, K_m_readRail_51, K_m_readRail_49, K_m_readRail_50, K_m_readRail_48, K_m_readRail_47, K_m_readRail_46, K_m_readRail_45, K_m_readRail_44, K_m_readRail_35, K_m_readRail_43, K_m_readRail_41, K_m_readRail_42, K_m_readRail_40, K_m_readRail_39, K_m_readRail_38, K_m_readRail_37, K_m_readRail_36, K_m_readRail_34, K_m_readRail_33, K_m_readRail_32, K_m_readRail_31, K_m_readRail_55, K_m_readRail_54, K_m_readRail_52, K_m_readRail_57, K_m_readRail_56, K_m_readRail_53, K_m_readRail_1, M_m_readRail]
      rw [if_pos q, if_pos s1, ec, if_neg (by decide : ¬ (23 : Int32).toInt = 27), if_pos (by decide : (23 : Int) ≤ (23 : Int32).toInt ∧ (23 : Int32).toInt ≤ 26), t_wants1, if_pos q, if_pos (hb.1.mp hb0), t_wants1]
      simp only [K_m_readWith_14, K_m_readWith_4, K_m_readWith_12, K_m_readWith_11, K_m_readWith_13, K_m_readWith_6, K_m_readWith_10, K_m_readWith_8, K_m_readWith_9, K_m_readWith_7, K_m_readWith_5, K_m_readWith_3, K_m_readWith_2, K_m_readWith_15, K_m_readWith_1, M_m_readWith]
      rw [if_pos (by decide : (23 : Int32).toInt = 23), hV, hU0]
    · intro z
      have a0 := rn0.2 z
      have b0 := rt.2 a0.1
      have b1 := (rt.1.2.2.2 a0.1).2.2.2.1
      exact ⟨⟨hb.2.1, hb.2.2.1⟩, hb.2.2.2.1 hb0, by omega, hb.2.2.2.2.1, hb.2.2.2.2.2⟩
  · have o1 := t_once1 (f := f) (n := n) (fl := fl) (fp := fp) (kd := kd) (pl := pl) (fr := fr) (vl := vl) hb0 q
    have rn0 := r_num (lo := 0) (hi := 9) hf hn x4
    generalize hT0 : M_takeNumber 4 kd vl 0 pl fr fr 9 n f = T0 at rn0
    generalize hU0 : M_m_readNumber 4 so mv n f pl fr 0 9 fr = U0 at rn0
    refine ⟨T0.2.1, T0.2.2.1, T0.2.2.2.1, T0.2.2.2.2.1, told, T0.2.2.2.2.2.1, T0.2.2.2.2.2.2, U0.2.1, U0.2.2.1, U0.2.2.2.1, U0.2.2.2.2.1, U0.2.2.2.2.2.1, U0.2.2.2.2.2.2, had ||| ((1 : Int32) <<< (((23 : Int32) - 23) &&& 31)), ?_, fun k dr us dp ur ua => ?_, rn0.1, ?_⟩
    · simp only [K_readWith_14, K_readWith_12, K_readWith_16, K_readWith_15, K_readWith_13, K_readWith_11, K_readWith_9, K_readWith_18, K_readWith_17, K_readWith_10, K_readWith_8, K_readWith_6, K_readWith_21, K_readWith_20, K_readWith_19, K_readWith_7, K_readWith_5, K_readWith_3, K_readWith_23, K_readWith_22, K_readWith_4, K_readWith_2, K_readWith_1, M_readWith]
      rw [if_neg i2, o1, hT0]
    · simp only [K_m_readRail_L7, K_m_readRail_17, K_m_readRail_15, K_m_readRail_19, K_m_readRail_18, K_m_readRail_27, K_m_readRail_25, K_m_readRail_26, K_m_readRail_24, K_m_readRail_23, K_m_readRail_22, K_m_readRail_21, K_m_readRail_20, K_m_readRail_16, K_m_readRail_14, K_m_readRail_12, K_m_readRail_13, K_m_readRail_11, K_m_readRail_9, K_m_readRail_10, K_m_readRail_8, K_m_readRail_7, K_m_readRail_5, K_m_readRail_6, K_m_readRail_4, K_m_readRail_28, K_m_readRail_3, K_m_readRail_30, K_m_readRail_29, K_m_readRail_51, K_m_readRail_49, K_m_readRail_50, K_m_readRail_48, K_m_readRail_47, K_m_readRail_46, K_m_readRail_45, K_m_readRail_44, K_m_readRail_35, K_m_readRail_43, K_m_readRail_41, K_m_readRail_42, K_m_readRail_40, K_m_readRail_39, K_m_readRail_38, K_m_readRail_37, K_m_readRail_36, K_m_readRail_34, K_m_readRail_33, K_m_readRail_32, K_m_readRail_31, K_m_readRail_55, K_m_readRail_54, K_m_readRail_52, K_m_readRail_57, K_m_readRail_56, K_m_readRail_53, K_m_readRail_1, M_m_readRail]
      rw [if_pos q, if_pos s1, ec, if_neg (by decide : ¬ (23 : Int32).toInt = 27), if_pos (by decide : (23 : Int) ≤ (23 : Int32).toInt ∧ (23 : Int32).toInt ≤ 26), t_wants1, if_pos q, if_neg (fun z => hb0 (hb.1.mpr z)), t_wantsF q]
      simp only [K_m_readWith_14, K_m_readWith_4, K_m_readWith_12, K_m_readWith_11, K_m_readWith_13, K_m_readWith_6, K_m_readWith_10, K_m_readWith_8, K_m_readWith_9, K_m_readWith_7, K_m_readWith_5, K_m_readWith_3, K_m_readWith_2, K_m_readWith_15, K_m_readWith_1, M_m_readWith]
      rw [if_pos (by decide : (23 : Int32).toInt = 23), t_next_id (show 0 < (4 : Int32).toInt from by decide), hU0]
    · intro z
      exact absurd (rn0.2 z).1 (by decide)
theorem r_with_draw {f : Nat → Int32} {n pl kd fr vl told fl fp ps mr so mv mf mw had : Int32} (hf : ∀ j, 0 ≤ (f j).toInt) (hn : n.toInt ≤ 400) (h : xR n pl kd fr vl fl fp ps mr so mv mf mw) (q : fl.toInt = 0) (c1 : kd.toInt = 1) (w : xW3 f fr pl) (hh : xH told had) :
    ∃ pl' kd' fr' vl' td' fl' fp' ps' mr' so' mv' mf' mw' had' : Int32, M_readWith pl kd fr vl told fl fp n f = (pl', kd', fr', vl', td', fl', fp') ∧ (∀ (k : Nat) (dr us dp : Int32) (ur ua : Nat → Int32), K_m_readRail_L7 dr n f us ur ua dp (k + 1) had ps mr so mv mf mw = K_m_readRail_L7 dr n f us ur ua dp k had' ps' mr' so' mv' mf' mw') ∧ xR n pl' kd' fr' vl' fl' fp' ps' mr' so' mv' mf' mw' ∧ (fl'.toInt = 0 → xH td' had' ∧ cn td' = cn told + 1 ∧ pl.toInt ≤ fr'.toInt ∧ (td' &&& 1) = (told &&& 1) ∧ (td' &&& 2) = (told &&& 2)) := by
  obtain ⟨e, hp, hw, hk⟩ := h
  subst e
  obtain ⟨e1, e2, r0, r1, r2, r3, k⟩ := hk q
  subst e1
  subst e2
  have s1 : so.toInt = 1 := (xK1 k).1.mp c1
  have rt := r_tok (fp := fp) (kd := kd) (mv := mv) (mw := mw) (mr := fr) (so := so) hf hn (by omega) r2 (rfl : fl = fl) q
  have x4 : xR n pl kd fr vl 4 fr pl fr so mv 4 fr := xR_no rfl (by decide) rfl
  obtain ⟨n20, n21, n22, n23, n24, n25, n26, n27, n28, nle⟩ := nm_some (f := f) (ps := pl) r0 r2 hn
  have vc := n24.mpr w
  have ec : M_m_nameNow pl fr n f = 24 := Int32.toInt_inj.mp (by rw [vc]; decide)
  have hb := fin64 (P := fun x => xHs x 8 (24 - 23)) h8 hh.1.1 hh.1.2
  unfold xHs at hb
  rw [← hh.2] at hb
  have i2 : (M_isWord kd pl fr 4 f 2).toInt = 0 := by rw [w_fall, if_neg (fun z => absurd (n23.mpr z.2) (by omega))]; decide
  have i3 : ¬ (M_isWord kd pl fr 4 f 3).toInt = 0 := by rw [w_draw, if_pos ⟨c1, w⟩]; decide
  by_cases hb0 : (told &&& 8).toInt = 0
  · have o1 := t_once0 (f := f) (n := n) (fl := fl) (fp := fp) (kd := kd) (pl := pl) (fr := fr) (vl := vl) hb0
    generalize hS : M_step n f fl fp kd pl = S at rt o1
    generalize hV : M_m_next fl mv mw n f pl fr so = V at rt
    have rn0 := r_num (lo := 0) (hi := 99) hf hn rt.1
    generalize hT0 : M_takeNumber S.2.2.2.2.1 S.2.1 S.2.2.2.1 0 S.1 S.2.2.1 S.2.2.2.2.2 99 n f = T0 at rn0
    generalize hU0 : M_m_readNumber V.2.2.2.2.1 V.2.2.1 V.2.2.2.1 n f V.1 V.2.1 0 99 V.2.2.2.2.2 = U0 at rn0
    have rn1 := r_num (lo := 0) (hi := 99) hf hn rn0.1
    generalize hT1 : M_takeNumber T0.2.2.2.2.2.1 T0.2.2.1 T0.2.2.2.2.1 0 T0.2.1 T0.2.2.2.1 T0.2.2.2.2.2.2 99 n f = T1 at rn1
    generalize hU1 : M_m_readNumber U0.2.2.2.2.2.1 U0.2.2.2.1 U0.2.2.2.2.1 n f U0.2.1 U0.2.2.1 0 99 U0.2.2.2.2.2.2 = U1 at rn1
    refine ⟨T1.2.1, T1.2.2.1, T1.2.2.2.1, T1.2.2.2.2.1, told ||| 8, T1.2.2.2.2.2.1, T1.2.2.2.2.2.2, U1.2.1, U1.2.2.1, U1.2.2.2.1, U1.2.2.2.2.1, U1.2.2.2.2.2.1, U1.2.2.2.2.2.2, had ||| ((1 : Int32) <<< (((24 : Int32) - 23) &&& 31)), ?_, fun k dr us dp ur ua => ?_, rn1.1, ?_⟩
    · simp only [K_readWith_14, K_readWith_12, K_readWith_16, K_readWith_15, K_readWith_13, K_readWith_11, K_readWith_9, K_readWith_18, K_readWith_17, K_readWith_10, K_readWith_8, K_readWith_6, K_readWith_21, K_readWith_20, K_readWith_19, K_readWith_7, K_readWith_5, K_readWith_3, K_readWith_23, K_readWith_22, K_readWith_4, K_readWith_2, K_readWith_1, M_readWith]
      rw [if_pos i2, if_neg i3, o1, hT0, hT1]
    · simp only [K_m_readRail_L7, K_m_readRail_17, K_m_readRail_15, K_m_readRail_19, K_m_readRail_18, K_m_readRail_27, K_m_readRail_25, K_m_readRail_26, K_m_readRail_24, K_m_readRail_23, K_m_readRail_22, K_m_readRail_21, K_m_readRail_20, K_m_readRail_16, K_m_readRail_14, K_m_readRail_12, K_m_readRail_13, K_m_readRail_11, K_m_readRail_9, K_m_readRail_10, K_m_readRail_8, K_m_readRail_7, K_m_readRail_5, K_m_readRail_6, K_m_readRail_4, K_m_readRail_28, K_m_readRail_3, K_m_readRail_30, K_m_readRail_29, K_m_readRail_51, K_m_readRail_49, K_m_readRail_50, K_m_readRail_48, K_m_readRail_47, K_m_readRail_46, K_m_readRail_45, K_m_readRail_44, K_m_readRail_35, K_m_readRail_43, K_m_readRail_41, K_m_readRail_42, K_m_readRail_40, K_m_readRail_39, K_m_readRail_38, K_m_readRail_37, K_m_readRail_36, K_m_readRail_34, K_m_readRail_33, K_m_readRail_32, K_m_readRail_31, K_m_readRail_55, K_m_readRail_54, K_m_readRail_52, K_m_readRail_57, K_m_readRail_56, K_m_readRail_53, K_m_readRail_1, M_m_readRail]
      rw [if_pos q, if_pos s1, ec, if_neg (by decide : ¬ (24 : Int32).toInt = 27), if_pos (by decide : (23 : Int) ≤ (24 : Int32).toInt ∧ (24 : Int32).toInt ≤ 26), t_wants1, if_pos q, if_pos (hb.1.mp hb0), t_wants1]
      simp only [K_m_readWith_14, K_m_readWith_4, K_m_readWith_12, K_m_readWith_11, K_m_readWith_13, K_m_readWith_6, K_m_readWith_10, K_m_readWith_8, K_m_readWith_9, K_m_readWith_7, K_m_readWith_5, K_m_readWith_3, K_m_readWith_2, K_m_readWith_15, K_m_readWith_1, M_m_readWith]
      rw [if_neg (by decide : ¬ (24 : Int32).toInt = 23), if_pos (by decide : (24 : Int32).toInt = 24), hV, hU0, hU1]
    · intro z
      have a1 := rn1.2 z
      have a0 := rn0.2 a1.1
      have b0 := rt.2 a0.1
      have b1 := (rt.1.2.2.2 a0.1).2.2.2.1
      have d1 := (rn0.1.2.2.2 a1.1).2.2.2.1
      exact ⟨⟨hb.2.1, hb.2.2.1⟩, hb.2.2.2.1 hb0, by omega, hb.2.2.2.2.1, hb.2.2.2.2.2⟩
  · have o1 := t_once1 (f := f) (n := n) (fl := fl) (fp := fp) (kd := kd) (pl := pl) (fr := fr) (vl := vl) hb0 q
    have rn0 := r_num (lo := 0) (hi := 99) hf hn x4
    generalize hT0 : M_takeNumber 4 kd vl 0 pl fr fr 99 n f = T0 at rn0
    generalize hU0 : M_m_readNumber 4 so mv n f pl fr 0 99 fr = U0 at rn0
    have rn1 := r_num (lo := 0) (hi := 99) hf hn rn0.1
    generalize hT1 : M_takeNumber T0.2.2.2.2.2.1 T0.2.2.1 T0.2.2.2.2.1 0 T0.2.1 T0.2.2.2.1 T0.2.2.2.2.2.2 99 n f = T1 at rn1
    generalize hU1 : M_m_readNumber U0.2.2.2.2.2.1 U0.2.2.2.1 U0.2.2.2.2.1 n f U0.2.1 U0.2.2.1 0 99 U0.2.2.2.2.2.2 = U1 at rn1
    refine ⟨T1.2.1, T1.2.2.1, T1.2.2.2.1, T1.2.2.2.2.1, told, T1.2.2.2.2.2.1, T1.2.2.2.2.2.2, U1.2.1, U1.2.2.1, U1.2.2.2.1, U1.2.2.2.2.1, U1.2.2.2.2.2.1, U1.2.2.2.2.2.2, had ||| ((1 : Int32) <<< (((24 : Int32) - 23) &&& 31)), ?_, fun k dr us dp ur ua => ?_, rn1.1, ?_⟩
    · simp only [K_readWith_14, K_readWith_12, K_readWith_16, K_readWith_15, K_readWith_13, K_readWith_11, K_readWith_9, K_readWith_18, K_readWith_17, K_readWith_10, K_readWith_8, K_readWith_6, K_readWith_21, K_readWith_20, K_readWith_19, K_readWith_7, K_readWith_5, K_readWith_3, K_readWith_23, K_readWith_22, K_readWith_4, K_readWith_2, K_readWith_1, M_readWith]
      rw [if_pos i2, if_neg i3, o1, hT0, hT1]
    · simp only [K_m_readRail_L7, K_m_readRail_17, K_m_readRail_15, K_m_readRail_19, K_m_readRail_18, K_m_readRail_27, K_m_readRail_25, K_m_readRail_26, K_m_readRail_24, K_m_readRail_23, K_m_readRail_22, K_m_readRail_21, K_m_readRail_20, K_m_readRail_16, K_m_readRail_14, K_m_readRail_12, K_m_readRail_13, K_m_readRail_11, K_m_readRail_9, K_m_readRail_10, K_m_readRail_8, K_m_readRail_7, K_m_readRail_5, K_m_readRail_6, K_m_readRail_4, K_m_readRail_28, K_m_readRail_3, K_m_readRail_30, K_m_readRail_29, K_m_readRail_51, K_m_readRail_49, K_m_readRail_50, K_m_readRail_48, K_m_readRail_47, K_m_readRail_46, K_m_readRail_45, K_m_readRail_44, K_m_readRail_35, K_m_readRail_43, K_m_readRail_41, K_m_readRail_42, K_m_readRail_40, K_m_readRail_39, K_m_readRail_38, K_m_readRail_37, K_m_readRail_36, K_m_readRail_34, K_m_readRail_33, K_m_readRail_32, K_m_readRail_31, K_m_readRail_55, K_m_readRail_54, K_m_readRail_52, K_m_readRail_57, K_m_readRail_56, K_m_readRail_53, K_m_readRail_1, M_m_readRail]
      rw [if_pos q, if_pos s1, ec, if_neg (by decide : ¬ (24 : Int32).toInt = 27), if_pos (by decide : (23 : Int) ≤ (24 : Int32).toInt ∧ (24 : Int32).toInt ≤ 26), t_wants1, if_pos q, if_neg (fun z => hb0 (hb.1.mpr z)), t_wantsF q]
      simp only [K_m_readWith_14, K_m_readWith_4, K_m_readWith_12, K_m_readWith_11, K_m_readWith_13, K_m_readWith_6, K_m_readWith_10, K_m_readWith_8, K_m_readWith_9, K_m_readWith_7, K_m_readWith_5, K_m_readWith_3, K_m_readWith_2, K_m_readWith_15, K_m_readWith_1, M_m_readWith]
      rw [if_neg (by decide : ¬ (24 : Int32).toInt = 23), if_pos (by decide : (24 : Int32).toInt = 24), t_next_id (show 0 < (4 : Int32).toInt from by decide), hU0, hU1]
    · intro z
      exact absurd (rn0.2 (rn1.2 z).1).1 (by decide)
theorem r_with_wait {f : Nat → Int32} {n pl kd fr vl told fl fp ps mr so mv mf mw had : Int32} (hf : ∀ j, 0 ≤ (f j).toInt) (hn : n.toInt ≤ 400) (h : xR n pl kd fr vl fl fp ps mr so mv mf mw) (q : fl.toInt = 0) (c1 : kd.toInt = 1) (w : xW4 f fr pl) (hh : xH told had) :
    ∃ pl' kd' fr' vl' td' fl' fp' ps' mr' so' mv' mf' mw' had' : Int32, M_readWith pl kd fr vl told fl fp n f = (pl', kd', fr', vl', td', fl', fp') ∧ (∀ (k : Nat) (dr us dp : Int32) (ur ua : Nat → Int32), K_m_readRail_L7 dr n f us ur ua dp (k + 1) had ps mr so mv mf mw = K_m_readRail_L7 dr n f us ur ua dp k had' ps' mr' so' mv' mf' mw') ∧ xR n pl' kd' fr' vl' fl' fp' ps' mr' so' mv' mf' mw' ∧ (fl'.toInt = 0 → xH td' had' ∧ cn td' = cn told + 1 ∧ pl.toInt ≤ fr'.toInt ∧ (td' &&& 1) = (told &&& 1) ∧ (td' &&& 2) = (told &&& 2)) := by
  obtain ⟨e, hp, hw, hk⟩ := h
  subst e
  obtain ⟨e1, e2, r0, r1, r2, r3, k⟩ := hk q
  subst e1
  subst e2
  have s1 : so.toInt = 1 := (xK1 k).1.mp c1
  have rt := r_tok (fp := fp) (kd := kd) (mv := mv) (mw := mw) (mr := fr) (so := so) hf hn (by omega) r2 (rfl : fl = fl) q
  have x4 : xR n pl kd fr vl 4 fr pl fr so mv 4 fr := xR_no rfl (by decide) rfl
  obtain ⟨n20, n21, n22, n23, n24, n25, n26, n27, n28, nle⟩ := nm_some (f := f) (ps := pl) r0 r2 hn
  have vc := n25.mpr w
  have ec : M_m_nameNow pl fr n f = 25 := Int32.toInt_inj.mp (by rw [vc]; decide)
  have hb := fin64 (P := fun x => xHs x 16 (25 - 23)) h16 hh.1.1 hh.1.2
  unfold xHs at hb
  rw [← hh.2] at hb
  have i2 : (M_isWord kd pl fr 4 f 2).toInt = 0 := by rw [w_fall, if_neg (fun z => absurd (n23.mpr z.2) (by omega))]; decide
  have i3 : (M_isWord kd pl fr 4 f 3).toInt = 0 := by rw [w_draw, if_neg (fun z => absurd (n24.mpr z.2) (by omega))]; decide
  have i4 : ¬ (M_isWord kd pl fr 4 f 4).toInt = 0 := by rw [w_wait, if_pos ⟨c1, w⟩]; decide
  by_cases hb0 : (told &&& 16).toInt = 0
  · have o1 := t_once0 (f := f) (n := n) (fl := fl) (fp := fp) (kd := kd) (pl := pl) (fr := fr) (vl := vl) hb0
    generalize hS : M_step n f fl fp kd pl = S at rt o1
    generalize hV : M_m_next fl mv mw n f pl fr so = V at rt
    have rn0 := r_num (lo := 0) (hi := 9) hf hn rt.1
    generalize hT0 : M_takeNumber S.2.2.2.2.1 S.2.1 S.2.2.2.1 0 S.1 S.2.2.1 S.2.2.2.2.2 9 n f = T0 at rn0
    generalize hU0 : M_m_readNumber V.2.2.2.2.1 V.2.2.1 V.2.2.2.1 n f V.1 V.2.1 0 9 V.2.2.2.2.2 = U0 at rn0
    refine ⟨T0.2.1, T0.2.2.1, T0.2.2.2.1, T0.2.2.2.2.1, told ||| 16, T0.2.2.2.2.2.1, T0.2.2.2.2.2.2, U0.2.1, U0.2.2.1, U0.2.2.2.1, U0.2.2.2.2.1, U0.2.2.2.2.2.1, U0.2.2.2.2.2.2, had ||| ((1 : Int32) <<< (((25 : Int32) - 23) &&& 31)), ?_, fun k dr us dp ur ua => ?_, rn0.1, ?_⟩
    · simp only [K_readWith_14, K_readWith_12, K_readWith_16, K_readWith_15, K_readWith_13, K_readWith_11, K_readWith_9, K_readWith_18, K_readWith_17, K_readWith_10, K_readWith_8, K_readWith_6, K_readWith_21, K_readWith_20, K_readWith_19, K_readWith_7, K_readWith_5, K_readWith_3, K_readWith_23, K_readWith_22, K_readWith_4, K_readWith_2, K_readWith_1, M_readWith]
      rw [if_pos i2, if_pos i3, if_neg i4, o1, hT0]
    · simp only [K_m_readRail_L7, K_m_readRail_17, K_m_readRail_15, K_m_readRail_19, K_m_readRail_18, K_m_readRail_27, K_m_readRail_25, K_m_readRail_26, K_m_readRail_24, K_m_readRail_23, K_m_readRail_22, K_m_readRail_21, K_m_readRail_20, K_m_readRail_16, K_m_readRail_14, K_m_readRail_12, K_m_readRail_13, K_m_readRail_11, K_m_readRail_9, K_m_readRail_10, K_m_readRail_8, K_m_readRail_7, K_m_readRail_5, K_m_readRail_6, K_m_readRail_4, K_m_readRail_28, K_m_readRail_3, K_m_readRail_30, K_m_readRail_29, K_m_readRail_51, K_m_readRail_49, K_m_readRail_50, K_m_readRail_48, K_m_readRail_47, K_m_readRail_46, K_m_readRail_45, K_m_readRail_44, K_m_readRail_35, K_m_readRail_43, K_m_readRail_41, K_m_readRail_42, K_m_readRail_40, K_m_readRail_39, K_m_readRail_38, K_m_readRail_37, K_m_readRail_36, K_m_readRail_34, K_m_readRail_33, K_m_readRail_32, K_m_readRail_31, K_m_readRail_55, K_m_readRail_54, K_m_readRail_52, K_m_readRail_57, K_m_readRail_56, K_m_readRail_53, K_m_readRail_1, M_m_readRail]
      rw [if_pos q, if_pos s1, ec, if_neg (by decide : ¬ (25 : Int32).toInt = 27), if_pos (by decide : (23 : Int) ≤ (25 : Int32).toInt ∧ (25 : Int32).toInt ≤ 26), t_wants1, if_pos q, if_pos (hb.1.mp hb0), t_wants1]
      simp only [K_m_readWith_14, K_m_readWith_4, K_m_readWith_12, K_m_readWith_11, K_m_readWith_13, K_m_readWith_6, K_m_readWith_10, K_m_readWith_8, K_m_readWith_9, K_m_readWith_7, K_m_readWith_5, K_m_readWith_3, K_m_readWith_2, K_m_readWith_15, K_m_readWith_1, M_m_readWith]
      rw [if_neg (by decide : ¬ (25 : Int32).toInt = 23), if_neg (by decide : ¬ (25 : Int32).toInt = 24), if_pos (by decide : (25 : Int32).toInt = 25), hV, hU0]
    · intro z
      have a0 := rn0.2 z
      have b0 := rt.2 a0.1
      have b1 := (rt.1.2.2.2 a0.1).2.2.2.1
      exact ⟨⟨hb.2.1, hb.2.2.1⟩, hb.2.2.2.1 hb0, by omega, hb.2.2.2.2.1, hb.2.2.2.2.2⟩
  · have o1 := t_once1 (f := f) (n := n) (fl := fl) (fp := fp) (kd := kd) (pl := pl) (fr := fr) (vl := vl) hb0 q
    have rn0 := r_num (lo := 0) (hi := 9) hf hn x4
    generalize hT0 : M_takeNumber 4 kd vl 0 pl fr fr 9 n f = T0 at rn0
    generalize hU0 : M_m_readNumber 4 so mv n f pl fr 0 9 fr = U0 at rn0
    refine ⟨T0.2.1, T0.2.2.1, T0.2.2.2.1, T0.2.2.2.2.1, told, T0.2.2.2.2.2.1, T0.2.2.2.2.2.2, U0.2.1, U0.2.2.1, U0.2.2.2.1, U0.2.2.2.2.1, U0.2.2.2.2.2.1, U0.2.2.2.2.2.2, had ||| ((1 : Int32) <<< (((25 : Int32) - 23) &&& 31)), ?_, fun k dr us dp ur ua => ?_, rn0.1, ?_⟩
    · simp only [K_readWith_14, K_readWith_12, K_readWith_16, K_readWith_15, K_readWith_13, K_readWith_11, K_readWith_9, K_readWith_18, K_readWith_17, K_readWith_10, K_readWith_8, K_readWith_6, K_readWith_21, K_readWith_20, K_readWith_19, K_readWith_7, K_readWith_5, K_readWith_3, K_readWith_23, K_readWith_22, K_readWith_4, K_readWith_2, K_readWith_1, M_readWith]
      rw [if_pos i2, if_pos i3, if_neg i4, o1, hT0]
    · simp only [K_m_readRail_L7, K_m_readRail_17, K_m_readRail_15, K_m_readRail_19, K_m_readRail_18, K_m_readRail_27, K_m_readRail_25, K_m_readRail_26, K_m_readRail_24, K_m_readRail_23, K_m_readRail_22, K_m_readRail_21, K_m_readRail_20, K_m_readRail_16, K_m_readRail_14, K_m_readRail_12, K_m_readRail_13, K_m_readRail_11, K_m_readRail_9, K_m_readRail_10, K_m_readRail_8, K_m_readRail_7, K_m_readRail_5, K_m_readRail_6, K_m_readRail_4, K_m_readRail_28, K_m_readRail_3, K_m_readRail_30, K_m_readRail_29, K_m_readRail_51, K_m_readRail_49, K_m_readRail_50, K_m_readRail_48, K_m_readRail_47, K_m_readRail_46, K_m_readRail_45, K_m_readRail_44, K_m_readRail_35, K_m_readRail_43, K_m_readRail_41, K_m_readRail_42, K_m_readRail_40, K_m_readRail_39, K_m_readRail_38, K_m_readRail_37, K_m_readRail_36, K_m_readRail_34, K_m_readRail_33, K_m_readRail_32, K_m_readRail_31, K_m_readRail_55, K_m_readRail_54, K_m_readRail_52, K_m_readRail_57, K_m_readRail_56, K_m_readRail_53, K_m_readRail_1, M_m_readRail]
      rw [if_pos q, if_pos s1, ec, if_neg (by decide : ¬ (25 : Int32).toInt = 27), if_pos (by decide : (23 : Int) ≤ (25 : Int32).toInt ∧ (25 : Int32).toInt ≤ 26), t_wants1, if_pos q, if_neg (fun z => hb0 (hb.1.mpr z)), t_wantsF q]
      simp only [K_m_readWith_14, K_m_readWith_4, K_m_readWith_12, K_m_readWith_11, K_m_readWith_13, K_m_readWith_6, K_m_readWith_10, K_m_readWith_8, K_m_readWith_9, K_m_readWith_7, K_m_readWith_5, K_m_readWith_3, K_m_readWith_2, K_m_readWith_15, K_m_readWith_1, M_m_readWith]
      rw [if_neg (by decide : ¬ (25 : Int32).toInt = 23), if_neg (by decide : ¬ (25 : Int32).toInt = 24), if_pos (by decide : (25 : Int32).toInt = 25), t_next_id (show 0 < (4 : Int32).toInt from by decide), hU0]
    · intro z
      exact absurd (rn0.2 z).1 (by decide)
theorem r_with_within {f : Nat → Int32} {n pl kd fr vl told fl fp ps mr so mv mf mw had : Int32} (hf : ∀ j, 0 ≤ (f j).toInt) (hn : n.toInt ≤ 400) (h : xR n pl kd fr vl fl fp ps mr so mv mf mw) (q : fl.toInt = 0) (c1 : kd.toInt = 1) (w : xW5 f fr pl) (hh : xH told had) :
    ∃ pl' kd' fr' vl' td' fl' fp' ps' mr' so' mv' mf' mw' had' : Int32, M_readWith pl kd fr vl told fl fp n f = (pl', kd', fr', vl', td', fl', fp') ∧ (∀ (k : Nat) (dr us dp : Int32) (ur ua : Nat → Int32), K_m_readRail_L7 dr n f us ur ua dp (k + 1) had ps mr so mv mf mw = K_m_readRail_L7 dr n f us ur ua dp k had' ps' mr' so' mv' mf' mw') ∧ xR n pl' kd' fr' vl' fl' fp' ps' mr' so' mv' mf' mw' ∧ (fl'.toInt = 0 → xH td' had' ∧ cn td' = cn told + 1 ∧ pl.toInt ≤ fr'.toInt ∧ (td' &&& 1) = (told &&& 1) ∧ (td' &&& 2) = (told &&& 2)) := by
  obtain ⟨e, hp, hw, hk⟩ := h
  subst e
  obtain ⟨e1, e2, r0, r1, r2, r3, k⟩ := hk q
  subst e1
  subst e2
  have s1 : so.toInt = 1 := (xK1 k).1.mp c1
  have rt := r_tok (fp := fp) (kd := kd) (mv := mv) (mw := mw) (mr := fr) (so := so) hf hn (by omega) r2 (rfl : fl = fl) q
  have x4 : xR n pl kd fr vl 4 fr pl fr so mv 4 fr := xR_no rfl (by decide) rfl
  obtain ⟨n20, n21, n22, n23, n24, n25, n26, n27, n28, nle⟩ := nm_some (f := f) (ps := pl) r0 r2 hn
  have vc := n26.mpr w
  have ec : M_m_nameNow pl fr n f = 26 := Int32.toInt_inj.mp (by rw [vc]; decide)
  have hb := fin64 (P := fun x => xHs x 32 (26 - 23)) h32 hh.1.1 hh.1.2
  unfold xHs at hb
  rw [← hh.2] at hb
  have i2 : (M_isWord kd pl fr 4 f 2).toInt = 0 := by rw [w_fall, if_neg (fun z => absurd (n23.mpr z.2) (by omega))]; decide
  have i3 : (M_isWord kd pl fr 4 f 3).toInt = 0 := by rw [w_draw, if_neg (fun z => absurd (n24.mpr z.2) (by omega))]; decide
  have i4 : (M_isWord kd pl fr 4 f 4).toInt = 0 := by rw [w_wait, if_neg (fun z => absurd (n25.mpr z.2) (by omega))]; decide
  have i5 : ¬ (M_isWord kd pl fr 6 f 5).toInt = 0 := by rw [w_within, if_pos ⟨c1, w⟩]; decide
  by_cases hb0 : (told &&& 32).toInt = 0
  · have o1 := t_once0 (f := f) (n := n) (fl := fl) (fp := fp) (kd := kd) (pl := pl) (fr := fr) (vl := vl) hb0
    generalize hS : M_step n f fl fp kd pl = S at rt o1
    generalize hV : M_m_next fl mv mw n f pl fr so = V at rt
    have rn0 := r_num (lo := 1) (hi := 99) hf hn rt.1
    generalize hT0 : M_takeNumber S.2.2.2.2.1 S.2.1 S.2.2.2.1 1 S.1 S.2.2.1 S.2.2.2.2.2 99 n f = T0 at rn0
    generalize hU0 : M_m_readNumber V.2.2.2.2.1 V.2.2.1 V.2.2.2.1 n f V.1 V.2.1 1 99 V.2.2.2.2.2 = U0 at rn0
    refine ⟨T0.2.1, T0.2.2.1, T0.2.2.2.1, T0.2.2.2.2.1, told ||| 32, T0.2.2.2.2.2.1, T0.2.2.2.2.2.2, U0.2.1, U0.2.2.1, U0.2.2.2.1, U0.2.2.2.2.1, U0.2.2.2.2.2.1, U0.2.2.2.2.2.2, had ||| ((1 : Int32) <<< (((26 : Int32) - 23) &&& 31)), ?_, fun k dr us dp ur ua => ?_, rn0.1, ?_⟩
    · simp only [K_readWith_14, K_readWith_12, K_readWith_16, K_readWith_15, K_readWith_13, K_readWith_11, K_readWith_9, K_readWith_18, K_readWith_17, K_readWith_10, K_readWith_8, K_readWith_6, K_readWith_21, K_readWith_20, K_readWith_19, K_readWith_7, K_readWith_5, K_readWith_3, K_readWith_23, K_readWith_22, K_readWith_4, K_readWith_2, K_readWith_1, M_readWith]
      rw [if_pos i2, if_pos i3, if_pos i4, if_neg i5, o1, hT0]
    · simp only [K_m_readRail_L7, K_m_readRail_17, K_m_readRail_15, K_m_readRail_19, K_m_readRail_18, K_m_readRail_27, K_m_readRail_25, K_m_readRail_26, K_m_readRail_24, K_m_readRail_23, K_m_readRail_22, K_m_readRail_21, K_m_readRail_20, K_m_readRail_16, K_m_readRail_14, K_m_readRail_12, K_m_readRail_13, K_m_readRail_11, K_m_readRail_9, K_m_readRail_10, K_m_readRail_8, K_m_readRail_7, K_m_readRail_5, K_m_readRail_6, K_m_readRail_4, K_m_readRail_28, K_m_readRail_3, K_m_readRail_30, K_m_readRail_29, K_m_readRail_51, K_m_readRail_49, K_m_readRail_50, K_m_readRail_48, K_m_readRail_47, K_m_readRail_46, K_m_readRail_45, K_m_readRail_44, K_m_readRail_35, K_m_readRail_43, K_m_readRail_41, K_m_readRail_42, K_m_readRail_40, K_m_readRail_39, K_m_readRail_38, K_m_readRail_37, K_m_readRail_36, K_m_readRail_34, K_m_readRail_33, K_m_readRail_32, K_m_readRail_31, K_m_readRail_55, K_m_readRail_54, K_m_readRail_52, K_m_readRail_57, K_m_readRail_56, K_m_readRail_53, K_m_readRail_1, M_m_readRail]
      rw [if_pos q, if_pos s1, ec, if_neg (by decide : ¬ (26 : Int32).toInt = 27), if_pos (by decide : (23 : Int) ≤ (26 : Int32).toInt ∧ (26 : Int32).toInt ≤ 26), t_wants1, if_pos q, if_pos (hb.1.mp hb0), t_wants1]
      simp only [K_m_readWith_14, K_m_readWith_4, K_m_readWith_12, K_m_readWith_11, K_m_readWith_13, K_m_readWith_6, K_m_readWith_10, K_m_readWith_8, K_m_readWith_9, K_m_readWith_7, K_m_readWith_5, K_m_readWith_3, K_m_readWith_2, K_m_readWith_15, K_m_readWith_1, M_m_readWith]
      rw [if_neg (by decide : ¬ (26 : Int32).toInt = 23), if_neg (by decide : ¬ (26 : Int32).toInt = 24), if_neg (by decide : ¬ (26 : Int32).toInt = 25), hV, hU0]
    · intro z
      have a0 := rn0.2 z
      have b0 := rt.2 a0.1
      have b1 := (rt.1.2.2.2 a0.1).2.2.2.1
      exact ⟨⟨hb.2.1, hb.2.2.1⟩, hb.2.2.2.1 hb0, by omega, hb.2.2.2.2.1, hb.2.2.2.2.2⟩
  · have o1 := t_once1 (f := f) (n := n) (fl := fl) (fp := fp) (kd := kd) (pl := pl) (fr := fr) (vl := vl) hb0 q
    have rn0 := r_num (lo := 1) (hi := 99) hf hn x4
    generalize hT0 : M_takeNumber 4 kd vl 1 pl fr fr 99 n f = T0 at rn0
    generalize hU0 : M_m_readNumber 4 so mv n f pl fr 1 99 fr = U0 at rn0
    refine ⟨T0.2.1, T0.2.2.1, T0.2.2.2.1, T0.2.2.2.2.1, told, T0.2.2.2.2.2.1, T0.2.2.2.2.2.2, U0.2.1, U0.2.2.1, U0.2.2.2.1, U0.2.2.2.2.1, U0.2.2.2.2.2.1, U0.2.2.2.2.2.2, had ||| ((1 : Int32) <<< (((26 : Int32) - 23) &&& 31)), ?_, fun k dr us dp ur ua => ?_, rn0.1, ?_⟩
    · simp only [K_readWith_14, K_readWith_12, K_readWith_16, K_readWith_15, K_readWith_13, K_readWith_11, K_readWith_9, K_readWith_18, K_readWith_17, K_readWith_10, K_readWith_8, K_readWith_6, K_readWith_21, K_readWith_20, K_readWith_19, K_readWith_7, K_readWith_5, K_readWith_3, K_readWith_23, K_readWith_22, K_readWith_4, K_readWith_2, K_readWith_1, M_readWith]
      rw [if_pos i2, if_pos i3, if_pos i4, if_neg i5, o1, hT0]
    · simp only [K_m_readRail_L7, K_m_readRail_17, K_m_readRail_15, K_m_readRail_19, K_m_readRail_18, K_m_readRail_27, K_m_readRail_25, K_m_readRail_26, K_m_readRail_24, K_m_readRail_23, K_m_readRail_22, K_m_readRail_21, K_m_readRail_20, K_m_readRail_16, K_m_readRail_14, K_m_readRail_12, K_m_readRail_13, K_m_readRail_11, K_m_readRail_9, K_m_readRail_10, K_m_readRail_8, K_m_readRail_7, K_m_readRail_5, K_m_readRail_6, K_m_readRail_4, K_m_readRail_28, K_m_readRail_3, K_m_readRail_30, K_m_readRail_29, K_m_readRail_51, K_m_readRail_49, K_m_readRail_50, K_m_readRail_48, K_m_readRail_47, K_m_readRail_46, K_m_readRail_45, K_m_readRail_44, K_m_readRail_35, K_m_readRail_43, K_m_readRail_41, K_m_readRail_42, K_m_readRail_40, K_m_readRail_39, K_m_readRail_38, K_m_readRail_37, K_m_readRail_36, K_m_readRail_34, K_m_readRail_33, K_m_readRail_32, K_m_readRail_31, K_m_readRail_55, K_m_readRail_54, K_m_readRail_52, K_m_readRail_57, K_m_readRail_56, K_m_readRail_53, K_m_readRail_1, M_m_readRail]
      rw [if_pos q, if_pos s1, ec, if_neg (by decide : ¬ (26 : Int32).toInt = 27), if_pos (by decide : (23 : Int) ≤ (26 : Int32).toInt ∧ (26 : Int32).toInt ≤ 26), t_wants1, if_pos q, if_neg (fun z => hb0 (hb.1.mpr z)), t_wantsF q]
      simp only [K_m_readWith_14, K_m_readWith_4, K_m_readWith_12, K_m_readWith_11, K_m_readWith_13, K_m_readWith_6, K_m_readWith_10, K_m_readWith_8, K_m_readWith_9, K_m_readWith_7, K_m_readWith_5, K_m_readWith_3, K_m_readWith_2, K_m_readWith_15, K_m_readWith_1, M_m_readWith]
      rw [if_neg (by decide : ¬ (26 : Int32).toInt = 23), if_neg (by decide : ¬ (26 : Int32).toInt = 24), if_neg (by decide : ¬ (26 : Int32).toInt = 25), t_next_id (show 0 < (4 : Int32).toInt from by decide), hU0]
    · intro z
      exact absurd (rn0.2 z).1 (by decide)
