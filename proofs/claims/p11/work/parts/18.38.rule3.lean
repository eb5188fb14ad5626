theorem xi0 {x : Int32} (h : x.toInt = 0) : x = 0 := Int32.toInt_inj.mp (by rw [h]; decide)
theorem bit1 {t a b : Int32} (h : (a &&& b).toInt = 0) : (((t ||| a) &&& b).toInt = 0 ↔ (t &&& b).toInt = 0) := by
  rw [ob_dist, xi0 h, Int32.or_zero]
theorem bitS {t a : Int32} (h : (a &&& a).toInt ≠ 0) : ¬ ((t ||| a) &&& a).toInt = 0 := by
  intro z
  rw [ob_dist] at z
  apply h
  have z := xi0 z
  have e : (t &&& a) ||| (a &&& a) = a &&& a := by
    apply Int32.toBitVec_inj.mp
    rw [Int32.toBitVec_or, Int32.toBitVec_and, Int32.toBitVec_and]
    ext i hi
    simp only [BitVec.getElem_and, BitVec.getElem_or]
    cases t.toBitVec[i] <;> cases a.toBitVec[i] <;> rfl
  rw [← e, z]
  decide
theorem t_once0 {f : Nat → Int32} {told b n fl fp kd pl fr vl : Int32} (h : (told &&& b).toInt = 0) : M_takeOnce told b n f fl fp kd pl fr vl = ((M_step n f fl fp kd pl).1, (M_step n f fl fp kd pl).2.1, (M_step n f fl fp kd pl).2.2.1, (M_step n f fl fp kd pl).2.2.2.1, told ||| b, (M_step n f fl fp kd pl).2.2.2.2.1, (M_step n f fl fp kd pl).2.2.2.2.2) := by
  simp only [K_takeOnce_4, K_takeOnce_2, K_takeOnce_5, K_takeOnce_3, K_takeOnce_1, M_takeOnce]
  rw [if_pos h]
theorem t_once1 {f : Nat → Int32} {told b n fl fp kd pl fr vl : Int32} (h : ¬ (told &&& b).toInt = 0) (q : fl.toInt = 0) : M_takeOnce told b n f fl fp kd pl fr vl = (pl, kd, fr, vl, told, 4, fr) := by
  simp only [K_takeOnce_4, K_takeOnce_2, K_takeOnce_5, K_takeOnce_3, K_takeOnce_1, M_takeOnce]
  rw [if_neg h, t_refuse q]
theorem fin64 {P : Int32 → Prop} (h : ∀ t : Fin 64, P (Int32.ofNat t.val)) {x : Int32} (h0 : 0 ≤ x.toInt) (h1 : x.toInt < 64) : P x := by
  have e : x = Int32.ofNat x.toInt.toNat := Int32.toInt_inj.mp (by
    have q : (Int32.ofNat x.toInt.toNat).toInt = ((x.toInt.toNat : Nat) : Int) := nI_toInt (n := x.toInt.toNat) (by omega)
    omega)
  rw [e]
  exact h ⟨x.toInt.toNat, by omega⟩
theorem h12 : ∀ t : Fin 64, (0 ≤ ((Int32.ofNat t.val) ||| 1).toInt ∧ ((Int32.ofNat t.val) ||| 1).toInt < 64) ∧ (0 ≤ ((Int32.ofNat t.val) ||| 2).toInt ∧ ((Int32.ofNat t.val) ||| 2).toInt < 64) := by decide +kernel
theorem r_rule {f : Nat → Int32} {n pl kd fr vl told fl fp ps mr so mv mf mw dr hl hr us dp li re be dL dR dP : Int32} {ur ua : Nat → Int32} (hf : ∀ j, 0 ≤ (f j).toInt) (hn : n.toInt ≤ 400) (h : xR n pl kd fr vl fl fp ps mr so mv mf mw) (q : fl.toInt = 0) (nr : ¬ (kd.toInt = 1 ∧ xW0 f fr pl)) (b1 : (told &&& 1).toInt = 0 ↔ hl.toInt = 0) (b2 : (told &&& 2).toInt = 0 ↔ hr.toInt = 0) (ht : 0 ≤ told.toInt ∧ told.toInt < 64) :
    ∃ pl' kd' fr' vl' td' fl' fp' ps' mr' so' mv' mf' mw' hl' hr' li' re' be' dL' dR' dP' : Int32, M_readRule pl kd fr vl told li re be fl fp n f = (pl', kd', fr', vl', td', fl', fp', li', re', be') ∧ M_m_readLine so dL dR dP hl hr n f dr us ur ua dp mv ps mr mf mw = K_m_readLine_2 mf' so' dr dL' dR' dP' hl' hr' us dp ur ua mv' n f ps' mr' mw' ∧ xR n pl' kd' fr' vl' fl' fp' ps' mr' so' mv' mf' mw' ∧ ((td' &&& 1).toInt = 0 ↔ hl'.toInt = 0) ∧ ((td' &&& 2).toInt = 0 ↔ hr'.toInt = 0) ∧ ((0 ≤ td'.toInt ∧ td'.toInt < 64) ∧ (fl'.toInt = 0 → pl.toInt ≤ fr'.toInt ∧ (li = dL → re = dR → be = dP → li' = dL' ∧ re' = dR' ∧ be' = dP'))) := by
  obtain ⟨e, hp, hw, hk⟩ := h
  subst e
  obtain ⟨e1, e2, r0, r1, r2, r3, k⟩ := hk q
  subst e1
  subst e2
  have k1 := xK1 k
  have hr12 := fin64 (P := fun x => (0 ≤ (x ||| 1).toInt ∧ (x ||| 1).toInt < 64) ∧ (0 ≤ (x ||| 2).toInt ∧ (x ||| 2).toInt < 64)) h12 ht.1 ht.2
  have z1 : (1 : Int32).toInt = 1 := by decide
  have z4 : (4 : Int32).toInt = 4 := by decide
  have rt := r_tok (fp := fp) (kd := kd) (mv := mv) (mw := mw) (mr := fr) (so := so) hf hn (by omega) r2 (rfl : fl = fl) q
  have x4 : xR n pl kd fr vl 4 fr pl fr so mv 4 fr := xR_no rfl (by omega) rfl
  by_cases c1 : kd.toInt = 1
  · have s1 : so.toInt = 1 := k1.1.mp c1
    have ns := nm_some (f := f) (ps := pl) r0 r2 hn
    obtain ⟨n20, n21, n22, -⟩ := ns
    have w0 : ¬ xW0 f fr pl := fun z => nr ⟨c1, z⟩
    by_cases w7 : xW7 f fr pl
    · have v21 := n21.mpr w7
      have i7 : ¬ (M_isWord kd pl fr 5 f 7).toInt = 0 := by rw [w_limit, if_pos ⟨c1, w7⟩]; decide
      have hw1 : M_m_wants (if 20 ≤ (M_m_nameNow pl fr n f).toInt ∧ (M_m_nameNow pl fr n f).toInt ≤ 22 then 1 else 0) fl 2 fr mw = (fl, mw) := by rw [if_pos (by omega)]; exact t_wants1
      by_cases hh : hl.toInt = 0
      · have o1 := t_once0 (f := f) (n := n) (fl := fl) (fp := fp) (kd := kd) (pl := pl) (fr := fr) (vl := vl) (b1.mpr hh)
        generalize hS : M_step n f fl fp kd pl = S at rt o1
        generalize hV : M_m_next fl mv mw n f pl fr so = V at rt
        have rn := r_num (lo := 1) (hi := 999) hf hn rt.1
        generalize hT : M_takeNumber S.2.2.2.2.1 S.2.1 S.2.2.2.1 1 S.1 S.2.2.1 S.2.2.2.2.2 999 n f = T at rn
        generalize hU : M_m_readNumber V.2.2.2.2.1 V.2.2.1 V.2.2.2.1 n f V.1 V.2.1 1 999 V.2.2.2.2.2 = U at rn
        refine ⟨T.2.1, T.2.2.1, T.2.2.2.1, T.2.2.2.2.1, told ||| 1, T.2.2.2.2.2.1, T.2.2.2.2.2.2, U.2.1, U.2.2.1, U.2.2.2.1, U.2.2.2.2.1, U.2.2.2.2.2.1, U.2.2.2.2.2.2, 1, hr, T.1, re, be, U.1, dR, dP, ?_, ?_, rn.1, ?_, ?_, ?_⟩
        · simp only [K_readRule_8, K_readRule_6, K_readRule_11, K_readRule_10, K_readRule_9, K_readRule_7, K_readRule_5, K_readRule_3, K_readRule_13, K_readRule_12, K_readRule_4, K_readRule_2, K_readRule_1, M_readRule]
          rw [if_neg i7, o1, hT]
        · simp only [K_m_readLine_11, K_m_readLine_10, K_m_readLine_7, K_m_readLine_9, K_m_readLine_8, K_m_readLine_6, K_m_readLine_4, K_m_readLine_5, K_m_readLine_3, K_m_readLine_37, K_m_readLine_14, K_m_readLine_30, K_m_readLine_29, K_m_readLine_36, K_m_readLine_35, K_m_readLine_32, K_m_readLine_34, K_m_readLine_33, K_m_readLine_31, K_m_readLine_16, K_m_readLine_21, K_m_readLine_20, K_m_readLine_22, K_m_readLine_19, K_m_readLine_28, K_m_readLine_27, K_m_readLine_24, K_m_readLine_26, K_m_readLine_25, K_m_readLine_23, K_m_readLine_18, K_m_readLine_17, K_m_readLine_15, K_m_readLine_13, K_m_readLine_12, K_m_readLine_42, K_m_readLine_41, K_m_readLine_39, K_m_readLine_40, K_m_readLine_38, K_m_readLine_1, M_m_readLine]
          rw [if_pos s1, hw1, if_neg (by omega : ¬ (M_m_nameNow pl fr n f).toInt = 20), if_pos v21, if_pos hh, t_wants1, hV, hU]
        · exact ⟨fun z => absurd z (bitS (by decide)), fun z => absurd z (by decide)⟩
        · exact (bit1 (by decide)).trans b2
        · refine ⟨hr12.1, fun z => ?_⟩
          have a1 := rn.2 z
          have a2 := rt.2 a1.1
          have a3 := (rt.1.2.2.2 a1.1).2.2.2.1
          exact ⟨by omega, fun _ y2 y3 => ⟨a1.2.1, y2, y3⟩⟩
      · have o1 := t_once1 (f := f) (n := n) (fl := fl) (fp := fp) (kd := kd) (pl := pl) (fr := fr) (vl := vl) (fun z => hh (b1.mp z)) q
        have rn := r_num (lo := 1) (hi := 999) hf hn x4
        generalize hT : M_takeNumber 4 kd vl 1 pl fr fr 999 n f = T at rn
        generalize hU : M_m_readNumber 4 so mv n f pl fr 1 999 fr = U at rn
        refine ⟨T.2.1, T.2.2.1, T.2.2.2.1, T.2.2.2.2.1, told, T.2.2.2.2.2.1, T.2.2.2.2.2.2, U.2.1, U.2.2.1, U.2.2.2.1, U.2.2.2.2.1, U.2.2.2.2.2.1, U.2.2.2.2.2.2, 1, hr, T.1, re, be, U.1, dR, dP, ?_, ?_, rn.1, ?_, b2, ?_⟩
        · simp only [K_readRule_8, K_readRule_6, K_readRule_11, K_readRule_10, K_readRule_9, K_readRule_7, K_readRule_5, K_readRule_3, K_readRule_13, K_readRule_12, K_readRule_4, K_readRule_2, K_readRule_1, M_readRule]
          rw [if_neg i7, o1, hT]
        · simp only [K_m_readLine_11, K_m_readLine_10, K_m_readLine_7, K_m_readLine_9, K_m_readLine_8, K_m_readLine_6, K_m_readLine_4, K_m_readLine_5, K_m_readLine_3, K_m_readLine_37, K_m_readLine_14, K_m_readLine_30, K_m_readLine_29, K_m_readLine_36, K_m_readLine_35, K_m_readLine_32, K_m_readLine_34, K_m_readLine_33, K_m_readLine_31, K_m_readLine_16, K_m_readLine_21, K_m_readLine_20, K_m_readLine_22, K_m_readLine_19, K_m_readLine_28, K_m_readLine_27, K_m_readLine_24, K_m_readLine_26, K_m_readLine_25, K_m_readLine_23, K_m_readLine_18, K_m_readLine_17, K_m_readLine_15, K_m_readLine_13, K_m_readLine_12, K_m_readLine_42, K_m_readLine_41, K_m_readLine_39, K_m_readLine_40, K_m_readLine_38, K_m_readLine_1, M_m_readLine]
          rw [if_pos s1, hw1, if_neg (by omega : ¬ (M_m_nameNow pl fr n f).toInt = 20), if_pos v21, if_neg hh, t_wantsF q, t_next_id (show 0 < (4 : Int32).toInt from by decide), hU]
        · exact ⟨fun z => absurd (b1.mp z) hh, fun z => absurd z (by decide)⟩
        · refine ⟨ht, fun z => ?_⟩
          exact absurd (rn.2 z).1 (by decide)
    · have i7 : (M_isWord kd pl fr 5 f 7).toInt = 0 := by rw [w_limit, if_neg (fun z => w7 z.2)]; decide
      have m21 : ¬ (M_m_nameNow pl fr n f).toInt = 21 := fun z => w7 (n21.mp z)
      have m20 : ¬ (M_m_nameNow pl fr n f).toInt = 20 := fun z => w0 (n20.mp z)
      by_cases w8 : xW8 f fr pl
      · have v22 := n22.mpr w8
        have i8 : ¬ (M_isWord kd pl fr 5 f 8).toInt = 0 := by rw [w_retry, if_pos ⟨c1, w8⟩]; decide
        have hw1 : M_m_wants (if 20 ≤ (M_m_nameNow pl fr n f).toInt ∧ (M_m_nameNow pl fr n f).toInt ≤ 22 then 1 else 0) fl 2 fr mw = (fl, mw) := by rw [if_pos (by omega)]; exact t_wants1
        by_cases hh : hr.toInt = 0
        · have o1 := t_once0 (f := f) (n := n) (fl := fl) (fp := fp) (kd := kd) (pl := pl) (fr := fr) (vl := vl) (b2.mpr hh)
          generalize hS : M_step n f fl fp kd pl = S at rt o1
          generalize hV : M_m_next fl mv mw n f pl fr so = V at rt
          have rn := r_num (lo := 0) (hi := 9) hf hn rt.1
          generalize hT : M_takeNumber S.2.2.2.2.1 S.2.1 S.2.2.2.1 0 S.1 S.2.2.1 S.2.2.2.2.2 9 n f = T at rn
          generalize hU : M_m_readNumber V.2.2.2.2.1 V.2.2.1 V.2.2.2.1 n f V.1 V.2.1 0 9 V.2.2.2.2.2 = U at rn
          have rm := r_num (lo := 1) (hi := 99) hf hn rn.1
          generalize hX : M_takeNumber T.2.2.2.2.2.1 T.2.2.1 T.2.2.2.2.1 1 T.2.1 T.2.2.2.1 T.2.2.2.2.2.2 99 n f = X at rm
          generalize hY : M_m_readNumber U.2.2.2.2.2.1 U.2.2.2.1 U.2.2.2.2.1 n f U.2.1 U.2.2.1 1 99 U.2.2.2.2.2.2 = Y at rm
          refine ⟨X.2.1, X.2.2.1, X.2.2.2.1, X.2.2.2.2.1, told ||| 2, X.2.2.2.2.2.1, X.2.2.2.2.2.2, Y.2.1, Y.2.2.1, Y.2.2.2.1, Y.2.2.2.2.1, Y.2.2.2.2.2.1, Y.2.2.2.2.2.2, hl, 1, li, T.1, X.1, dL, U.1, Y.1, ?_, ?_, rm.1, ?_, ?_, ?_⟩
          · simp only [K_readRule_8, K_readRule_6, K_readRule_11, K_readRule_10, K_readRule_9, K_readRule_7, K_readRule_5, K_readRule_3, K_readRule_13, K_readRule_12, K_readRule_4, K_readRule_2, K_readRule_1, M_readRule]
            rw [if_pos i7, if_neg i8, o1, hT, hX]
          · simp only [K_m_readLine_11, K_m_readLine_10, K_m_readLine_7, K_m_readLine_9, K_m_readLine_8, K_m_readLine_6, K_m_readLine_4, K_m_readLine_5, K_m_readLine_3, K_m_readLine_37, K_m_readLine_14, K_m_readLine_30, K_m_readLine_29, K_m_readLine_36, K_m_readLine_35, K_m_readLine_32, K_m_readLine_34, K_m_readLine_33, K_m_readLine_31, K_m_readLine_16, K_m_readLine_21, K_m_readLine_20, K_m_readLine_22, K_m_readLine_19, K_m_readLine_28, K_m_readLine_27, K_m_readLine_24, K_m_readLine_26, K_m_readLine_25, K_m_readLine_23, K_m_readLine_18, K_m_readLine_17, K_m_readLine_15, K_m_readLine_13, K_m_readLine_12, K_m_readLine_42, K_m_readLine_41, K_m_readLine_39, K_m_readLine_40, K_m_readLine_38, K_m_readLine_1, M_m_readLine]
            rw [if_pos s1, hw1, if_neg m20, if_neg m21, if_pos v22, if_pos hh, t_wants1, hV, hU, hY]
          · exact (bit1 (by decide)).trans b1
          · exact ⟨fun z => absurd z (bitS (by decide)), fun z => absurd z (by decide)⟩
          · refine ⟨hr12.2, fun z => ?_⟩
            have a0 := rm.2 z
            have a1 := rn.2 a0.1
            have a2 := rt.2 a1.1
            have a3 := (rt.1.2.2.2 a1.1).2.2.2.1
            have a4 := (rn.1.2.2.2 a0.1).2.2.2.1
            exact ⟨by omega, fun y1 _ _ => ⟨y1, a1.2.1, a0.2.1⟩⟩
        · have o1 := t_once1 (f := f) (n := n) (fl := fl) (fp := fp) (kd := kd) (pl := pl) (fr := fr) (vl := vl) (fun z => hh (b2.mp z)) q
          have rn := r_num (lo := 0) (hi := 9) hf hn x4
          generalize hT : M_takeNumber 4 kd vl 0 pl fr fr 9 n f = T at rn
          generalize hU : M_m_readNumber 4 so mv n f pl fr 0 9 fr = U at rn
          have rm := r_num (lo := 1) (hi := 99) hf hn rn.1
          generalize hX : M_takeNumber T.2.2.2.2.2.1 T.2.2.1 T.2.2.2.2.1 1 T.2.1 T.2.2.2.1 T.2.2.2.2.2.2 99 n f = X at rm
          generalize hY : M_m_readNumber U.2.2.2.2.2.1 U.2.2.2.1 U.2.2.2.2.1 n f U.2.1 U.2.2.1 1 99 U.2.2.2.2.2.2 = Y at rm
          refine ⟨X.2.1, X.2.2.1, X.2.2.2.1, X.2.2.2.2.1, told, X.2.2.2.2.2.1, X.2.2.2.2.2.2, Y.2.1, Y.2.2.1, Y.2.2.2.1, Y.2.2.2.2.1, Y.2.2.2.2.2.1, Y.2.2.2.2.2.2, hl, 1, li, T.1, X.1, dL, U.1, Y.1, ?_, ?_, rm.1, b1, ?_, ?_⟩
          · simp only [K_readRule_8, K_readRule_6, K_readRule_11, K_readRule_10, K_readRule_9, K_readRule_7, K_readRule_5, K_readRule_3, K_readRule_13, K_readRule_12, K_readRule_4, K_readRule_2, K_readRule_1, M_readRule]
            rw [if_pos i7, if_neg i8, o1, hT, hX]
          · simp only [K_m_readLine_11, K_m_readLine_10, K_m_readLine_7, K_m_readLine_9, K_m_readLine_8, K_m_readLine_6, K_m_readLine_4, K_m_readLine_5, K_m_readLine_3, K_m_readLine_37, K_m_readLine_14, K_m_readLine_30, K_m_readLine_29, K_m_readLine_36, K_m_readLine_35, K_m_readLine_32, K_m_readLine_34, K_m_readLine_33, K_m_readLine_31, K_m_readLine_16, K_m_readLine_21, K_m_readLine_20, K_m_readLine_22, K_m_readLine_19, K_m_readLine_28, K_m_readLine_27, K_m_readLine_24, K_m_readLine_26, K_m_readLine_25, K_m_readLine_23, K_m_readLine_18, K_m_readLine_17, K_m_readLine_15, K_m_readLine_13, K_m_readLine_12, K_m_readLine_42, K_m_readLine_41, K_m_readLine_39, K_m_readLine_40, K_m_readLine_38, K_m_readLine_1, M_m_readLine]
            rw [if_pos s1, hw1, if_neg m20, if_neg m21, if_pos v22, if_neg hh, t_wantsF q, t_next_id (show 0 < (4 : Int32).toInt from by decide), hU, hY]
          · exact ⟨fun z => absurd (b2.mp z) hh, fun z => absurd z (by decide)⟩
          · refine ⟨ht, fun z => ?_⟩
            exact absurd (rn.2 (rm.2 z).1).1 (by decide)
      · have i8 : (M_isWord kd pl fr 5 f 8).toInt = 0 := by rw [w_retry, if_neg (fun z => w8 z.2)]; decide
        have m22 : ¬ (M_m_nameNow pl fr n f).toInt = 22 := fun z => w8 (n22.mp z)
        have hw1 : M_m_wants (if 20 ≤ (M_m_nameNow pl fr n f).toInt ∧ (M_m_nameNow pl fr n f).toInt ≤ 22 then 1 else 0) fl 2 fr mw = (2, fr) := by rw [if_neg (by omega)]; exact t_wantsF q
        refine ⟨pl, kd, fr, vl, told, 2, fr, pl, fr, so, mv, 2, fr, hl, hr, li, re, be, dL, dR, dP, ?_, ?_, xR_no rfl (by decide) rfl, b1, b2, ht, fun z => absurd z (by decide)⟩
        · simp only [K_readRule_8, K_readRule_6, K_readRule_11, K_readRule_10, K_readRule_9, K_readRule_7, K_readRule_5, K_readRule_3, K_readRule_13, K_readRule_12, K_readRule_4, K_readRule_2, K_readRule_1, M_readRule]
          rw [if_pos i7, if_pos i8, t_refuse q]
        · simp only [K_m_readLine_11, K_m_readLine_10, K_m_readLine_7, K_m_readLine_9, K_m_readLine_8, K_m_readLine_6, K_m_readLine_4, K_m_readLine_5, K_m_readLine_3, K_m_readLine_37, K_m_readLine_14, K_m_readLine_30, K_m_readLine_29, K_m_readLine_36, K_m_readLine_35, K_m_readLine_32, K_m_readLine_34, K_m_readLine_33, K_m_readLine_31, K_m_readLine_16, K_m_readLine_21, K_m_readLine_20, K_m_readLine_22, K_m_readLine_19, K_m_readLine_28, K_m_readLine_27, K_m_readLine_24, K_m_readLine_26, K_m_readLine_25, K_m_readLine_23, K_m_readLine_18, K_m_readLine_17, K_m_readLine_15, K_m_readLine_13, K_m_readLine_12, K_m_readLine_42, K_m_readLine_41, K_m_readLine_39, K_m_readLine_40, K_m_readLine_38, K_m_readLine_1, M_m_readLine]
          rw [if_pos s1, hw1, if_neg m20, if_neg m21, if_neg m22]
  · have s1 : ¬ so.toInt = 1 := fun z => c1 (k1.1.mpr z)
    have i7 : (M_isWord kd pl fr 5 f 7).toInt = 0 := by rw [w_limit, if_neg (fun z => c1 z.1)]; decide
    have i8 : (M_isWord kd pl fr 5 f 8).toInt = 0 := by rw [w_retry, if_neg (fun z => c1 z.1)]; decide
    refine ⟨pl, kd, fr, vl, told, 2, fr, pl, fr, so, mv, 2, fr, hl, hr, li, re, be, dL, dR, dP, ?_, ?_, xR_no rfl (by decide) rfl, b1, b2, ht, fun z => absurd z (by decide)⟩
    · simp only [K_readRule_8, K_readRule_6, K_readRule_11, K_readRule_10, K_readRule_9, K_readRule_7, K_readRule_5, K_readRule_3, K_readRule_13, K_readRule_12, K_readRule_4, K_readRule_2, K_readRule_1, M_readRule]
      rw [if_pos i7, if_pos i8, t_refuse q]
    · simp only [K_m_readLine_11, K_m_readLine_10, K_m_readLine_7, K_m_readLine_9, K_m_readLine_8, K_m_readLine_6, K_m_readLine_4, K_m_readLine_5, K_m_readLine_3, K_m_readLine_37, K_m_readLine_14, K_m_readLine_30, K_m_readLine_29, K_m_readLine_36, K_m_readLine_35, K_m_readLine_32, K_m_readLine_34, K_m_readLine_33, K_m_readLine_31, K_m_readLine_16, K_m_readLine_21, K_m_readLine_20, K_m_readLine_22, K_m_readLine_19, K_m_readLine_28, K_m_readLine_27, K_m_readLine_24, K_m_readLine_26, K_m_readLine_25, K_m_readLine_23, K_m_readLine_18, K_m_readLine_17, K_m_readLine_15, K_m_readLine_13, K_m_readLine_12, K_m_readLine_42, K_m_readLine_41, K_m_readLine_39, K_m_readLine_40, K_m_readLine_38, K_m_readLine_1, M_m_readLine]
      rw [if_neg s1, if_neg (by decide : ¬ ((20 : Int) ≤ -4 ∧ (-4 : Int) ≤ 22)), t_wantsF q, if_neg (by decide : ¬ (-4 : Int32).toInt = 20), if_neg (by decide : ¬ (-4 : Int32).toInt = 21), if_neg (by decide : ¬ (-4 : Int32).toInt = 22)]
