theorem r_with_other {f : Nat → Int32} {n pl kd fr vl told fl fp ps mr so mv mf mw had : Int32} (hn : n.toInt ≤ 400) (h : xR n pl kd fr vl fl fp ps mr so mv mf mw) (q : fl.toInt = 0) (c1 : kd.toInt = 1) (w1 : ¬ xW1 f fr pl) (w2 : ¬ xW2 f fr pl) (w3 : ¬ xW3 f fr pl) (w4 : ¬ xW4 f fr pl) (w5 : ¬ xW5 f fr pl) :
    M_readWith pl kd fr vl told fl fp n f = (pl, kd, fr, vl, told, 2, fr) ∧ (∀ (k : Nat) (dr us dp : Int32) (ur ua : Nat → Int32), K_m_readRail_L7 dr n f us ur ua dp (k + 1) had ps mr so mv mf mw = K_m_readRail_L7 dr n f us ur ua dp k had ps mr so mv 2 fr) ∧ xR n pl kd fr vl 2 fr ps mr so mv 2 fr := by
  obtain ⟨e, hp, hw, hk⟩ := h
  subst e
  obtain ⟨e1, e2, r0, r1, r2, r3, k⟩ := hk q
  subst e1
  subst e2
  have s1 : so.toInt = 1 := (xK1 k).1.mp c1
  obtain ⟨n20, n21, n22, n23, n24, n25, n26, n27, n28, nle⟩ := nm_some (f := f) (ps := pl) r0 r2 hn
  have a23 : ¬ (M_m_nameNow pl fr n f).toInt = 23 := fun z => w2 (n23.mp z)
  have a24 : ¬ (M_m_nameNow pl fr n f).toInt = 24 := fun z => w3 (n24.mp z)
  have a25 : ¬ (M_m_nameNow pl fr n f).toInt = 25 := fun z => w4 (n25.mp z)
  have a26 : ¬ (M_m_nameNow pl fr n f).toInt = 26 := fun z => w5 (n26.mp z)
  have a27 : ¬ (M_m_nameNow pl fr n f).toInt = 27 := fun z => w1 (n27.mp z)
  have i2 : (M_isWord kd pl fr 4 f 2).toInt = 0 := by rw [w_fall, if_neg (fun z => w2 z.2)]; decide
  have i3 : (M_isWord kd pl fr 4 f 3).toInt = 0 := by rw [w_draw, if_neg (fun z => w3 z.2)]; decide
  have i4 : (M_isWord kd pl fr 4 f 4).toInt = 0 := by rw [w_wait, if_neg (fun z => w4 z.2)]; decide
  have i5 : (M_isWord kd pl fr 6 f 5).toInt = 0 := by rw [w_within, if_neg (fun z => w5 z.2)]; decide
  refine ⟨?_, fun k dr us dp ur ua => ?_, xR_no rfl (by decide) rfl⟩
  · simp only [K_readWith_14, K_readWith_12, K_readWith_16, K_readWith_15, K_readWith_13, K_readWith_11, K_readWith_9, K_readWith_18, K_readWith_17, K_readWith_10, K_readWith_8, K_readWith_6, K_readWith_21, K_readWith_20, K_readWith_19, K_readWith_7, K_readWith_5, K_readWith_3, K_readWith_23, K_readWith_22, K_readWith_4, K_readWith_2, K_readWith_1, M_readWith]
    rw [if_pos i2, if_pos i3, if_pos i4, if_pos i5, t_refuse q]
  · simp only [K_m_readRail_L7, K_m_readRail_17, K_m_readRail_15, K_m_readRail_19, K_m_readRail_18, K_m_readRail_27, K_m_readRail_25, K_m_readRail_26, K_m_readRail_24, K_m_readRail_23, K_m_readRail_22, K_m_readRail_21, K_m_readRail_20, K_m_readRail_16, K_m_readRail_14, K_m_readRail_12, K_m_readRail_13, K_m_readRail_11, K_m_readRail_9, K_m_readRail_10, K_m_readRail_8, K_m_readRail_7, K_m_readRail_5, K_m_readRail_6, K_m_readRail_4, K_m_readRail_28, K_m_readRail_3, K_m_readRail_30, K_m_readRail_29, K_m_readRail_51, K_m_readRail_49, K_m_readRail_50, K_m_readRail_48, K_m_readRail_47, K_m_readRail_46, K_m_readRail_45, K_m_readRail_44, K_m_readRail_35, K_m_readRail_43, K_m_readRail_41, K_m_readRail_42, K_m_readRail_40, K_m_readRail_39, K_m_readRail_38, K_m_readRail_37, K_m_readRail_36, K_m_readRail_34, K_m_readRail_33, K_m_readRail_32, K_m_readRail_31, K_m_readRail_55, K_m_readRail_54, K_m_readRail_52, K_m_readRail_57, K_m_readRail_56, K_m_readRail_53, K_m_readRail_1, M_m_readRail]
    rw [if_pos q, if_pos s1, if_neg a27, if_neg (by omega : ¬ (23 ≤ (M_m_nameNow pl fr n f).toInt ∧ (M_m_nameNow pl fr n f).toInt ≤ 26)), t_wantsF q, if_neg (show ¬ (2 : Int32).toInt = 0 from by decide)]
/-- the class's loop over withs: one round, its end -/
theorem c_go {f rf : Nat → Int32} {dep rails n pl kd fr vl td fl fp i : Int32} (hi : i.toInt ≤ 4) (q : fl.toInt = 0) (c1 : kd.toInt = 1) (w1 : ¬ xW1 f fr pl) (k : Nat) : K_readRail_L9 dep rf rails n f (k + 1) i pl kd fr vl td fl fp = K_readRail_L9 dep rf rails n f k (i + 1) (M_readWith pl kd fr vl td fl fp n f).1 (M_readWith pl kd fr vl td fl fp n f).2.1 (M_readWith pl kd fr vl td fl fp n f).2.2.1 (M_readWith pl kd fr vl td fl fp n f).2.2.2.1 (M_readWith pl kd fr vl td fl fp n f).2.2.2.2.1 (M_readWith pl kd fr vl td fl fp n f).2.2.2.2.2.1 (M_readWith pl kd fr vl td fl fp n f).2.2.2.2.2.2 := by
  have i1 : (M_isWord kd pl fr 4 f 1).toInt = 0 := by rw [w_when, if_neg (fun z => w1 z.2)]; decide
  simp only [K_readRail_L9, K_readRail_15, K_readRail_18, K_readRail_17, K_readRail_16, K_readRail_14, K_readRail_13, K_readRail_12, K_readRail_10, K_readRail_43, K_readRail_37, K_readRail_39, K_readRail_42, K_readRail_41, K_readRail_40, K_readRail_38, K_readRail_36, K_readRail_35, K_readRail_29, K_readRail_31, K_readRail_34, K_readRail_33, K_readRail_32, K_readRail_30, K_readRail_28, K_readRail_20, K_readRail_24, K_readRail_27, K_readRail_26, K_readRail_25, K_readRail_23, K_readRail_22, K_readRail_21, K_readRail_19, K_readRail_11, K_readRail_9, K_readRail_8, K_readRail_7, K_readRail_6, K_readRail_5, K_readRail_4, K_readRail_2, K_readRail_44, K_readRail_3, K_readRail_1, M_readRail]
  rw [if_neg (by omega), if_pos q, if_pos c1, if_pos i1]
theorem c_end {f rf : Nat → Int32} {dep rails n pl kd fr vl td fl fp i : Int32} (h : 4 < i.toInt ∨ ¬ fl.toInt = 0 ∨ ¬ kd.toInt = 1 ∨ xW1 f fr pl) (k : Nat) : K_readRail_L9 dep rf rails n f (k + 1) i pl kd fr vl td fl fp = K_readRail_L9 dep rf rails n f 1 5 pl kd fr vl td fl fp := by
  simp only [K_readRail_L9, K_readRail_15, K_readRail_18, K_readRail_17, K_readRail_16, K_readRail_14, K_readRail_13, K_readRail_12, K_readRail_10, K_readRail_43, K_readRail_37, K_readRail_39, K_readRail_42, K_readRail_41, K_readRail_40, K_readRail_38, K_readRail_36, K_readRail_35, K_readRail_29, K_readRail_31, K_readRail_34, K_readRail_33, K_readRail_32, K_readRail_30, K_readRail_28, K_readRail_20, K_readRail_24, K_readRail_27, K_readRail_26, K_readRail_25, K_readRail_23, K_readRail_22, K_readRail_21, K_readRail_19, K_readRail_11, K_readRail_9, K_readRail_8, K_readRail_7, K_readRail_6, K_readRail_5, K_readRail_4, K_readRail_2, K_readRail_44, K_readRail_3, K_readRail_1, M_readRail]
  rw [if_pos (by decide : 4 < (5 : Int32).toInt)]
  by_cases a : 4 < i.toInt
  · rw [if_pos a]
  · rw [if_neg a]
    by_cases q : fl.toInt = 0
    · by_cases c1 : kd.toInt = 1
      · have w : xW1 f fr pl := by
          rcases h with h | h | h | h
          · exact absurd h a
          · exact absurd q h
          · exact absurd c1 h
          · exact h
        have i1 : ¬ (M_isWord kd pl fr 4 f 1).toInt = 0 := by rw [w_when, if_pos ⟨c1, w⟩]; decide
        simp only [if_pos q, if_pos c1, if_neg i1]
      · simp only [if_pos q, if_neg c1]
    · simp only [if_neg q]
theorem m_end {f : Nat → Int32} {n ps mr so mv mf mw had dr us dp : Int32} {ur ua : Nat → Int32} (h : ¬ mf.toInt = 0 ∨ ¬ so.toInt = 1 ∨ (M_m_nameNow ps mr n f).toInt = 27) (k : Nat) : K_m_readRail_L7 dr n f us ur ua dp (k + 1) had ps mr so mv mf mw = K_m_readRail_L7 dr n f us ur ua dp 1 0 ps mr so mv mf mw := by
  simp only [K_m_readRail_L7, K_m_readRail_17, K_m_readRail_15, K_m_readRail_19, K_m_readRail_18, K_m_readRail_27, K_m_readRail_25, K_m_readRail_26, K_m_readRail_24, K_m_readRail_23, K_m_readRail_22, K_m_readRail_21, K_m_readRail_20, K_m_readRail_16, K_m_readRail_14, K_m_readRail_12, K_m_readRail_13, K_m_readRail_11, K_m_readRail_9, K_m_readRail_10, K_m_readRail_8, K_m_readRail_7, K_m_readRail_5, K_m_readRail_6, K_m_readRail_4, K_m_readRail_28, K_m_readRail_3, K_m_readRail_30, K_m_readRail_29, K_m_readRail_51, K_m_readRail_49, K_m_readRail_50, K_m_readRail_48, K_m_readRail_47, K_m_readRail_46, K_m_readRail_45, K_m_readRail_44, K_m_readRail_35, K_m_readRail_43, K_m_readRail_41, K_m_readRail_42, K_m_readRail_40, K_m_readRail_39, K_m_readRail_38, K_m_readRail_37, K_m_readRail_36, K_m_readRail_34, K_m_readRail_33, K_m_readRail_32, K_m_readRail_31, K_m_readRail_55, K_m_readRail_54, K_m_readRail_52, K_m_readRail_57, K_m_readRail_56, K_m_readRail_53, K_m_readRail_1, M_m_readRail]
  by_cases q : mf.toInt = 0
  · by_cases s : so.toInt = 1
    · have w : (M_m_nameNow ps mr n f).toInt = 27 := by
        rcases h with h | h | h
        · exact absurd q h
        · exact absurd s h
        · exact h
      simp only [if_pos q, if_pos s, if_pos w]
    · simp only [if_pos q, if_neg s]
  · simp only [if_neg q]
/-- all withs of a rail, one by one, on both sides -/
theorem r_withs {f rf : Nat → Int32} {dep rails n : Int32} (hf : ∀ j, 0 ≤ (f j).toInt) (hn : n.toInt ≤ 400) : ∀ (m : Nat) (i pl kd fr vl td fl fp ps mr so mv mf mw had : Int32), m ≤ 5 → i.toInt = 5 - (m : Int) → xR n pl kd fr vl fl fp ps mr so mv mf mw → (fl.toInt = 0 → xH td had ∧ (cn td : Int) = i.toInt) →
    ∃ pl' kd' fr' vl' td' fl' fp' ps' mr' so' mv' mf' mw' : Int32, (∀ k : Nat, K_readRail_L9 dep rf rails n f (k + m + 1) i pl kd fr vl td fl fp = K_readRail_L9 dep rf rails n f 1 5 pl' kd' fr' vl' td' fl' fp') ∧ (∀ (k : Nat) (dr us dp : Int32) (ur ua : Nat → Int32), K_m_readRail_L7 dr n f us ur ua dp (k + m + 1) had ps mr so mv mf mw = K_m_readRail_L7 dr n f us ur ua dp 1 0 ps' mr' so' mv' mf' mw') ∧ xR n pl' kd' fr' vl' fl' fp' ps' mr' so' mv' mf' mw' ∧ (¬ fl'.toInt = 0 ∨ ¬ kd'.toInt = 1 ∨ xW1 f fr' pl') ∧ (fl'.toInt = 0 → fl.toInt = 0 ∧ fr.toInt ≤ fr'.toInt ∧ (td' &&& 1) = (td &&& 1) ∧ (td' &&& 2) = (td &&& 2) ∧ 0 ≤ td'.toInt ∧ td'.toInt < 64) := by
  intro m
  induction m with
  | zero =>
    intro i pl kd fr vl td fl fp ps mr so mv mf mw had hm hi h hH
    have q : ¬ fl.toInt = 0 := fun z => by
      have a := (hH z).2
      have b := cn_le td
      omega
    have q2 : ¬ mf.toInt = 0 := by rw [← h.1]; exact q
    exact ⟨pl, kd, fr, vl, td, fl, fp, ps, mr, so, mv, mf, mw, fun k => c_end (Or.inr (Or.inl q)) k, fun k dr us dp ur ua => m_end (Or.inl q2) k, h, Or.inl q, fun z => absurd z q⟩
  | succ m ih =>
    intro i pl kd fr vl td fl fp ps mr so mv mf mw had hm hi h hH
    by_cases q : fl.toInt = 0
    · obtain ⟨hh, hc⟩ := hH q
      have hx := h.2.2.2 q
      obtain ⟨e1, e2, r0, r1, r2, r3, k⟩ := hx
      by_cases c1 : kd.toInt = 1
      · have s1 : so.toInt = 1 := (xK1 k).1.mp c1
        by_cases w1 : xW1 f fr pl
        · have v : (M_m_nameNow ps mr n f).toInt = 27 := by
            obtain ⟨n20, n21, n22, n23, n24, n25, n26, n27, n28, nle⟩ := nm_some (f := f) (ps := pl) r0 r2 hn
            rw [← e1, ← e2]
            exact n27.mpr w1
          exact ⟨pl, kd, fr, vl, td, fl, fp, ps, mr, so, mv, mf, mw, fun k => c_end (Or.inr (Or.inr (Or.inr w1))) (k + (m + 1)), fun k dr us dp ur ua => m_end (Or.inr (Or.inr v)) (k + (m + 1)), h, Or.inr (Or.inr w1), fun _ => ⟨q, Int.le_refl _, rfl, rfl, hh.1⟩⟩
        · have ii : (i + 1).toInt = i.toInt + 1 := xadd rfl (by decide) (by omega) (by omega)
          have go : ∀ (pl1 kd1 fr1 vl1 td1 fl1 fp1 ps1 mr1 so1 mv1 mf1 mw1 had1 : Int32), M_readWith pl kd fr vl td fl fp n f = (pl1, kd1, fr1, vl1, td1, fl1, fp1) → (∀ (k : Nat) (dr us dp : Int32) (ur ua : Nat → Int32), K_m_readRail_L7 dr n f us ur ua dp (k + 1) had ps mr so mv mf mw = K_m_readRail_L7 dr n f us ur ua dp k had1 ps1 mr1 so1 mv1 mf1 mw1) → xR n pl1 kd1 fr1 vl1 fl1 fp1 ps1 mr1 so1 mv1 mf1 mw1 → (fl1.toInt = 0 → xH td1 had1 ∧ cn td1 = cn td + 1 ∧ pl.toInt ≤ fr1.toInt ∧ (td1 &&& 1) = (td &&& 1) ∧ (td1 &&& 2) = (td &&& 2)) →
              ∃ pl' kd' fr' vl' td' fl' fp' ps' mr' so' mv' mf' mw' : Int32, (∀ k : Nat, K_readRail_L9 dep rf rails n f (k + (m + 1) + 1) i pl kd fr vl td fl fp = K_readRail_L9 dep rf rails n f 1 5 pl' kd' fr' vl' td' fl' fp') ∧ (∀ (k : Nat) (dr us dp : Int32) (ur ua : Nat → Int32), K_m_readRail_L7 dr n f us ur ua dp (k + (m + 1) + 1) had ps mr so mv mf mw = K_m_readRail_L7 dr n f us ur ua dp 1 0 ps' mr' so' mv' mf' mw') ∧ xR n pl' kd' fr' vl' fl' fp' ps' mr' so' mv' mf' mw' ∧ (¬ fl'.toInt = 0 ∨ ¬ kd'.toInt = 1 ∨ xW1 f fr' pl') ∧ (fl'.toInt = 0 → fl.toInt = 0 ∧ fr.toInt ≤ fr'.toInt ∧ (td' &&& 1) = (td &&& 1) ∧ (td' &&& 2) = (td &&& 2) ∧ 0 ≤ td'.toInt ∧ td'.toInt < 64) := by
            intro pl1 kd1 fr1 vl1 td1 fl1 fp1 ps1 mr1 so1 mv1 mf1 mw1 had1 ec em hr1 hz
            obtain ⟨pl', kd', fr', vl', td', fl', fp', ps', mr', so', mv', mf', mw', ic, im, ir, ie, iz⟩ := ih (i + 1) pl1 kd1 fr1 vl1 td1 fl1 fp1 ps1 mr1 so1 mv1 mf1 mw1 had1 (by omega) (by omega) hr1 (fun z => ⟨(hz z).1, by have := (hz z).2.1; omega⟩)
            refine ⟨pl', kd', fr', vl', td', fl', fp', ps', mr', so', mv', mf', mw', fun k => ?_, fun k dr us dp ur ua => ?_, ir, ie, fun z => ?_⟩
            · rw [c_go (by omega) q c1 w1, ec]
              exact ic k
            · rw [em]
              exact im k dr us dp ur ua
            · obtain ⟨a, b, c, d, e⟩ := iz z
              obtain ⟨-, -, g1, g2, g3⟩ := hz a
              exact ⟨q, by omega, c.trans g2, d.trans g3, e⟩
          by_cases w2 : xW2 f fr pl
          · obtain ⟨a1, a2, a3, a4, a5, a6, a7, b1, b2, b3, b4, b5, b6, b7, x1, x2, x3, x4⟩ := r_with_fall hf hn h q c1 w2 hh
            exact go a1 a2 a3 a4 a5 a6 a7 b1 b2 b3 b4 b5 b6 b7 x1 x2 x3 x4
          · by_cases w3 : xW3 f fr pl
            · obtain ⟨a1, a2, a3, a4, a5, a6, a7, b1, b2, b3, b4, b5, b6, b7, x1, x2, x3, x4⟩ := r_with_draw hf hn h q c1 w3 hh
              exact go a1 a2 a3 a4 a5 a6 a7 b1 b2 b3 b4 b5 b6 b7 x1 x2 x3 x4
            · by_cases w4 : xW4 f fr pl
              · obtain ⟨a1, a2, a3, a4, a5, a6, a7, b1, b2, b3, b4, b5, b6, b7, x1, x2, x3, x4⟩ := r_with_wait hf hn h q c1 w4 hh
                exact go a1 a2 a3 a4 a5 a6 a7 b1 b2 b3 b4 b5 b6 b7 x1 x2 x3 x4
              · by_cases w5 : xW5 f fr pl
                · obtain ⟨a1, a2, a3, a4, a5, a6, a7, b1, b2, b3, b4, b5, b6, b7, x1, x2, x3, x4⟩ := r_with_within hf hn h q c1 w5 hh
                  exact go a1 a2 a3 a4 a5 a6 a7 b1 b2 b3 b4 b5 b6 b7 x1 x2 x3 x4
                · obtain ⟨x1, x2, x3⟩ := r_with_other (told := td) (had := had) hn h q c1 w1 w2 w3 w4 w5
                  exact go _ _ _ _ _ _ _ _ _ _ _ _ _ _ x1 x2 x3 (fun z => absurd z (by decide))
      · have s1 : ¬ so.toInt = 1 := fun z => c1 ((xK1 k).1.mpr z)
        exact ⟨pl, kd, fr, vl, td, fl, fp, ps, mr, so, mv, mf, mw, fun k => c_end (Or.inr (Or.inr (Or.inl c1))) (k + (m + 1)), fun k dr us dp ur ua => m_end (Or.inr (Or.inl s1)) (k + (m + 1)), h, Or.inr (Or.inl c1), fun _ => ⟨q, Int.le_refl _, rfl, rfl, hh.1⟩⟩
    · have q2 : ¬ mf.toInt = 0 := by rw [← h.1]; exact q
      exact ⟨pl, kd, fr, vl, td, fl, fp, ps, mr, so, mv, mf, mw, fun k => c_end (Or.inr (Or.inl q)) (k + (m + 1)), fun k dr us dp ur ua => m_end (Or.inl q2) (k + (m + 1)), h, Or.inl q, fun z => absurd z q⟩
