/-- what stands behind the withs: nothing, or when and a formula -/
theorem r_when {f rf ur ua : Nat → Int32} {n dep rails dr us dp pl kd fr vl td fl fp ps mr so mv mf mw : Int32} {b : Int} (hf : ∀ j, 0 ≤ (f j).toInt) (hn : n.toInt ≤ 400) (h : xR n pl kd fr vl fl fp ps mr so mv mf mw) (he : ¬ fl.toInt = 0 ∨ ¬ kd.toInt = 1 ∨ xW1 f fr pl) (hu : fl.toInt = 0 → xUs rf us ur ua fr.toInt ∧ us.toInt ≤ fr.toInt ∧ b ≤ fr.toInt) (hd : rails = dr + 1) :
    ∃ (pl' kd' fr' vl' dep' fl' fp' ps' mr' so' mv' mf' mw' dr' us' dp' : Int32) (rf' ur' ua' : Nat → Int32), K_readRail_L9 dep rf rails n f 1 5 pl kd fr vl td fl fp = (pl', kd', fr', vl', td, dep', fl', fp', rf', rails) ∧ K_m_readRail_L7 dr n f us ur ua dp 1 0 ps mr so mv mf mw = (dr', us', dp', ps', mr', so', mv', mf', mw', ur', ua') ∧ ((xR n pl' kd' fr' vl' fl' fp' ps' mr' so' mv' mf' mw' ∧ (fl'.toInt = 0 → fl.toInt = 0 ∧ dr' = rails ∧ xUs rf' us' ur' ua' fr'.toInt ∧ us'.toInt ≤ fr'.toInt ∧ b ≤ fr'.toInt)) ∨ (fl'.toInt = 0 ∧ fl.toInt = 0 ∧ kd'.toInt = 3 ∧ vl'.toInt = 41 ∧ mf' = 2 ∧ mw' = fr')) := by
  obtain ⟨e, hp, hw, hk⟩ := h
  subst e
  by_cases q : fl.toInt = 0
  · obtain ⟨e1, e2, r0, r1, r2, r3, k⟩ := hk q
    subst e1
    subst e2
    obtain ⟨u1, u2, u3⟩ := hu q
    obtain ⟨n20, n21, n22, n23, n24, n25, n26, n27, n28, nle⟩ := nm_some (f := f) (ps := pl) r0 r2 hn
    by_cases c1 : kd.toInt = 1
    · have s1 : so.toInt = 1 := (xK1 k).1.mp c1
      have w1 : xW1 f fr pl := by
        rcases he with z | z | z
        · exact absurd q z
        · exact absurd c1 z
        · exact z
      rw [c_x, if_pos q, if_pos ⟨c1, w1⟩, m_x (fun _ _ => n27.mpr w1), if_pos q, if_pos s1]
      dsimp only
      have rt := r_tok (fp := fp) (kd := kd) (mv := mv) (mw := mw) (mr := fr) (so := so) hf hn (by omega) r2 (rfl : fl = fl) q
      generalize M_step n f fl fp kd pl = S at rt ⊢
      generalize M_m_next fl mv mw n f pl fr so = V at rt ⊢
      have lt := r3 (by omega)
      have sm := (sim hf hn 402 (by decide)).1 0 S.1 S.2.1 S.2.2.1 S.2.2.2.1 0 S.2.2.2.2.1 S.2.2.2.2.2 us V.1 V.2.1 V.2.2.1 V.2.2.2.1 V.2.2.2.2.1 V.2.2.2.2.2 rf ur ua b rt.1 (fun z => by
        have g := rt.2 z
        have z0 : (0 : Int32).toInt = 0 := by decide
        exact ⟨by omega, by omega, by omega, by omega, by omega, xUs_up u1 (by omega), by omega, by omega⟩) 100000 100000 100000 (by decide) (by decide) (by decide)
      rw [← f_R1] at sm
      rw [show K_readFormula_L2 n f 100000 0 1 1 rf S.1 S.2.1 S.2.2.1 S.2.2.2.1 0 S.2.2.2.2.1 S.2.2.2.2.2 = M_readFormula n f rf S.1 S.2.1 S.2.2.1 S.2.2.2.1 S.2.2.2.2.1 S.2.2.2.2.2 from rfl] at sm
      generalize M_readFormula n f rf S.1 S.2.1 S.2.2.1 S.2.2.2.1 S.2.2.2.2.1 S.2.2.2.2.2 = t at sm ⊢
      generalize M_m_readFormula n f us ur ua V.1 V.2.1 V.2.2.1 V.2.2.2.1 V.2.2.2.2.1 V.2.2.2.2.2 = u at sm ⊢
      refine ⟨t.1, t.2.1, t.2.2.1, t.2.2.2.1, t.2.2.2.2.1, t.2.2.2.2.2.1, t.2.2.2.2.2.2.1, u.2.2.1, u.2.2.2.1, u.2.2.2.2.1, u.2.2.2.2.2.1, u.2.2.2.2.2.2.1, u.2.2.2.2.2.2.2.1, (if u.2.2.2.2.2.2.1.toInt = 0 then dr + 1 else dr), u.1, u.2.1, t.2.2.2.2.2.2.2, u.2.2.2.2.2.2.2.2.1, u.2.2.2.2.2.2.2.2.2, rfl, rfl, ?_⟩
      rcases sm with ⟨m1, m2⟩ | ⟨m1, m2, m3, m4, m5⟩
      · refine Or.inl ⟨m1, fun z => ?_⟩
        have g := m2 z
        have z2 : u.2.2.2.2.2.2.1.toInt = 0 := by rw [← m1.1]; exact z
        rw [if_pos z2]
        exact ⟨q, hd.symm, g⟩
      · exact Or.inr ⟨m1, q, m2, m3, m4, m5⟩
    · have s1 : ¬ so.toInt = 1 := fun z => c1 ((xK1 k).1.mpr z)
      rw [c_x, if_pos q, if_neg (fun z => c1 z.1), m_x (fun _ z => absurd z s1), if_pos q, if_neg s1]
      exact ⟨pl, kd, fr, vl, dep, fl, fp, pl, fr, so, mv, fl, mw, dr + 1, us, dp, rf, ur, ua, rfl, rfl, Or.inl ⟨xR_ok rfl q r0 r1 r2 r3 k rfl, fun _ => ⟨q, hd.symm, u1, u2, u3⟩⟩⟩
  · rw [c_x, if_neg q, m_x (fun z => absurd z q), if_neg q]
    exact ⟨pl, kd, fr, vl, dep, fl, fp, ps, mr, so, mv, fl, mw, dr, us, dp, rf, ur, ua, rfl, rfl, Or.inl ⟨⟨rfl, hp, hw, hk⟩, fun z => absurd z q⟩⟩
