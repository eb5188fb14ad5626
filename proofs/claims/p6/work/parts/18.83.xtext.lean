/-- what is told: one on both sides -/
def xPl (wt : Bool) (rails limit retry behind : Int32) (pn : Nat → Int32) (pt : Nat → Int64) (mrails mlimit mretry mpause : Int32) (Td Nm Tb : Nat → Int32) : Prop := rails = mrails ∧ limit = mlimit ∧ retry = mretry ∧ behind = mpause ∧ (0 ≤ rails.toInt ∧ rails.toInt ≤ 8) ∧ xE wt rails.toNatClampNeg pn pt Td Nm Tb
/-- what goes: one on both sides -/
def xRn (q : Int) (key tick held tries trips ldraw gdraw : Int32) (rs ri ra rt rg : Nat → Int32) (mon mtk mhe mtr mtp mdn mdm : Int32) (S I U K G : Nat → Int32) : Prop := key = mon ∧ tick = mtk ∧ held = mhe ∧ tries = mtr ∧ trips = mtp ∧ ldraw = mdn ∧ gdraw = mdm ∧ (∀ j : Nat, (j : Int) < q → (rs j = S j ∧ ri j = I j ∧ ra j = U j ∧ rt j = K j ∧ rg j = G j)) ∧ ∀ j : Nat, q ≤ (j : Int) → j < 8 → rs j = 0
/-- what happened: one on both sides -/
def xHi (ysz : Int32) (ya yb yc : Nat → Int32) (mh : Int32) (H : Nat → Int32) : Prop := ysz = mh ∧ ∀ j : Nat, (j : Int) < ysz.toInt → ya j = H (3 * j) ∧ yb j = H (3 * j + 1) ∧ yc j = H (3 * j + 2)
theorem xtext_C {sp pl sna sta pna pta : Nat} {pt ry0 ry1 ry2 ry3 ry4 ry5 ry6 rl0 rl1 rl2 rl3 rl4 rl5 rl6 pts : Nat → Int64} {pn wk rs ri ra rt rg tb pns rf : Nat → Int32} {rails limit retry behind gpk lpk slast dead key tick held tries trips ldraw gdraw ysz pk kn tl depth kind : Int32} {q1 q2 q1n q1t q2n q2t z9 : Nat} {pt9 pt8 ry09 ry19 ry29 ry39 ry49 ry59 ry69 rl09 rl19 rl29 rl39 rl49 rl59 rl69 : Nat → Int64} {pn9 pn8 rf9 rs9 ri9 ra9 rt9 rg9 wk9 : Nat → Int32} {u lf9 rails9 limit9 retry9 behind9 rails8 limit8 retry8 behind8 place9 kind9 from9 value9 told9 depth9 fault9 fplace9 dead9 key9 tick9 held9 tries9 trips9 ldraw9 gdraw9 ysz9 pk9 gpk9 lpk9 kn9 slast9 : Int32} {e1 e2 e3 e4 e5 e6 e7 e8 Ftold9 Fnames9 Ftable9 Fstate9 Fsince9 FupSince9 FisDead9 Ftakes9 FwasGood9 : Nat → Int32} {v mrails9 mlimit9 mretry9 mpause9 d1 d2 d3 d4 d5 d6 d7 d8 d9 d10 d11 d12 d13 d14 mfault9 d16 mtick9 misOn9 mheld9 mtries9 mdrawnNow9 mdrawnMost9 mtrips9 mhappenings9 : Int32} {c w ur ua Nm Tb P Td Ft : Nat → Int32} {mt nc nw dp mv mw mr so : Int32} {sS sI sU sD sT sG oT oN oD : Nat → Int32} {mra mli mre mpa mtk mon mhe mtr mdn mdm mtp mhp : Int32} (hta : tl.toInt = mt.toInt) (htb : tb = Ft) (hbn : ∀ j : Nat, 0 ≤ (tb j).toInt) (h : 0 ≤ tl.toInt ∧ tl.toInt ≤ 400) (x1 : M_x_text sp pl sna sta pna pta rails limit retry behind pn pt gpk lpk slast wk rs ri ra rt rg dead key tick held tries trips ldraw gdraw ysz pk kn tl tb ry0 ry1 ry2 ry3 ry4 ry5 ry6 rl0 rl1 rl2 rl3 rl4 rl5 rl6 pns pts depth kind rf = (u, q1, q2, lf9, q1n, q1t, rails9, limit9, retry9, behind9, pn9, pt9, q2n, q2t, rails8, limit8, retry8, behind8, pn8, pt8, z9, place9, kind9, from9, value9, told9, depth9, fault9, fplace9, rf9, ry09, ry19, ry29, ry39, ry49, ry59, ry69, rl09, rl19, rl29, rl39, rl49, rl59, rl69, dead9, key9, tick9, held9, tries9, trips9, ldraw9, gdraw9, rs9, ri9, ra9, rt9, rg9, ysz9, pk9, gpk9, lpk9, wk9, kn9, slast9)) (x2 : M_m_text sS sI sU sD sT sG oT oN oD mra mli mre mpa mtk mon mhe mtr mdn mdm mtp mhp mt Ft c w ur ua Nm Tb P Td nc nw dp mv mw mr so = (v, mrails9, mlimit9, mretry9, mpause9, d1, d2, d3, d4, d5, d6, d7, d8, d9, d10, d11, d12, d13, d14, mfault9, d16, mtick9, misOn9, mheld9, mtries9, mdrawnNow9, mdrawnMost9, mtrips9, mhappenings9, e1, e2, e3, e4, e5, e6, e7, e8, Ftold9, Fnames9, Ftable9, Fstate9, Fsince9, FupSince9, FisDead9, Ftakes9, FwasGood9)) :
    (u = v ∧ lf9 = mfault9) ∧ ((lf9.toInt = 0 ∧ xPl true rails9 limit9 retry9 behind9 pn9 pt9 mrails9 mlimit9 mretry9 mpause9 Ftold9 Fnames9 Ftable9 ∧ xRn rails9.toInt key9 tick9 held9 tries9 trips9 ldraw9 gdraw9 rs9 ri9 ra9 rt9 rg9 misOn9 mtick9 mheld9 mtries9 mtrips9 mdrawnNow9 mdrawnMost9 Fstate9 Fsince9 FupSince9 Ftakes9 FwasGood9 ∧ ysz9 = 0 ∧ mhappenings9 = 0 ∧ dead9 = 0 ∧ (∀ j, j < 8 → FisDead9 j = 0) ∧ pk9 = 0 ∧ kn9 = 0 ∧ (∀ j, j < 64 → wk9 j = 0) ∧ (∀ j : Nat, j < 8 → Fstate9 j = 0) ∧ ∀ j : Nat, (j : Int) < rails9.toInt → Ftakes9 j = Ftold9 (7 * j)) ∨ (¬ lf9.toInt = 0 ∧ (rails9, limit9, retry9, behind9, pn9, pt9, key9, tick9, held9, tries9, trips9, ldraw9, gdraw9, rs9, ri9, ra9, rt9, rg9, ysz9, dead9, pk9, gpk9, lpk9, wk9, kn9, slast9) = (rails, limit, retry, behind, pn, pt, key, tick, held, tries, trips, ldraw, gdraw, rs, ri, ra, rt, rg, ysz, dead, pk, gpk, lpk, wk, kn, slast) ∧ (mrails9, mlimit9, mretry9, mpause9, Ftold9, Fnames9, Ftable9, misOn9, mtick9, mheld9, mtries9, mtrips9, mdrawnNow9, mdrawnMost9, Fstate9, Fsince9, FupSince9, Ftakes9, FwasGood9, mhappenings9, FisDead9) = (mra, mli, mre, mpa, oD, oN, oT, mon, mtk, mhe, mtr, mtp, mdn, mdm, sS, sI, sU, sT, sG, mhp, sD))) := by
  have q := Int32.toInt_inj.mp hta
  subst q
  subst htb
  have rx := r_text (f := tb) (n := tl) (rf := rf) (pn := pns) (pt := pts) (G := xof ry0 ry1 ry2 ry3 ry4 ry5 ry6) (A := xof rl0 rl1 rl2 rl3 rl4 rl5 rl6) (dep := depth) (kd := kind) (c := c) (w := w) (ur := ur) (ua := ua) (Nm := Nm) (Tb := Tb) (P := P) (Td := Td) (nc := nc) (nw := nw) (dp := dp) (mv := mv) (mw := mw) (mr := mr) (so := so) (sS := sS) (sI := sI) (sU := sU) (sD := sD) (sT := sT) (sG := sG) (oT := oT) (oN := oN) (oD := oD) (mra := mra) (mli := mli) (mre := mre) (mpa := mpa) (mtk := mtk) (mon := mon) (mhe := mhe) (mtr := mtr) (mdn := mdn) (mdm := mdm) (mtp := mtp) (mhp := mhp) hbn h.1 h.2
  rw [x2] at rx
  simp only [K_x_text_6, K_x_text_5, K_x_text_3, K_x_text_4, K_x_text_2, K_x_text_1, M_x_text] at x1
  have rx : xTxt (M_readText tl tb ry0 ry1 ry2 ry3 ry4 ry5 ry6 rl0 rl1 rl2 rl3 rl4 rl5 rl6 pns pts depth kind rf) (v, mrails9, mlimit9, mretry9, mpause9, d1, d2, d3, d4, d5, d6, d7, d8, d9, d10, d11, d12, d13, d14, mfault9, d16, mtick9, misOn9, mheld9, mtries9, mdrawnNow9, mdrawnMost9, mtrips9, mhappenings9, e1, e2, e3, e4, e5, e6, e7, e8, Ftold9, Fnames9, Ftable9, Fstate9, Fsince9, FupSince9, FisDead9, Ftakes9, FwasGood9) sS sI sU sD sT sG oT oN oD mra mli mre mpa mtk mon mhe mtr mdn mdm mtp mhp := rx
  generalize M_readText tl tb ry0 ry1 ry2 ry3 ry4 ry5 ry6 rl0 rl1 rl2 rl3 rl4 rl5 rl6 pns pts depth kind rf = T at rx x1
  rcases rx with ⟨t1, t2, t3, t4, t5, t6, t7, t8, t9, t10, t11⟩ | ⟨t1, t2, t3, t4, t5, t6⟩
  · obtain ⟨S', I', U', K', G', b1, b2⟩ := r_reset T.2.2.2.2.2.2.2.2.2.2.2.2.2.2.2.2.2.2.2.2.2.2.2.2.2.2.2.2.1 rs ri ra rt rg
    have fg := r_forget wk
    rw [if_pos t1, b1] at x1
    generalize M_forgetReckoned wk = fk at fg x1
    simp only [Prod.mk.injEq] at x1
    obtain ⟨c0, c1, c2, c3, c4, c5, c6, c7, c8, c9, c10, c11, c12, c13, c14, c15, c16, c17, c18, c19, c20, c21, c22, c23, c24, c25, c26, c27, c28, c29, c30, c31, c32, c33, c34, c35, c36, c37, c38, c39, c40, c41, c42, c43, c44, c45, c46, c47, c48, c49, c50, c51, c52, c53, c54, c55, c56, c57, c58, c59, c60, c61, c62, c63⟩ := x1
    dsimp only at t2 t3 t4 t6 t7 t8 t9 t10 t11
    obtain ⟨g1, g2, g3, g4, g5, g6, g7, g8⟩ := t9
    have qn := xtn t5.1
    have e9 : ∀ j : Nat, (j : Int) < T.2.2.2.2.2.2.2.2.2.2.2.2.2.2.2.2.2.2.2.2.2.2.2.2.1.toInt → j < T.2.2.2.2.2.2.2.2.2.2.2.2.2.2.2.2.2.2.2.2.2.2.2.2.1.toNatClampNeg := fun j hj => by omega
    have hb : ∀ j : Nat, (j : Int) < T.2.2.2.2.2.2.2.2.2.2.2.2.2.2.2.2.2.2.2.2.2.2.2.2.1.toInt → S' j = Fstate9 j ∧ I' j = Fsince9 j ∧ U' j = FupSince9 j ∧ K' j = Ftakes9 j ∧ G' j = FwasGood9 j := fun j hj => by
      obtain ⟨a1, a2, a3, a4, a5⟩ := b2 j (by omega)
      obtain ⟨d1, d2, d3, d4, d5, d6⟩ := t11 j (by omega)
      rw [if_pos hj] at d5
      have num := (t10 j (e9 j hj)).1 0 (by decide) (Or.inl (by decide))
      exact ⟨a1.trans d1.symm, a2.trans d2.symm, a3.trans d3.symm, a4.trans (num.trans d5.symm), a5.trans d6.symm⟩
    have lz : lf9.toInt = 0 := by rw [← c3]; exact t1
    refine ⟨⟨?_, ?_⟩, Or.inl ⟨lz, ⟨?_, ?_, ?_, ?_, ?_, ?_⟩, ⟨?_, ?_, ?_, ?_, ?_, ?_, ?_, ?_, ?_⟩, c57.symm, g8, c44.symm, fun j hj => (t11 j hj).2.2.2.1, c58.symm, c62.symm, ?_, fun j hj => (t11 j hj).1, ?_⟩⟩
    · rw [← c0, t3]
    · exact Int32.toInt_inj.mp (by omega)
    · rw [← c6, t4]
    · rw [← c7, t6]
    · rw [← c8, t7]
    · rw [← c9, t8]
    · rw [← c6]
      exact t5
    · rw [← c6, ← c10, ← c11]
      exact t10
    · rw [← c45, g2]
    · rw [← c46, g1]
    · rw [← c47, g3]
    · rw [← c48, g4]
    · rw [← c49, g7]
    · rw [← c50, g5]
    · rw [← c51, g6]
    · rw [← c6, ← c52, ← c53, ← c54, ← c55, ← c56]
      exact hb
    · rw [← c52]
      exact fun j _ j2 => (b2 j j2).1
    · rw [← c61]
      exact fg
    · rw [← c6]
      exact fun j hj => by
        obtain ⟨d1, d2, d3, d4, d5, d6⟩ := t11 j (by omega)
        rw [if_pos hj] at d5
        exact d5
  · rw [if_neg t1] at x1
    simp only [Prod.mk.injEq] at x1
    obtain ⟨c0, c1, c2, c3, c4, c5, c6, c7, c8, c9, c10, c11, c12, c13, c14, c15, c16, c17, c18, c19, c20, c21, c22, c23, c24, c25, c26, c27, c28, c29, c30, c31, c32, c33, c34, c35, c36, c37, c38, c39, c40, c41, c42, c43, c44, c45, c46, c47, c48, c49, c50, c51, c52, c53, c54, c55, c56, c57, c58, c59, c60, c61, c62, c63⟩ := x1
    dsimp only at t2 t3 t4 t5 t6
    obtain ⟨p1, p2, p3, p4⟩ := t4
    obtain ⟨g1, g2, g3, g4, g5, g6, g7, g8⟩ := t5
    obtain ⟨w1, w2, w3, w4, w5, w6, w7, w8, w9⟩ := t6
    refine ⟨⟨?_, ?_⟩, Or.inr ⟨?_, ?_, ?_⟩⟩
    · rw [← c0, t3]
    · rw [← c3, t2]
    · rw [← c3]
      exact t1
    · rw [← c6, ← c7, ← c8, ← c9, ← c10, ← c11, ← c44, ← c45, ← c46, ← c47, ← c48, ← c49, ← c50, ← c51, ← c52, ← c53, ← c54, ← c55, ← c56, ← c57, ← c58, ← c59, ← c60, ← c61, ← c62, ← c63]
    · rw [p1, p2, p3, p4, g1, g2, g3, g4, g5, g6, g7, g8, w1, w2, w3, w4, w5, w6, w7, w8, w9]
