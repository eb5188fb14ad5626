/-- the run: one on both sides -/
def yRun (rails tick held tries trips ldraw gdraw ysz : Int32) (rs ri ra rg ya yb yc : Nat → Int32) (mtk mhe mtr mtp mdn mdm mhp : Int32) (S I U G H : Nat → Int32) : Prop := tick = mtk ∧ held = mhe ∧ tries = mtr ∧ trips = mtp ∧ ldraw = mdn ∧ gdraw = mdm ∧ xR4 rails.toNatClampNeg rs ri ra rg S I U G ∧ xHi ysz ya yb yc mhp H
/-- what the class keeps between calls -/
def yCac (rails limit dead pk gpk lpk kn slast : Int32) (pn : Nat → Int32) (pt : Nat → Int64) (wk wb srow cx Td K : Nat → Int32) : Prop := yKp rails.toNatClampNeg pt dead pn Td pk gpk lpk ∧ yKw rails.toNatClampNeg pt dead Td wk wb ∧ yKn rails.toNatClampNeg pt dead (fun j => (K j).toNatClampNeg) (fun x => pn (8 * x + 3)) (fun x => pn (8 * x + 4)) limit kn slast srow ∧ ∀ j, j ≤ 144 → cx j = 0
theorem yCac_0 {rails limit dead pk gpk lpk kn slast : Int32} {pn wk wb srow cx Td K : Nat → Int32} {pt : Nat → Int64} (r8 : 0 ≤ rails.toInt ∧ rails.toInt ≤ 8) (h1 : pk = 0) (h2 : kn = 0) (h3 : ∀ j, j < 64 → wk j = 0) (h4 : ∀ j, j ≤ 144 → cx j = 0) : yCac rails limit dead pk gpk lpk kn slast pn pt wk wb srow cx Td K := by
  have rn := xtn r8.1
  exact ⟨Or.inl h1, fun a b ha hb9 => Or.inl (h3 _ (by omega)), Or.inl h2, h4⟩
/-- no RAIL that is not told is dead by hand -/
def yDz (rails dead : Int32) : Prop := ∀ j : Nat, rails.toInt ≤ (j : Int) → j < 32 → xb dead j = false
/-- times by hand stay within the nine -/
def yT9 (rails : Int32) (K : Nat → Int32) : Prop := ∀ j : Nat, (j : Int) < rails.toInt → (K j).toInt ≤ 9
theorem yCac_text {pt : Nat → Int64} {pn rs ri ra rt rg wk sS sI sU sD sT sG oT oN oD pn9 rs9 ri9 ra9 rt9 rg9 wk9 Ftold9 Fnames9 Ftable9 Fstate9 Fsince9 FupSince9 Ftakes9 FwasGood9 FisDead9 : Nat → Int32} {pt9 : Nat → Int64} {rails limit retry behind key tick held tries trips ldraw gdraw ysz dead pk gpk lpk kn slast mra mli mre mpa mtk mon mhe mtr mdn mdm mtp mhp rails9 limit9 retry9 behind9 key9 tick9 held9 tries9 trips9 ldraw9 gdraw9 ysz9 dead9 pk9 gpk9 lpk9 kn9 slast9 mrails9 mlimit9 mretry9 mpause9 misOn9 mtick9 mheld9 mtries9 mtrips9 mdrawnNow9 mdrawnMost9 mhappenings9 lf9 : Int32} {wb srow cx : Nat → Int32} (h : yCac rails limit dead pk gpk lpk kn slast pn pt wk wb srow cx oD sT) (c : (lf9.toInt = 0 ∧ xPl true rails9 limit9 retry9 behind9 pn9 pt9 mrails9 mlimit9 mretry9 mpause9 Ftold9 Fnames9 Ftable9 ∧ xRn rails9.toInt key9 tick9 held9 tries9 trips9 ldraw9 gdraw9 rs9 ri9 ra9 rt9 rg9 misOn9 mtick9 mheld9 mtries9 mtrips9 mdrawnNow9 mdrawnMost9 Fstate9 Fsince9 FupSince9 Ftakes9 FwasGood9 ∧ ysz9 = 0 ∧ mhappenings9 = 0 ∧ dead9 = 0 ∧ (∀ j, j < 8 → FisDead9 j = 0) ∧ pk9 = 0 ∧ kn9 = 0 ∧ (∀ j, j < 64 → wk9 j = 0) ∧ (∀ j : Nat, j < 8 → Fstate9 j = 0) ∧ ∀ j : Nat, (j : Int) < rails9.toInt → Ftakes9 j = Ftold9 (7 * j)) ∨ (¬ lf9.toInt = 0 ∧ (rails9, limit9, retry9, behind9, pn9, pt9, key9, tick9, held9, tries9, trips9, ldraw9, gdraw9, rs9, ri9, ra9, rt9, rg9, ysz9, dead9, pk9, gpk9, lpk9, wk9, kn9, slast9) = (rails, limit, retry, behind, pn, pt, key, tick, held, tries, trips, ldraw, gdraw, rs, ri, ra, rt, rg, ysz, dead, pk, gpk, lpk, wk, kn, slast) ∧ (mrails9, mlimit9, mretry9, mpause9, Ftold9, Fnames9, Ftable9, misOn9, mtick9, mheld9, mtries9, mtrips9, mdrawnNow9, mdrawnMost9, Fstate9, Fsince9, FupSince9, Ftakes9, FwasGood9, mhappenings9, FisDead9) = (mra, mli, mre, mpa, oD, oN, oT, mon, mtk, mhe, mtr, mtp, mdn, mdm, sS, sI, sU, sT, sG, mhp, sD))) : yCac rails9 limit9 dead9 pk9 gpk9 lpk9 kn9 slast9 pn9 pt9 wk9 wb srow cx Ftold9 Ftakes9 := by
  rcases c with ⟨-, c⟩ | ⟨-, c1, c2⟩
  · obtain ⟨a1, a2, a3, a4, a5, a6, a7, a8, a9, -⟩ := c
    exact yCac_0 a1.2.2.2.2.1 a7 a8 a9 h.2.2.2
  · simp only [Prod.mk.injEq] at c1 c2
    obtain ⟨e0, e1, e2, e3, e4, e5, e6, e7, e8, e9, e10, e11, e12, e13, e14, e15, e16, e17, e18, e19, e20, e21, e22, e23, e24, e25⟩ := c1
    obtain ⟨f0, f1, f2, f3, f4, f5, f6, f7, f8, f9, f10, f11, f12, f13, f14, f15, f16, f17, f18, f19, f20⟩ := c2
    rw [e0, e1, e4, e5, e19, e20, e21, e22, e23, e24, e25, f4, f17]
    exact h
theorem yRun_text {pt : Nat → Int64} {pn rs ri ra rt rg wk sS sI sU sD sT sG oT oN oD pn9 rs9 ri9 ra9 rt9 rg9 wk9 Ftold9 Fnames9 Ftable9 Fstate9 Fsince9 FupSince9 Ftakes9 FwasGood9 FisDead9 : Nat → Int32} {pt9 : Nat → Int64} {rails limit retry behind key tick held tries trips ldraw gdraw ysz dead pk gpk lpk kn slast mra mli mre mpa mtk mon mhe mtr mdn mdm mtp mhp rails9 limit9 retry9 behind9 key9 tick9 held9 tries9 trips9 ldraw9 gdraw9 ysz9 dead9 pk9 gpk9 lpk9 kn9 slast9 mrails9 mlimit9 mretry9 mpause9 misOn9 mtick9 mheld9 mtries9 mtrips9 mdrawnNow9 mdrawnMost9 mhappenings9 lf9 : Int32} {ya yb yc H : Nat → Int32} (h : yRun rails tick held tries trips ldraw gdraw ysz rs ri ra rg ya yb yc mtk mhe mtr mtp mdn mdm mhp sS sI sU sG H) (c : (lf9.toInt = 0 ∧ xPl true rails9 limit9 retry9 behind9 pn9 pt9 mrails9 mlimit9 mretry9 mpause9 Ftold9 Fnames9 Ftable9 ∧ xRn rails9.toInt key9 tick9 held9 tries9 trips9 ldraw9 gdraw9 rs9 ri9 ra9 rt9 rg9 misOn9 mtick9 mheld9 mtries9 mtrips9 mdrawnNow9 mdrawnMost9 Fstate9 Fsince9 FupSince9 Ftakes9 FwasGood9 ∧ ysz9 = 0 ∧ mhappenings9 = 0 ∧ dead9 = 0 ∧ (∀ j, j < 8 → FisDead9 j = 0) ∧ pk9 = 0 ∧ kn9 = 0 ∧ (∀ j, j < 64 → wk9 j = 0) ∧ (∀ j : Nat, j < 8 → Fstate9 j = 0) ∧ ∀ j : Nat, (j : Int) < rails9.toInt → Ftakes9 j = Ftold9 (7 * j)) ∨ (¬ lf9.toInt = 0 ∧ (rails9, limit9, retry9, behind9, pn9, pt9, key9, tick9, held9, tries9, trips9, ldraw9, gdraw9, rs9, ri9, ra9, rt9, rg9, ysz9, dead9, pk9, gpk9, lpk9, wk9, kn9, slast9) = (rails, limit, retry, behind, pn, pt, key, tick, held, tries, trips, ldraw, gdraw, rs, ri, ra, rt, rg, ysz, dead, pk, gpk, lpk, wk, kn, slast) ∧ (mrails9, mlimit9, mretry9, mpause9, Ftold9, Fnames9, Ftable9, misOn9, mtick9, mheld9, mtries9, mtrips9, mdrawnNow9, mdrawnMost9, Fstate9, Fsince9, FupSince9, Ftakes9, FwasGood9, mhappenings9, FisDead9) = (mra, mli, mre, mpa, oD, oN, oT, mon, mtk, mhe, mtr, mtp, mdn, mdm, sS, sI, sU, sT, sG, mhp, sD))) : yRun rails9 tick9 held9 tries9 trips9 ldraw9 gdraw9 ysz9 rs9 ri9 ra9 rg9 ya yb yc mtick9 mheld9 mtries9 mtrips9 mdrawnNow9 mdrawnMost9 mhappenings9 Fstate9 Fsince9 FupSince9 FwasGood9 H := by
  rcases c with ⟨-, c⟩ | ⟨-, c1, c2⟩
  · obtain ⟨a1, ⟨b1, b2, b3, b4, b5, b6, b7, b8, b9⟩, a3, a4, a5, a6, a7, a8, a9, a10, -⟩ := c
    have rn := xtn a1.2.2.2.2.1.1
    have r8 := a1.2.2.2.2.1.2
    refine ⟨b2, b3, b4, b5, b6, b7, ⟨fun j hj => ?_, fun j j1 j2 => b9 j (by omega) j2⟩, ?_, fun j hj => ?_⟩
    · obtain ⟨c1, c2, c3, c4, c5⟩ := b8 j (by omega)
      have z := a10 j (by omega)
      exact ⟨c1, c2, c3, c5, by rw [z]; decide, by rw [z]; decide⟩
    · rw [a3, a4]
    · rw [a3] at hj
      have z0 : (0 : Int32).toInt = 0 := by decide
      omega
  · simp only [Prod.mk.injEq] at c1 c2
    obtain ⟨e0, e1, e2, e3, e4, e5, e6, e7, e8, e9, e10, e11, e12, e13, e14, e15, e16, e17, e18, e19, e20, e21, e22, e23, e24, e25⟩ := c1
    obtain ⟨f0, f1, f2, f3, f4, f5, f6, f7, f8, f9, f10, f11, f12, f13, f14, f15, f16, f17, f18, f19, f20⟩ := c2
    rw [e0, e7, e8, e9, e10, e11, e12, e13, e14, e15, e17, e18, f8, f9, f10, f11, f12, f13, f14, f15, f16, f18, f19]
    exact h
theorem yDz_text {pt : Nat → Int64} {pn rs ri ra rt rg wk sS sI sU sD sT sG oT oN oD pn9 rs9 ri9 ra9 rt9 rg9 wk9 Ftold9 Fnames9 Ftable9 Fstate9 Fsince9 FupSince9 Ftakes9 FwasGood9 FisDead9 : Nat → Int32} {pt9 : Nat → Int64} {rails limit retry behind key tick held tries trips ldraw gdraw ysz dead pk gpk lpk kn slast mra mli mre mpa mtk mon mhe mtr mdn mdm mtp mhp rails9 limit9 retry9 behind9 key9 tick9 held9 tries9 trips9 ldraw9 gdraw9 ysz9 dead9 pk9 gpk9 lpk9 kn9 slast9 mrails9 mlimit9 mretry9 mpause9 misOn9 mtick9 mheld9 mtries9 mtrips9 mdrawnNow9 mdrawnMost9 mhappenings9 lf9 : Int32} (h : yDz rails dead) (c : (lf9.toInt = 0 ∧ xPl true rails9 limit9 retry9 behind9 pn9 pt9 mrails9 mlimit9 mretry9 mpause9 Ftold9 Fnames9 Ftable9 ∧ xRn rails9.toInt key9 tick9 held9 tries9 trips9 ldraw9 gdraw9 rs9 ri9 ra9 rt9 rg9 misOn9 mtick9 mheld9 mtries9 mtrips9 mdrawnNow9 mdrawnMost9 Fstate9 Fsince9 FupSince9 Ftakes9 FwasGood9 ∧ ysz9 = 0 ∧ mhappenings9 = 0 ∧ dead9 = 0 ∧ (∀ j, j < 8 → FisDead9 j = 0) ∧ pk9 = 0 ∧ kn9 = 0 ∧ (∀ j, j < 64 → wk9 j = 0) ∧ (∀ j : Nat, j < 8 → Fstate9 j = 0) ∧ ∀ j : Nat, (j : Int) < rails9.toInt → Ftakes9 j = Ftold9 (7 * j)) ∨ (¬ lf9.toInt = 0 ∧ (rails9, limit9, retry9, behind9, pn9, pt9, key9, tick9, held9, tries9, trips9, ldraw9, gdraw9, rs9, ri9, ra9, rt9, rg9, ysz9, dead9, pk9, gpk9, lpk9, wk9, kn9, slast9) = (rails, limit, retry, behind, pn, pt, key, tick, held, tries, trips, ldraw, gdraw, rs, ri, ra, rt, rg, ysz, dead, pk, gpk, lpk, wk, kn, slast) ∧ (mrails9, mlimit9, mretry9, mpause9, Ftold9, Fnames9, Ftable9, misOn9, mtick9, mheld9, mtries9, mtrips9, mdrawnNow9, mdrawnMost9, Fstate9, Fsince9, FupSince9, Ftakes9, FwasGood9, mhappenings9, FisDead9) = (mra, mli, mre, mpa, oD, oN, oT, mon, mtk, mhe, mtr, mtp, mdn, mdm, sS, sI, sU, sT, sG, mhp, sD))) : yDz rails9 dead9 := by
  rcases c with ⟨-, c⟩ | ⟨-, c1, c2⟩
  · obtain ⟨a1, a2, a3, a4, a5, -⟩ := c
    intro j _ _
    rw [a5]
    exact xb_z j
  · simp only [Prod.mk.injEq] at c1 c2
    obtain ⟨e0, e1, e2, e3, e4, e5, e6, e7, e8, e9, e10, e11, e12, e13, e14, e15, e16, e17, e18, e19, e20, e21, e22, e23, e24, e25⟩ := c1
    obtain ⟨f0, f1, f2, f3, f4, f5, f6, f7, f8, f9, f10, f11, f12, f13, f14, f15, f16, f17, f18, f19, f20⟩ := c2
    rw [e0, e19]
    exact h
theorem yT9_text {pt : Nat → Int64} {pn rs ri ra rt rg wk sS sI sU sD sT sG oT oN oD pn9 rs9 ri9 ra9 rt9 rg9 wk9 Ftold9 Fnames9 Ftable9 Fstate9 Fsince9 FupSince9 Ftakes9 FwasGood9 FisDead9 : Nat → Int32} {pt9 : Nat → Int64} {rails limit retry behind key tick held tries trips ldraw gdraw ysz dead pk gpk lpk kn slast mra mli mre mpa mtk mon mhe mtr mdn mdm mtp mhp rails9 limit9 retry9 behind9 key9 tick9 held9 tries9 trips9 ldraw9 gdraw9 ysz9 dead9 pk9 gpk9 lpk9 kn9 slast9 mrails9 mlimit9 mretry9 mpause9 misOn9 mtick9 mheld9 mtries9 mtrips9 mdrawnNow9 mdrawnMost9 mhappenings9 lf9 : Int32} (h : yT9 mra sT) (ht : xTD Ftold9 mrails9.toNatClampNeg) (c : (lf9.toInt = 0 ∧ xPl true rails9 limit9 retry9 behind9 pn9 pt9 mrails9 mlimit9 mretry9 mpause9 Ftold9 Fnames9 Ftable9 ∧ xRn rails9.toInt key9 tick9 held9 tries9 trips9 ldraw9 gdraw9 rs9 ri9 ra9 rt9 rg9 misOn9 mtick9 mheld9 mtries9 mtrips9 mdrawnNow9 mdrawnMost9 Fstate9 Fsince9 FupSince9 Ftakes9 FwasGood9 ∧ ysz9 = 0 ∧ mhappenings9 = 0 ∧ dead9 = 0 ∧ (∀ j, j < 8 → FisDead9 j = 0) ∧ pk9 = 0 ∧ kn9 = 0 ∧ (∀ j, j < 64 → wk9 j = 0) ∧ (∀ j : Nat, j < 8 → Fstate9 j = 0) ∧ ∀ j : Nat, (j : Int) < rails9.toInt → Ftakes9 j = Ftold9 (7 * j)) ∨ (¬ lf9.toInt = 0 ∧ (rails9, limit9, retry9, behind9, pn9, pt9, key9, tick9, held9, tries9, trips9, ldraw9, gdraw9, rs9, ri9, ra9, rt9, rg9, ysz9, dead9, pk9, gpk9, lpk9, wk9, kn9, slast9) = (rails, limit, retry, behind, pn, pt, key, tick, held, tries, trips, ldraw, gdraw, rs, ri, ra, rt, rg, ysz, dead, pk, gpk, lpk, wk, kn, slast) ∧ (mrails9, mlimit9, mretry9, mpause9, Ftold9, Fnames9, Ftable9, misOn9, mtick9, mheld9, mtries9, mtrips9, mdrawnNow9, mdrawnMost9, Fstate9, Fsince9, FupSince9, Ftakes9, FwasGood9, mhappenings9, FisDead9) = (mra, mli, mre, mpa, oD, oN, oT, mon, mtk, mhe, mtr, mtp, mdn, mdm, sS, sI, sU, sT, sG, mhp, sD))) : yT9 mrails9 Ftakes9 := by
  rcases c with ⟨-, c⟩ | ⟨-, c1, c2⟩
  · obtain ⟨a1, a2, a3, a4, a5, a6, a7, a8, a9, a10, a11⟩ := c
    have e := a1.1
    have rn := xtn a1.2.2.2.2.1.1
    rw [← e] at ht ⊢
    intro j hj
    obtain ⟨t1, t2, t3⟩ := ht j (by omega)
    rw [a11 j hj]
    omega
  · simp only [Prod.mk.injEq] at c1 c2
    obtain ⟨e0, e1, e2, e3, e4, e5, e6, e7, e8, e9, e10, e11, e12, e13, e14, e15, e16, e17, e18, e19, e20, e21, e22, e23, e24, e25⟩ := c1
    obtain ⟨f0, f1, f2, f3, f4, f5, f6, f7, f8, f9, f10, f11, f12, f13, f14, f15, f16, f17, f18, f19, f20⟩ := c2
    rw [f0, f17]
    exact h
theorem yT9_0 {K : Nat → Int32} : yT9 0 K := fun j hj => absurd hj (by have z : (0 : Int32).toInt = 0 := (by decide); omega)
theorem yDz_0 : yDz 0 0 := fun j _ _ => xb_z j
theorem yRun_0 {ri ra rg ya yb yc S I U G H : Nat → Int32} : yRun 0 0 0 0 0 0 0 0 (fun _ => 0) ri ra rg ya yb yc 0 0 0 0 0 0 0 S I U G H := by
  have z : (0 : Int32).toInt = 0 := by decide
  have c : (0 : Int32).toNatClampNeg = 0 := by decide
  exact ⟨rfl, rfl, rfl, rfl, rfl, rfl, ⟨fun j hj => absurd hj (by omega), fun j _ _ => rfl⟩, rfl, fun j hj => absurd hj (by omega)⟩
