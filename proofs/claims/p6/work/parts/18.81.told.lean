/-- the class: the first use of what is not told -/
theorem fnt_L {rf : Nat → Int32} {fl fp : Int32} : ∀ (m : Nat) (x a : Int32) (k : Nat), m ≤ 8 → x.toInt = 8 - (m : Int) → ∃ v : Int32, K_findNotTold_L2 fl fp rf (k + m + 1) x a = (if 400 ≤ v.toInt then (fl, fp) else M_refuse fl 6 v fp) ∧ v.toInt ≤ a.toInt ∧ (∀ r : Nat, x.toInt ≤ (r : Int) → r < 8 → (rf r).toInt ≠ -4 → v.toInt ≤ (rf r).toInt) ∧ (v = a ∨ ∃ r : Nat, x.toInt ≤ (r : Int) ∧ r < 8 ∧ (rf r).toInt ≠ -4 ∧ v = rf r) := by
  intro m
  induction m with
  | zero =>
    intro x a k hm hx
    refine ⟨a, ?_, Int.le_refl _, fun r h1 h2 => absurd h1 (by omega), Or.inl rfl⟩
    simp only [K_findNotTold_L2, K_findNotTold_5, K_findNotTold_7, K_findNotTold_6, K_findNotTold_3, K_findNotTold_8, K_findNotTold_9, K_findNotTold_4, K_findNotTold_2, K_findNotTold_1, M_findNotTold]
    rw [if_pos (by omega)]
  | succ m ih =>
    intro x a k hm hx
    have e : (x + 1).toInt = x.toInt + 1 := xadd rfl (by decide) (by omega) (by omega)
    have w := xtn (x := x) (by omega)
    have go : K_findNotTold_L2 fl fp rf (k + (m + 1) + 1) x a = if (rf x.toNatClampNeg).toInt = -4 then K_findNotTold_L2 fl fp rf (k + m + 1) (x + 1) a else K_findNotTold_L2 fl fp rf (k + m + 1) (x + 1) (if rf x.toNatClampNeg < a then rf x.toNatClampNeg else a) := by
      show K_findNotTold_L2 fl fp rf ((k + m + 1) + 1) x a = _
      generalize k + m + 1 = j
      simp only [K_findNotTold_L2, K_findNotTold_5, K_findNotTold_7, K_findNotTold_6, K_findNotTold_3, K_findNotTold_8, K_findNotTold_9, K_findNotTold_4, K_findNotTold_2, K_findNotTold_1, M_findNotTold]
      rw [if_neg (by omega)]
    by_cases q : (rf x.toNatClampNeg).toInt = -4
    · obtain ⟨v, v1, v2, v3, v4⟩ := ih (x + 1) a k (by omega) (by omega)
      refine ⟨v, ?_, v2, fun r h1 h2 h3 => ?_, ?_⟩
      · rw [go, if_pos q]; exact v1
      · by_cases z : r = x.toNatClampNeg
        · rw [z] at h3; exact absurd q h3
        · exact v3 r (by omega) h2 h3
      · rcases v4 with v4 | ⟨r, a1, a2, a3, a4⟩
        · exact Or.inl v4
        · exact Or.inr ⟨r, by omega, a2, a3, a4⟩
    · obtain ⟨v, v1, v2, v3, v4⟩ := ih (x + 1) (if rf x.toNatClampNeg < a then rf x.toNatClampNeg else a) k (by omega) (by omega)
      have mn : (if rf x.toNatClampNeg < a then rf x.toNatClampNeg else a).toInt ≤ a.toInt ∧ (if rf x.toNatClampNeg < a then rf x.toNatClampNeg else a).toInt ≤ (rf x.toNatClampNeg).toInt ∧ ((if rf x.toNatClampNeg < a then rf x.toNatClampNeg else a) = a ∨ (if rf x.toNatClampNeg < a then rf x.toNatClampNeg else a) = rf x.toNatClampNeg) := by
        by_cases z : rf x.toNatClampNeg < a
        · rw [if_pos z]
          have := Int32.lt_iff_toInt_lt.mp z
          exact ⟨by omega, Int.le_refl _, Or.inr rfl⟩
        · rw [if_neg z]
          have : ¬ (rf x.toNatClampNeg).toInt < a.toInt := fun y => z (Int32.lt_iff_toInt_lt.mpr y)
          exact ⟨Int.le_refl _, by omega, Or.inl rfl⟩
      refine ⟨v, ?_, by omega, fun r h1 h2 h3 => ?_, ?_⟩
      · rw [go, if_neg q]; exact v1
      · by_cases z : r = x.toNatClampNeg
        · rw [z]; omega
        · exact v3 r (by omega) h2 h3
      · rcases v4 with v4 | ⟨r, a1, a2, a3, a4⟩
        · rcases mn.2.2 with y | y
          · exact Or.inl (v4.trans y)
          · exact Or.inr ⟨x.toNatClampNeg, by omega, by omega, q, v4.trans y⟩
        · exact Or.inr ⟨r, by omega, a2, a3, a4⟩
theorem fnt {rf : Nat → Int32} {fl fp rails : Int32} (h0 : 0 ≤ rails.toInt) (h8 : rails.toInt ≤ 8) : ∃ v : Int32, M_findNotTold fl fp rf rails = (if 400 ≤ v.toInt then (fl, fp) else M_refuse fl 6 v fp) ∧ v.toInt ≤ 400 ∧ (∀ r : Nat, rails.toInt ≤ (r : Int) → r < 8 → (rf r).toInt ≠ -4 → v.toInt ≤ (rf r).toInt) ∧ (v = 400 ∨ ∃ r : Nat, rails.toInt ≤ (r : Int) ∧ r < 8 ∧ (rf r).toInt ≠ -4 ∧ v = rf r) := by
  have z : (400 : Int32).toInt = 400 := by decide
  obtain ⟨v, v1, v2, v3, v4⟩ := fnt_L (rf := rf) (fl := fl) (fp := fp) (8 - rails.toInt).toNat rails 400 (99999 - (8 - rails.toInt).toNat) (by omega) (by omega)
  refine ⟨v, ?_, by omega, v3, v4⟩
  rw [← v1]
  show K_findNotTold_L2 fl fp rf 100000 rails 400 = _
  rw [show (99999 - (8 - rails.toInt).toNat + (8 - rails.toInt).toNat + 1) = 100000 from by omega]
/-- the reference: the first use of what is not told -/
abbrev xTM : Type := Int32 × Int32 × Int32 × Int32 × Int32 × Int32 × Int32 × Int32 × Int32 × Int32 × Int32 × Int32 × Int32 × Int32 × Int32 × Int32 × Int32 × Int32 × Int32 × Int32 × Int32 × Int32 × Int32 × Int32 × Int32 × Int32 × Int32 × Int32 × Int32 × (Nat → Int32) × (Nat → Int32) × (Nat → Int32) × (Nat → Int32) × (Nat → Int32) × (Nat → Int32) × (Nat → Int32) × (Nat → Int32) × (Nat → Int32) × (Nat → Int32) × (Nat → Int32) × (Nat → Int32) × (Nat → Int32) × (Nat → Int32) × (Nat → Int32) × (Nat → Int32) × (Nat → Int32)
/-- a text that is taken, the reference's side -/
def okM (us lines dr dL dR dP hl hr nc nw dp ps mr so mv mf mw : Int32) (c w ur ua Nm Tb P Td : Nat → Int32) (sS sI sU sD sT sG oT oN oD : Nat → Int32) (mra mli mre mpa mtk mon mhe mtr mdn mdm mtp mhp : Int32) : xTM := (fun t => (lines, dr, dL, dR, dP, dr, dL, dR, dP, hl, hr, us, nc, nw, dp, ps, mr, so, mv, mf, mw, 0, 0, 0, dR, 0, 0, 0, 0, c, w, ur, ua, Nm, Tb, P, Td, t.1, t.2.1, t.2.2.1, t.2.2.2.1, t.2.2.2.2.1, t.2.2.2.2.2.1, t.2.2.2.2.2.2.1, t.2.2.2.2.2.2.2.1, t.2.2.2.2.2.2.2.2)) (M_m_keepDraft dr sS sI sU sD sT sG Tb oT Nm oN Td oD)
def badM (us lines dr dL dR dP hl hr nc nw dp ps mr so mv mf mw : Int32) (c w ur ua Nm Tb P Td : Nat → Int32) (sS sI sU sD sT sG oT oN oD : Nat → Int32) (mra mli mre mpa mtk mon mhe mtr mdn mdm mtp mhp : Int32) : xTM := (-10 - mw, mra, mli, mre, mpa, dr, dL, dR, dP, hl, hr, us, nc, nw, dp, ps, mr, so, mv, mf, mw, mtk, mon, mhe, mtr, mdn, mdm, mtp, mhp, c, w, ur, ua, Nm, Tb, P, Td, oD, oN, oT, sS, sI, sU, sD, sT, sG)
theorem X3_end {us lines dr dL dR dP hl hr nc nw dp ps mr so mv : Int32} {c w ur ua Nm Tb P Td : Nat → Int32} {sS sI sU sD sT sG oT oN oD : Nat → Int32} {mra mli mre mpa mtk mon mhe mtr mdn mdm mtp mhp : Int32} {x mf mw : Int32} (h : us.toInt ≤ x.toInt) (k : Nat) : K_m_text_L3 us lines dr dL dR dP hl hr nc nw dp ps mr so mv c w ur ua Nm Tb P Td sS sI sU sD sT sG oT oN oD mra mli mre mpa mtk mon mhe mtr mdn mdm mtp mhp (k + 1) x mf mw = if mf.toInt ≤ 0 then okM us lines dr dL dR dP hl hr nc nw dp ps mr so mv mf mw c w ur ua Nm Tb P Td sS sI sU sD sT sG oT oN oD mra mli mre mpa mtk mon mhe mtr mdn mdm mtp mhp else badM us lines dr dL dR dP hl hr nc nw dp ps mr so mv mf mw c w ur ua Nm Tb P Td sS sI sU sD sT sG oT oN oD mra mli mre mpa mtk mon mhe mtr mdn mdm mtp mhp := by
  simp only [K_m_text_L3, K_m_text_8, K_m_text_6, K_m_text_7, K_m_text_4, K_m_text_11, K_m_text_12, K_m_text_10, K_m_text_9, K_m_text_5, K_m_text_3, K_m_text_2, K_m_text_17, K_m_text_19, K_m_text_18, K_m_text_16, K_m_text_15, K_m_text_14, K_m_text_13, K_m_text_1, M_m_text, okM, badM]
  rw [if_pos h]
theorem X3_flt {us lines dr dL dR dP hl hr nc nw dp ps mr so mv : Int32} {c w ur ua Nm Tb P Td : Nat → Int32} {sS sI sU sD sT sG oT oN oD : Nat → Int32} {mra mli mre mpa mtk mon mhe mtr mdn mdm mtp mhp : Int32} {x mf mw : Int32} (h : 0 < mf.toInt) (k : Nat) : K_m_text_L3 us lines dr dL dR dP hl hr nc nw dp ps mr so mv c w ur ua Nm Tb P Td sS sI sU sD sT sG oT oN oD mra mli mre mpa mtk mon mhe mtr mdn mdm mtp mhp (k + 1) x mf mw = badM us lines dr dL dR dP hl hr nc nw dp ps mr so mv mf mw c w ur ua Nm Tb P Td sS sI sU sD sT sG oT oN oD mra mli mre mpa mtk mon mhe mtr mdn mdm mtp mhp := by
  simp only [K_m_text_L3, K_m_text_8, K_m_text_6, K_m_text_7, K_m_text_4, K_m_text_11, K_m_text_12, K_m_text_10, K_m_text_9, K_m_text_5, K_m_text_3, K_m_text_2, K_m_text_17, K_m_text_19, K_m_text_18, K_m_text_16, K_m_text_15, K_m_text_14, K_m_text_13, K_m_text_1, M_m_text, badM]
  by_cases y : us.toInt ≤ x.toInt
  · rw [if_pos y, if_neg (by omega)]
  · rw [if_neg y, if_neg (by omega)]
theorem X3_go {us lines dr dL dR dP hl hr nc nw dp ps mr so mv : Int32} {c w ur ua Nm Tb P Td : Nat → Int32} {sS sI sU sD sT sG oT oN oD : Nat → Int32} {mra mli mre mpa mtk mon mhe mtr mdn mdm mtp mhp : Int32} {x mw : Int32} (h : ¬ us.toInt ≤ x.toInt) (k : Nat) : K_m_text_L3 us lines dr dL dR dP hl hr nc nw dp ps mr so mv c w ur ua Nm Tb P Td sS sI sU sD sT sG oT oN oD mra mli mre mpa mtk mon mhe mtr mdn mdm mtp mhp (k + 1) x 0 mw = if (ur x.toNatClampNeg).toInt < dr.toInt then K_m_text_L3 us lines dr dL dR dP hl hr nc nw dp ps mr so mv c w ur ua Nm Tb P Td sS sI sU sD sT sG oT oN oD mra mli mre mpa mtk mon mhe mtr mdn mdm mtp mhp k (x + 1) 0 mw else K_m_text_L3 us lines dr dL dR dP hl hr nc nw dp ps mr so mv c w ur ua Nm Tb P Td sS sI sU sD sT sG oT oN oD mra mli mre mpa mtk mon mhe mtr mdn mdm mtp mhp k (x + 1) 6 (ua x.toNatClampNeg) := by
  simp only [K_m_text_L3, K_m_text_8, K_m_text_6, K_m_text_7, K_m_text_4, K_m_text_11, K_m_text_12, K_m_text_10, K_m_text_9, K_m_text_5, K_m_text_3, K_m_text_2, K_m_text_17, K_m_text_19, K_m_text_18, K_m_text_16, K_m_text_15, K_m_text_14, K_m_text_13, K_m_text_1, M_m_text]
  rw [if_neg h, if_pos (by decide)]
theorem mnt_L {us lines dr dL dR dP hl hr nc nw dp ps mr so mv : Int32} {c w ur ua Nm Tb P Td : Nat → Int32} {sS sI sU sD sT sG oT oN oD : Nat → Int32} {mra mli mre mpa mtk mon mhe mtr mdn mdm mtp mhp : Int32} {mw : Int32} (hu : us.toInt ≤ 400) : ∀ (m : Nat) (x : Int32) (k : Nat), 0 ≤ x.toInt → us.toInt - x.toInt ≤ (m : Int) → m ≤ 500 → ((∀ j : Nat, x.toInt ≤ (j : Int) → (j : Int) < us.toInt → (ur j).toInt < dr.toInt) ∧ K_m_text_L3 us lines dr dL dR dP hl hr nc nw dp ps mr so mv c w ur ua Nm Tb P Td sS sI sU sD sT sG oT oN oD mra mli mre mpa mtk mon mhe mtr mdn mdm mtp mhp (k + m + 2) x 0 mw = okM us lines dr dL dR dP hl hr nc nw dp ps mr so mv 0 mw c w ur ua Nm Tb P Td sS sI sU sD sT sG oT oN oD mra mli mre mpa mtk mon mhe mtr mdn mdm mtp mhp) ∨ (∃ J : Nat, x.toInt ≤ (J : Int) ∧ (J : Int) < us.toInt ∧ dr.toInt ≤ (ur J).toInt ∧ (∀ j : Nat, x.toInt ≤ (j : Int) → j < J → (ur j).toInt < dr.toInt) ∧ K_m_text_L3 us lines dr dL dR dP hl hr nc nw dp ps mr so mv c w ur ua Nm Tb P Td sS sI sU sD sT sG oT oN oD mra mli mre mpa mtk mon mhe mtr mdn mdm mtp mhp (k + m + 2) x 0 mw = badM us lines dr dL dR dP hl hr nc nw dp ps mr so mv 6 (ua J) c w ur ua Nm Tb P Td sS sI sU sD sT sG oT oN oD mra mli mre mpa mtk mon mhe mtr mdn mdm mtp mhp) := by
  intro m
  induction m with
  | zero =>
    intro x k h0 h hm
    left
    refine ⟨fun j h1 h2 => absurd h2 (by omega), ?_⟩
    rw [X3_end (by omega), if_pos (by decide)]
  | succ m ih =>
    intro x k h0 h hm
    by_cases q : us.toInt ≤ x.toInt
    · left
      refine ⟨fun j h1 h2 => absurd h2 (by omega), ?_⟩
      rw [X3_end q, if_pos (by decide)]
    · have e : (x + 1).toInt = x.toInt + 1 := xadd rfl (by decide) (by omega) (by omega)
      have wn9 := xtn (x := x) h0
      have go := X3_go (us := us) (lines := lines) (dr := dr) (dL := dL) (dR := dR) (dP := dP) (hl := hl) (hr := hr) (nc := nc) (nw := nw) (dp := dp) (ps := ps) (mr := mr) (so := so) (mv := mv) (c := c) (w := w) (ur := ur) (ua := ua) (Nm := Nm) (Tb := Tb) (P := P) (Td := Td) (sS := sS) (sI := sI) (sU := sU) (sD := sD) (sT := sT) (sG := sG) (oT := oT) (oN := oN) (oD := oD) (mra := mra) (mli := mli) (mre := mre) (mpa := mpa) (mtk := mtk) (mon := mon) (mhe := mhe) (mtr := mtr) (mdn := mdn) (mdm := mdm) (mtp := mtp) (mhp := mhp) (mw := mw) q (k + m + 2)
      rw [show k + m + 2 + 1 = k + (m + 1) + 2 from by omega] at go
      by_cases z : (ur x.toNatClampNeg).toInt < dr.toInt
      · rcases ih (x + 1) k (by omega) (by omega) (by omega) with ⟨a1, a2⟩ | ⟨J, a1, a2, a3, a4, a5⟩
        · left
          refine ⟨fun j h1 h2 => ?_, by rw [go, if_pos z]; exact a2⟩
          by_cases y : j = x.toNatClampNeg
          · rw [y]; exact z
          · exact a1 j (by omega) h2
        · right
          refine ⟨J, by omega, a2, a3, fun j h1 h2 => ?_, by rw [go, if_pos z]; exact a5⟩
          by_cases y : j = x.toNatClampNeg
          · rw [y]; exact z
          · exact a4 j (by omega) h2
      · right
        refine ⟨x.toNatClampNeg, by omega, by omega, by omega, fun j h1 h2 => absurd h2 (by omega), ?_⟩
        rw [go, if_neg z]
        exact X3_flt (by decide) (k + m + 1)
/-- what is not told: one fault on both sides -/
theorem r_told {us lines dr dL dR dP hl hr nc nw dp ps mr so mv : Int32} {c w ur ua Nm Tb P Td : Nat → Int32} {sS sI sU sD sT sG oT oN oD : Nat → Int32} {mra mli mre mpa mtk mon mhe mtr mdn mdm mtp mhp : Int32} {rf : Nat → Int32} {fl fp mf mw : Int32} {q : Nat} (e : fl = mf) (p : 0 ≤ fl.toInt) (ew : fl.toInt ≠ 0 → fp = mw) (q8 : q ≤ 8) (h : fl.toInt = 0 → dr = nI q ∧ xUs rf us ur ua 400 ∧ us.toInt ≤ 400) : ((M_findNotTold fl fp rf (nI q)).1.toInt = 0 ∧ fl.toInt = 0 ∧ K_m_text_L3 us lines dr dL dR dP hl hr nc nw dp ps mr so mv c w ur ua Nm Tb P Td sS sI sU sD sT sG oT oN oD mra mli mre mpa mtk mon mhe mtr mdn mdm mtp mhp 100000 0 mf mw = okM us lines dr dL dR dP hl hr nc nw dp ps mr so mv 0 mw c w ur ua Nm Tb P Td sS sI sU sD sT sG oT oN oD mra mli mre mpa mtk mon mhe mtr mdn mdm mtp mhp) ∨ (¬ (M_findNotTold fl fp rf (nI q)).1.toInt = 0 ∧ K_m_text_L3 us lines dr dL dR dP hl hr nc nw dp ps mr so mv c w ur ua Nm Tb P Td sS sI sU sD sT sG oT oN oD mra mli mre mpa mtk mon mhe mtr mdn mdm mtp mhp 100000 0 mf mw = badM us lines dr dL dR dP hl hr nc nw dp ps mr so mv (M_findNotTold fl fp rf (nI q)).1 (M_findNotTold fl fp rf (nI q)).2 c w ur ua Nm Tb P Td sS sI sU sD sT sG oT oN oD mra mli mre mpa mtk mon mhe mtr mdn mdm mtp mhp) := by
  subst e
  have qq : (nI q).toInt = (q : Int) := nI_toInt (by omega)
  obtain ⟨v, v1, v2, v3, v4⟩ := fnt (rf := rf) (fl := fl) (fp := fp) (rails := nI q) (by omega) (by omega)
  by_cases q0 : fl.toInt = 0
  · obtain ⟨hd, hu, hus⟩ := h q0
    have ez : fl = 0 := xi0 q0
    obtain ⟨g0, g1, g2, g3⟩ := hu
    have z0 : (0 : Int32).toInt = 0 := by decide
    rcases mnt_L (us := us) (lines := lines) (dr := dr) (dL := dL) (dR := dR) (dP := dP) (hl := hl) (hr := hr) (nc := nc) (nw := nw) (dp := dp) (ps := ps) (mr := mr) (so := so) (mv := mv) (c := c) (w := w) (ur := ur) (ua := ua) (Nm := Nm) (Tb := Tb) (P := P) (Td := Td) (sS := sS) (sI := sI) (sU := sU) (sD := sD) (sT := sT) (sG := sG) (oT := oT) (oN := oN) (oD := oD) (mra := mra) (mli := mli) (mre := mre) (mpa := mpa) (mtk := mtk) (mon := mon) (mhe := mhe) (mtr := mtr) (mdn := mdn) (mdm := mdm) (mtp := mtp) (mhp := mhp) (mw := mw) hus 400 0 99598 (by decide) (by omega) (by decide) with ⟨a1, a2⟩ | ⟨J, a1, a2, a3, a4, a5⟩
    · left
      have v4' : v = 400 := by
        rcases v4 with y | ⟨r, b1, b2, b3, b4⟩
        · exact y
        · rcases g3 r b2 with ⟨c1, -⟩ | ⟨j, c1, c2, c3, c4⟩
          · exact absurd c1 b3
          · have := a1 j (by omega) c1
            rw [hd] at this
            omega
      have f1 : M_findNotTold fl fp rf (nI q) = (fl, fp) := by rw [v1, if_pos (by rw [v4']; decide)]
      rw [f1]
      refine ⟨q0, q0, ?_⟩
      rw [ez]
      exact a2
    · right
      rw [hd] at a3 a4
      have b0 := g1 J a2
      have rJ : rf (ur J).toInt.toNat = ua J := by
        rcases g3 (ur J).toInt.toNat (by omega) with ⟨c1, c2⟩ | ⟨j, c1, c2, c3, c4⟩
        · exact absurd (by omega) (c2 J a2)
        · have jJ : j = J := by
            rcases Nat.lt_trichotomy j J with y | y | y
            · have := a4 j (by omega) y
              omega
            · exact y
            · exact absurd (by omega) (c4 J y)
          rw [c3, jJ]
      have vl : v.toInt ≤ (ua J).toInt := by
        have := v3 (ur J).toInt.toNat (by omega) (by omega) (by rw [rJ]; omega)
        rw [rJ] at this
        exact this
      have vJ : v = ua J := by
        rcases v4 with y | ⟨r, b1, b2, b3, b4⟩
        · have : (400 : Int32).toInt = 400 := by decide
          rw [y] at vl
          omega
        · rcases g3 r b2 with ⟨c1, -⟩ | ⟨j, c1, c2, c3, c4⟩
          · exact absurd c1 b3
          · rcases Nat.lt_trichotomy j J with y | y | y
            · have := a4 j (by omega) y
              omega
            · rw [b4, c3, y]
            · have := g2 J j y c1
              rw [b4, c3] at vl
              omega
      have f1 : M_findNotTold fl fp rf (nI q) = (6, ua J) := by rw [v1, if_neg (by rw [vJ]; omega), t_refuse q0, vJ]
      rw [f1]
      refine ⟨by dsimp only; decide, ?_⟩
      rw [ez]
      exact a5
  · right
    have f1 : M_findNotTold fl fp rf (nI q) = (fl, fp) := by
      rw [v1]
      by_cases z : 400 ≤ v.toInt
      · rw [if_pos z]
      · rw [if_neg z]
        simp only [K_refuse_3, K_refuse_2, K_refuse_1, M_refuse]
        rw [if_neg q0]
    rw [f1]
    refine ⟨q0, ?_⟩
    rw [ew q0]
    exact X3_flt (by omega) 99999
