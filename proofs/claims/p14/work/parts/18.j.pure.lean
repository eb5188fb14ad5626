-- 99.x.sheets
theorem t_renew {c0 c1 c2 c3 sl szs : Nat → Int32} {l n : Int32} {k : Nat} (hk : k < 4) : ∃ d0 d1 d2 d3 : Nat → Int32, M_renew (nI k) c1 c2 c3 sl l szs n c0 = (d0, d1, d2, d3, upd sl k l, upd szs k n) ∧ ∀ j, j < 4 → ysc d0 d1 d2 d3 j = if j = k then M_fillI 40 0 (ysc c0 c1 c2 c3 j) else ysc c0 c1 c2 c3 j := by
  have kc : (nI k).toNatClampNeg = k := nI_clamp (by omega)
  simp only [K_renew_4, K_renew_2, K_renew_7, K_renew_5, K_renew_10, K_renew_8, K_renew_11, K_renew_9, K_renew_6, K_renew_3, K_renew_1, M_renew, kc]
  match k, hk with
  | 0, _ =>
    rw [if_pos (show (nI 0).toInt = 0 from by decide)]
    refine ⟨_, _, _, _, rfl, fun j hj => ?_⟩
    match j, hj with
    | 0, _ => rfl
    | 1, _ => rfl
    | 2, _ => rfl
    | 3, _ => rfl
  | 1, _ =>
    rw [if_neg (show ¬ (nI 1).toInt = 0 from by decide), if_pos (show (nI 1).toInt = 1 from by decide)]
    refine ⟨_, _, _, _, rfl, fun j hj => ?_⟩
    match j, hj with
    | 0, _ => rfl
    | 1, _ => rfl
    | 2, _ => rfl
    | 3, _ => rfl
  | 2, _ =>
    rw [if_neg (show ¬ (nI 2).toInt = 0 from by decide), if_neg (show ¬ (nI 2).toInt = 1 from by decide), if_pos (show (nI 2).toInt = 2 from by decide)]
    refine ⟨_, _, _, _, rfl, fun j hj => ?_⟩
    match j, hj with
    | 0, _ => rfl
    | 1, _ => rfl
    | 2, _ => rfl
    | 3, _ => rfl
  | 3, _ =>
    rw [if_neg (show ¬ (nI 3).toInt = 0 from by decide), if_neg (show ¬ (nI 3).toInt = 1 from by decide), if_neg (show ¬ (nI 3).toInt = 2 from by decide)]
    refine ⟨_, _, _, _, rfl, fun j hj => ?_⟩
    match j, hj with
    | 0, _ => rfl
    | 1, _ => rfl
    | 2, _ => rfl
    | 3, _ => rfl
/-- a value as a lane keeps it -/
def yLn (l v : Int32) : Int32 := if l.toInt = 0 then v.toInt8.toInt32 else if l.toInt = 1 then v.toInt16.toInt32 else v
theorem t_put {c0 c1 c2 c3 sl : Nat → Int32} {i v : Int32} {k : Nat} (hk : k < 4) : ∃ d0 d1 d2 d3 : Nat → Int32, M_put sl (nI k) c0 i v c1 c2 c3 = (d0, d1, d2, d3) ∧ ∀ j, j < 4 → ysc d0 d1 d2 d3 j = if j = k then upd (ysc c0 c1 c2 c3 j) i.toNatClampNeg (yLn (sl k) v) else ysc c0 c1 c2 c3 j := by
  have kc : (nI k).toNatClampNeg = k := nI_clamp (by omega)
  have go : M_put sl (nI k) c0 i v c1 c2 c3 = if (nI k).toInt = 0 then (upd c0 i.toNatClampNeg (yLn (sl k) v), c1, c2, c3) else if (nI k).toInt = 1 then (c0, upd c1 i.toNatClampNeg (yLn (sl k) v), c2, c3) else if (nI k).toInt = 2 then (c0, c1, upd c2 i.toNatClampNeg (yLn (sl k) v), c3) else (c0, c1, c2, upd c3 i.toNatClampNeg (yLn (sl k) v)) := by
    simp only [K_put_4, K_put_6, K_put_8, K_put_9, K_put_7, K_put_5, K_put_2, K_put_12, K_put_14, K_put_16, K_put_17, K_put_15, K_put_13, K_put_10, K_put_18, K_put_20, K_put_22, K_put_23, K_put_21, K_put_19, K_put_11, K_put_3, K_put_1, M_put, kc]
    unfold yLn
    by_cases a : (sl k).toInt = 0
    · rw [if_pos a, if_pos a]
    · rw [if_neg a, if_neg a]
      by_cases b : (sl k).toInt = 1
      · rw [if_pos b, if_pos b]
      · rw [if_neg b, if_neg b]
  rw [go]
  match k, hk with
  | 0, _ =>
    rw [if_pos (show (nI 0).toInt = 0 from by decide)]
    refine ⟨_, _, _, _, rfl, fun j hj => ?_⟩
    match j, hj with
    | 0, _ => rfl
    | 1, _ => rfl
    | 2, _ => rfl
    | 3, _ => rfl
  | 1, _ =>
    rw [if_neg (show ¬ (nI 1).toInt = 0 from by decide), if_pos (show (nI 1).toInt = 1 from by decide)]
    refine ⟨_, _, _, _, rfl, fun j hj => ?_⟩
    match j, hj with
    | 0, _ => rfl
    | 1, _ => rfl
    | 2, _ => rfl
    | 3, _ => rfl
  | 2, _ =>
    rw [if_neg (show ¬ (nI 2).toInt = 0 from by decide), if_neg (show ¬ (nI 2).toInt = 1 from by decide), if_pos (show (nI 2).toInt = 2 from by decide)]
    refine ⟨_, _, _, _, rfl, fun j hj => ?_⟩
    match j, hj with
    | 0, _ => rfl
    | 1, _ => rfl
    | 2, _ => rfl
    | 3, _ => rfl
  | 3, _ =>
    rw [if_neg (show ¬ (nI 3).toInt = 0 from by decide), if_neg (show ¬ (nI 3).toInt = 1 from by decide), if_neg (show ¬ (nI 3).toInt = 2 from by decide)]
    refine ⟨_, _, _, _, rfl, fun j hj => ?_⟩
    match j, hj with
    | 0, _ => rfl
    | 1, _ => rfl
    | 2, _ => rfl
    | 3, _ => rfl
theorem y_i40 {k x : Nat} (hk : k < 4) (hx : x < 41) : ((40 : Int32) * nI k + nI x).toNatClampNeg = 40 * k + x := by
  rw [show (40 : Int32) * nI k = nI (40 * k) from pk_mul 40 k, nI_add, nI_clamp (by omega)]
theorem sh8_in {l z : Nat → Int32} {k : Nat} (hk : k < 4) : ∀ (m x kk : Nat) (f : Nat → Int32), x + m = 40 → ∃ f' : Nat → Int32, K_m_sheet_L8 l z (nI k) (kk + m + 1) (nI x) f = (1, l, z, f') ∧ (∀ j, x ≤ j → j < 40 → f' (40 * k + j) = 0) ∧ ∀ j, j < 40 * k + x ∨ 40 * k + 40 ≤ j → f' j = f j := by
  intro m
  induction m with
  | zero =>
    intro x kk f hx
    have ex : (nI x).toInt = (x : Int) := nI_toInt (by omega)
    refine ⟨f, ?_, fun j a b => absurd a (by omega), fun j _ => rfl⟩
    simp only [K_m_sheet_L8, K_m_sheet_9, K_m_sheet_10, K_m_sheet_8, K_m_sheet_6, K_m_sheet_7, K_m_sheet_4, K_m_sheet_5, K_m_sheet_3, K_m_sheet_2, K_m_sheet_1, M_m_sheet]
    rw [if_pos (by omega)]
  | succ m ih =>
    intro x kk f hx
    have ex : (nI x).toInt = (x : Int) := nI_toInt (by omega)
    obtain ⟨f', a1, a2, a3⟩ := ih (x + 1) kk (upd f (40 * k + x) 0) (by omega)
    refine ⟨f', ?_, fun j j1 j2 => ?_, fun j hj => ?_⟩
    · rw [← a1]
      show K_m_sheet_L8 l z (nI k) ((kk + m + 1) + 1) (nI x) f = _
      generalize kk + m + 1 = n
      simp only [K_m_sheet_L8, K_m_sheet_9, K_m_sheet_10, K_m_sheet_8, K_m_sheet_6, K_m_sheet_7, K_m_sheet_4, K_m_sheet_5, K_m_sheet_3, K_m_sheet_2, K_m_sheet_1, M_m_sheet]
      rw [if_neg (by omega), y_i40 hk (by omega), nI_1]
    · by_cases y : j = x
      · rw [y, a3 _ (by omega), xupd_s]
      · exact a2 j (by omega) j2
    · rw [a3 j (by omega), xupd_o (by omega)]
theorem ySh_sheet {szs sl c0 c1 c2 c3 lanes sizes cells d0 d1 d2 d3 sl9 szs9 lanes9 sizes9 cells9 : Nat → Int32} {a0 a1 a2 r v : Int32} (h : ySh szs sl (ysc c0 c1 c2 c3) lanes sizes cells) (x1 : M_x_sheet a0 a1 a2 c1 c2 c3 sl szs c0 = (r, d0, d1, d2, d3, sl9, szs9)) (x2 : M_m_sheet a0 a1 a2 lanes sizes cells = (v, lanes9, sizes9, cells9)) : ySh szs9 sl9 (ysc d0 d1 d2 d3) lanes9 sizes9 cells9 := by
  simp only [K_x_sheet_10, K_x_sheet_8, K_x_sheet_9, K_x_sheet_6, K_x_sheet_7, K_x_sheet_5, K_x_sheet_4, K_x_sheet_3, K_x_sheet_2, K_x_sheet_1, M_x_sheet] at x1
  simp only [K_m_sheet_9, K_m_sheet_10, K_m_sheet_6, K_m_sheet_7, K_m_sheet_4, K_m_sheet_5, K_m_sheet_3, K_m_sheet_2, K_m_sheet_1, M_m_sheet] at x2
  have no : ∀ {r9 : Int32}, (r9, c0, c1, c2, c3, sl, szs) = (r, d0, d1, d2, d3, sl9, szs9) → (r9, lanes, sizes, cells) = (v, lanes9, sizes9, cells9) → ySh szs9 sl9 (ysc d0 d1 d2 d3) lanes9 sizes9 cells9 := fun h1 h2 => by
    simp only [Prod.mk.injEq] at h1 h2
    obtain ⟨-, y1, y2, y3, y4, y5, y6⟩ := h1
    obtain ⟨-, z1, z2, z3⟩ := h2
    rw [← y1, ← y2, ← y3, ← y4, ← y5, ← y6, ← z1, ← z2, ← z3]
    exact h
  by_cases p1 : 0 ≤ a0.toInt ∧ a0.toInt < 4
  · rw [if_pos p1] at x1
    by_cases p2 : 0 ≤ a1.toInt ∧ a1.toInt ≤ 2
    · rw [if_pos p2] at x1
      rw [if_pos (show (0 ≤ a0.toInt ∧ a0.toInt ≤ 3) ∧ 0 ≤ a1.toInt ∧ a1.toInt ≤ 2 from ⟨by omega, p2⟩)] at x2
      by_cases p3 : a2.toInt ≤ 40
      · rw [if_pos p3] at x1 x2
        by_cases p4 : 0 ≤ a2.toInt
        · have an := xtn (x := a0) p1.1
          have ea : nI a0.toNatClampNeg = a0 := xnI p1.1
          obtain ⟨e0, e1, e2, e3, f1, f2⟩ := t_renew (c0 := c0) (c1 := c1) (c2 := c2) (c3 := c3) (sl := sl) (szs := szs) (l := a1) (n := a2) (k := a0.toNatClampNeg) (by omega)
          obtain ⟨f', g1, g2, g3⟩ := sh8_in (l := upd lanes a0.toNatClampNeg a1) (z := upd sizes a0.toNatClampNeg a2) (k := a0.toNatClampNeg) (by omega) 40 0 99959 cells (by decide)
          rw [ea] at f1 g1
          have x2 : K_m_sheet_L8 (upd lanes a0.toNatClampNeg a1) (upd sizes a0.toNatClampNeg a2) a0 (99959 + 40 + 1) (nI 0) cells = (v, lanes9, sizes9, cells9) := by
            rw [if_pos p4] at x2
            exact x2
          rw [if_pos p4, f1] at x1
          rw [g1] at x2
          dsimp only at x1
          simp only [Prod.mk.injEq] at x1 x2
          obtain ⟨-, y1, y2, y3, y4, y5, y6⟩ := x1
          obtain ⟨-, z1, z2, z3⟩ := x2
          rw [← y1, ← y2, ← y3, ← y4, ← y5, ← y6, ← z1, ← z2, ← z3]
          intro j hj
          by_cases e : j = a0.toNatClampNeg
          · refine Or.inr ?_
            rw [f2 j hj, if_pos e, e, xupd_s, xupd_s, xupd_s, xupd_s]
            refine ⟨by omega, by omega, rfl, rfl, p4, p3, fun i hi => ?_⟩
            rw [g2 i (by omega) hi]
            exact if_pos hi
          · rw [f2 j hj, if_neg e, xupd_o e, xupd_o e, xupd_o e, xupd_o e]
            rcases h j hj with a | ⟨b1, b2, b3, b4, b5, b6, b7⟩
            · exact Or.inl a
            · refine Or.inr ⟨b1, b2, b3, b4, b5, b6, fun i hi => ?_⟩
              rw [g3 _ (by omega)]
              exact b7 i hi
        · rw [if_neg p4] at x1 x2
          exact no x1 x2
      · rw [if_neg p3] at x1 x2
        exact no x1 x2
    · rw [if_neg p2] at x1
      rw [if_neg (fun z => p2 z.2)] at x2
      exact no x1 x2
  · rw [if_neg p1] at x1
    rw [if_neg (fun z => p1 ⟨z.1.1, by omega⟩)] at x2
    exact no x1 x2
theorem ySh_lay {szs sl c0 c1 c2 c3 lanes sizes cells d0 d1 d2 d3 cells9 : Nat → Int32} {a0 a1 a2 r v : Int32} (h : ySh szs sl (ysc c0 c1 c2 c3) lanes sizes cells) (x1 : M_x_lay a0 szs c0 c1 c2 c3 a1 sl a2 = (r, d0, d1, d2, d3)) (x2 : M_m_lay a0 lanes cells a1 sizes a2 = (v, cells9)) : ySh szs sl (ysc d0 d1 d2 d3) lanes sizes cells9 := by
  have m4 : (-4 : Int32).toInt = -4 := by decide
  simp only [K_x_lay_5, K_x_lay_6, K_x_lay_10, K_x_lay_8, K_x_lay_9, K_x_lay_7, K_x_lay_4, K_x_lay_2, K_x_lay_3, K_x_lay_1, M_x_lay] at x1
  simp only [K_m_lay_5, K_m_lay_9, K_m_lay_11, K_m_lay_10, K_m_lay_8, K_m_lay_6, K_m_lay_7, K_m_lay_4, K_m_lay_2, K_m_lay_3, K_m_lay_1, M_m_lay] at x2
  have no : ∀ {r9 : Int32}, (r9, c0, c1, c2, c3) = (r, d0, d1, d2, d3) → (r9, cells) = (v, cells9) → ySh szs sl (ysc d0 d1 d2 d3) lanes sizes cells9 := fun h1 h2 => by
    simp only [Prod.mk.injEq] at h1 h2
    obtain ⟨-, y1, y2, y3, y4⟩ := h1
    obtain ⟨-, z1⟩ := h2
    rw [← y1, ← y2, ← y3, ← y4, ← z1]
    exact h
  by_cases p1 : 0 ≤ a0.toInt ∧ a0.toInt < 4
  · have an := xtn (x := a0) p1.1
    have ea : nI a0.toNatClampNeg = a0 := xnI p1.1
    rw [if_pos p1] at x1
    rw [if_pos (show (0 ≤ a0.toInt ∧ a0.toInt ≤ 3) ∧ (0 : Nat) ≤ 0 ∧ (0 : Nat) ≤ 2 from ⟨by omega, by decide, by decide⟩)] at x2
    rcases h a0.toNatClampNeg (by omega) with ⟨s1, s2⟩ | ⟨s1, s2, s3, s4, s5, s6, s7⟩
    · rw [s1, if_pos m4] at x1
      rw [s2, if_pos m4] at x2
      exact no x1 x2
    · rw [if_neg s1] at x1
      rw [if_neg s2] at x2
      have zs : (sizes a0.toNatClampNeg - 1).toInt = (szs a0.toNatClampNeg).toInt - 1 := by
        rw [← s3]
        exact xsub rfl (by decide) (by omega) (by omega)
      by_cases p2 : 0 ≤ a1.toInt ∧ a1.toInt < (szs a0.toNatClampNeg).toInt
      · rw [if_neg (by omega), if_pos p2.2] at x1
        rw [if_pos (show 0 ≤ a1.toInt ∧ a1.toInt ≤ (sizes a0.toNatClampNeg).toInt - 1 by rw [← s3]; omega)] at x2
        have bn := xtn (x := a1) p2.1
        have eb : nI a1.toNatClampNeg = a1 := xnI p2.1
        obtain ⟨e0, e1, e2, e3, f1, f2⟩ := t_put (c0 := c0) (c1 := c1) (c2 := c2) (c3 := c3) (sl := sl) (i := a1) (v := a2) (k := a0.toNatClampNeg) (by omega)
        rw [ea] at f1
        rw [f1] at x1
        have ix := y_i40 (k := a0.toNatClampNeg) (x := a1.toNatClampNeg) (by omega) (by omega)
        rw [ea, eb] at ix
        have w2 : cells9 = upd cells (40 * a0.toNatClampNeg + a1.toNatClampNeg) (yLn (lanes a0.toNatClampNeg) a2) := by
          rw [ix] at x2
          unfold yLn
          by_cases l0 : (lanes a0.toNatClampNeg).toInt = 0
          · rw [if_pos l0] at x2 ⊢
            simp only [Prod.mk.injEq] at x2
            exact x2.2.symm
          · rw [if_neg l0] at x2 ⊢
            by_cases l1 : (lanes a0.toNatClampNeg).toInt = 1
            · rw [if_pos l1] at x2 ⊢
              simp only [Prod.mk.injEq] at x2
              exact x2.2.symm
            · rw [if_neg l1] at x2 ⊢
              simp only [Prod.mk.injEq] at x2
              exact x2.2.symm
        dsimp only at x1
        simp only [Prod.mk.injEq] at x1
        obtain ⟨-, y1, y2, y3, y4⟩ := x1
        rw [← y1, ← y2, ← y3, ← y4, w2]
        intro j hj
        by_cases e : j = a0.toNatClampNeg
        · refine Or.inr ?_
          rw [f2 j hj, if_pos e, e]
          refine ⟨s1, s2, s3, s4, s5, s6, fun i hi => ?_⟩
          by_cases w : i = a1.toNatClampNeg
          · rw [w, xupd_s, xupd_s, s4]
          · rw [xupd_o w, xupd_o (by omega)]
            exact s7 i hi
        · rw [f2 j hj, if_neg e]
          rcases h j hj with a | ⟨b1, b2, b3, b4, b5, b6, b7⟩
          · exact Or.inl a
          · refine Or.inr ⟨b1, b2, b3, b4, b5, b6, fun i hi => ?_⟩
            rw [xupd_o (by omega)]
            exact b7 i hi
      · rw [if_neg (show ¬ (0 ≤ a1.toInt ∧ a1.toInt ≤ (sizes a0.toNatClampNeg).toInt - 1) by rw [← s3]; omega)] at x2
        by_cases w : a1.toInt < 0
        · rw [if_pos w] at x1
          exact no x1 x2
        · rw [if_neg w, if_neg (by omega)] at x1
          exact no x1 x2
  · rw [if_neg p1] at x1
    rw [if_neg (fun z => p1 ⟨z.1.1, by omega⟩)] at x2
    exact no x1 x2
theorem ySh_0 {sl lanes sizes cells szs : Nat → Int32} {sc : Nat → (Nat → Int32)} (h1 : ∀ j, j < 4 → szs j = -4) (h2 : ∀ j, j < 4 → lanes j = -4) : ySh szs sl sc lanes sizes cells := fun k hk => Or.inl ⟨h1 k hk, h2 k hk⟩
