section
variable {rails limit retry behind mra mli mre mpa dead : Int32} {pn Td Nm Tb D rt K : Nat → Int32} {pt : Nat → Int64}
theorem y_hk (r8 : 0 ≤ rails.toInt ∧ rails.toInt ≤ 8) (h2 : xTk rails rt K) (h1 : ∀ j : Nat, (j : Int) < rails.toInt → 1 ≤ (K j).toInt) (h9 : yT9 rails K) : ∀ j, j < rails.toNatClampNeg → rt j = K j ∧ 1 ≤ (K j).toInt ∧ (K j).toInt ≤ 9 := by
  have rn := xtn r8.1
  exact fun j hj => ⟨h2 j (by omega), h1 j (by omega), h9 j (by omega)⟩
theorem yRun_key {wt : Bool} {tick held tries trips ldraw gdraw ysz mtk mhe mtr mtp mdn mdm mhp key a0 mon r v h9 t9 h8 t8 : Int32} {rs ri ra rg ya yb yc S I U G H : Nat → Int32} (hpl : xPl wt rails limit retry behind pn pt mra mli mre mpa Td Nm Tb) (h : yRun rails tick held tries trips ldraw gdraw ysz rs ri ra rg ya yb yc mtk mhe mtr mtp mdn mdm mhp S I U G H) (x1 : M_x_key key a0 held retry tries = (r, h9, t9)) (x2 : M_m_key a0 mhe mon mre mtr = (v, h8, t8)) : yRun rails tick h9 t9 trips ldraw gdraw ysz rs ri ra rg ya yb yc mtk h8 t8 mtp mdn mdm mhp S I U G H := by
  obtain ⟨-, -, e, -⟩ := hpl
  obtain ⟨k1, k2, k3, k4, k5, k6, k7, k8⟩ := h
  subst e
  subst k2
  subst k3
  simp only [K_x_key_2, K_x_key_1, M_x_key, K_turnKey_5, K_turnKey_4, K_turnKey_3, K_turnKey_2, K_turnKey_1, M_turnKey] at x1
  simp only [K_m_key_5, K_m_key_4, K_m_key_3, K_m_key_2, K_m_key_1, M_m_key] at x2
  by_cases a : a0.toInt = 0
  · rw [if_pos a] at x1 x2
    by_cases b : held.toInt = -4
    · rw [if_pos b] at x1 x2
      simp only [Prod.mk.injEq] at x1 x2
      exact ⟨k1, by rw [← x1.2.1, ← x2.2.1], by rw [← x1.2.2, ← x2.2.2], k4, k5, k6, k7, k8⟩
    · rw [if_neg b] at x1 x2
      simp only [Prod.mk.injEq] at x1 x2
      exact ⟨k1, by rw [← x1.2.1, ← x2.2.1], by rw [← x1.2.2, ← x2.2.2], k4, k5, k6, k7, k8⟩
  · rw [if_neg a] at x1 x2
    simp only [Prod.mk.injEq] at x1 x2
    exact ⟨k1, by rw [← x1.2.1, ← x2.2.1], by rw [← x1.2.2, ← x2.2.2], k4, k5, k6, k7, k8⟩
theorem yCac_dead {a0 a1 pk gpk lpk kn slast r d9 pk9 kn9 : Int32} {wk wb srow cx wk9 : Nat → Int32} (r8 : 0 ≤ rails.toInt ∧ rails.toInt ≤ 8) (h : yCac rails limit dead pk gpk lpk kn slast pn pt wk wb srow cx Td K) (x1 : M_x_dead a0 rails dead a1 wk pk kn = (r, d9, pk9, wk9, kn9)) : yCac rails limit d9 pk9 gpk lpk kn9 slast pn pt wk9 wb srow cx Td K := by
  have fo := r_forget wk
  simp only [K_x_dead_8, K_x_dead_6, K_x_dead_9, K_x_dead_7, K_x_dead_4, K_x_dead_12, K_x_dead_10, K_x_dead_13, K_x_dead_11, K_x_dead_5, K_x_dead_2, K_x_dead_3, K_x_dead_1, M_x_dead] at x1
  by_cases q : 0 ≤ a0.toInt ∧ a0.toInt < rails.toInt
  · rw [if_pos q] at x1
    by_cases b : (dead &&& ((1 : Int32) <<< (a0 &&& 31))).toInt = 0
    · rw [if_pos b] at x1
      by_cases c : a1.toInt = 0
      · rw [if_pos c] at x1
        simp only [Prod.mk.injEq] at x1
        obtain ⟨-, -, y3, y4, y5⟩ := x1
        exact yCac_0 r8 y3.symm y5.symm (by rw [← y4]; exact fo) h.2.2.2
      · rw [if_neg c] at x1
        simp only [Prod.mk.injEq] at x1
        obtain ⟨-, -, y3, y4, y5⟩ := x1
        exact yCac_0 r8 y3.symm y5.symm (by rw [← y4]; exact fo) h.2.2.2
    · rw [if_neg b] at x1
      by_cases c : a1.toInt = 0
      · rw [if_pos c] at x1
        simp only [Prod.mk.injEq] at x1
        obtain ⟨-, -, y3, y4, y5⟩ := x1
        exact yCac_0 r8 y3.symm y5.symm (by rw [← y4]; exact fo) h.2.2.2
      · rw [if_neg c] at x1
        simp only [Prod.mk.injEq] at x1
        obtain ⟨-, -, y3, y4, y5⟩ := x1
        exact yCac_0 r8 y3.symm y5.symm (by rw [← y4]; exact fo) h.2.2.2
  · rw [if_neg q] at x1
    simp only [Prod.mk.injEq] at x1
    obtain ⟨-, y2, y3, y4, y5⟩ := x1
    rw [← y2, ← y3, ← y4, ← y5]
    exact h
theorem y_shl {a j : Nat} (ha : a < 8) (hj : j < 32) (n : a ≠ j) : xb ((1 : Int32) <<< (nI a &&& 31)) j = false := by
  have z := xb_shl ⟨a, by omega⟩ ⟨j, hj⟩
  dsimp only at z
  rw [z]
  exact decide_eq_false (fun y => n (Fin.mk.inj y).symm)
theorem yDz_dead {a0 a1 pk kn r d9 pk9 kn9 : Int32} {wk wk9 : Nat → Int32} (r8 : 0 ≤ rails.toInt ∧ rails.toInt ≤ 8) (h : yDz rails dead) (x1 : M_x_dead a0 rails dead a1 wk pk kn = (r, d9, pk9, wk9, kn9)) : yDz rails d9 := by
  simp only [K_x_dead_8, K_x_dead_6, K_x_dead_9, K_x_dead_7, K_x_dead_4, K_x_dead_12, K_x_dead_10, K_x_dead_13, K_x_dead_11, K_x_dead_5, K_x_dead_2, K_x_dead_3, K_x_dead_1, M_x_dead] at x1
  by_cases q : 0 ≤ a0.toInt ∧ a0.toInt < rails.toInt
  · rw [if_pos q] at x1
    have an := xtn (x := a0) q.1
    have ea : nI a0.toNatClampNeg = a0 := xnI q.1
    have on : yDz rails (dead ||| ((1 : Int32) <<< (a0 &&& 31))) := fun j j1 j2 => by
      have z := y_shl (a := a0.toNatClampNeg) (j := j) (by omega) j2 (by omega)
      rw [ea] at z
      rw [xb_or, h j j1 j2, z]
      rfl
    have off : yDz rails (dead &&& (((1 : Int32) <<< (a0 &&& 31)) ^^^ (-1))) := fun j j1 j2 => by
      rw [xb_and, h j j1 j2]
      rfl
    by_cases b : (dead &&& ((1 : Int32) <<< (a0 &&& 31))).toInt = 0
    · rw [if_pos b] at x1
      by_cases c : a1.toInt = 0
      · rw [if_pos c] at x1
        simp only [Prod.mk.injEq] at x1
        obtain ⟨-, y2, -⟩ := x1
        rw [← y2]
        exact off
      · rw [if_neg c] at x1
        simp only [Prod.mk.injEq] at x1
        obtain ⟨-, y2, -⟩ := x1
        rw [← y2]
        exact on
    · rw [if_neg b] at x1
      by_cases c : a1.toInt = 0
      · rw [if_pos c] at x1
        simp only [Prod.mk.injEq] at x1
        obtain ⟨-, y2, -⟩ := x1
        rw [← y2]
        exact off
      · rw [if_neg c] at x1
        simp only [Prod.mk.injEq] at x1
        obtain ⟨-, y2, -⟩ := x1
        rw [← y2]
        exact on
  · rw [if_neg q] at x1
    simp only [Prod.mk.injEq] at x1
    obtain ⟨-, y2, -⟩ := x1
    rw [← y2]
    exact h
theorem yCac_time {wt : Bool} {a0 a1 pk gpk lpk kn slast r v pk9 kn9 : Int32} {wk wb srow cx rt9 wk9 K9 : Nat → Int32} (hpl : xPl wt rails limit retry behind pn pt mra mli mre mpa Td Nm Tb) (ht : xTD Td mra.toNatClampNeg) (h : yCac rails limit dead pk gpk lpk kn slast pn pt wk wb srow cx Td K) (h9 : yT9 mra K) (x1 : M_x_time a0 rails a1 rt pk wk kn pn = (r, rt9, pk9, wk9, kn9)) (x2 : M_m_time a0 mra a1 K Td = (v, K9)) : yCac rails limit dead pk9 gpk lpk kn9 slast pn pt wk9 wb srow cx Td K9 ∧ yT9 mra K9 := by
  obtain ⟨e, -, -, -, r8, hE⟩ := hpl
  subst e
  have rn := xtn r8.1
  have fo := r_forget wk
  simp only [K_x_time_5, K_x_time_10, K_x_time_8, K_x_time_9, K_x_time_7, K_x_time_6, K_x_time_4, K_x_time_3, K_x_time_2, K_x_time_1, M_x_time] at x1
  simp only [K_m_time_6, K_m_time_7, K_m_time_5, K_m_time_4, K_m_time_3, K_m_time_2, K_m_time_1, M_m_time] at x2
  by_cases q : 0 ≤ a0.toInt ∧ a0.toInt < rails.toInt
  · rw [if_pos q] at x1 x2
    have an := xtn (x := a0) q.1
    have ea : nI a0.toNatClampNeg = a0 := xnI q.1
    obtain ⟨hr, -, -⟩ := hE a0.toNatClampNeg (by omega)
    have i80 := t_nb (q := a0.toNatClampNeg) (k := 0) (pn := pn) (by omega) (by decide)
    have i81 := t_nb (q := a0.toNatClampNeg) (k := 1) (pn := pn) (by omega) (by decide)
    have i70 := t_of7 (q := a0.toNatClampNeg) (k := 0) (Td := Td) (by omega) (by decide)
    have i71 := t_of7 (q := a0.toNatClampNeg) (k := 1) (Td := Td) (by omega) (by decide)
    rw [ea] at i80 i81 i70 i71
    have j80 : M_number pn a0 0 = pn (8 * a0.toNatClampNeg + 0) := i80
    have j81 : M_number pn a0 1 = pn (8 * a0.toNatClampNeg + 1) := i81
    have j70 : M_m_of Td a0 0 = Td (7 * a0.toNatClampNeg + 0) := i70
    have j71 : M_m_of Td a0 1 = Td (7 * a0.toNatClampNeg + 1) := i71
    rw [j80, j81, hr 0 (by decide) (Or.inl (by decide)), hr 1 (by decide) (Or.inl (by decide))] at x1
    rw [j70, j71] at x2
    obtain ⟨t1, t2, t3⟩ := ht a0.toNatClampNeg (by omega)
    by_cases z : (Td (7 * a0.toNatClampNeg + 0)).toInt ≤ a1.toInt ∧ a1.toInt ≤ (Td (7 * a0.toNatClampNeg + 1)).toInt
    · rw [if_neg (by omega), if_pos z.2] at x1
      rw [if_pos z] at x2
      simp only [Prod.mk.injEq] at x1 x2
      obtain ⟨c0, c1, c2, c3, c4⟩ := x1
      obtain ⟨d0, d1⟩ := x2
      refine ⟨yCac_0 r8 c2.symm c4.symm (by rw [← c3]; exact fo) h.2.2.2, fun j hj => ?_⟩
      rw [← d1]
      by_cases w : j = a0.toNatClampNeg
      · rw [w, xupd_s]
        omega
      · rw [xupd_o w]
        exact h9 j hj
    · rw [if_neg z] at x2
      simp only [Prod.mk.injEq] at x2
      obtain ⟨d0, d1⟩ := x2
      by_cases w : a1.toInt < (Td (7 * a0.toNatClampNeg + 0)).toInt
      · rw [if_pos w] at x1
        simp only [Prod.mk.injEq] at x1
        obtain ⟨c0, c1, c2, c3, c4⟩ := x1
        rw [← c2, ← c3, ← c4, ← d1]
        exact ⟨h, h9⟩
      · rw [if_neg w, if_neg (by omega)] at x1
        simp only [Prod.mk.injEq] at x1
        obtain ⟨c0, c1, c2, c3, c4⟩ := x1
        rw [← c2, ← c3, ← c4, ← d1]
        exact ⟨h, h9⟩
  · rw [if_neg q] at x1 x2
    simp only [Prod.mk.injEq] at x1 x2
    obtain ⟨c0, c1, c2, c3, c4⟩ := x1
    obtain ⟨d0, d1⟩ := x2
    rw [← c2, ← c3, ← c4, ← d1]
    exact ⟨h, h9⟩
theorem x_go_C {a0 key mon tick held tries trips ldraw gdraw ysz mtk mhe mtr mtp mdn mdm mhp r tk9 he9 tr9 tp9 ld9 gd9 ys9 v mk9 mh9 mr9 mn9 mm9 mp9 my9 : Int32} {rs ri ra rg ya yb yc S I U G H rs9 ri9 ra9 rg9 ya9 yb9 yc9 S9 I9 U9 G9 H9 : Nat → Int32} (hpl : xPl true rails limit retry behind pn pt mra mli mre mpa Td Nm Tb) (hke : key = mon) (hd : xDd dead D) (h2 : xTk rails rt K) (h1 : ∀ j : Nat, (j : Int) < mra.toInt → 1 ≤ (K j).toInt) (hy : 0 ≤ ysz.toInt ∧ ysz.toInt ≤ 64) (h : yRun rails tick held tries trips ldraw gdraw ysz rs ri ra rg ya yb yc mtk mhe mtr mtp mdn mdm mhp S I U G H) (x1 : M_x_go a0 tick held tries trips ldraw gdraw rs ri ra rg ysz ya yb yc rails dead pn rt key pt behind limit = (r, tk9, he9, tr9, tp9, ld9, gd9, rs9, ri9, ra9, rg9, ys9, ya9, yb9, yc9)) (x2 : M_m_go a0 mtp mra mon Td D K Tb mpa mli mtk mhe mtr mdn mdm mhp S I U G H = (v, mk9, mh9, mr9, mn9, mm9, mp9, my9, S9, I9, U9, G9, H9)) : r = v ∧ yRun rails tk9 he9 tr9 tp9 ld9 gd9 ys9 rs9 ri9 ra9 rg9 ya9 yb9 yc9 mk9 mh9 mr9 mp9 mn9 mm9 my9 S9 I9 U9 G9 H9 := by
  obtain ⟨e1, e2, e3, e4, r8, hE⟩ := hpl
  obtain ⟨k1, k2, k3, k4, k5, k6, k7, k8⟩ := h
  subst e1
  subst e2
  subst e4
  subst hke
  subst k1
  subst k2
  subst k3
  subst k4
  subst k5
  subst k6
  have rn := xtn r8.1
  obtain ⟨eq, q8⟩ := xq_of r8
  have hrt : ∀ j, j < rails.toNatClampNeg → rt j = K j ∧ 1 ≤ (K j).toInt := fun j hj => ⟨h2 j (by omega), h1 j (by omega)⟩
  obtain ⟨r', tk', held', tries', trips', ld', gd', ysz', mh', rs', ri', ra', rg', ya', yb', yc', I', U', G', H', S', g1, g2, g3, g4, g5⟩ := x_go_eq (a0 := a0) (key := key) (behind := behind) (limit := limit) (tk := tick) (held := held) (tries := tries) (trips := trips) (ld := ldraw) (gd := gdraw) hE q8 hd hrt k7 k8 hy
  rw [← eq] at g1 g2
  rw [g1] at x1
  rw [g2] at x2
  simp only [Prod.mk.injEq] at x1 x2
  obtain ⟨y1, y2, y3, y4, y5, y6, y7, y8, y9, y10, y11, y12, y13, y14, y15⟩ := x1
  obtain ⟨z1, z2, z3, z4, z5, z6, z7, z8, z9, z10, z11, z12, z13⟩ := x2
  refine ⟨by rw [← y1, ← z1], by rw [← y2, ← z2], by rw [← y3, ← z3], by rw [← y4, ← z4], by rw [← y5, ← z7], by rw [← y6, ← z5], by rw [← y7, ← z6], ?_, ?_⟩
  · rw [← y8, ← y9, ← y10, ← y11, ← z9, ← z10, ← z11, ← z12]
    exact g3
  · rw [← y12, ← y13, ← y14, ← y15, ← z8, ← z13]
    exact g4
theorem x_now_C {a0 key mon tick held tries trips ldraw gdraw ysz mtk mhe mtr mtp mdn mdm mhp : Int32} {rs ri ra rg ya yb yc S I U G H : Nat → Int32} {wt : Bool} (hpl : xPl wt rails limit retry behind pn pt mra mli mre mpa Td Nm Tb) (hke : key = mon) (h : yRun rails tick held tries trips ldraw gdraw ysz rs ri ra rg ya yb yc mtk mhe mtr mtp mdn mdm mhp S I U G H) : M_x_now a0 tick rs ldraw held tries gdraw key trips = M_m_now a0 mtk mra S mdn mhe mtr mdm mon mtp := by
  obtain ⟨e1, e2, e3, e4, r8, hE⟩ := hpl
  obtain ⟨k1, k2, k3, k4, k5, k6, k7, k8⟩ := h
  subst e1
  subst hke
  subst k1
  subst k2
  subst k3
  subst k4
  subst k5
  subst k6
  obtain ⟨eq, q8⟩ := xq_of r8
  have z := x_now_eq (a0 := a0) (key := key) (tk := tick) (held := held) (tries := tries) (trips := trips) (ld := ldraw) (gd := gdraw) q8 k7
  rw [← eq] at z
  exact z
theorem x_is_C {a0 a1 tick held tries trips ldraw gdraw ysz mtk mhe mtr mtp mdn mdm mhp : Int32} {rs ri ra rg ya yb yc S I U G H : Nat → Int32} {wt : Bool} (hpl : xPl wt rails limit retry behind pn pt mra mli mre mpa Td Nm Tb) (hd : xDd dead D) (h2 : xTk rails rt K) (h : yRun rails tick held tries trips ldraw gdraw ysz rs ri ra rg ya yb yc mtk mhe mtr mtp mdn mdm mhp S I U G H) : M_x_is a0 rails a1 rs ri dead rt rg = M_m_is_ a0 mra a1 S I D K G := by
  obtain ⟨e1, e2, e3, e4, r8, hE⟩ := hpl
  obtain ⟨k1, k2, k3, k4, k5, k6, k7, k8⟩ := h
  subst e1
  have rn := xtn r8.1
  obtain ⟨eq, q8⟩ := xq_of r8
  have z := x_is_eq (a0 := a0) (a1 := a1) (dead := dead) (D := D) (rt := rt) (K := K) q8 k7 hd (fun j hj => h2 j (by omega))
  rw [← eq] at z
  exact z
theorem x_when_C {a0 a1 cup cl up r v c1 c2 e1' : Int32} {fw ft fr fg Fm Fg By Fw g1 g2 g3 g4 h1' h2' h3' h4' : Nat → Int32} (hpl : xPl true rails limit retry behind pn pt mra mli mre mpa Td Nm Tb) (hd : xDd dead D) (hn : ∀ j, j < 64 → 0 ≤ (pn j).toInt ∧ (pn j).toInt ≤ 511) (ht : xTD Td mra.toNatClampNeg) (h2 : xTk rails rt K) (h1 : ∀ j : Nat, (j : Int) < mra.toInt → 1 ≤ (K j).toInt) (h9 : yT9 mra K) (x1 : M_x_when a0 rails a1 cup cl fw ft fr fg pt dead rt pn = (r, c1, c2, g1, g2, g3, g4)) (x2 : M_m_when a0 mra a1 Tb Fm Fg D K Td By Fw up = (v, e1', h1', h2', h3', h4')) : r = v := by
  obtain ⟨e1, e2, e3, e4, r8, hE⟩ := hpl
  subst e1
  obtain ⟨eq, q8⟩ := xq_of r8
  have z := x_when_eq (a0 := a0) (a1 := a1) (fw := fw) (ft := ft) (fr := fr) (fg := fg) (Fm := Fm) (Fg := Fg) (By := By) (Fw := Fw) (cup := cup) (cl := cl) (up := up) q8 hE hd hn (y_hk r8 h2 h1 h9) ht
  rw [← eq, x1, x2] at z
  exact z
theorem x_drawn_C {a0 cup cl up r v c1 c2 e1' : Int32} {fw ft fr fg Fm Fg By Fw g1 g2 g3 g4 h1' h2' h3' h4' : Nat → Int32} (hpl : xPl true rails limit retry behind pn pt mra mli mre mpa Td Nm Tb) (hd : xDd dead D) (hn : ∀ j, j < 64 → 0 ≤ (pn j).toInt ∧ (pn j).toInt ≤ 511) (h2 : xTk rails rt K) (h1 : ∀ j : Nat, (j : Int) < mra.toInt → 1 ≤ (K j).toInt) (h9 : yT9 mra K) (x1 : M_x_drawn a0 cup cl fw ft fr fg rails pn pt dead rt = (r, c1, c2, g1, g2, g3, g4)) (x2 : M_m_drawn a0 mra Td Tb Fm Fg D K By Fw up = (v, e1', h1', h2', h3', h4')) : r = v := by
  obtain ⟨e1, e2, e3, e4, r8, hE⟩ := hpl
  subst e1
  obtain ⟨eq, q8⟩ := xq_of r8
  have z := x_drawn_eq (a0 := a0) (fw := fw) (ft := ft) (fr := fr) (fg := fg) (Fm := Fm) (Fg := Fg) (By := By) (Fw := Fw) (cup := cup) (cl := cl) (up := up) q8 hE hd hn (y_hk r8 h2 h1 h9)
  rw [← eq, x1, x2] at z
  exact z
theorem x_peak_C {a0 pk gpk lpk kn slast cup cl cpk cpt up pa r pk9 gp9 lp9 cup9 cl9 cp9 ct9 v up9 pa9 : Int32} {fw ft fr fg cx wk wb srow Fm Fg By Fw fw9 ft9 fr9 fg9 cx9 Fm9 Fg9 By9 Fw9 : Nat → Int32} (hpl : xPl true rails limit retry behind pn pt mra mli mre mpa Td Nm Tb) (hd : xDd dead D) (hn : ∀ j, j < 64 → 0 ≤ (pn j).toInt ∧ (pn j).toInt ≤ 511) (ht : xTD Td mra.toNatClampNeg) (h2 : xTk rails rt K) (h1 : ∀ j : Nat, (j : Int) < mra.toInt → 1 ≤ (K j).toInt) (h9 : yT9 mra K) (h : yCac rails limit dead pk gpk lpk kn slast pn pt wk wb srow cx Td K) (x1 : M_x_peak a0 pk gpk lpk cup cl cpk cpt fw ft fr fg cx rails pn pt dead rt = (r, pk9, gp9, lp9, cup9, cl9, cp9, ct9, fw9, ft9, fr9, fg9, cx9)) (x2 : M_m_peak a0 up pa Fm Fg By Fw mra Td Tb D K = (v, up9, pa9, Fm9, Fg9, By9, Fw9)) : r = v ∧ yCac rails limit dead pk9 gp9 lp9 kn slast pn pt wk wb srow cx9 Td K := by
  obtain ⟨e1, e2, e3, e4, r8, hE⟩ := hpl
  subst e1
  obtain ⟨eq, q8⟩ := xq_of r8
  obtain ⟨k1, k2, k3, k4⟩ := h
  have hk := y_hk r8 h2 h1 h9
  rw [eq] at x1 x2
  have z := x_peak_eq q8 hE hd hn hk ht k4 k1 x1 x2
  exact ⟨z.1, z.2.2, k2, k3, z.2.1⟩
theorem x_ahead_C {a0 a1 a2 pk gpk lpk kn slast cup cl up r cup9 cl9 v up9 : Int32} {fw ft fr fg cx wk wb srow Fm Fg By Fw wb9 wk9 fw9 ft9 fr9 fg9 Fm9 Fg9 By9 Fw9 : Nat → Int32} (hpl : xPl true rails limit retry behind pn pt mra mli mre mpa Td Nm Tb) (hd : xDd dead D) (hn : ∀ j, j < 64 → 0 ≤ (pn j).toInt ∧ (pn j).toInt ≤ 511) (ht : xTD Td mra.toNatClampNeg) (h : yCac rails limit dead pk gpk lpk kn slast pn pt wk wb srow cx Td K) (x1 : M_x_ahead a0 rails a1 wb wk cup cl fw ft fr fg a2 pn pt dead = (r, wb9, wk9, cup9, cl9, fw9, ft9, fr9, fg9)) (x2 : M_m_ahead a0 mra a1 up Fm Fg By Fw a2 Td Tb D K = (v, up9, Fm9, Fg9, By9, Fw9)) : r = v ∧ yCac rails limit dead pk gpk lpk kn slast pn pt wk9 wb9 srow cx Td K := by
  obtain ⟨e1, e2, e3, e4, r8, hE⟩ := hpl
  subst e1
  obtain ⟨eq, q8⟩ := xq_of r8
  obtain ⟨k1, k2, k3, k4⟩ := h
  rw [eq] at x1 x2
  have z := x_ahead_eq q8 hE hd hn ht k2 x1 x2
  exact ⟨z.1, k1, z.2, k3, k4⟩
theorem x_stag_C {a0 pk gpk lpk kn slast cup cl c1 c2 up pa so r kn9 sl9 cup9 cl9 cp9 ct9 v up9 pa9 so9 : Int32} {fw ft fr fg cx wk wb srow Fm Fg By Fw Bw sr9 fw9 ft9 fr9 fg9 cx9 Fm9 Fg9 By9 Fw9 Bw9 : Nat → Int32} (hpl : xPl true rails limit retry behind pn pt mra mli mre mpa Td Nm Tb) (hd : xDd dead D) (hn : ∀ j, j < 64 → 0 ≤ (pn j).toInt ∧ (pn j).toInt ≤ 511) (h2 : xTk rails rt K) (h1 : ∀ j : Nat, (j : Int) < mra.toInt → 1 ≤ (K j).toInt) (h9 : yT9 mra K) (h : yCac rails limit dead pk gpk lpk kn slast pn pt wk wb srow cx Td K) (x1 : M_x_stagger a0 rails kn c1 c2 cx limit pn pt fr fg rt ft fw srow slast cup cl dead = (r, kn9, sl9, sr9, cup9, cl9, cp9, ct9, fw9, ft9, fr9, fg9, cx9)) (x2 : M_m_stagger a0 mra mli Td Tb D Fm Fg Fw Bw up pa K By so = (v, up9, pa9, so9, Fm9, Fg9, By9, Fw9, Bw9)) : r = v ∧ yCac rails limit dead pk gpk lpk kn9 sl9 pn pt wk wb sr9 cx9 Td K := by
  obtain ⟨e1, e2, e3, e4, r8, hE⟩ := hpl
  subst e1
  subst e2
  obtain ⟨eq, q8⟩ := xq_of r8
  obtain ⟨k1, k2, k3, k4⟩ := h
  have hk := y_hk r8 h2 h1 h9
  have hk9 : ∀ j, j < rails.toNatClampNeg → rt j = nI ((fun j => (K j).toNatClampNeg) j) ∧ K j = nI ((fun j => (K j).toNatClampNeg) j) ∧ 1 ≤ (fun j => (K j).toNatClampNeg) j ∧ (fun j => (K j).toNatClampNeg) j ≤ 9 := fun j hj => by
    obtain ⟨a, b, c⟩ := hk j hj
    have n := xtn (x := K j) (by omega)
    have e : nI (K j).toNatClampNeg = K j := xnI (by omega)
    show rt j = nI (K j).toNatClampNeg ∧ K j = nI (K j).toNatClampNeg ∧ 1 ≤ (K j).toNatClampNeg ∧ (K j).toNatClampNeg ≤ 9
    rw [e]
    exact ⟨a, rfl, by omega, by omega⟩
  rw [eq] at x1 x2
  have z := x_stagger_eq q8 hE hd hk9 hn k4 k3 x1 x2
  exact ⟨z.1, k1, k2, z.2.2, z.2.1⟩
theorem x_adopt_C {pk gpk lpk kn slast cup cl c1 c2 up pa so r kn9 sl9 cup9 cl9 cp9 ct9 pk9 v up9 pa9 so9 : Int32} {fw ft fr fg cx wk wb srow Fm Fg By Fw Bw sr9 fw9 ft9 fr9 fg9 cx9 pn9 wk9 Fm9 Fg9 By9 Fw9 Td9 Bw9 : Nat → Int32} (hpl : xPl true rails limit retry behind pn pt mra mli mre mpa Td Nm Tb) (hd : xDd dead D) (hn : ∀ j, j < 64 → 0 ≤ (pn j).toInt ∧ (pn j).toInt ≤ 511) (h2 : xTk rails rt K) (h1 : ∀ j : Nat, (j : Int) < mra.toInt → 1 ≤ (K j).toInt) (h9 : yT9 mra K) (h : yCac rails limit dead pk gpk lpk kn slast pn pt wk wb srow cx Td K) (x1 : M_x_adopt rails pn pk wk kn c1 c2 cx limit pt fr fg rt ft fw srow slast cup cl dead = (r, kn9, sl9, sr9, cup9, cl9, cp9, ct9, fw9, ft9, fr9, fg9, cx9, pn9, pk9, wk9)) (x2 : M_m_adopt mra Td mli Tb D Fm Fg Fw Bw up pa K By so = (v, up9, pa9, so9, Fm9, Fg9, By9, Fw9, Td9, Bw9)) : r = v ∧ xPl true rails limit retry behind pn9 pt mra mli mre mpa Td9 Nm Tb ∧ yCac rails limit dead pk9 gpk lpk kn9 sl9 pn9 pt wk9 wb sr9 cx9 Td9 K := by
  obtain ⟨e1, e2, e3, e4, r8, hE⟩ := hpl
  subst e1
  subst e2
  obtain ⟨eq, q8⟩ := xq_of r8
  have rn := xtn r8.1
  obtain ⟨k1, k2, k3, k4⟩ := h
  have hk := y_hk r8 h2 h1 h9
  have hk9 : ∀ j, j < rails.toNatClampNeg → rt j = nI ((fun j => (K j).toNatClampNeg) j) ∧ K j = nI ((fun j => (K j).toNatClampNeg) j) ∧ 1 ≤ (fun j => (K j).toNatClampNeg) j ∧ (fun j => (K j).toNatClampNeg) j ≤ 9 := fun j hj => by
    obtain ⟨a, b, c⟩ := hk j hj
    have n := xtn (x := K j) (by omega)
    have e : nI (K j).toNatClampNeg = K j := xnI (by omega)
    show rt j = nI (K j).toNatClampNeg ∧ K j = nI (K j).toNatClampNeg ∧ 1 ≤ (K j).toNatClampNeg ∧ (K j).toNatClampNeg ≤ 9
    rw [e]
    exact ⟨a, rfl, by omega, by omega⟩
  rw [eq] at x1 x2
  have z := x_adopt_eq q8 hE hd hk9 hn k4 k3 x1 x2
  obtain ⟨z1, z2, z3, z4, z5⟩ := z
  refine ⟨z1, ⟨rfl, rfl, e3, e4, r8, z2⟩, ?_⟩
  rcases z5 with ⟨a1, a2, a3, a4⟩ | ⟨a1, a2⟩
  · refine ⟨?_, ?_, z4, z3⟩
    · rw [a1, a2, a4]
      exact k1
    · rw [a3, a4]
      exact k2
  · exact ⟨Or.inl a1, fun a b ha hb9 => Or.inl (a2 _ (by omega)), z4, z3⟩
theorem x_meas_C {a0 a1 a2 a3 a4 cup cl up r v c1 c2 e1' : Int32} {fw ft fr fg Fm Fg By Fw szs sl s0 s1 s2 s3 lanes sizes cells g1 g2 g3 g4 h1' h2' h3' h4' : Nat → Int32} (hpl : xPl true rails limit retry behind pn pt mra mli mre mpa Td Nm Tb) (hd : xDd dead D) (hn : ∀ j, j < 64 → 0 ≤ (pn j).toInt ∧ (pn j).toInt ≤ 511) (h2 : xTk rails rt K) (h1 : ∀ j : Nat, (j : Int) < mra.toInt → 1 ≤ (K j).toInt) (h9 : yT9 mra K) (hs : ySh szs sl (ysc s0 s1 s2 s3) lanes sizes cells) (x1 : M_x_measured a0 a1 a3 cup cl fw ft fr fg a4 szs sl a2 s0 rails pn s1 s2 s3 pt dead rt = (r, c1, c2, g1, g2, g3, g4)) (x2 : M_m_measured a0 a1 a3 a4 lanes a2 sizes cells mra Td Tb Fm Fg D K By Fw up = (v, e1', h1', h2', h3', h4')) : r = v := by
  obtain ⟨e1, e2, e3, e4, r8, hE⟩ := hpl
  subst e1
  obtain ⟨eq, q8⟩ := xq_of r8
  have z := x_meas_eq (a0 := a0) (a1 := a1) (a2 := a2) (a3 := a3) (a4 := a4) (fw := fw) (ft := ft) (fr := fr) (fg := fg) (Fm := Fm) (Fg := Fg) (By := By) (Fw := Fw) (cup := cup) (cl := cl) (up := up) q8 hE hd hn (y_hk r8 h2 h1 h9) hs
  rw [← eq, x1, x2] at z
  exact z
theorem x_count_C {wt : Bool} {a0 tick held tries trips ldraw gdraw ysz mtk mhe mtr mtp mdn mdm mhp tl tp : Int32} {rs ri ra rg ya yb yc S I U G H szs lanes sizes : Nat → Int32} (hpl : xPl wt rails limit retry behind pn pt mra mli mre mpa Td Nm Tb) (hd : xDd dead D) (ht : xTD Td mra.toNatClampNeg) (hz : yDz rails dead) (h : yRun rails tick held tries trips ldraw gdraw ysz rs ri ra rg ya yb yc mtk mhe mtr mtp mdn mdm mhp S I U G H) (hta : tl.toInt = tp.toInt) (hs : ∀ j : Nat, j < 4 → ((szs j).toInt = -4 ∧ (lanes j).toInt = -4) ∨ ((szs j).toInt ≠ -4 ∧ (lanes j).toInt ≠ -4 ∧ (szs j).toInt = (sizes j).toInt)) : M_x_count a0 rails dead ysz pn tl szs = M_m_count a0 mra D mhp Td tp lanes sizes := by
  obtain ⟨e1, e2, e3, e4, r8, hE⟩ := hpl
  obtain ⟨k1, k2, k3, k4, k5, k6, k7, k8⟩ := h
  subst e1
  have rn := xtn r8.1
  obtain ⟨eq, q8⟩ := xq_of r8
  have m4 : (-4 : Int32).toInt = -4 := by decide
  have z := x_count_eq (a0 := a0) (D := D) (szs := szs) (lanes := lanes) (sizes := sizes) q8 hE hd ht (fun j j1 j2 => hz j (by omega) j2) k8.1 (Int32.toInt_inj.mp hta) (by
    rcases hs 0 (by decide) with ⟨a, b⟩ | ⟨a, b, c⟩
    · exact Or.inl ⟨Int32.toInt_inj.mp (by omega), Int32.toInt_inj.mp (by omega)⟩
    · exact Or.inr ⟨b, Int32.toInt_inj.mp c⟩)
  rw [← eq] at z
  exact z
end
