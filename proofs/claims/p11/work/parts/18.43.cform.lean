section
variable {f rf : Nat → Int32} {n i more want pl kd fr vl dep fl fp : Int32}
theorem t_closeL {dep : Int32} : ∀ (m : Nat) (x : Int32) (k : Nat), m ≤ 8 → x.toInt = 8 - (m : Int) → K_closeDepth_L2 dep (k + m + 1) x = dep - 1 := by
  intro m
  induction m with
  | zero =>
    intro x k hm hx
    simp only [K_closeDepth_L2, K_closeDepth_3, K_closeDepth_5, K_closeDepth_7, K_closeDepth_9, K_closeDepth_11, K_closeDepth_13, K_closeDepth_14, K_closeDepth_12, K_closeDepth_10, K_closeDepth_8, K_closeDepth_6, K_closeDepth_4, K_closeDepth_2, K_closeDepth_1, M_closeDepth]
    rw [if_pos (by omega)]
  | succ m ih =>
    intro x k hm hx
    have e : (x + 1).toInt = x.toInt + 1 := xadd rfl (by decide) (by omega) (by omega)
    have r := ih (x + 1) k (by omega) (by omega)
    show K_closeDepth_L2 dep ((k + m + 1) + 1) x = _
    generalize k + m + 1 = j at r ⊢
    simp only [K_closeDepth_L2, K_closeDepth_3, K_closeDepth_5, K_closeDepth_7, K_closeDepth_9, K_closeDepth_11, K_closeDepth_13, K_closeDepth_14, K_closeDepth_12, K_closeDepth_10, K_closeDepth_8, K_closeDepth_6, K_closeDepth_4, K_closeDepth_2, K_closeDepth_1, M_closeDepth]
    rw [if_neg (by omega)]
    simp only [r, ite_self]
theorem t_close : M_closeDepth dep = dep - 1 := t_closeL (dep := dep) 8 0 99991 (by decide) (by decide)
theorem C_fault (q : fl.toInt ≠ 0) (k : Nat) : K_readFormula_L2 n f (k + 1) i more want rf pl kd fr vl dep fl fp = (pl, kd, fr, vl, dep, fl, fp, rf) := by
  simp only [K_readFormula_L2, K_readFormula_7, K_readFormula_9, K_readFormula_8, K_readFormula_6, K_readFormula_5, K_readFormula_3, K_readFormula_19, K_readFormula_21, K_readFormula_20, K_readFormula_17, K_readFormula_31, K_readFormula_33, K_readFormula_36, K_readFormula_35, K_readFormula_34, K_readFormula_32, K_readFormula_30, K_readFormula_28, K_readFormula_37, K_readFormula_29, K_readFormula_27, K_readFormula_25, K_readFormula_38, K_readFormula_26, K_readFormula_24, K_readFormula_22, K_readFormula_39, K_readFormula_23, K_readFormula_18, K_readFormula_11, K_readFormula_14, K_readFormula_16, K_readFormula_15, K_readFormula_13, K_readFormula_12, K_readFormula_10, K_readFormula_4, K_readFormula_2, K_readFormula_1, M_readFormula]
  by_cases a : 400 < i.toInt
  · simp only [if_pos a, if_neg q]
  · simp only [if_neg a, if_neg q]
theorem C_stop (q : fl.toInt = 0) (h : more.toInt = 0) (k : Nat) : K_readFormula_L2 n f (k + 1) i more want rf pl kd fr vl dep fl fp = if dep.toInt ≤ 0 then (pl, kd, fr, vl, dep, fl, fp, rf) else (pl, kd, fr, vl, dep, 2, fr, rf) := by
  simp only [K_readFormula_L2, K_readFormula_7, K_readFormula_9, K_readFormula_8, K_readFormula_6, K_readFormula_5, K_readFormula_3, K_readFormula_19, K_readFormula_21, K_readFormula_20, K_readFormula_17, K_readFormula_31, K_readFormula_33, K_readFormula_36, K_readFormula_35, K_readFormula_34, K_readFormula_32, K_readFormula_30, K_readFormula_28, K_readFormula_37, K_readFormula_29, K_readFormula_27, K_readFormula_25, K_readFormula_38, K_readFormula_26, K_readFormula_24, K_readFormula_22, K_readFormula_39, K_readFormula_23, K_readFormula_18, K_readFormula_11, K_readFormula_14, K_readFormula_16, K_readFormula_15, K_readFormula_13, K_readFormula_12, K_readFormula_10, K_readFormula_4, K_readFormula_2, K_readFormula_1, M_readFormula, t_refuse q]
  by_cases a : 400 < i.toInt
  · simp only [if_pos a, if_pos q]
  · simp only [if_neg a, if_pos q, if_pos h]
theorem C_want (q : fl.toInt = 0) (a : i.toInt ≤ 400) (m : more.toInt ≠ 0) (w : want.toInt ≠ 0) (k : Nat) : K_readFormula_L2 n f (k + 1) i more want rf pl kd fr vl dep fl fp = (fun t => K_readFormula_L2 n f k (i + 1) more t.1 t.2.2.2.2.2.2.2.2 t.2.1 t.2.2.1 t.2.2.2.1 t.2.2.2.2.1 t.2.2.2.2.2.1 t.2.2.2.2.2.2.1 t.2.2.2.2.2.2.2.1) (M_takeUnit kd pl fr vl dep rf fl fp n f) := by
  simp only [K_readFormula_L2, K_readFormula_7, K_readFormula_9, K_readFormula_8, K_readFormula_6, K_readFormula_5, K_readFormula_3, K_readFormula_19, K_readFormula_21, K_readFormula_20, K_readFormula_17, K_readFormula_31, K_readFormula_33, K_readFormula_36, K_readFormula_35, K_readFormula_34, K_readFormula_32, K_readFormula_30, K_readFormula_28, K_readFormula_37, K_readFormula_29, K_readFormula_27, K_readFormula_25, K_readFormula_38, K_readFormula_26, K_readFormula_24, K_readFormula_22, K_readFormula_39, K_readFormula_23, K_readFormula_18, K_readFormula_11, K_readFormula_14, K_readFormula_16, K_readFormula_15, K_readFormula_13, K_readFormula_12, K_readFormula_10, K_readFormula_4, K_readFormula_2, K_readFormula_1, M_readFormula]
  simp only [if_neg (by omega : ¬ 400 < i.toInt), if_pos q, if_neg m, if_neg w]
theorem C_op (q : fl.toInt = 0) (a : i.toInt ≤ 400) (m : more.toInt ≠ 0) (w : want.toInt = 0) (c : kd.toInt = 3) (v : vl.toInt = 38 ∨ vl.toInt = 124) (k : Nat) : K_readFormula_L2 n f (k + 1) i more want rf pl kd fr vl dep fl fp = (fun t => K_readFormula_L2 n f k (i + 1) more 1 rf t.1 t.2.1 t.2.2.1 t.2.2.2.1 dep t.2.2.2.2.1 t.2.2.2.2.2) (M_step n f fl fp kd pl) := by
  have z38 : (38 : Int32).toInt = 38 := by decide
  have z124 : (124 : Int32).toInt = 124 := by decide
  simp only [K_readFormula_L2, K_readFormula_7, K_readFormula_9, K_readFormula_8, K_readFormula_6, K_readFormula_5, K_readFormula_3, K_readFormula_19, K_readFormula_21, K_readFormula_20, K_readFormula_17, K_readFormula_31, K_readFormula_33, K_readFormula_36, K_readFormula_35, K_readFormula_34, K_readFormula_32, K_readFormula_30, K_readFormula_28, K_readFormula_37, K_readFormula_29, K_readFormula_27, K_readFormula_25, K_readFormula_38, K_readFormula_26, K_readFormula_24, K_readFormula_22, K_readFormula_39, K_readFormula_23, K_readFormula_18, K_readFormula_11, K_readFormula_14, K_readFormula_16, K_readFormula_15, K_readFormula_13, K_readFormula_12, K_readFormula_10, K_readFormula_4, K_readFormula_2, K_readFormula_1, M_readFormula]
  simp only [if_neg (by omega : ¬ 400 < i.toInt), if_pos q, if_neg m, if_pos w]
  by_cases v1 : vl.toInt = 38
  · have e : ¬ (M_isSign kd vl 38).toInt = 0 := by rw [t_isSign, if_pos ⟨c, by omega⟩]; decide
    simp only [if_neg e]
  · have e : (M_isSign kd vl 38).toInt = 0 := by rw [t_isSign, if_neg (by omega)]; decide
    have e2 : ¬ (M_isSign kd vl 124).toInt = 0 := by rw [t_isSign, if_pos ⟨c, by omega⟩]; decide
    simp only [if_pos e, if_neg e2]
theorem C_right (q : fl.toInt = 0) (a : i.toInt ≤ 400) (m : more.toInt ≠ 0) (w : want.toInt = 0) (c : kd.toInt = 3) (v : vl.toInt = 41) (d : 0 < dep.toInt) (k : Nat) : K_readFormula_L2 n f (k + 1) i more want rf pl kd fr vl dep fl fp = (fun t => K_readFormula_L2 n f k (i + 1) more want rf t.1 t.2.1 t.2.2.1 t.2.2.2.1 (dep - 1) t.2.2.2.2.1 t.2.2.2.2.2) (M_step n f fl fp kd pl) := by
  have z38 : (38 : Int32).toInt = 38 := by decide
  have z124 : (124 : Int32).toInt = 124 := by decide
  have z41 : (41 : Int32).toInt = 41 := by decide
  simp only [K_readFormula_L2, K_readFormula_7, K_readFormula_9, K_readFormula_8, K_readFormula_6, K_readFormula_5, K_readFormula_3, K_readFormula_19, K_readFormula_21, K_readFormula_20, K_readFormula_17, K_readFormula_31, K_readFormula_33, K_readFormula_36, K_readFormula_35, K_readFormula_34, K_readFormula_32, K_readFormula_30, K_readFormula_28, K_readFormula_37, K_readFormula_29, K_readFormula_27, K_readFormula_25, K_readFormula_38, K_readFormula_26, K_readFormula_24, K_readFormula_22, K_readFormula_39, K_readFormula_23, K_readFormula_18, K_readFormula_11, K_readFormula_14, K_readFormula_16, K_readFormula_15, K_readFormula_13, K_readFormula_12, K_readFormula_10, K_readFormula_4, K_readFormula_2, K_readFormula_1, M_readFormula, t_close]
  have e : (M_isSign kd vl 38).toInt = 0 := by rw [t_isSign, if_neg (by omega)]; decide
  have e2 : (M_isSign kd vl 124).toInt = 0 := by rw [t_isSign, if_neg (by omega)]; decide
  have e3 : ¬ (M_isSign kd vl 41).toInt = 0 := by rw [t_isSign, if_pos ⟨c, by omega⟩]; decide
  simp only [if_neg (by omega : ¬ 400 < i.toInt), if_pos q, if_neg m, if_pos w, if_pos e, if_pos e2, if_neg e3, if_neg (by omega : ¬ dep.toInt ≤ 0)]
theorem C_no (q : fl.toInt = 0) (a : i.toInt ≤ 400) (m : more.toInt ≠ 0) (w : want.toInt = 0) (h : ¬ (kd.toInt = 3 ∧ (vl.toInt = 38 ∨ vl.toInt = 124 ∨ (vl.toInt = 41 ∧ 0 < dep.toInt)))) (k : Nat) : K_readFormula_L2 n f (k + 1) i more want rf pl kd fr vl dep fl fp = K_readFormula_L2 n f k (i + 1) 0 want rf pl kd fr vl dep fl fp := by
  have z38 : (38 : Int32).toInt = 38 := by decide
  have z124 : (124 : Int32).toInt = 124 := by decide
  have z41 : (41 : Int32).toInt = 41 := by decide
  simp only [K_readFormula_L2, K_readFormula_7, K_readFormula_9, K_readFormula_8, K_readFormula_6, K_readFormula_5, K_readFormula_3, K_readFormula_19, K_readFormula_21, K_readFormula_20, K_readFormula_17, K_readFormula_31, K_readFormula_33, K_readFormula_36, K_readFormula_35, K_readFormula_34, K_readFormula_32, K_readFormula_30, K_readFormula_28, K_readFormula_37, K_readFormula_29, K_readFormula_27, K_readFormula_25, K_readFormula_38, K_readFormula_26, K_readFormula_24, K_readFormula_22, K_readFormula_39, K_readFormula_23, K_readFormula_18, K_readFormula_11, K_readFormula_14, K_readFormula_16, K_readFormula_15, K_readFormula_13, K_readFormula_12, K_readFormula_10, K_readFormula_4, K_readFormula_2, K_readFormula_1, M_readFormula]
  have e : (M_isSign kd vl 38).toInt = 0 := by rw [t_isSign, if_neg (by omega)]; decide
  have e2 : (M_isSign kd vl 124).toInt = 0 := by rw [t_isSign, if_neg (by omega)]; decide
  simp only [if_neg (by omega : ¬ 400 < i.toInt), if_pos q, if_neg m, if_pos w, if_pos e, if_pos e2]
  by_cases e3 : (M_isSign kd vl 41).toInt = 0
  · simp only [if_pos e3]
  · have e4 : dep.toInt ≤ 0 := by
      rw [t_isSign] at e3
      by_cases z : kd.toInt = 3 ∧ vl.toInt = (41 : Int32).toInt
      · omega
      · rw [if_neg z] at e3
        exact absurd (by decide) e3
    simp only [if_neg e3, if_pos e4]
theorem C_last (q : fl.toInt = 0) (a : i.toInt ≤ 400) (m : more.toInt ≠ 0) (w : want.toInt = 0) (h : ¬ (kd.toInt = 3 ∧ (vl.toInt = 38 ∨ vl.toInt = 124 ∨ (vl.toInt = 41 ∧ 0 < dep.toInt)))) (k : Nat) : K_readFormula_L2 n f (k + 2) i more want rf pl kd fr vl dep fl fp = if dep.toInt ≤ 0 then (pl, kd, fr, vl, dep, fl, fp, rf) else (pl, kd, fr, vl, dep, 2, fr, rf) :=
  (C_no q a m w h (k + 1)).trans (C_stop q (by decide) k)
theorem U_left (q : fl.toInt = 0) (c : kd.toInt = 3) (v : vl.toInt = 40) (d : dep.toInt < 6) : M_takeUnit kd pl fr vl dep rf fl fp n f = (fun t => (1, t.1, t.2.1, t.2.2.1, t.2.2.2.1, dep + 1, t.2.2.2.2.1, t.2.2.2.2.2, rf)) (M_step n f fl fp kd pl) := by
  have z40 : (40 : Int32).toInt = 40 := by decide
  have e : ¬ (M_isSign kd vl 40).toInt = 0 := by rw [t_isSign, if_pos ⟨c, by omega⟩]; decide
  simp only [K_takeUnit_17, K_takeUnit_12, K_takeUnit_16, K_takeUnit_15, K_takeUnit_14, K_takeUnit_13, K_takeUnit_11, K_takeUnit_10, K_takeUnit_8, K_takeUnit_18, K_takeUnit_9, K_takeUnit_7, K_takeUnit_5, K_takeUnit_19, K_takeUnit_6, K_takeUnit_3, K_takeUnit_22, K_takeUnit_20, K_takeUnit_23, K_takeUnit_21, K_takeUnit_4, K_takeUnit_2, K_takeUnit_1, M_takeUnit]
  simp only [if_neg e, if_pos d]
theorem U_deep (q : fl.toInt = 0) (c : kd.toInt = 3) (v : vl.toInt = 40) (d : 6 ≤ dep.toInt) : M_takeUnit kd pl fr vl dep rf fl fp n f = (1, pl, kd, fr, vl, dep, 5, fr, rf) := by
  have z40 : (40 : Int32).toInt = 40 := by decide
  have e : ¬ (M_isSign kd vl 40).toInt = 0 := by rw [t_isSign, if_pos ⟨c, by omega⟩]; decide
  simp only [K_takeUnit_17, K_takeUnit_12, K_takeUnit_16, K_takeUnit_15, K_takeUnit_14, K_takeUnit_13, K_takeUnit_11, K_takeUnit_10, K_takeUnit_8, K_takeUnit_18, K_takeUnit_9, K_takeUnit_7, K_takeUnit_5, K_takeUnit_19, K_takeUnit_6, K_takeUnit_3, K_takeUnit_22, K_takeUnit_20, K_takeUnit_23, K_takeUnit_21, K_takeUnit_4, K_takeUnit_2, K_takeUnit_1, M_takeUnit, t_refuse q]
  simp only [if_neg e, if_neg (by omega : ¬ dep.toInt < 6)]
theorem U_other (q : fl.toInt = 0) (c : ¬ (kd.toInt = 3 ∧ vl.toInt = 40)) (c1 : ¬ kd.toInt = 1) : M_takeUnit kd pl fr vl dep rf fl fp n f = (0, pl, kd, fr, vl, dep, 2, fr, rf) := by
  have z40 : (40 : Int32).toInt = 40 := by decide
  have e : (M_isSign kd vl 40).toInt = 0 := by rw [t_isSign, if_neg (by omega)]; decide
  simp only [K_takeUnit_17, K_takeUnit_12, K_takeUnit_16, K_takeUnit_15, K_takeUnit_14, K_takeUnit_13, K_takeUnit_11, K_takeUnit_10, K_takeUnit_8, K_takeUnit_18, K_takeUnit_9, K_takeUnit_7, K_takeUnit_5, K_takeUnit_19, K_takeUnit_6, K_takeUnit_3, K_takeUnit_22, K_takeUnit_20, K_takeUnit_23, K_takeUnit_21, K_takeUnit_4, K_takeUnit_2, K_takeUnit_1, M_takeUnit, t_refuse q]
  simp only [if_pos e, if_neg c1]
theorem U_key (c1 : kd.toInt = 1) (w : xW6 f fr pl) : M_takeUnit kd pl fr vl dep rf fl fp n f = (fun t => (0, t.1, t.2.1, t.2.2.1, t.2.2.2.1, dep, t.2.2.2.2.1, t.2.2.2.2.2, rf)) (M_step n f fl fp kd pl) := by
  have e : (M_isSign kd vl 40).toInt = 0 := by rw [t_isSign, if_neg (by omega)]; decide
  have i6 : ¬ (M_isWord kd pl fr 3 f 6).toInt = 0 := by rw [w_key, if_pos ⟨c1, w⟩]; decide
  simp only [K_takeUnit_17, K_takeUnit_12, K_takeUnit_16, K_takeUnit_15, K_takeUnit_14, K_takeUnit_13, K_takeUnit_11, K_takeUnit_10, K_takeUnit_8, K_takeUnit_18, K_takeUnit_9, K_takeUnit_7, K_takeUnit_5, K_takeUnit_19, K_takeUnit_6, K_takeUnit_3, K_takeUnit_22, K_takeUnit_20, K_takeUnit_23, K_takeUnit_21, K_takeUnit_4, K_takeUnit_2, K_takeUnit_1, M_takeUnit]
  simp only [if_pos e, if_pos c1, if_neg i6]
theorem t_railN {f : Nat → Int32} {pl fr : Int32} : M_railNamed pl fr f = if pl.toInt - fr.toInt = 1 then (if 0 ≤ (f fr.toNatClampNeg - 97).toInt ∧ (f fr.toNatClampNeg - 97).toInt ≤ 7 then f fr.toNatClampNeg - 97 else -4) else -4 := by
  simp only [K_railNamed_4, K_railNamed_6, K_railNamed_7, K_railNamed_5, K_railNamed_2, K_railNamed_3, K_railNamed_1, M_railNamed]
  by_cases q : pl.toInt - fr.toInt = 1
  · simp only [if_pos q]
    by_cases a : 0 ≤ (f fr.toNatClampNeg - 97).toInt ∧ (f fr.toNatClampNeg - 97).toInt ≤ 7
    · rw [if_pos a]
      split <;> (try split) <;> first | rfl | omega
    · rw [if_neg a]
      split <;> (try split) <;> first | rfl | omega
  · simp only [if_neg q]
end
