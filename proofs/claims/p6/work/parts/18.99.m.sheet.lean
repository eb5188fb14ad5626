/-- the rows of the four places -/
def ysc (c0 c1 c2 c3 : Nat → Int32) : Nat → (Nat → Int32)
  | 0 => c0
  | 1 => c1
  | 2 => c2
  | _ => c3
/-- the sheets: one on both sides -/
def ySh (szs sl : Nat → Int32) (sc : Nat → (Nat → Int32)) (lanes sizes cells : Nat → Int32) : Prop := ∀ k, k < 4 → (szs k = -4 ∧ lanes k = -4) ∨ ((szs k).toInt ≠ -4 ∧ (lanes k).toInt ≠ -4 ∧ szs k = sizes k ∧ sl k = lanes k ∧ 0 ≤ (szs k).toInt ∧ (szs k).toInt ≤ 40 ∧ ∀ j, j < 40 → sc k j = cells (40 * k + j))
theorem y_abs {v : Int32} (h1 : -100000 ≤ v.toInt) : (if 0 ≤ v then v else 0 - v) = if 0 ≤ v.toInt then v else -v := by
  have z0 : (0 : Int32).toInt = 0 := by decide
  have l : (0 : Int32) ≤ v ↔ 0 ≤ v.toInt := by
    rw [Int32.le_iff_toInt_le, z0]
  by_cases c : 0 ≤ v.toInt
  · rw [if_pos (l.mpr c), if_pos c]
  · rw [if_neg (fun z => c (l.mp z)), if_neg c, Int32.zero_sub]
theorem y_idx {f : Int32} {t : Nat} (ht : t ≤ 100) : (f + nI t).toInt = f.toInt + (t : Int) ∨ ((f + nI t).toInt < 0 ∧ 2147483648 ≤ f.toInt + (t : Int)) := by
  have et : (nI t).toInt = (t : Int) := nI_toInt (by omega)
  have lo := Int32.le_toInt f
  have hi := Int32.toInt_lt f
  by_cases o : f.toInt + (t : Int) < 2147483648
  · exact Or.inl (xadd rfl et (by omega) (by omega))
  · refine Or.inr ⟨?_, by omega⟩
    have e : (f + nI t).toInt = (f.toInt + (nI t).toInt).bmod (2 ^ 32) := Int32.toInt_add f (nI t)
    rw [e, et, Int.bmod_def]
    split <;> omega
theorem cs_un {n w f cup sa fo ap : Int32} {szs c0 c1 c2 c3 fg fr pn D3 : Nat → Int32} {q k t : Nat} (hk : k < 4) (ht : t ≤ 100) (hD : M_drawnAt (nI q) (nI t) fg fr pn cup = D3 t) (j : Nat) : K_compareSheet_L2 n w f szs (nI k) c0 (nI q) fg fr pn cup c1 c2 c3 (j + 1) (nI t) ap fo sa = if n.toInt ≤ (nI t).toInt then (if w.toInt = 0 then sa else if w.toInt = 1 then fo else ap) else if (f + nI t).toInt < 0 then -12 else if (f + nI t).toInt < (szs k).toInt then (if (ysc c0 c1 c2 c3 k (f + nI t).toNatClampNeg).toInt < 0 then -20 - nI t else if (ysc c0 c1 c2 c3 k (f + nI t).toNatClampNeg).toInt ≤ 9999 then (if (if 0 ≤ (ysc c0 c1 c2 c3 k (f + nI t).toNatClampNeg - D3 t) then (ysc c0 c1 c2 c3 k (f + nI t).toNatClampNeg - D3 t) else 0 - (ysc c0 c1 c2 c3 k (f + nI t).toNatClampNeg - D3 t)).toInt = 0 then K_compareSheet_L2 n w f szs (nI k) c0 (nI q) fg fr pn cup c1 c2 c3 j (nI (t + 1)) (ap + (if 0 ≤ (ysc c0 c1 c2 c3 k (f + nI t).toNatClampNeg - D3 t) then (ysc c0 c1 c2 c3 k (f + nI t).toNatClampNeg - D3 t) else 0 - (ysc c0 c1 c2 c3 k (f + nI t).toNatClampNeg - D3 t))) fo (sa + 1) else if fo.toInt = -4 then K_compareSheet_L2 n w f szs (nI k) c0 (nI q) fg fr pn cup c1 c2 c3 j (nI (t + 1)) (ap + (if 0 ≤ (ysc c0 c1 c2 c3 k (f + nI t).toNatClampNeg - D3 t) then (ysc c0 c1 c2 c3 k (f + nI t).toNatClampNeg - D3 t) else 0 - (ysc c0 c1 c2 c3 k (f + nI t).toNatClampNeg - D3 t))) (nI t) sa else K_compareSheet_L2 n w f szs (nI k) c0 (nI q) fg fr pn cup c1 c2 c3 j (nI (t + 1)) (ap + (if 0 ≤ (ysc c0 c1 c2 c3 k (f + nI t).toNatClampNeg - D3 t) then (ysc c0 c1 c2 c3 k (f + nI t).toNatClampNeg - D3 t) else 0 - (ysc c0 c1 c2 c3 k (f + nI t).toNatClampNeg - D3 t))) fo sa) else -20 - nI t) else -12 := by
  have kc : (nI k).toNatClampNeg = k := nI_clamp (by omega)
  simp only [K_compareSheet_L2, K_compareSheet_6, K_compareSheet_8, K_compareSheet_7, K_compareSheet_5, K_compareSheet_3, K_compareSheet_9, K_compareSheet_15, K_compareSheet_21, K_compareSheet_23, K_compareSheet_22, K_compareSheet_20, K_compareSheet_19, K_compareSheet_17, K_compareSheet_18, K_compareSheet_16, K_compareSheet_13, K_compareSheet_26, K_compareSheet_32, K_compareSheet_34, K_compareSheet_33, K_compareSheet_31, K_compareSheet_30, K_compareSheet_28, K_compareSheet_29, K_compareSheet_27, K_compareSheet_24, K_compareSheet_37, K_compareSheet_43, K_compareSheet_45, K_compareSheet_44, K_compareSheet_42, K_compareSheet_41, K_compareSheet_39, K_compareSheet_40, K_compareSheet_38, K_compareSheet_35, K_compareSheet_46, K_compareSheet_52, K_compareSheet_54, K_compareSheet_53, K_compareSheet_51, K_compareSheet_50, K_compareSheet_48, K_compareSheet_49, K_compareSheet_47, K_compareSheet_36, K_compareSheet_25, K_compareSheet_14, K_compareSheet_11, K_compareSheet_12, K_compareSheet_10, K_compareSheet_4, K_compareSheet_2, K_compareSheet_1, M_compareSheet, kc]
  rw [hD, nI_1]
  match k, hk with
  | 0, _ =>
    rw [if_pos (show (nI 0).toInt = 0 from by decide)]
    rfl
  | 1, _ =>
    rw [if_neg (show ¬ (nI 1).toInt = 0 from by decide), if_pos (show (nI 1).toInt = 1 from by decide)]
    rfl
  | 2, _ =>
    rw [if_neg (show ¬ (nI 2).toInt = 0 from by decide), if_neg (show ¬ (nI 2).toInt = 1 from by decide), if_pos (show (nI 2).toInt = 2 from by decide)]
    rfl
  | 3, _ =>
    rw [if_neg (show ¬ (nI 3).toInt = 0 from by decide), if_neg (show ¬ (nI 3).toInt = 1 from by decide), if_neg (show ¬ (nI 3).toInt = 2 from by decide)]
    rfl
theorem ms2_in {w f cup up : Int32} {szs c0 c1 c2 c3 sizes cells fg fr pn Td Fm Fg By Fw D3 : Nat → Int32} {q k n : Nat} (hk : k < 4) (n40 : n ≤ 40) (hD : ∀ t, t ≤ 1000 → M_drawnAt (nI q) (nI t) fg fr pn cup = D3 t ∧ M_m_drawnAt (nI q) Td (nI t) Fg Fm Fw = D3 t ∧ 0 ≤ (D3 t).toInt ∧ (D3 t).toInt ≤ 4088) (e1 : szs k = sizes k) (e2 : (szs k).toInt ≤ 40) (e3 : ∀ j, j < 40 → ysc c0 c1 c2 c3 k j = cells (40 * k + j)) : ∀ (m t kk : Nat) (ap fo sa : Int32), t + m = n → K_compareSheet_L2 (nI n) w f szs (nI k) c0 (nI q) fg fr pn cup c1 c2 c3 (kk + m + 1) (nI t) ap fo sa = (K_m_measured_L13 (nI n) w up Fm Fg By Fw f sizes (nI k) cells (nI q) Td (kk + m + 1) (nI t) ap fo sa).1 := by
  have en : (nI n).toInt = (n : Int) := nI_toInt (by omega)
  have kc : (nI k).toNatClampNeg = k := nI_clamp (by omega)
  intro m
  induction m with
  | zero =>
    intro t kk ap fo sa ht
    have et : (nI t).toInt = (t : Int) := nI_toInt (by omega)
    rw [show kk + 0 + 1 = kk + 1 from rfl, cs_un hk (by omega) (hD t (by omega)).1, if_pos (by omega)]
    simp only [K_m_measured_L13, K_m_measured_13, K_m_measured_14, K_m_measured_16, K_m_measured_17, K_m_measured_18, K_m_measured_19]
    rw [if_pos (show (nI n).toInt ≤ (nI t).toInt by omega)]
    by_cases a : w.toInt = 0
    · rw [if_pos a, if_pos a]
    · rw [if_neg a, if_neg a]
      by_cases b : w.toInt = 1
      · rw [if_pos b, if_pos b]
      · rw [if_neg b, if_neg b]
  | succ m ih =>
    intro t kk ap fo sa ht
    have et : (nI t).toInt = (t : Int) := nI_toInt (by omega)
    obtain ⟨d1, d2, d3, d4⟩ := hD t (by omega)
    have i9 := fun ap fo sa => ih (t + 1) kk ap fo sa (by omega)
    show K_compareSheet_L2 (nI n) w f szs (nI k) c0 (nI q) fg fr pn cup c1 c2 c3 ((kk + m + 1) + 1) (nI t) ap fo sa = (K_m_measured_L13 (nI n) w up Fm Fg By Fw f sizes (nI k) cells (nI q) Td ((kk + m + 1) + 1) (nI t) ap fo sa).1
    generalize kk + m + 1 = j at i9 ⊢
    rw [cs_un hk (by omega) d1, if_neg (by omega)]
    have r1 : K_m_measured_L13 (nI n) w up Fm Fg By Fw f sizes (nI k) cells (nI q) Td (j + 1) (nI t) ap fo sa = K_m_measured_15 f (nI t) up Fm Fg By Fw sizes (nI k) cells (K_m_measured_L13 (nI n) w up Fm Fg By Fw f sizes (nI k) cells (nI q) Td j) ap fo sa (nI q) Td := by
      simp only [K_m_measured_L13, K_m_measured_13]
      rw [if_neg (by omega)]
    rw [r1]
    by_cases i1 : 0 ≤ f.toInt + (t : Int) ∧ f.toInt + (t : Int) < (szs k).toInt
    · have ei : (f + nI t).toInt = f.toInt + (t : Int) := xadd rfl et (by omega) (by omega)
      have inn := xtn (x := f + nI t) (by omega)
      have es : nI (f + nI t).toNatClampNeg = f + nI t := xnI (by omega)
      have lx : (f.toInt64 + (nI t).toInt64).toInt32 = f + nI t := by
        rw [Int64.toInt32_add, Int32.toInt32_toInt64, Int32.toInt32_toInt64]
      have ix : ((40 : Int32) * nI k + (f + nI t)).toNatClampNeg = 40 * k + (f + nI t).toNatClampNeg := by
        rw [← es, show (40 : Int32) * nI k = nI (40 * k) from pk_mul 40 k, nI_add, nI_clamp (by omega), nI_clamp (by omega)]
      have ec := e3 (f + nI t).toNatClampNeg (by omega)
      rw [if_neg (by omega), if_pos (by omega), ec]
      simp only [K_m_measured_15, K_m_measured_21, K_m_measured_22, kc]
      rw [if_neg (show ¬ f.toInt + (nI t).toInt < 0 by omega), if_pos (show f.toInt + (nI t).toInt < (sizes k).toInt by rw [← e1]; omega), lx, ix]
      generalize cells (40 * k + (f + nI t).toNatClampNeg) = c
      by_cases b : 0 ≤ c.toInt ∧ c.toInt ≤ 9999
      · rw [if_neg (show ¬ c.toInt < 0 by omega), if_pos b.2, if_pos b]
        have ev : (c - D3 t).toInt = c.toInt - (D3 t).toInt := xsub rfl rfl (by omega) (by omega)
        have n0 : (-(c - D3 t)).toInt = 0 ↔ (c - D3 t).toInt = 0 := by
          have z : (0 - (c - D3 t)).toInt = 0 - (c - D3 t).toInt := xsub (by decide) rfl (by omega) (by omega)
          rw [Int32.zero_sub] at z
          omega
        simp only [K_m_measured_24, K_m_measured_26, K_m_measured_27, K_m_measured_28, K_m_measured_29, K_m_measured_30, K_m_measured_31, K_m_measured_32, K_m_measured_33, K_m_measured_34, K_m_measured_35, K_m_measured_36]
        rw [d2, y_abs (by omega), nI_1, xadd0]
        generalize c - D3 t = v at ev n0
        by_cases z : v.toInt = 0
        · rw [if_pos (show 0 ≤ v.toInt by omega), if_pos z, if_pos z]
          exact i9 _ _ _
        · rw [if_neg z, if_neg z]
          by_cases g : 0 ≤ v.toInt
          · rw [if_pos g, if_neg z]
            by_cases fo4 : fo.toInt = -4
            · rw [if_pos fo4, if_pos fo4, if_pos g]
              exact i9 _ _ _
            · rw [if_neg fo4, if_neg fo4, if_pos g]
              exact i9 _ _ _
          · rw [if_neg g, if_neg (fun y => z (n0.mp y))]
            by_cases fo4 : fo.toInt = -4
            · rw [if_pos fo4, if_pos fo4, if_neg g]
              exact i9 _ _ _
            · rw [if_neg fo4, if_neg fo4, if_neg g]
              exact i9 _ _ _
      · rw [if_neg b]
        simp only [K_m_measured_25]
        by_cases g : c.toInt < 0
        · rw [if_pos g]
        · rw [if_neg g, if_neg (by omega)]
    · have lhs : (f + nI t).toInt < 0 ∨ (szs k).toInt ≤ (f + nI t).toInt := by
        rcases y_idx (f := f) (t := t) (by omega) with a | a
        · omega
        · exact Or.inl a.1
      simp only [K_m_measured_15, K_m_measured_20, K_m_measured_21, K_m_measured_23, kc]
      rw [et]
      have rhs : (f.toInt + (t : Int) < 0) ∨ (¬ f.toInt + (t : Int) < 0 ∧ ¬ f.toInt + (t : Int) < (sizes k).toInt) := by
        rw [← e1]
        omega
      rcases rhs with a | ⟨a1, a2⟩
      · rw [if_pos a]
        rcases lhs with b | b
        · rw [if_pos b]
        · by_cases b2 : (f + nI t).toInt < 0
          · rw [if_pos b2]
          · rw [if_neg b2, if_neg (by omega)]
      · rw [if_neg a1, if_neg a2]
        rcases lhs with b | b
        · rw [if_pos b]
        · by_cases b2 : (f + nI t).toInt < 0
          · rw [if_pos b2]
          · rw [if_neg b2, if_neg (by omega)]
/-- measured: one on both sides -/
theorem x_meas_eq {pn Td Nm Tb fw ft Fw By fr fg Fm Fg D rt K szs sl c0 c1 c2 c3 lanes sizes cells : Nat → Int32} {pt : Nat → Int64} {q : Nat} {d a0 a1 a2 a3 a4 cup cl up : Int32} (q8 : q ≤ 8) (hE : xE true q pn pt Td Nm Tb) (hd : xDd d D) (hn : ∀ j, j < 64 → 0 ≤ (pn j).toInt ∧ (pn j).toInt ≤ 511) (hk : ∀ j, j < q → rt j = K j ∧ 1 ≤ (K j).toInt ∧ (K j).toInt ≤ 9) (hs : ySh szs sl (ysc c0 c1 c2 c3) lanes sizes cells) : (M_x_measured a0 a1 a3 cup cl fw ft fr fg a4 szs sl a2 c0 (nI q) pn c1 c2 c3 pt d rt).1 = (M_m_measured a0 a1 a3 a4 lanes a2 sizes cells (nI q) Td Tb Fm Fg D K By Fw up).1 := by
  have m4 : (-4 : Int32).toInt = -4 := by decide
  simp only [K_x_measured_6, K_x_measured_8, K_x_measured_10, K_x_measured_15, K_x_measured_19, K_x_measured_18, K_x_measured_16, K_x_measured_17, K_x_measured_14, K_x_measured_12, K_x_measured_13, K_x_measured_11, K_x_measured_9, K_x_measured_7, K_x_measured_4, K_x_measured_5, K_x_measured_3, K_x_measured_2, K_x_measured_1, M_x_measured]
  simp only [K_m_measured_12, K_m_measured_11, K_m_measured_10, K_m_measured_8, K_m_measured_38, K_m_measured_37, K_m_measured_9, K_m_measured_6, K_m_measured_7, K_m_measured_5, K_m_measured_4, K_m_measured_3, K_m_measured_2, K_m_measured_1, M_m_measured]
  by_cases c1' : 0 ≤ a0.toInt ∧ a0.toInt < 4
  · rw [if_pos c1']
    have an := xtn (x := a0) c1'.1
    have ea : nI a0.toNatClampNeg = a0 := xnI c1'.1
    by_cases c2' : 0 ≤ a1.toInt ∧ a1.toInt ≤ 2
    · rw [if_pos c2', if_pos (show (0 ≤ a0.toInt ∧ a0.toInt ≤ 3) ∧ 0 ≤ a1.toInt ∧ a1.toInt ≤ 2 from ⟨by omega, c2'⟩)]
      by_cases c3' : 0 ≤ a3.toInt ∧ a3.toInt ≤ 40
      · rw [if_neg (by omega), if_neg (by omega), if_pos c3']
        by_cases c4 : 0 ≤ a4.toInt ∧ a4.toInt ≤ 2
        · rw [if_neg (by omega), if_pos c4.2, if_pos c4]
          rcases hs a0.toNatClampNeg (by omega) with ⟨s1, s2⟩ | ⟨s1, s2, s3, s4, s5, s6, s7⟩
          · rw [s1, s2, if_pos m4, if_neg (by omega), if_pos m4]
          · rw [if_neg s1, s4]
            by_cases l : (lanes a0.toNatClampNeg).toInt = a1.toInt
            · rw [if_pos l, if_pos l]
              obtain ⟨L, D3, P2, fr', fg', F, G, f1, f2, -, f4, -, -⟩ := y_now (fw := fw) (ft := ft) (Fw := Fw) (By := By) (fr := fr) (fg := fg) (Fm := Fm) (Fg := Fg) q8 hE hd hn hk
              rw [f1, f2]
              dsimp only
              have a3n := xtn (x := a3) c3'.1
              have e3 : nI a3.toNatClampNeg = a3 := xnI c3'.1
              have z := ms2_in (w := a4) (f := a2) (up := nI (yX q pt d)) (szs := szs) (c0 := c0) (c1 := c1) (c2 := c2) (c3 := c3) (sizes := sizes) (cells := cells) (By := M_m_setTimes (nI q) 0 K Td By) (k := a0.toNatClampNeg) (n := a3.toNatClampNeg) (by omega) (by omega) f4 s3 s6 s7 a3.toNatClampNeg 0 (99999 - a3.toNatClampNeg) 0 (-4) 0 (by omega)
              rw [show 99999 - a3.toNatClampNeg + a3.toNatClampNeg + 1 = 100000 from by omega, e3, ea] at z
              exact z
            · rw [if_neg l, if_neg l, if_neg s2]
        · rw [if_neg c4]
          by_cases b : a4.toInt < 0
          · rw [if_pos b]
          · rw [if_neg b, if_neg (by omega)]
      · rw [if_neg c3']
        by_cases b : a3.toInt < 0
        · rw [if_pos b]
        · rw [if_neg b, if_pos (by omega)]
    · rw [if_neg c2', if_neg (fun z => c2' z.2)]
  · rw [if_neg c1', if_neg (fun z => c1' ⟨z.1.1, by omega⟩)]
/-- count: one on both sides -/
theorem x_count_eq {pn Td Nm Tb D szs lanes sizes : Nat → Int32} {pt : Nat → Int64} {wt : Bool} {q : Nat} {d a0 ysz mh tl tp : Int32} (q8 : q ≤ 8) (hE : xE wt q pn pt Td Nm Tb) (hd : xDd d D) (ht : xTD Td q) (hq : ∀ j, q ≤ j → j < 32 → xb d j = false) (e1 : ysz = mh) (e2 : tl = tp) (hs : (szs 0 = -4 ∧ lanes 0 = -4) ∨ ((lanes 0).toInt ≠ -4 ∧ szs 0 = sizes 0)) : M_x_count a0 (nI q) d ysz pn tl szs = M_m_count a0 (nI q) D mh Td tp lanes sizes := by
  subst e1
  subst e2
  have m4 : (-4 : Int32).toInt = -4 := by decide
  obtain ⟨W, w1, w2, w3, w4, w5⟩ := r_ways q8 hE ht
  have eP : (nI (yPz (fun _ => true) (ylo Td) (yhi Td) q)).toInt = ((yPz (fun _ => true) (ylo Td) (yhi Td) q : Nat) : Int) := nI_toInt (by omega)
  have eW : (nI W).toInt = (W : Int) := nI_toInt (by omega)
  have dl := xDb_lt (d := d) q8
  have db : d = nI (xDb q d) := xb_ext (fun r hr => by
    rw [xDb_b hr]
    by_cases z : r < q
    · simp [z]
    · rw [hq r (by omega) hr]
      simp)
  have ct : M_bitCount d = M_m_countOf (M_m_deadOnes (nI q) D) := by
    rw [r_dead hd q8]
    conv => lhs; rw [db]
    exact x_cnt ⟨xDb q d, dl⟩
  simp only [K_x_count_2, K_x_count_6, K_x_count_4, K_x_count_7, K_x_count_14, K_x_count_12, K_x_count_13, K_x_count_11, K_x_count_9, K_x_count_15, K_x_count_17, K_x_count_18, K_x_count_16, K_x_count_10, K_x_count_8, K_x_count_5, K_x_count_3, K_x_count_1, M_x_count, K_m_count_2, K_m_count_7, K_m_count_6, K_m_count_4, K_m_count_8, K_m_count_15, K_m_count_13, K_m_count_14, K_m_count_12, K_m_count_10, K_m_count_16, K_m_count_21, K_m_count_20, K_m_count_18, K_m_count_19, K_m_count_17, K_m_count_11, K_m_count_9, K_m_count_5, K_m_count_3, K_m_count_1, M_m_count]
  rw [ct, w1, w3]
  by_cases a0' : a0.toInt = 0
  · rw [if_pos a0', if_pos a0']
  · rw [if_neg a0', if_neg a0']
    by_cases a1' : a0.toInt = 1
    · rw [if_pos a1', if_pos a1']
    · rw [if_neg a1', if_neg a1']
      by_cases a2' : a0.toInt = 2
      · rw [if_pos a2', if_pos a2']
      · rw [if_neg a2', if_neg a2']
        by_cases a3' : a0.toInt = 3
        · rw [if_pos a3', if_pos a3']
          rcases w5 with ⟨w5, w6⟩ | ⟨w5, w6⟩
          · rw [if_pos (by omega), if_pos (by omega), w6]
          · rw [if_neg (by omega), if_neg (by omega)]
        · rw [if_neg a3', if_neg a3']
          by_cases a4' : a0.toInt = 4
          · rw [if_pos a4', if_pos a4']
          · rw [if_neg a4', if_neg a4']
            by_cases a5' : a0.toInt = 5
            · rw [if_pos a5', if_pos a5']
              rcases hs with ⟨s1, s2⟩ | ⟨s1, s2⟩
              · rw [s1, s2, if_pos m4]
              · rw [if_neg s1, s2]
            · rw [if_neg a5', if_neg a5']
