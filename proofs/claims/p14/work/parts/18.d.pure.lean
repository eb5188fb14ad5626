-- 75.when
def xof (a0 a1 a2 a3 a4 a5 a6 : Nat → Int64) : Nat → Nat → Int64
  | 0 => a0
  | 1 => a1
  | 2 => a2
  | 3 => a3
  | 4 => a4
  | 5 => a5
  | _ => a6
theorem c_x {f rf pn : Nat → Int32} {pt : Nat → Int64} {G A : Nat → Nat → Int64} {dep rails r n pl kd fr vl td fl fp : Int32} : K_readRail_L11 dep rf (G 0) (G 1) (G 2) (G 3) (G 4) (G 5) (G 6) (A 0) (A 1) (A 2) (A 3) (A 4) (A 5) (A 6) rails pt r n f 1 5 pl kd fr vl td fl fp pn = if fl.toInt = 0 then (@ite _ (kd.toInt = 1 ∧ xW1 f fr pl) (Classical.propDecidable _) ((fun S => (fun t => (t.1, t.2.1, t.2.2.1, t.2.2.2.1, td, t.2.2.2.2.1, t.2.2.2.2.2.1, t.2.2.2.2.2.2.1, t.2.2.2.2.2.2.2.1, t.2.2.2.2.2.2.2.2.1, t.2.2.2.2.2.2.2.2.2.1, t.2.2.2.2.2.2.2.2.2.2.1, t.2.2.2.2.2.2.2.2.2.2.2.1, t.2.2.2.2.2.2.2.2.2.2.2.2.1, t.2.2.2.2.2.2.2.2.2.2.2.2.2.1, t.2.2.2.2.2.2.2.2.2.2.2.2.2.2.1, t.2.2.2.2.2.2.2.2.2.2.2.2.2.2.2.1, t.2.2.2.2.2.2.2.2.2.2.2.2.2.2.2.2.1, t.2.2.2.2.2.2.2.2.2.2.2.2.2.2.2.2.2.1, t.2.2.2.2.2.2.2.2.2.2.2.2.2.2.2.2.2.2.1, t.2.2.2.2.2.2.2.2.2.2.2.2.2.2.2.2.2.2.2.1, t.2.2.2.2.2.2.2.2.2.2.2.2.2.2.2.2.2.2.2.2.1, t.2.2.2.2.2.2.2.2.2.2.2.2.2.2.2.2.2.2.2.2.2.1, rails, t.2.2.2.2.2.2.2.2.2.2.2.2.2.2.2.2.2.2.2.2.2.2.1, t.2.2.2.2.2.2.2.2.2.2.2.2.2.2.2.2.2.2.2.2.2.2.2)) (M_readFormula pt r n f rf (M_setNumber pn r 7 0) S.1 S.2.1 S.2.2.1 S.2.2.2.1 S.2.2.2.2.1 S.2.2.2.2.2 (G 1) (G 2) (G 3) (G 4) (G 5) (G 6) (A 1) (A 2) (A 3) (A 4) (A 5) (A 6) (A 0) (G 0))) (M_step n f fl fp kd pl)) (pl, kd, fr, vl, td, dep, fl, fp, rf, G 0, G 1, G 2, G 3, G 4, G 5, G 6, A 0, A 1, A 2, A 3, A 4, A 5, A 6, rails, pn, pt)) else (pl, kd, fr, vl, td, dep, fl, fp, rf, G 0, G 1, G 2, G 3, G 4, G 5, G 6, A 0, A 1, A 2, A 3, A 4, A 5, A 6, rails, pn, pt) := by
  simp only [K_readRail_L11, K_readRail_17, K_readRail_21, K_readRail_20, K_readRail_19, K_readRail_18, K_readRail_16, K_readRail_15, K_readRail_14, K_readRail_12, K_readRail_49, K_readRail_42, K_readRail_44, K_readRail_48, K_readRail_47, K_readRail_46, K_readRail_45, K_readRail_43, K_readRail_41, K_readRail_40, K_readRail_33, K_readRail_35, K_readRail_39, K_readRail_38, K_readRail_37, K_readRail_36, K_readRail_34, K_readRail_32, K_readRail_23, K_readRail_27, K_readRail_31, K_readRail_30, K_readRail_29, K_readRail_28, K_readRail_26, K_readRail_25, K_readRail_24, K_readRail_22, K_readRail_13, K_readRail_11, K_readRail_10, K_readRail_9, K_readRail_8, K_readRail_7, K_readRail_6, K_readRail_5, K_readRail_4, K_readRail_2, K_readRail_50, K_readRail_3, K_readRail_1, M_readRail]
  rw [if_pos (by decide : 4 < (5 : Int32).toInt)]
  by_cases q : fl.toInt = 0
  · rw [if_pos q, if_pos q]
    by_cases w : kd.toInt = 1 ∧ xW1 f fr pl
    · rw [if_neg (by rw [w_when, if_pos w]; decide), if_pos w]
    · rw [if_pos (by rw [w_when, if_neg w]; decide), if_neg w]
  · rw [if_neg q, if_neg q]
theorem m_x {f Td Tb P Nm c ur ua w : Nat → Int32} {n dr us nw dp ps mr so mv mf mw : Int32} (h : mf.toInt = 0 → so.toInt = 1 → (M_m_nameNow ps mr n f).toInt = 27) : K_m_readRail_L7 dr Tb P Nm n f us c ur ua w nw dp 1 0 Td ps mr so mv mf mw = if mf.toInt = 0 then (if so.toInt = 1 then (fun V => (fun t => if t.2.2.2.2.2.2.2.2.1.toInt = 0 then (fun z => (dr + 1, t.1, t.2.1, t.2.2.1, t.2.2.2.1, t.2.2.2.2.1, t.2.2.2.2.2.1, t.2.2.2.2.2.2.1, t.2.2.2.2.2.2.2.1, t.2.2.2.2.2.2.2.2.1, t.2.2.2.2.2.2.2.2.2.1, t.2.2.2.2.2.2.2.2.2.2.1, t.2.2.2.2.2.2.2.2.2.2.2.1, t.2.2.2.2.2.2.2.2.2.2.2.2.1, t.2.2.2.2.2.2.2.2.2.2.2.2.2, z.1, z.2.1, z.2.2, Td)) (M_m_keepFormula t.2.1 dr t.2.2.2.2.2.2.2.2.2.2.1 Tb P Nm) else (dr, t.1, t.2.1, t.2.2.1, t.2.2.2.1, t.2.2.2.2.1, t.2.2.2.2.2.1, t.2.2.2.2.2.2.1, t.2.2.2.2.2.2.2.1, t.2.2.2.2.2.2.2.2.1, t.2.2.2.2.2.2.2.2.2.1, t.2.2.2.2.2.2.2.2.2.2.1, t.2.2.2.2.2.2.2.2.2.2.2.1, t.2.2.2.2.2.2.2.2.2.2.2.2.1, t.2.2.2.2.2.2.2.2.2.2.2.2.2, Nm, Tb, P, Td)) (M_m_readFormula n f us c ur ua V.1 V.2.1 V.2.2.1 V.2.2.2.1 V.2.2.2.2.1 V.2.2.2.2.2 w)) (M_m_next mf mv mw n f ps mr so) else (fun z => (dr + 1, us, 1, nw, dp, ps, mr, so, mv, mf, mw, (upd c (0 : Int32).toNatClampNeg 8), w, ur, ua, z.1, z.2.1, z.2.2, Td)) (M_m_keepFormula 1 dr (upd c (0 : Int32).toNatClampNeg 8) Tb P Nm)) else (dr, us, 1, nw, dp, ps, mr, so, mv, mf, mw, (upd c (0 : Int32).toNatClampNeg 8), w, ur, ua, Nm, Tb, P, Td) := by
  simp only [K_m_readRail_L7, K_m_readRail_17, K_m_readRail_15, K_m_readRail_19, K_m_readRail_18, K_m_readRail_27, K_m_readRail_25, K_m_readRail_26, K_m_readRail_24, K_m_readRail_23, K_m_readRail_22, K_m_readRail_21, K_m_readRail_20, K_m_readRail_16, K_m_readRail_14, K_m_readRail_12, K_m_readRail_13, K_m_readRail_11, K_m_readRail_9, K_m_readRail_10, K_m_readRail_8, K_m_readRail_7, K_m_readRail_5, K_m_readRail_6, K_m_readRail_4, K_m_readRail_28, K_m_readRail_3, K_m_readRail_30, K_m_readRail_29, K_m_readRail_51, K_m_readRail_49, K_m_readRail_50, K_m_readRail_48, K_m_readRail_47, K_m_readRail_46, K_m_readRail_45, K_m_readRail_44, K_m_readRail_35, K_m_readRail_43, K_m_readRail_41, K_m_readRail_42, K_m_readRail_40, K_m_readRail_39, K_m_readRail_38, K_m_readRail_37, K_m_readRail_36, K_m_readRail_34, K_m_readRail_33, K_m_readRail_32, K_m_readRail_31, K_m_readRail_55, K_m_readRail_54, K_m_readRail_52, K_m_readRail_57, K_m_readRail_56, K_m_readRail_53, K_m_readRail_1, M_m_readRail, K_m_readWhen_11, K_m_readWhen_10, K_m_readWhen_9, K_m_readWhen_8, K_m_readWhen_7, K_m_readWhen_5, K_m_readWhen_6, K_m_readWhen_4, K_m_readWhen_3, K_m_readWhen_2, K_m_readWhen_1, M_m_readWhen]
  by_cases q : mf.toInt = 0
  · by_cases s : so.toInt = 1
    · have w1 := h q s
      simp only [if_pos q, if_pos s, if_pos w1]
      by_cases z : (M_m_readFormula n f us c ur ua (M_m_next mf mv mw n f ps mr so).1 (M_m_next mf mv mw n f ps mr so).2.1 (M_m_next mf mv mw n f ps mr so).2.2.1 (M_m_next mf mv mw n f ps mr so).2.2.2.1 (M_m_next mf mv mw n f ps mr so).2.2.2.2.1 (M_m_next mf mv mw n f ps mr so).2.2.2.2.2 w).2.2.2.2.2.2.2.2.1.toInt = 0
      · simp only [if_pos z]
      · simp only [if_neg z]
    · simp only [if_pos q, if_neg s]
  · simp only [if_neg q]
theorem f_R1 {f c ur ua w : Nat → Int32} {n us ps mr so mv mf mw : Int32} : M_m_readFormula n f us c ur ua ps mr so mv mf mw w = R1 n f 100000 100000 us 0 c ur ua 0 0 ps mr so mv mf mw w := by
  unfold R1 xGo
  simp only [K_m_readFormula_8, K_m_readFormula_7, K_m_readFormula_16, K_m_readFormula_15, K_m_readFormula_14, K_m_readFormula_10, K_m_readFormula_13, K_m_readFormula_12, K_m_readFormula_11, K_m_readFormula_9, K_m_readFormula_6, K_m_readFormula_17, K_m_readFormula_20, K_m_readFormula_30, K_m_readFormula_29, K_m_readFormula_28, K_m_readFormula_27, K_m_readFormula_22, K_m_readFormula_26, K_m_readFormula_25, K_m_readFormula_24, K_m_readFormula_23, K_m_readFormula_21, K_m_readFormula_19, K_m_readFormula_18, K_m_readFormula_5, K_m_readFormula_4, K_m_readFormula_3, K_m_readFormula_2, K_m_readFormula_1, M_m_readFormula]
  rfl
theorem f_C1 {f rf pn : Nat → Int32} {pt : Nat → Int64} {G A : Nat → Nat → Int64} {n r pl kd fr vl fl fp : Int32} : M_readFormula pt r n f rf pn pl kd fr vl fl fp (G 1) (G 2) (G 3) (G 4) (G 5) (G 6) (A 1) (A 2) (A 3) (A 4) (A 5) (A 6) (A 0) (G 0) = K_readFormula_L3 pt r n f 100000 0 1 1 rf pn pl kd fr vl (nI 0) fl fp (zst G 0 (M_fillJ 8 0 (G 0)) 0) (zst G 0 (M_fillJ 8 0 (G 0)) 1) (zst G 0 (M_fillJ 8 0 (G 0)) 2) (zst G 0 (M_fillJ 8 0 (G 0)) 3) (zst G 0 (M_fillJ 8 0 (G 0)) 4) (zst G 0 (M_fillJ 8 0 (G 0)) 5) (zst G 0 (M_fillJ 8 0 (G 0)) 6) (zst A 0 (M_fillJ 8 (-1) (A 0)) 0) (zst A 0 (M_fillJ 8 (-1) (A 0)) 1) (zst A 0 (M_fillJ 8 (-1) (A 0)) 2) (zst A 0 (M_fillJ 8 (-1) (A 0)) 3) (zst A 0 (M_fillJ 8 (-1) (A 0)) 4) (zst A 0 (M_fillJ 8 (-1) (A 0)) 5) (zst A 0 (M_fillJ 8 (-1) (A 0)) 6) := by
  simp only [K_readFormula_11, K_readFormula_9, K_readFormula_13, K_readFormula_12, K_readFormula_10, K_readFormula_7, K_readFormula_8, K_readFormula_6, K_readFormula_4, K_readFormula_28, K_readFormula_26, K_readFormula_30, K_readFormula_29, K_readFormula_27, K_readFormula_24, K_readFormula_40, K_readFormula_42, K_readFormula_45, K_readFormula_44, K_readFormula_43, K_readFormula_41, K_readFormula_39, K_readFormula_37, K_readFormula_47, K_readFormula_46, K_readFormula_38, K_readFormula_36, K_readFormula_34, K_readFormula_48, K_readFormula_35, K_readFormula_33, K_readFormula_31, K_readFormula_49, K_readFormula_32, K_readFormula_25, K_readFormula_15, K_readFormula_21, K_readFormula_19, K_readFormula_23, K_readFormula_22, K_readFormula_20, K_readFormula_17, K_readFormula_18, K_readFormula_16, K_readFormula_14, K_readFormula_5, K_readFormula_3, K_readFormula_2, K_readFormula_1, M_readFormula]
  rw [show M_openDepth 0 (G 1) (G 2) (G 3) (G 4) (G 5) (G 6) (A 1) (A 2) (A 3) (A 4) (A 5) (A 6) (A 0) (G 0) = _ from r_open (d := 0) (by decide) G A]
  rfl
theorem xcpy {g pt : Nat → Int64} {q i : Nat} (hq : q < 8) (hi : i < 8) : va_cpy g pt (0 : Int32).toNatClampNeg (nI q * 8).toNatClampNeg (8 : Int32).toNatClampNeg (8 * q + i) = g i := by
  have e0 : (0 : Int32).toNatClampNeg = 0 := by decide
  have e8 : (8 : Int32).toNatClampNeg = 8 := by decide
  have e1 : (nI q * 8).toNatClampNeg = 8 * q := by
    rw [show nI q * 8 = nI (q * 8) from pk_mul q 8, nI_clamp (by omega)]
    omega
  unfold va_cpy
  rw [e0, e8, e1, if_pos (by omega)]
  congr 1
  omega
theorem xcpy_o {g pt : Nat → Int64} {q j : Nat} (hq : q < 8) (hj : j < 8 * q ∨ 8 * q + 8 ≤ j) : va_cpy g pt (0 : Int32).toNatClampNeg (nI q * 8).toNatClampNeg (8 : Int32).toNatClampNeg j = pt j := by
  have e8 : (8 : Int32).toNatClampNeg = 8 := by decide
  have e1 : (nI q * 8).toNatClampNeg = 8 * q := by
    rw [show nI q * 8 = nI (q * 8) from pk_mul q 8, nI_clamp (by omega)]
    omega
  unfold va_cpy
  rw [e8, e1, if_neg (by omega)]
theorem xKn_q {q : Nat} (hq : q < 8) : xKn (nI q) = 8 * q + 7 := xi8 (k := 7) hq (by decide)
/-- what stands behind the withs: nothing, or when and a formula -/
theorem r_when {f rf ur ua pn c w Td Nm Tb P : Nat → Int32} {pt : Nat → Int64} {G A : Nat → Nat → Int64} {n dep rails us nw dp pl kd fr vl td fl fp ps mr so mv mf mw : Int32} {q : Nat} {b : Int} (hf : ∀ j, 0 ≤ (f j).toInt) (hn : n.toInt ≤ 400) (hq : q < 8) (h : xR n pl kd fr vl fl fp ps mr so mv mf mw) (he : ¬ fl.toInt = 0 ∨ ¬ kd.toInt = 1 ∨ xW1 f fr pl) (hu : fl.toInt = 0 → xUs rf us ur ua fr.toInt ∧ us.toInt ≤ fr.toInt ∧ b ≤ fr.toInt ∧ xE true q pn pt Td Nm Tb ∧ (∀ k, k < 7 → pn (8 * q + k) = Td (7 * q + k)) ∧ pn (8 * q + 7) = 256 ∧ xDf q pt ∧ 0 ≤ (Td (7 * q + 5)).toInt ∧ (Td (7 * q + 5)).toInt ≤ 9) :
    ∃ (pl' kd' fr' vl' dep' fl' fp' us' nc' nw' dp' ps' mr' so' mv' mf' mw' dr' : Int32) (rf' ur' ua' pn' c' w' Nm' Tb' P' : Nat → Int32) (pt' : Nat → Int64) (G' A' : Nat → Nat → Int64), K_readRail_L11 dep rf (G 0) (G 1) (G 2) (G 3) (G 4) (G 5) (G 6) (A 0) (A 1) (A 2) (A 3) (A 4) (A 5) (A 6) rails pt (nI q) n f 1 5 pl kd fr vl td fl fp pn = (pl', kd', fr', vl', td, dep', fl', fp', rf', G' 0, G' 1, G' 2, G' 3, G' 4, G' 5, G' 6, A' 0, A' 1, A' 2, A' 3, A' 4, A' 5, A' 6, rails, pn', pt') ∧ K_m_readRail_L7 (nI q) Tb P Nm n f us c ur ua w nw dp 1 0 Td ps mr so mv mf mw = (dr', us', nc', nw', dp', ps', mr', so', mv', mf', mw', c', w', ur', ua', Nm', Tb', P', Td) ∧ ((xR n pl' kd' fr' vl' fl' fp' ps' mr' so' mv' mf' mw' ∧ (fl'.toInt = 0 → fl.toInt = 0 ∧ dr' = nI (q + 1) ∧ xUs rf' us' ur' ua' fr'.toInt ∧ us'.toInt ≤ fr'.toInt ∧ b ≤ fr'.toInt ∧ xE true (q + 1) pn' pt' Td Nm' Tb')) ∨ (fl'.toInt = 0 ∧ fl.toInt = 0 ∧ kd'.toInt = 3 ∧ vl'.toInt = 41 ∧ mf' = 2 ∧ mw' = fr')) := by
  obtain ⟨e, hp, hw, hk⟩ := h
  subst e
  by_cases q0 : fl.toInt = 0
  · obtain ⟨e1, e2, r0, r1, r2, r3, k⟩ := hk q0
    subst e1
    subst e2
    obtain ⟨u1, u2, u3, u4, u5, u6, u7, u8⟩ := hu q0
    obtain ⟨n20, n21, n22, n23, n24, n25, n26, n27, n28, nle⟩ := nm_some (f := f) (ps := pl) r0 r2 hn
    by_cases c1 : kd.toInt = 1
    · have s1 : so.toInt = 1 := (xK1 k).1.mp c1
      have w1 : xW1 f fr pl := by
        rcases he with z | z | z
        · exact absurd q0 z
        · exact absurd c1 z
        · exact z
      rw [c_x, if_pos q0, if_pos ⟨c1, w1⟩, m_x (fun _ _ => n27.mpr w1), if_pos q0, if_pos s1]
      dsimp only
      have rt := r_tok (fp := fp) (kd := kd) (mv := mv) (mw := mw) (mr := fr) (so := so) hf hn (by omega) r2 (rfl : fl = fl) q0
      generalize M_step n f fl fp kd pl = S at rt ⊢
      generalize M_m_next fl mv mw n f pl fr so = V at rt ⊢
      have lt := r3 (by omega)
      rw [show M_setNumber pn (nI q) 7 0 = _ from t_setN (k := 7) hq (by decide)]
      have z0 : (0 : Int32).toInt = 0 := by decide
      have zn : (0 : Int32).toNatClampNeg = 0 := by decide
      have sm := (sim (pn0 := pn) (pt := pt) (r := nI q) hf hn 402 (by decide)).1 0 S.1 S.2.1 S.2.2.1 S.2.2.2.1 S.2.2.2.2.1 S.2.2.2.2.2 us 0 0 V.1 V.2.1 V.2.2.1 V.2.2.2.1 V.2.2.2.2.1 V.2.2.2.2.2 rf (upd pn (8 * q + 7) 0) c w ur ua (zst G 0 (M_fillJ 8 0 (G 0))) (zst A 0 (M_fillJ 8 (-1) (A 0))) 0 b rt.1 (fun z => by
        have g := rt.2 z
        refine ⟨by omega, by omega, by omega, by omega, xUs_up u1 (by omega), by omega, by omega, by omega, by omega, by omega, ?_, ?_⟩
        · rw [zn]
          exact s_start (fun x hx => by unfold M_fillJ; rw [if_pos hx]) (fun x hx => by unfold M_fillJ; rw [if_pos hx])
        · rw [zn, xKn_q hq]
          rfl) 100000 100000 100000 (by decide) (by decide) (by decide)
      rw [← f_C1, show R1 n f 100000 100000 us 0 c ur ua 0 (nI 0) V.1 V.2.1 V.2.2.1 V.2.2.2.1 V.2.2.2.2.1 V.2.2.2.2.2 w = _ from f_R1.symm] at sm
      generalize M_readFormula pt (nI q) n f rf (upd pn (8 * q + 7) 0) S.1 S.2.1 S.2.2.1 S.2.2.2.1 S.2.2.2.2.1 S.2.2.2.2.2 (G 1) (G 2) (G 3) (G 4) (G 5) (G 6) (A 1) (A 2) (A 3) (A 4) (A 5) (A 6) (A 0) (G 0) = t at sm ⊢
      generalize M_m_readFormula n f us c ur ua V.1 V.2.1 V.2.2.1 V.2.2.2.1 V.2.2.2.2.1 V.2.2.2.2.2 w = u at sm ⊢
      rcases sm with ⟨m1, m2⟩ | ⟨m1, m2, m3, m4, m5⟩
      · by_cases z : t.2.2.2.2.2.1.toInt = 0
        · have z2 : u.2.2.2.2.2.2.2.2.1.toInt = 0 := by rw [← m1.1]; exact z
          obtain ⟨g1, g2, g3, g4, g5, g6, g, g7, g8, g9, g10⟩ := m2 z
          have y := (m1.2.2.2 z).2.2.2.1
          have y2 := (m1.2.2.2 z).2.2.2.2.1
          have lf : t.2.2.1.toInt ≤ 400 := by omega
          obtain ⟨T', P', k1, k2, k3⟩ := r_keep (T := Tb) (P := P) (f := Nm) hq g4 (by omega) g8 g9 g10
          rw [if_pos z2, k1]
          refine ⟨t.1, t.2.1, t.2.2.1, t.2.2.2.1, t.2.2.2.2.1, t.2.2.2.2.2.1, t.2.2.2.2.2.2.1, u.1, u.2.1, u.2.2.1, u.2.2.2.1, u.2.2.2.2.1, u.2.2.2.2.2.1, u.2.2.2.2.2.2.1, u.2.2.2.2.2.2.2.1, u.2.2.2.2.2.2.2.2.1, u.2.2.2.2.2.2.2.2.2.1, nI q + 1, t.2.2.2.2.2.2.2.1, u.2.2.2.2.2.2.2.2.2.2.2.2.1, u.2.2.2.2.2.2.2.2.2.2.2.2.2, t.2.2.2.2.2.2.2.2.2.2.2.2.2.2.2.2.2.2.2.2.2.2.1, u.2.2.2.2.2.2.2.2.2.2.1, u.2.2.2.2.2.2.2.2.2.2.2.1, upd Nm q (xnm u.2.2.2.2.2.2.2.2.2.2.1 u.2.1.toNatClampNeg), T', P', t.2.2.2.2.2.2.2.2.2.2.2.2.2.2.2.2.2.2.2.2.2.2.2, xof t.2.2.2.2.2.2.2.2.1 t.2.2.2.2.2.2.2.2.2.1 t.2.2.2.2.2.2.2.2.2.2.1 t.2.2.2.2.2.2.2.2.2.2.2.1 t.2.2.2.2.2.2.2.2.2.2.2.2.1 t.2.2.2.2.2.2.2.2.2.2.2.2.2.1 t.2.2.2.2.2.2.2.2.2.2.2.2.2.2.1, xof t.2.2.2.2.2.2.2.2.2.2.2.2.2.2.2.1 t.2.2.2.2.2.2.2.2.2.2.2.2.2.2.2.2.1 t.2.2.2.2.2.2.2.2.2.2.2.2.2.2.2.2.2.1 t.2.2.2.2.2.2.2.2.2.2.2.2.2.2.2.2.2.2.1 t.2.2.2.2.2.2.2.2.2.2.2.2.2.2.2.2.2.2.2.1 t.2.2.2.2.2.2.2.2.2.2.2.2.2.2.2.2.2.2.2.2.1 t.2.2.2.2.2.2.2.2.2.2.2.2.2.2.2.2.2.2.2.2.2.1, rfl, rfl, Or.inl ⟨m1, fun _ => ⟨q0, nI_1 q, g1, g2, g3, ?_⟩⟩⟩
          rw [g6, g7, xKn_q hq]
          refine xE_add (xE_keep u4 (fun j hj => xupd_o (by omega)) (fun j hj => xcpy_o hq (by omega)) (fun j hj => rfl) (fun j hj => xupd_o (by omega)) (fun j hj => k3 j (by omega))) ⟨fun j hj _ => ?_, ?_, fun s hs => ?_, fun s t hs ht hst hv => ?_, fun _ => u8⟩
          · rw [xupd_o (by omega)]
            exact u5 j hj
          · rw [xupd_s, xupd_s]
          · rw [k2 s hs, xbt_ext (g := fun i => va_cpy g pt (0 : Int32).toNatClampNeg (nI q * 8).toNatClampNeg (8 : Int32).toNatClampNeg (8 * q + i)) (h := g) hs (fun i hi => xcpy hq hi)]
          · rw [xbt_ext (g := fun i => va_cpy g pt (0 : Int32).toNatClampNeg (nI q * 8).toNatClampNeg (8 : Int32).toNatClampNeg (8 * q + i)) (h := g) ht (fun i hi => xcpy hq hi)]
            rw [xbt_ext (g := fun i => va_cpy g pt (0 : Int32).toNatClampNeg (nI q * 8).toNatClampNeg (8 : Int32).toNatClampNeg (8 * q + i)) (h := g) hs (fun i hi => xcpy hq hi)] at hv
            rw [xupd_s] at hst
            exact xev_mono1 (fun j hj h9 hv => hst _ (by have := (g8 j hj).1; omega) (xnm_bit _ j hj (g8 j hj).1 h9) hv) (g10 s hs) (g10 t ht) hv
        · have z2 : ¬ u.2.2.2.2.2.2.2.2.1.toInt = 0 := by rw [← m1.1]; exact z
          rw [if_neg z2]
          exact ⟨t.1, t.2.1, t.2.2.1, t.2.2.2.1, t.2.2.2.2.1, t.2.2.2.2.2.1, t.2.2.2.2.2.2.1, u.1, u.2.1, u.2.2.1, u.2.2.2.1, u.2.2.2.2.1, u.2.2.2.2.2.1, u.2.2.2.2.2.2.1, u.2.2.2.2.2.2.2.1, u.2.2.2.2.2.2.2.2.1, u.2.2.2.2.2.2.2.2.2.1, nI q, t.2.2.2.2.2.2.2.1, u.2.2.2.2.2.2.2.2.2.2.2.2.1, u.2.2.2.2.2.2.2.2.2.2.2.2.2, t.2.2.2.2.2.2.2.2.2.2.2.2.2.2.2.2.2.2.2.2.2.2.1, u.2.2.2.2.2.2.2.2.2.2.1, u.2.2.2.2.2.2.2.2.2.2.2.1, Nm, Tb, P, t.2.2.2.2.2.2.2.2.2.2.2.2.2.2.2.2.2.2.2.2.2.2.2, xof t.2.2.2.2.2.2.2.2.1 t.2.2.2.2.2.2.2.2.2.1 t.2.2.2.2.2.2.2.2.2.2.1 t.2.2.2.2.2.2.2.2.2.2.2.1 t.2.2.2.2.2.2.2.2.2.2.2.2.1 t.2.2.2.2.2.2.2.2.2.2.2.2.2.1 t.2.2.2.2.2.2.2.2.2.2.2.2.2.2.1, xof t.2.2.2.2.2.2.2.2.2.2.2.2.2.2.2.1 t.2.2.2.2.2.2.2.2.2.2.2.2.2.2.2.2.1 t.2.2.2.2.2.2.2.2.2.2.2.2.2.2.2.2.2.1 t.2.2.2.2.2.2.2.2.2.2.2.2.2.2.2.2.2.2.1 t.2.2.2.2.2.2.2.2.2.2.2.2.2.2.2.2.2.2.2.1 t.2.2.2.2.2.2.2.2.2.2.2.2.2.2.2.2.2.2.2.2.1 t.2.2.2.2.2.2.2.2.2.2.2.2.2.2.2.2.2.2.2.2.2.1, rfl, rfl, Or.inl ⟨m1, fun y => absurd y z⟩⟩
      · have z2 : ¬ u.2.2.2.2.2.2.2.2.1.toInt = 0 := by rw [m4]; decide
        rw [if_neg z2]
        exact ⟨t.1, t.2.1, t.2.2.1, t.2.2.2.1, t.2.2.2.2.1, t.2.2.2.2.2.1, t.2.2.2.2.2.2.1, u.1, u.2.1, u.2.2.1, u.2.2.2.1, u.2.2.2.2.1, u.2.2.2.2.2.1, u.2.2.2.2.2.2.1, u.2.2.2.2.2.2.2.1, u.2.2.2.2.2.2.2.2.1, u.2.2.2.2.2.2.2.2.2.1, nI q, t.2.2.2.2.2.2.2.1, u.2.2.2.2.2.2.2.2.2.2.2.2.1, u.2.2.2.2.2.2.2.2.2.2.2.2.2, t.2.2.2.2.2.2.2.2.2.2.2.2.2.2.2.2.2.2.2.2.2.2.1, u.2.2.2.2.2.2.2.2.2.2.1, u.2.2.2.2.2.2.2.2.2.2.2.1, Nm, Tb, P, t.2.2.2.2.2.2.2.2.2.2.2.2.2.2.2.2.2.2.2.2.2.2.2, xof t.2.2.2.2.2.2.2.2.1 t.2.2.2.2.2.2.2.2.2.1 t.2.2.2.2.2.2.2.2.2.2.1 t.2.2.2.2.2.2.2.2.2.2.2.1 t.2.2.2.2.2.2.2.2.2.2.2.2.1 t.2.2.2.2.2.2.2.2.2.2.2.2.2.1 t.2.2.2.2.2.2.2.2.2.2.2.2.2.2.1, xof t.2.2.2.2.2.2.2.2.2.2.2.2.2.2.2.1 t.2.2.2.2.2.2.2.2.2.2.2.2.2.2.2.2.1 t.2.2.2.2.2.2.2.2.2.2.2.2.2.2.2.2.2.1 t.2.2.2.2.2.2.2.2.2.2.2.2.2.2.2.2.2.2.1 t.2.2.2.2.2.2.2.2.2.2.2.2.2.2.2.2.2.2.2.1 t.2.2.2.2.2.2.2.2.2.2.2.2.2.2.2.2.2.2.2.2.1 t.2.2.2.2.2.2.2.2.2.2.2.2.2.2.2.2.2.2.2.2.2.1, rfl, rfl, Or.inr ⟨m1, q0, m2, m3, m4, m5⟩⟩
    · have s1 : ¬ so.toInt = 1 := fun z => c1 ((xK1 k).1.mpr z)
      have c0 : (0 : Int32).toNatClampNeg = 0 := by decide
      have o1 : (1 : Int32).toNatClampNeg = 1 := by decide
      have v8 : ∀ s, s < 512 → xev (upd c 0 8) s (1 : Int32).toNatClampNeg = [s.testBit 8] := fun s hs => by
        rw [o1, show (1 : Nat) = 0 + 1 from rfl, xev_put, if_pos (by decide)]
        rfl
      obtain ⟨T', P', k1, k2, k3⟩ := r_keep (c := upd c 0 8) (nc := 1) (T := Tb) (P := P) (f := Nm) hq (by decide) (by decide) (fun j hj => by
        obtain rfl : j = 0 := by rw [o1] at hj; omega
        rw [xupd_s]
        exact ⟨by decide, Or.inl (by decide)⟩) (fun j hj h9 => by
        obtain rfl : j = 0 := by rw [o1] at hj; omega
        rw [xupd_s] at h9
        exact absurd h9 (by decide)) v8
      rw [c_x, if_pos q0, if_neg (fun z => c1 z.1), m_x (fun _ z => absurd z s1), if_pos q0, if_neg s1, c0, k1]
      refine ⟨pl, kd, fr, vl, dep, fl, fp, us, 1, nw, dp, pl, fr, so, mv, fl, mw, nI q + 1, rf, ur, ua, pn, upd c 0 8, w, upd Nm q (xnm (upd c 0 8) (1 : Int32).toNatClampNeg), T', P', pt, G, A, rfl, rfl, Or.inl ⟨xR_ok rfl q0 r0 r1 r2 r3 k rfl, fun _ => ⟨q0, nI_1 q, u1, u2, u3, ?_⟩⟩⟩
      refine xE_add (xE_keep u4 (fun j hj => rfl) (fun j hj => rfl) (fun j hj => rfl) (fun j hj => xupd_o (by omega)) (fun j hj => k3 j (by omega))) ⟨fun j hj _ => u5 j hj, ?_, fun s hs => ?_, fun s t hs ht hst hv => ?_, fun _ => u8⟩
      · rw [xupd_s, u6, o1, show (1 : Nat) = 0 + 1 from rfl, xnm_put (by decide)]
        show (256 : Int32) = (0 : Int32) ||| ((1 : Int32) <<< ((8 : Int32) &&& 31))
        decide
      · rw [k2 s hs, xdf_bit hs u7]
      · rw [xdf_bit hs u7] at hv
        rw [xdf_bit ht u7]
        refine hst 8 (by decide) ?_ hv
        rw [xupd_s, o1, show (1 : Nat) = 0 + 1 from rfl, xnm_put (by decide)]
        show ((0 : Int32) ||| ((1 : Int32) <<< ((8 : Int32) &&& 31))).toBitVec.getLsbD 8 = true
        decide
  · rw [c_x, if_neg q0, m_x (fun z => absurd z q0), if_neg q0]
    exact ⟨pl, kd, fr, vl, dep, fl, fp, us, 1, nw, dp, ps, mr, so, mv, fl, mw, nI q, rf, ur, ua, pn, (upd c (0 : Int32).toNatClampNeg 8), w, Nm, Tb, P, pt, G, A, rfl, rfl, Or.inl ⟨⟨rfl, hp, hw, hk⟩, fun z => absurd z q0⟩⟩
-- 76.rail
def xTF (f : Nat → Int32) (n dr : Int32) (V : xT) : Int32 := if V.2.2.2.2.1.toInt = 0 then (if V.2.2.1.toInt = 1 then (if (M_m_nameNow V.1 V.2.1 n f).toInt = dr.toInt then V.2.2.2.2.1 else 3) else 2) else V.2.2.2.2.1
def xTW (f : Nat → Int32) (n dr : Int32) (V : xT) : Int32 := if V.2.2.2.2.1.toInt = 0 then (if V.2.2.1.toInt = 1 then (if (M_m_nameNow V.1 V.2.1 n f).toInt = dr.toInt then V.2.2.2.2.2 else V.2.1) else V.2.1) else V.2.2.2.2.2
theorem r_turn {f : Nat → Int32} {n r pl kd fr vl fl fp : Int32} {V : xT} (hf : ∀ j, 0 ≤ (f j).toInt) (hn : n.toInt ≤ 400) (h : xR n pl kd fr vl fl fp V.1 V.2.1 V.2.2.1 V.2.2.2.1 V.2.2.2.2.1 V.2.2.2.2.2) (r0 : 0 ≤ r.toInt) (r7 : r.toInt ≤ 7) : xRt n (M_takeTurn fl kd r n f fp pl fr vl) (M_m_next (xTF f n r V) V.2.2.2.1 (xTW f n r V) n f V.1 V.2.1 V.2.2.1) ∧ ((M_takeTurn fl kd r n f fp pl fr vl).2.2.2.2.1.toInt = 0 → fl.toInt = 0 ∧ pl.toInt ≤ (M_takeTurn fl kd r n f fp pl fr vl).2.2.1.toInt) := by
  obtain ⟨ps, mr, so, mv, mf, mw⟩ := V
  unfold xTF xTW
  dsimp only at h ⊢
  obtain ⟨e, hp, hw, hk⟩ := h
  subst e
  simp only [K_takeTurn_9, K_takeTurn_7, K_takeTurn_10, K_takeTurn_8, K_takeTurn_6, K_takeTurn_4, K_takeTurn_11, K_takeTurn_5, K_takeTurn_2, K_takeTurn_3, K_takeTurn_1, M_takeTurn]
  by_cases q : fl.toInt = 0
  · obtain ⟨e1, e2, a0, a1, a2, a3, k⟩ := hk q
    subst e1
    subst e2
    by_cases c1 : kd.toInt = 1
    · have s1 : so.toInt = 1 := (xK1 k).1.mp c1
      simp only [if_pos q, if_pos c1, if_pos s1]
      rcases nr (f := f) (pl := pl) a0 a2 hn with ⟨l0, l7, le⟩ | ⟨l4, ln⟩
      · rw [le]
        by_cases e : (M_railNamed pl fr f).toInt = r.toInt
        · simp only [if_pos e]
          have w := r_tok (fp := fp) (kd := kd) (mv := mv) (mw := mw) (mr := fr) (so := so) hf hn (by omega) a2 (rfl : fl = fl) q
          exact ⟨w.1, fun z => ⟨q, w.2 z⟩⟩
        · simp only [if_neg e, t_refuse q]
          rw [t_next_id (show 0 < (3 : Int32).toInt from by decide)]
          exact ⟨xR_no rfl (show 0 < (3 : Int32).toInt from by decide) rfl, fun z => absurd z (show ¬ (3 : Int32).toInt = 0 from by decide)⟩
      · have e : ¬ (M_railNamed pl fr f).toInt = r.toInt := by omega
        have e2 : ¬ (M_m_nameNow pl fr n f).toInt = r.toInt := by omega
        simp only [if_neg e, if_neg e2, t_refuse q]
        rw [t_next_id (show 0 < (3 : Int32).toInt from by decide)]
        exact ⟨xR_no rfl (show 0 < (3 : Int32).toInt from by decide) rfl, fun z => absurd z (show ¬ (3 : Int32).toInt = 0 from by decide)⟩
    · have s1 : ¬ so.toInt = 1 := fun z => c1 ((xK1 k).1.mpr z)
      simp only [if_pos q, if_neg c1, if_neg s1, t_refuse q]
      rw [t_next_id (show 0 < (2 : Int32).toInt from by decide)]
      exact ⟨xR_no rfl (show 0 < (2 : Int32).toInt from by decide) rfl, fun z => absurd z (show ¬ (2 : Int32).toInt = 0 from by decide)⟩
  · simp only [if_neg q]
    rw [t_next_id (by omega)]
    exact ⟨xR_no rfl (by show 0 < fl.toInt; omega) (hw q), fun z => absurd z q⟩
theorem r_numF {f : Nat → Int32} {n lo lo2 hi hi2 pl kd fr vl fl fp ps mr so mv mf mw : Int32} (h : xR n pl kd fr vl fl fp ps mr so mv mf mw) (q : ¬ fl.toInt = 0) : M_takeNumber fl kd vl lo pl fr fp hi n f = (lo, pl, kd, fr, vl, fl, fp) ∧ M_m_readNumber mf so mv n f ps mr lo2 hi2 mw = (mv, ps, mr, so, mv, mf, mw) := by
  have q2 : ¬ mf.toInt = 0 := by rw [← h.1]; exact q
  have p := h.2.1
  refine ⟨?_, ?_⟩
  · simp only [K_takeNumber_8, K_takeNumber_6, K_takeNumber_11, K_takeNumber_9, K_takeNumber_12, K_takeNumber_10, K_takeNumber_7, K_takeNumber_4, K_takeNumber_13, K_takeNumber_5, K_takeNumber_2, K_takeNumber_3, K_takeNumber_1, M_takeNumber]
    rw [if_neg q]
  · simp only [K_m_readNumber_18, K_m_readNumber_17, K_m_readNumber_15, K_m_readNumber_16, K_m_readNumber_14, K_m_readNumber_13, K_m_readNumber_6, K_m_readNumber_12, K_m_readNumber_11, K_m_readNumber_9, K_m_readNumber_10, K_m_readNumber_8, K_m_readNumber_7, K_m_readNumber_5, K_m_readNumber_3, K_m_readNumber_4, K_m_readNumber_2, K_m_readNumber_1, M_m_readNumber]
    rw [if_neg q2, t_next_id (by rw [← h.1]; omega)]
theorem m_num9 {f : Nat → Int32} {n lo hi so mv ps mr mf mw : Int32} (p : 0 < mf.toInt) : M_m_readNumber mf so mv n f ps mr lo hi mw = (mv, ps, mr, so, mv, mf, mw) := by
  simp only [K_m_readNumber_18, K_m_readNumber_17, K_m_readNumber_15, K_m_readNumber_16, K_m_readNumber_14, K_m_readNumber_13, K_m_readNumber_6, K_m_readNumber_12, K_m_readNumber_11, K_m_readNumber_9, K_m_readNumber_10, K_m_readNumber_8, K_m_readNumber_7, K_m_readNumber_5, K_m_readNumber_3, K_m_readNumber_4, K_m_readNumber_2, K_m_readNumber_1, M_m_readNumber]
  rw [if_neg (by omega), t_next_id p]
theorem c_rail {f rf pn : Nat → Int32} {pt : Nat → Int64} {G A : Nat → Nat → Int64} {n r dep told fl fp kd pl fr vl : Int32} (d : r.toInt < 8) : M_readRail r dep rf (G 0) (G 1) (G 2) (G 3) (G 4) (G 5) (G 6) (A 0) (A 1) (A 2) (A 3) (A 4) (A 5) (A 6) n f told fl fp kd pl pt pn fr vl = (fun S => (fun T => (fun Aa => (fun B => K_readRail_L11 dep rf (G 0) (G 1) (G 2) (G 3) (G 4) (G 5) (G 6) (A 0) (A 1) (A 2) (A 3) (A 4) (A 5) (A 6) (M_addRail r pt pn).1 (M_addRail r pt pn).2.2 r n f 100000 0 B.2.1 B.2.2.1 B.2.2.2.1 B.2.2.2.2.1 (told &&& 3) B.2.2.2.2.2.1 B.2.2.2.2.2.2 (M_setNumber (M_setNumber (M_addRail r pt pn).2.1 r 0 Aa.1) r 1 B.1)) (M_takeNumber Aa.2.2.2.2.2.1 Aa.2.2.1 Aa.2.2.2.2.1 Aa.1 Aa.2.1 Aa.2.2.2.1 Aa.2.2.2.2.2.2 9 n f)) (M_takeNumber T.2.2.2.2.1 T.2.1 T.2.2.2.1 1 T.1 T.2.2.1 T.2.2.2.2.2 9 n f)) (M_takeTurn S.2.2.2.2.1 S.2.1 r n f S.2.2.2.2.2 S.1 S.2.2.1 S.2.2.2.1)) (M_step n f fl fp kd pl) := by
  simp only [K_readRail_17, K_readRail_21, K_readRail_20, K_readRail_19, K_readRail_18, K_readRail_16, K_readRail_15, K_readRail_14, K_readRail_12, K_readRail_49, K_readRail_42, K_readRail_44, K_readRail_48, K_readRail_47, K_readRail_46, K_readRail_45, K_readRail_43, K_readRail_41, K_readRail_40, K_readRail_33, K_readRail_35, K_readRail_39, K_readRail_38, K_readRail_37, K_readRail_36, K_readRail_34, K_readRail_32, K_readRail_23, K_readRail_27, K_readRail_31, K_readRail_30, K_readRail_29, K_readRail_28, K_readRail_26, K_readRail_25, K_readRail_24, K_readRail_22, K_readRail_13, K_readRail_11, K_readRail_10, K_readRail_9, K_readRail_8, K_readRail_7, K_readRail_6, K_readRail_5, K_readRail_4, K_readRail_2, K_readRail_50, K_readRail_3, K_readRail_1, M_readRail]
  rw [if_pos d]
theorem m_rail {f Td Tb P Nm c ur ua w : Nat → Int32} {n dr us nc nw dp mv ps mr so mf mw : Int32} (d : dr.toInt < 8) : M_m_readRail dr Tb P Nm n f us c ur ua w nw dp Td nc mv ps mr so mf mw = (fun V => K_m_readRail_2 dr Tb P Nm n f us c ur ua w nw dp Td nc (xTF f n dr V) V.2.2.2.1 (xTW f n dr V) V.1 V.2.1 V.2.2.1) (M_m_next mf mv mw n f ps mr so) := by
  simp only [K_m_readRail_17, K_m_readRail_15, K_m_readRail_19, K_m_readRail_18, K_m_readRail_27, K_m_readRail_25, K_m_readRail_26, K_m_readRail_24, K_m_readRail_23, K_m_readRail_22, K_m_readRail_21, K_m_readRail_20, K_m_readRail_16, K_m_readRail_14, K_m_readRail_12, K_m_readRail_13, K_m_readRail_11, K_m_readRail_9, K_m_readRail_10, K_m_readRail_8, K_m_readRail_7, K_m_readRail_5, K_m_readRail_6, K_m_readRail_4, K_m_readRail_28, K_m_readRail_3, K_m_readRail_30, K_m_readRail_29, K_m_readRail_51, K_m_readRail_49, K_m_readRail_50, K_m_readRail_48, K_m_readRail_47, K_m_readRail_46, K_m_readRail_45, K_m_readRail_44, K_m_readRail_35, K_m_readRail_43, K_m_readRail_41, K_m_readRail_42, K_m_readRail_40, K_m_readRail_39, K_m_readRail_38, K_m_readRail_37, K_m_readRail_36, K_m_readRail_34, K_m_readRail_33, K_m_readRail_32, K_m_readRail_31, K_m_readRail_55, K_m_readRail_54, K_m_readRail_52, K_m_readRail_57, K_m_readRail_56, K_m_readRail_53, K_m_readRail_1, M_m_readRail]
  rw [if_neg (by omega)]
  simp only [t_wants1]
  generalize M_m_next mf mv mw n f ps mr so = V
  unfold xTF xTW
  by_cases q : V.2.2.2.2.1.toInt = 0
  · by_cases s : V.2.2.1.toInt = 1
    · by_cases e : (M_m_nameNow V.1 V.2.1 n f).toInt = dr.toInt
      · simp only [if_pos q, if_pos s, if_pos e, t_wants1]
      · simp only [if_pos q, if_pos s, if_neg e, t_wants1, t_wantsF q]
    · simp only [if_pos q, if_neg s, t_wantsF q, if_neg (show ¬ (2 : Int32).toInt = 0 from by decide)]
  · simp only [if_neg q]
theorem m_rail2 {f Td Tb P Nm c ur ua w : Nat → Int32} {n dr us nc nw dp mf mv mw ps mr so : Int32} : K_m_readRail_2 dr Tb P Nm n f us c ur ua w nw dp Td nc mf mv mw ps mr so = (fun W => (fun Aa => (fun B => if B.2.2.2.2.2.1.toInt ≤ 0 then K_m_readRail_L7 dr Tb P Nm n f us c ur ua w nw dp 100000 0 (upd (upd (upd (upd (upd (upd (upd Td (((7 : Int32) * dr) + 0).toNatClampNeg Aa.1) (((7 : Int32) * dr) + 1).toNatClampNeg B.1) (((7 : Int32) * dr) + 2).toNatClampNeg 1) (((7 : Int32) * dr) + 3).toNatClampNeg 1) (((7 : Int32) * dr) + 4).toNatClampNeg 2) (((7 : Int32) * dr) + 5).toNatClampNeg 0) (((7 : Int32) * dr) + 6).toNatClampNeg 0) B.2.1 B.2.2.1 B.2.2.2.1 B.2.2.2.2.1 B.2.2.2.2.2.1 B.2.2.2.2.2.2 else (dr, us, nc, nw, dp, B.2.1, B.2.2.1, B.2.2.2.1, B.2.2.2.2.1, B.2.2.2.2.2.1, B.2.2.2.2.2.2, c, w, ur, ua, Nm, Tb, P, Td)) (M_m_readNumber Aa.2.2.2.2.2.1 Aa.2.2.2.1 Aa.2.2.2.2.1 n f Aa.2.1 Aa.2.2.1 Aa.1 9 Aa.2.2.2.2.2.2)) (M_m_readNumber W.2.2.2.2.1 W.2.2.1 W.2.2.2.1 n f W.1 W.2.1 1 9 W.2.2.2.2.2)) (M_m_next mf mv mw n f ps mr so) := by
  simp only [K_m_readRail_17, K_m_readRail_15, K_m_readRail_19, K_m_readRail_18, K_m_readRail_27, K_m_readRail_25, K_m_readRail_26, K_m_readRail_24, K_m_readRail_23, K_m_readRail_22, K_m_readRail_21, K_m_readRail_20, K_m_readRail_16, K_m_readRail_14, K_m_readRail_12, K_m_readRail_13, K_m_readRail_11, K_m_readRail_9, K_m_readRail_10, K_m_readRail_8, K_m_readRail_7, K_m_readRail_5, K_m_readRail_6, K_m_readRail_4, K_m_readRail_28, K_m_readRail_3, K_m_readRail_30, K_m_readRail_29, K_m_readRail_2, K_m_readRail_51, K_m_readRail_49, K_m_readRail_50, K_m_readRail_48, K_m_readRail_47, K_m_readRail_46, K_m_readRail_45, K_m_readRail_44, K_m_readRail_35, K_m_readRail_43, K_m_readRail_41, K_m_readRail_42, K_m_readRail_40, K_m_readRail_39, K_m_readRail_38, K_m_readRail_37, K_m_readRail_36, K_m_readRail_34, K_m_readRail_33, K_m_readRail_32, K_m_readRail_31, K_m_readRail_55, K_m_readRail_54, K_m_readRail_52, K_m_readRail_57, K_m_readRail_56, K_m_readRail_53, K_m_readRail_1, M_m_readRail]
theorem r_rail {f rf ur ua pn c w Td Nm Tb P : Nat → Int32} {pt : Nat → Int64} {G A : Nat → Nat → Int64} {n dep us nc nw dp told pl kd fr vl fl fp ps mr so mv mf mw : Int32} {q : Nat} (hf : ∀ j, 0 ≤ (f j).toInt) (hn : n.toInt ≤ 400) (h : xR n pl kd fr vl fl fp ps mr so mv mf mw) (q0 : fl.toInt = 0) (d8 : q ≤ 8) (hu : xUs rf us ur ua fr.toInt) (hus : us.toInt ≤ fr.toInt) (ht : 0 ≤ told.toInt ∧ told.toInt < 64) (hE : xE true q pn pt Td Nm Tb) :
    ∃ (pl' kd' fr' vl' td' dep' fl' fp' us' nc' nw' dp' ps' mr' so' mv' mf' mw' dr' : Int32) (rf' ur' ua' pn' c' w' Td' Nm' Tb' P' : Nat → Int32) (pt' : Nat → Int64) (G' A' : Nat → Nat → Int64) (q' : Nat), M_readRail (nI q) dep rf (G 0) (G 1) (G 2) (G 3) (G 4) (G 5) (G 6) (A 0) (A 1) (A 2) (A 3) (A 4) (A 5) (A 6) n f told fl fp kd pl pt pn fr vl = (pl', kd', fr', vl', td', dep', fl', fp', rf', G' 0, G' 1, G' 2, G' 3, G' 4, G' 5, G' 6, A' 0, A' 1, A' 2, A' 3, A' 4, A' 5, A' 6, nI q', pn', pt') ∧ M_m_readRail (nI q) Tb P Nm n f us c ur ua w nw dp Td nc mv ps mr so mf mw = (dr', us', nc', nw', dp', ps', mr', so', mv', mf', mw', c', w', ur', ua', Nm', Tb', P', Td') ∧ q' ≤ 8 ∧ ((xR n pl' kd' fr' vl' fl' fp' ps' mr' so' mv' mf' mw' ∧ (fl'.toInt = 0 → dr' = nI q' ∧ q' = q + 1 ∧ xUs rf' us' ur' ua' fr'.toInt ∧ us'.toInt ≤ fr'.toInt ∧ pl.toInt ≤ fr'.toInt ∧ (td' &&& 1) = (told &&& 1) ∧ (td' &&& 2) = (told &&& 2) ∧ (0 ≤ td'.toInt ∧ td'.toInt < 64) ∧ xE true q' pn' pt' Td' Nm' Tb')) ∨ (fl'.toInt = 0 ∧ kd'.toInt = 3 ∧ vl'.toInt = 41 ∧ mf' = 2 ∧ mw' = fr')) := by
  obtain ⟨e, hp, hw, hk⟩ := h
  subst e
  obtain ⟨e1, e2, r0, r1, r2, r3, k⟩ := hk q0
  subst e1
  subst e2
  have qq : (nI q).toInt = (q : Int) := nI_toInt (by omega)
  by_cases hq : q < 8
  · obtain ⟨ptd, ea, hdf, hpo⟩ := t_addRail hq pn pt
    rw [c_rail (by omega), m_rail (by omega), ea]
    dsimp only
    rw [m_rail2]
    dsimp only
    have rt := r_tok (fp := fp) (kd := kd) (mv := mv) (mw := mw) (mr := fr) (so := so) hf hn (by omega) r2 (rfl : fl = fl) q0
    generalize M_step n f fl fp kd pl = S at rt ⊢
    generalize M_m_next fl mv mw n f pl fr so = V at rt ⊢
    have tt := r_turn (V := V) hf hn rt.1 (by omega : 0 ≤ (nI q).toInt) (by omega : (nI q).toInt ≤ 7)
    generalize (M_takeTurn S.2.2.2.2.1 S.2.1 (nI q) n f S.2.2.2.2.2 S.1 S.2.2.1 S.2.2.2.1) = T at tt ⊢
    generalize M_m_next (xTF f n (nI q) V) V.2.2.2.1 (xTW f n (nI q) V) n f V.1 V.2.1 V.2.2.1 = W at tt ⊢
    have ra := r_num (lo := 1) (hi := 9) hf hn tt.1
    generalize (M_takeNumber T.2.2.2.2.1 T.2.1 T.2.2.2.1 1 T.1 T.2.2.1 T.2.2.2.2.2 9 n f) = Aa at ra ⊢
    generalize (M_m_readNumber W.2.2.2.2.1 W.2.2.1 W.2.2.2.1 n f W.1 W.2.1 1 9 W.2.2.2.2.2) = A2 at ra ⊢
    have rb : xRt n (M_takeNumber Aa.2.2.2.2.2.1 Aa.2.2.1 Aa.2.2.2.2.1 Aa.1 Aa.2.1 Aa.2.2.2.1 Aa.2.2.2.2.2.2 9 n f).2 (M_m_readNumber A2.2.2.2.2.2.1 A2.2.2.2.1 A2.2.2.2.2.1 n f A2.2.1 A2.2.2.1 A2.1 9 A2.2.2.2.2.2.2).2 ∧ ((M_takeNumber Aa.2.2.2.2.2.1 Aa.2.2.1 Aa.2.2.2.2.1 Aa.1 Aa.2.1 Aa.2.2.2.1 Aa.2.2.2.2.2.2 9 n f).2.2.2.2.2.1.toInt = 0 → Aa.2.2.2.2.2.1.toInt = 0 ∧ Aa.1 = A2.1 ∧ Aa.2.1.toInt ≤ (M_takeNumber Aa.2.2.2.2.2.1 Aa.2.2.1 Aa.2.2.2.2.1 Aa.1 Aa.2.1 Aa.2.2.2.1 Aa.2.2.2.2.2.2 9 n f).2.2.2.1.toInt ∧ (M_takeNumber Aa.2.2.2.2.2.1 Aa.2.2.1 Aa.2.2.2.2.1 Aa.1 Aa.2.1 Aa.2.2.2.1 Aa.2.2.2.2.2.2 9 n f).1 = (M_m_readNumber A2.2.2.2.2.2.1 A2.2.2.2.1 A2.2.2.2.2.1 n f A2.2.1 A2.2.2.1 A2.1 9 A2.2.2.2.2.2.2).1) := by
      by_cases z : Aa.2.2.2.2.2.1.toInt = 0
      · have g := r_num (lo := Aa.1) (hi := 9) hf hn ra.1
        have e0 := (ra.2 z).2.1
        rw [← e0]
        exact ⟨g.1, fun y => ⟨z, rfl, (g.2 y).2.2.2.2, (g.2 y).2.1⟩⟩
      · have g := r_numF (f := f) (lo := Aa.1) (lo2 := A2.1) (hi := 9) (hi2 := 9) ra.1 z
        rw [g.1, g.2]
        exact ⟨ra.1, fun y => absurd y z⟩
    generalize (M_takeNumber Aa.2.2.2.2.2.1 Aa.2.2.1 Aa.2.2.2.2.1 Aa.1 Aa.2.1 Aa.2.2.2.1 Aa.2.2.2.2.2.2 9 n f) = B at rb ⊢
    generalize (M_m_readNumber A2.2.2.2.2.2.1 A2.2.2.2.1 A2.2.2.2.2.1 n f A2.2.1 A2.2.2.1 A2.1 9 A2.2.2.2.2.2.2) = B2 at rb ⊢
    have h3t := fin64 (P := fun x => (0 ≤ (x &&& 3).toInt ∧ (x &&& 3).toInt < 64) ∧ (0 : Int32) = Int32.ofNat ((x &&& 3).toInt.toNat / 4) ∧ cn (x &&& 3) = 0 ∧ ((x &&& 3) &&& 1) = (x &&& 1) ∧ ((x &&& 3) &&& 2) = (x &&& 2)) h3 ht.1 ht.2
    have bf := rb.1.1
    have bp := rb.1.2.1
    rw [show M_setNumber (xPd q pn) (nI q) 0 Aa.1 = _ from t_setN (k := 0) hq (by decide), show M_setNumber (upd (xPd q pn) (8 * q + 0) Aa.1) (nI q) 1 B.1 = xP1 q pn Aa.1 B.1 from t_setN (k := 1) hq (by decide)]
    by_cases z : B.2.2.2.2.2.1.toInt = 0
    · have z2 : B2.2.2.2.2.2.1.toInt = 0 := by rw [← bf]; exact z
      rw [if_pos (by omega), show (((7 : Int32) * nI q) + 0).toNatClampNeg = _ from xi7 (k := 0) hq (by decide), show (((7 : Int32) * nI q) + 1).toNatClampNeg = _ from xi7 (k := 1) hq (by decide), show (((7 : Int32) * nI q) + 2).toNatClampNeg = _ from xi7 (k := 2) hq (by decide), show (((7 : Int32) * nI q) + 3).toNatClampNeg = _ from xi7 (k := 3) hq (by decide), show (((7 : Int32) * nI q) + 4).toNatClampNeg = _ from xi7 (k := 4) hq (by decide), show (((7 : Int32) * nI q) + 5).toNatClampNeg = _ from xi7 (k := 5) hq (by decide), show (((7 : Int32) * nI q) + 6).toNatClampNeg = _ from xi7 (k := 6) hq (by decide)]
      have c1 := rb.2 z
      have c2 := ra.2 c1.1
      have c3 := tt.2 c2.1
      have c4 := rt.2 c3.1
      have c5 := (rt.1.2.2.2 c3.1).2.2.2.1
      have c6 := (tt.1.2.2.2 c2.1).2.2.2.1
      have c7 := (ra.1.2.2.2 c1.1).2.2.2.1
      rw [← c1.2.1, ← c1.2.2.2, show (upd (upd (upd (upd (upd (upd (upd Td (7 * q + 0) Aa.1) (7 * q + 1) B.1) (7 * q + 2) 1) (7 * q + 3) 1) (7 * q + 4) 2) (7 * q + 5) 0) (7 * q + 6) 0) = xTd q Td Aa.1 B.1 from rfl]
      obtain ⟨pl1, kd1, fr1, vl1, td1, fl1, fp1, ps1, mr1, so1, mv1, mf1, mw1, pn1, Td1, y1, y2, y3, y4, y5⟩ := r_withs (pt := ptd) (G := G) (A := A) (dep := dep) (rf := rf) (rails := nI (q + 1)) hf hn hq 5 0 B.2.1 B.2.2.1 B.2.2.2.1 B.2.2.2.2.1 (told &&& 3) B.2.2.2.2.2.1 B.2.2.2.2.2.2 B2.2.1 B2.2.2.1 B2.2.2.2.1 B2.2.2.2.2.1 B2.2.2.2.2.2.1 B2.2.2.2.2.2.2 0 (xP1 q pn Aa.1 B.1) (xTd q Td Aa.1 B.1) (by decide) (by decide) rb.1 (fun _ => ⟨⟨h3t.1, h3t.2.1⟩, by rw [h3t.2.2.1]; decide, rw_start⟩)
      rw [y1 99994, y2 99994 us nw dp Tb P Nm c ur ua w]
      obtain ⟨pl', kd', fr', vl', dep', fl', fp', us', nc', nw', dp', ps', mr', so', mv', mf', mw', dr', rf', ur', ua', pn', c', w', Nm', Tb', P', pt', G', A', x1, x2, x3⟩ := r_when (rf := rf) (ur := ur) (ua := ua) (us := us) (dep := dep) (dp := dp) (nw := nw) (c := c) (w := w) (Td := Td1) (Nm := Nm) (Tb := Tb) (P := P) (pt := ptd) (G := G) (A := A) (pn := pn1) (rails := nI (q + 1)) (td := td1) (b := pl.toInt) hf hn hq y3 y4 (fun y => by
        obtain ⟨g1, g2, g3, g4, g5, g6⟩ := y5 y
        refine ⟨xUs_up hu (by omega), by omega, by omega, xE_keep hE (fun j hj => ?_) (fun j hj => hpo j (by omega)) (fun j hj => ?_) (fun j hj => rfl) (fun j hj => rfl), g6.1, ?_, hdf, g6.2.2.2⟩
        · rw [g6.2.1 j (by omega)]
          exact p1_o (by omega)
        · rw [g6.2.2.1 j (by omega)]
          exact td_o (by omega)
        · rw [g6.2.1 _ (by omega)]
          exact p1_7)
      refine ⟨pl', kd', fr', vl', td1, dep', fl', fp', us', nc', nw', dp', ps', mr', so', mv', mf', mw', dr', rf', ur', ua', pn', c', w', Td1, Nm', Tb', P', pt', G', A', q + 1, x1, x2, by omega, ?_⟩
      rcases x3 with ⟨m1, m2⟩ | ⟨m1, m2, m3, m4, m5, m6⟩
      · refine Or.inl ⟨m1, fun y => ?_⟩
        obtain ⟨g1, g2, g3, g4, g5, g6⟩ := m2 y
        have g := y5 g1
        exact ⟨g2, rfl, g3, g4, g5, g.2.2.1.trans h3t.2.2.2.1, g.2.2.2.1.trans h3t.2.2.2.2, g.2.2.2.2.1, g6⟩
      · exact Or.inr ⟨m1, m3, m4, m5, m6⟩
    · have z2 : ¬ B2.2.2.2.2.2.1.toInt = 0 := by rw [← bf]; exact z
      have z3 : 0 ≤ B2.2.2.2.2.2.1.toInt := by rw [← bf]; exact bp
      rw [if_neg (by omega), show K_readRail_L11 dep rf (G 0) (G 1) (G 2) (G 3) (G 4) (G 5) (G 6) (A 0) (A 1) (A 2) (A 3) (A 4) (A 5) (A 6) (nI (q + 1)) ptd (nI q) n f 100000 0 B.2.1 B.2.2.1 B.2.2.2.1 B.2.2.2.2.1 (told &&& 3) B.2.2.2.2.2.1 B.2.2.2.2.2.2 (xP1 q pn Aa.1 B.1) = _ from c_end (Or.inr (Or.inl z)) 99999, c_x, if_neg z]
      exact ⟨_, _, _, _, _, _, _, _, _, _, _, _, _, _, _, _, _, _, _, _, _, _, _, _, _, _, _, _, _, ptd, G, A, q + 1, rfl, rfl, by omega, Or.inl ⟨rb.1, fun y => absurd y z⟩⟩
  · obtain rfl : q = 8 := by omega
    refine ⟨pl, kd, fr, vl, told, dep, 5, fr, us, nc, nw, dp, pl, fr, so, mv, 5, fr, nI 8, rf, ur, ua, pn, c, w, Td, Nm, Tb, P, pt, G, A, 8, ?_, ?_, by omega, Or.inl ⟨xR_no rfl (by decide) rfl, fun y => absurd y (by decide)⟩⟩
    · simp only [K_readRail_17, K_readRail_21, K_readRail_20, K_readRail_19, K_readRail_18, K_readRail_16, K_readRail_15, K_readRail_14, K_readRail_12, K_readRail_49, K_readRail_42, K_readRail_44, K_readRail_48, K_readRail_47, K_readRail_46, K_readRail_45, K_readRail_43, K_readRail_41, K_readRail_40, K_readRail_33, K_readRail_35, K_readRail_39, K_readRail_38, K_readRail_37, K_readRail_36, K_readRail_34, K_readRail_32, K_readRail_23, K_readRail_27, K_readRail_31, K_readRail_30, K_readRail_29, K_readRail_28, K_readRail_26, K_readRail_25, K_readRail_24, K_readRail_22, K_readRail_13, K_readRail_11, K_readRail_10, K_readRail_9, K_readRail_8, K_readRail_7, K_readRail_6, K_readRail_5, K_readRail_4, K_readRail_2, K_readRail_50, K_readRail_3, K_readRail_1, M_readRail]
      rw [if_neg (by decide), t_refuse q0]
    · simp only [K_m_readRail_17, K_m_readRail_15, K_m_readRail_19, K_m_readRail_18, K_m_readRail_27, K_m_readRail_25, K_m_readRail_26, K_m_readRail_24, K_m_readRail_23, K_m_readRail_22, K_m_readRail_21, K_m_readRail_20, K_m_readRail_16, K_m_readRail_14, K_m_readRail_12, K_m_readRail_13, K_m_readRail_11, K_m_readRail_9, K_m_readRail_10, K_m_readRail_8, K_m_readRail_7, K_m_readRail_5, K_m_readRail_6, K_m_readRail_4, K_m_readRail_28, K_m_readRail_3, K_m_readRail_30, K_m_readRail_29, K_m_readRail_51, K_m_readRail_49, K_m_readRail_50, K_m_readRail_48, K_m_readRail_47, K_m_readRail_46, K_m_readRail_45, K_m_readRail_44, K_m_readRail_35, K_m_readRail_43, K_m_readRail_41, K_m_readRail_42, K_m_readRail_40, K_m_readRail_39, K_m_readRail_38, K_m_readRail_37, K_m_readRail_36, K_m_readRail_34, K_m_readRail_33, K_m_readRail_32, K_m_readRail_31, K_m_readRail_55, K_m_readRail_54, K_m_readRail_52, K_m_readRail_57, K_m_readRail_56, K_m_readRail_53, K_m_readRail_1, M_m_readRail]
      rw [if_pos (by decide)]
      simp only [t_wantsF q0, t_next_id (show 0 < (5 : Int32).toInt from by decide), if_neg (show ¬ (5 : Int32).toInt = 0 from by decide)]
      rw [m_rail2]
      simp only [t_next_id (show 0 < (5 : Int32).toInt from by decide), m_num9 (show 0 < (5 : Int32).toInt from by decide), if_neg (show ¬ (5 : Int32).toInt ≤ 0 from by decide)]
-- 77.rule
theorem l_end {f : Nat → Int32} {n mf so dr dL dR dP hl hr us nc nw dp mv ps mr mw : Int32} {ur ua c w Nm Tb P Td : Nat → Int32} (h : 0 ≤ mf.toInt) : K_m_readLine_2 mf so dr dL dR dP hl hr us nc nw dp c w ur ua Nm Tb P Td mv n f ps mr mw = (dr, dL, dR, dP, hl, hr, us, nc, nw, dp, (if mf.toInt = 0 then (if so.toInt = 7 then M_m_next mf mv mw n f ps mr so else (ps, mr, so, mv, 2, mr)) else (ps, mr, so, mv, mf, mw)).1, (if mf.toInt = 0 then (if so.toInt = 7 then M_m_next mf mv mw n f ps mr so else (ps, mr, so, mv, 2, mr)) else (ps, mr, so, mv, mf, mw)).2.1, (if mf.toInt = 0 then (if so.toInt = 7 then M_m_next mf mv mw n f ps mr so else (ps, mr, so, mv, 2, mr)) else (ps, mr, so, mv, mf, mw)).2.2.1, (if mf.toInt = 0 then (if so.toInt = 7 then M_m_next mf mv mw n f ps mr so else (ps, mr, so, mv, 2, mr)) else (ps, mr, so, mv, mf, mw)).2.2.2.1, (if mf.toInt = 0 then (if so.toInt = 7 then M_m_next mf mv mw n f ps mr so else (ps, mr, so, mv, 2, mr)) else (ps, mr, so, mv, mf, mw)).2.2.2.2.1, (if mf.toInt = 0 then (if so.toInt = 7 then M_m_next mf mv mw n f ps mr so else (ps, mr, so, mv, 2, mr)) else (ps, mr, so, mv, mf, mw)).2.2.2.2.2, c, w, ur, ua, Nm, Tb, P, Td) := by
  simp only [K_m_readLine_11, K_m_readLine_10, K_m_readLine_7, K_m_readLine_9, K_m_readLine_8, K_m_readLine_6, K_m_readLine_4, K_m_readLine_5, K_m_readLine_3, K_m_readLine_2, K_m_readLine_37, K_m_readLine_14, K_m_readLine_30, K_m_readLine_29, K_m_readLine_36, K_m_readLine_35, K_m_readLine_32, K_m_readLine_34, K_m_readLine_33, K_m_readLine_31, K_m_readLine_16, K_m_readLine_21, K_m_readLine_20, K_m_readLine_22, K_m_readLine_19, K_m_readLine_28, K_m_readLine_27, K_m_readLine_24, K_m_readLine_26, K_m_readLine_25, K_m_readLine_23, K_m_readLine_18, K_m_readLine_17, K_m_readLine_15, K_m_readLine_13, K_m_readLine_12, K_m_readLine_42, K_m_readLine_41, K_m_readLine_39, K_m_readLine_40, K_m_readLine_38, K_m_readLine_1, M_m_readLine]
  by_cases q : mf.toInt = 0
  · simp only [if_pos q]
    by_cases s : so.toInt = 7
    · simp only [if_pos s, t_wants1]
    · simp only [if_neg s, t_wantsF q]
      rw [t_next_id (by decide)]
  · simp only [if_neg q]
    rw [t_next_id (by omega)]
theorem r_rule {f : Nat → Int32} {n pl kd fr vl told fl fp ps mr so mv mf mw dr hl hr us nc nw dp li re be dL dR dP : Int32} {ur ua c w Nm Tb P Td : Nat → Int32} (hf : ∀ j, 0 ≤ (f j).toInt) (hn : n.toInt ≤ 400) (h : xR n pl kd fr vl fl fp ps mr so mv mf mw) (q : fl.toInt = 0) (nr : ¬ (kd.toInt = 1 ∧ xW0 f fr pl)) (b1 : (told &&& 1).toInt = 0 ↔ hl.toInt = 0) (b2 : (told &&& 2).toInt = 0 ↔ hr.toInt = 0) (ht : 0 ≤ told.toInt ∧ told.toInt < 64) :
    ∃ pl' kd' fr' vl' td' fl' fp' ps' mr' so' mv' mf' mw' hl' hr' li' re' be' dL' dR' dP' : Int32, M_readRule pl kd fr vl told li re be fl fp n f = (pl', kd', fr', vl', td', fl', fp', li', re', be') ∧ M_m_readLine so dL dR dP hl hr n f dr Tb P Nm us c ur ua w nw dp Td nc mv ps mr mf mw = K_m_readLine_2 mf' so' dr dL' dR' dP' hl' hr' us nc nw dp c w ur ua Nm Tb P Td mv' n f ps' mr' mw' ∧ xR n pl' kd' fr' vl' fl' fp' ps' mr' so' mv' mf' mw' ∧ ((td' &&& 1).toInt = 0 ↔ hl'.toInt = 0) ∧ ((td' &&& 2).toInt = 0 ↔ hr'.toInt = 0) ∧ ((0 ≤ td'.toInt ∧ td'.toInt < 64) ∧ (fl'.toInt = 0 → pl.toInt ≤ fr'.toInt ∧ (li = dL → re = dR → be = dP → li' = dL' ∧ re' = dR' ∧ be' = dP'))) := by
  obtain ⟨e, hp, hw, hk⟩ := h
  subst e
  obtain ⟨e1, e2, r0, r1, r2, r3, k⟩ := hk q
  subst e1
  subst e2
  have k1 := xK1 k
  have hr12 := fin64 (P := fun x => (0 ≤ (x ||| 1).toInt ∧ (x ||| 1).toInt < 64) ∧ (0 ≤ (x ||| 2).toInt ∧ (x ||| 2).toInt < 64)) h12 ht.1 ht.2
  have z1 : (1 : Int32).toInt = 1 := by decide
  have z4 : (4 : Int32).toInt = 4 := by decide
  have rt := r_tok (fp := fp) (kd := kd) (mv := mv) (mw := mw) (mr := fr) (so := so) hf hn (by omega) r2 (rfl : fl = fl) q
  have x4 : xR n pl kd fr vl 4 fr pl fr so mv 4 fr := xR_no rfl (by omega) rfl
  by_cases c1 : kd.toInt = 1
  · have s1 : so.toInt = 1 := k1.1.mp c1
    have ns := nm_some (f := f) (ps := pl) r0 r2 hn
    obtain ⟨n20, n21, n22, -⟩ := ns
    have w0 : ¬ xW0 f fr pl := fun z => nr ⟨c1, z⟩
    by_cases w7 : xW7 f fr pl
    · have v21 := n21.mpr w7
      have i7 : ¬ (M_isWord kd pl fr 5 f 7).toInt = 0 := by rw [w_limit, if_pos ⟨c1, w7⟩]; decide
      have hw1 : M_m_wants (if 20 ≤ (M_m_nameNow pl fr n f).toInt ∧ (M_m_nameNow pl fr n f).toInt ≤ 22 then 1 else 0) fl 2 fr mw = (fl, mw) := by rw [if_pos (by omega)]; exact t_wants1
      by_cases hh : hl.toInt = 0
      · have o1 := t_once0 (f := f) (n := n) (fl := fl) (fp := fp) (kd := kd) (pl := pl) (fr := fr) (vl := vl) (b1.mpr hh)
        generalize hS : M_step n f fl fp kd pl = S at rt o1
        generalize hV : M_m_next fl mv mw n f pl fr so = V at rt
        have rn := r_num (lo := 1) (hi := 999) hf hn rt.1
        generalize hT : M_takeNumber S.2.2.2.2.1 S.2.1 S.2.2.2.1 1 S.1 S.2.2.1 S.2.2.2.2.2 999 n f = T at rn
        generalize hU : M_m_readNumber V.2.2.2.2.1 V.2.2.1 V.2.2.2.1 n f V.1 V.2.1 1 999 V.2.2.2.2.2 = U at rn
        refine ⟨T.2.1, T.2.2.1, T.2.2.2.1, T.2.2.2.2.1, told ||| 1, T.2.2.2.2.2.1, T.2.2.2.2.2.2, U.2.1, U.2.2.1, U.2.2.2.1, U.2.2.2.2.1, U.2.2.2.2.2.1, U.2.2.2.2.2.2, 1, hr, T.1, re, be, U.1, dR, dP, ?_, ?_, rn.1, ?_, ?_, ?_⟩
        · simp only [K_readRule_8, K_readRule_6, K_readRule_11, K_readRule_10, K_readRule_9, K_readRule_7, K_readRule_5, K_readRule_3, K_readRule_13, K_readRule_12, K_readRule_4, K_readRule_2, K_readRule_1, M_readRule]
          rw [if_neg i7, o1, hT]
        · simp only [K_m_readLine_11, K_m_readLine_10, K_m_readLine_7, K_m_readLine_9, K_m_readLine_8, K_m_readLine_6, K_m_readLine_4, K_m_readLine_5, K_m_readLine_3, K_m_readLine_37, K_m_readLine_14, K_m_readLine_30, K_m_readLine_29, K_m_readLine_36, K_m_readLine_35, K_m_readLine_32, K_m_readLine_34, K_m_readLine_33, K_m_readLine_31, K_m_readLine_16, K_m_readLine_21, K_m_readLine_20, K_m_readLine_22, K_m_readLine_19, K_m_readLine_28, K_m_readLine_27, K_m_readLine_24, K_m_readLine_26, K_m_readLine_25, K_m_readLine_23, K_m_readLine_18, K_m_readLine_17, K_m_readLine_15, K_m_readLine_13, K_m_readLine_12, K_m_readLine_42, K_m_readLine_41, K_m_readLine_39, K_m_readLine_40, K_m_readLine_38, K_m_readLine_1, M_m_readLine]
          rw [if_pos s1, hw1, if_neg (by omega : ¬ (M_m_nameNow pl fr n f).toInt = 20), if_pos v21, if_pos hh, t_wants1, hV, hU]
        · exact ⟨fun z => absurd z (bitS (by decide)), fun z => absurd z (by decide)⟩
        · exact (bit1 (by decide)).trans b2
        · refine ⟨hr12.1, fun z => ?_⟩
          have a1 := rn.2 z
          have a2 := rt.2 a1.1
          have a3 := (rt.1.2.2.2 a1.1).2.2.2.1
          exact ⟨by omega, fun _ y2 y3 => ⟨a1.2.1, y2, y3⟩⟩
      · have o1 := t_once1 (f := f) (n := n) (fl := fl) (fp := fp) (kd := kd) (pl := pl) (fr := fr) (vl := vl) (fun z => hh (b1.mp z)) q
        have rn := r_num (lo := 1) (hi := 999) hf hn x4
        generalize hT : M_takeNumber 4 kd vl 1 pl fr fr 999 n f = T at rn
        generalize hU : M_m_readNumber 4 so mv n f pl fr 1 999 fr = U at rn
        refine ⟨T.2.1, T.2.2.1, T.2.2.2.1, T.2.2.2.2.1, told, T.2.2.2.2.2.1, T.2.2.2.2.2.2, U.2.1, U.2.2.1, U.2.2.2.1, U.2.2.2.2.1, U.2.2.2.2.2.1, U.2.2.2.2.2.2, 1, hr, T.1, re, be, U.1, dR, dP, ?_, ?_, rn.1, ?_, b2, ?_⟩
        · simp only [K_readRule_8, K_readRule_6, K_readRule_11, K_readRule_10, K_readRule_9, K_readRule_7, K_readRule_5, K_readRule_3, K_readRule_13, K_readRule_12, K_readRule_4, K_readRule_2, K_readRule_1, M_readRule]
          rw [if_neg i7, o1, hT]
        · simp only [K_m_readLine_11, K_m_readLine_10, K_m_readLine_7, K_m_readLine_9, K_m_readLine_8, K_m_readLine_6, K_m_readLine_4, K_m_readLine_5, K_m_readLine_3, K_m_readLine_37, K_m_readLine_14, K_m_readLine_30, K_m_readLine_29, K_m_readLine_36, K_m_readLine_35, K_m_readLine_32, K_m_readLine_34, K_m_readLine_33, K_m_readLine_31, K_m_readLine_16, K_m_readLine_21, K_m_readLine_20, K_m_readLine_22, K_m_readLine_19, K_m_readLine_28, K_m_readLine_27, K_m_readLine_24, K_m_readLine_26, K_m_readLine_25, K_m_readLine_23, K_m_readLine_18, K_m_readLine_17, K_m_readLine_15, K_m_readLine_13, K_m_readLine_12, K_m_readLine_42, K_m_readLine_41, K_m_readLine_39, K_m_readLine_40, K_m_readLine_38, K_m_readLine_1, M_m_readLine]
          rw [if_pos s1, hw1, if_neg (by omega : ¬ (M_m_nameNow pl fr n f).toInt = 20), if_pos v21, if_neg hh, t_wantsF q, t_next_id (show 0 < (4 : Int32).toInt from by decide), hU]
        · exact ⟨fun z => absurd (b1.mp z) hh, fun z => absurd z (by decide)⟩
        · refine ⟨ht, fun z => ?_⟩
          exact absurd (rn.2 z).1 (by decide)
    · have i7 : (M_isWord kd pl fr 5 f 7).toInt = 0 := by rw [w_limit, if_neg (fun z => w7 z.2)]; decide
      have m21 : ¬ (M_m_nameNow pl fr n f).toInt = 21 := fun z => w7 (n21.mp z)
      have m20 : ¬ (M_m_nameNow pl fr n f).toInt = 20 := fun z => w0 (n20.mp z)
      by_cases w8 : xW8 f fr pl
      · have v22 := n22.mpr w8
        have i8 : ¬ (M_isWord kd pl fr 5 f 8).toInt = 0 := by rw [w_retry, if_pos ⟨c1, w8⟩]; decide
        have hw1 : M_m_wants (if 20 ≤ (M_m_nameNow pl fr n f).toInt ∧ (M_m_nameNow pl fr n f).toInt ≤ 22 then 1 else 0) fl 2 fr mw = (fl, mw) := by rw [if_pos (by omega)]; exact t_wants1
        by_cases hh : hr.toInt = 0
        · have o1 := t_once0 (f := f) (n := n) (fl := fl) (fp := fp) (kd := kd) (pl := pl) (fr := fr) (vl := vl) (b2.mpr hh)
          generalize hS : M_step n f fl fp kd pl = S at rt o1
          generalize hV : M_m_next fl mv mw n f pl fr so = V at rt
          have rn := r_num (lo := 0) (hi := 9) hf hn rt.1
          generalize hT : M_takeNumber S.2.2.2.2.1 S.2.1 S.2.2.2.1 0 S.1 S.2.2.1 S.2.2.2.2.2 9 n f = T at rn
          generalize hU : M_m_readNumber V.2.2.2.2.1 V.2.2.1 V.2.2.2.1 n f V.1 V.2.1 0 9 V.2.2.2.2.2 = U at rn
          have rm := r_num (lo := 1) (hi := 99) hf hn rn.1
          generalize hX : M_takeNumber T.2.2.2.2.2.1 T.2.2.1 T.2.2.2.2.1 1 T.2.1 T.2.2.2.1 T.2.2.2.2.2.2 99 n f = X at rm
          generalize hY : M_m_readNumber U.2.2.2.2.2.1 U.2.2.2.1 U.2.2.2.2.1 n f U.2.1 U.2.2.1 1 99 U.2.2.2.2.2.2 = Y at rm
          refine ⟨X.2.1, X.2.2.1, X.2.2.2.1, X.2.2.2.2.1, told ||| 2, X.2.2.2.2.2.1, X.2.2.2.2.2.2, Y.2.1, Y.2.2.1, Y.2.2.2.1, Y.2.2.2.2.1, Y.2.2.2.2.2.1, Y.2.2.2.2.2.2, hl, 1, li, T.1, X.1, dL, U.1, Y.1, ?_, ?_, rm.1, ?_, ?_, ?_⟩
          · simp only [K_readRule_8, K_readRule_6, K_readRule_11, K_readRule_10, K_readRule_9, K_readRule_7, K_readRule_5, K_readRule_3, K_readRule_13, K_readRule_12, K_readRule_4, K_readRule_2, K_readRule_1, M_readRule]
            rw [if_pos i7, if_neg i8, o1, hT, hX]
          · simp only [K_m_readLine_11, K_m_readLine_10, K_m_readLine_7, K_m_readLine_9, K_m_readLine_8, K_m_readLine_6, K_m_readLine_4, K_m_readLine_5, K_m_readLine_3, K_m_readLine_37, K_m_readLine_14, K_m_readLine_30, K_m_readLine_29, K_m_readLine_36, K_m_readLine_35, K_m_readLine_32, K_m_readLine_34, K_m_readLine_33, K_m_readLine_31, K_m_readLine_16, K_m_readLine_21, K_m_readLine_20, K_m_readLine_22, K_m_readLine_19, K_m_readLine_28, K_m_readLine_27, K_m_readLine_24, K_m_readLine_26, K_m_readLine_25, K_m_readLine_23, K_m_readLine_18, K_m_readLine_17, K_m_readLine_15, K_m_readLine_13, K_m_readLine_12, K_m_readLine_42, K_m_readLine_41, K_m_readLine_39, K_m_readLine_40, K_m_readLine_38, K_m_readLine_1, M_m_readLine]
            rw [if_pos s1, hw1, if_neg m20, if_neg m21, if_pos v22, if_pos hh, t_wants1, hV, hU, hY]
          · exact (bit1 (by decide)).trans b1
          · exact ⟨fun z => absurd z (bitS (by decide)), fun z => absurd z (by decide)⟩
          · refine ⟨hr12.2, fun z => ?_⟩
            have a0 := rm.2 z
            have a1 := rn.2 a0.1
            have a2 := rt.2 a1.1
            have a3 := (rt.1.2.2.2 a1.1).2.2.2.1
            have a4 := (rn.1.2.2.2 a0.1).2.2.2.1
            exact ⟨by omega, fun y1 _ _ => ⟨y1, a1.2.1, a0.2.1⟩⟩
        · have o1 := t_once1 (f := f) (n := n) (fl := fl) (fp := fp) (kd := kd) (pl := pl) (fr := fr) (vl := vl) (fun z => hh (b2.mp z)) q
          have rn := r_num (lo := 0) (hi := 9) hf hn x4
          generalize hT : M_takeNumber 4 kd vl 0 pl fr fr 9 n f = T at rn
          generalize hU : M_m_readNumber 4 so mv n f pl fr 0 9 fr = U at rn
          have rm := r_num (lo := 1) (hi := 99) hf hn rn.1
          generalize hX : M_takeNumber T.2.2.2.2.2.1 T.2.2.1 T.2.2.2.2.1 1 T.2.1 T.2.2.2.1 T.2.2.2.2.2.2 99 n f = X at rm
          generalize hY : M_m_readNumber U.2.2.2.2.2.1 U.2.2.2.1 U.2.2.2.2.1 n f U.2.1 U.2.2.1 1 99 U.2.2.2.2.2.2 = Y at rm
          refine ⟨X.2.1, X.2.2.1, X.2.2.2.1, X.2.2.2.2.1, told, X.2.2.2.2.2.1, X.2.2.2.2.2.2, Y.2.1, Y.2.2.1, Y.2.2.2.1, Y.2.2.2.2.1, Y.2.2.2.2.2.1, Y.2.2.2.2.2.2, hl, 1, li, T.1, X.1, dL, U.1, Y.1, ?_, ?_, rm.1, b1, ?_, ?_⟩
          · simp only [K_readRule_8, K_readRule_6, K_readRule_11, K_readRule_10, K_readRule_9, K_readRule_7, K_readRule_5, K_readRule_3, K_readRule_13, K_readRule_12, K_readRule_4, K_readRule_2, K_readRule_1, M_readRule]
            rw [if_pos i7, if_neg i8, o1, hT, hX]
          · simp only [K_m_readLine_11, K_m_readLine_10, K_m_readLine_7, K_m_readLine_9, K_m_readLine_8, K_m_readLine_6, K_m_readLine_4, K_m_readLine_5, K_m_readLine_3, K_m_readLine_37, K_m_readLine_14, K_m_readLine_30, K_m_readLine_29, K_m_readLine_36, K_m_readLine_35, K_m_readLine_32, K_m_readLine_34, K_m_readLine_33, K_m_readLine_31, K_m_readLine_16, K_m_readLine_21, K_m_readLine_20, K_m_readLine_22, K_m_readLine_19, K_m_readLine_28, K_m_readLine_27, K_m_readLine_24, K_m_readLine_26, K_m_readLine_25, K_m_readLine_23, K_m_readLine_18, K_m_readLine_17, K_m_readLine_15, K_m_readLine_13, K_m_readLine_12, K_m_readLine_42, K_m_readLine_41, K_m_readLine_39, K_m_readLine_40, K_m_readLine_38, K_m_readLine_1, M_m_readLine]
            rw [if_pos s1, hw1, if_neg m20, if_neg m21, if_pos v22, if_neg hh, t_wantsF q, t_next_id (show 0 < (4 : Int32).toInt from by decide), hU, hY]
          · exact ⟨fun z => absurd (b2.mp z) hh, fun z => absurd z (by decide)⟩
          · refine ⟨ht, fun z => ?_⟩
            exact absurd (rn.2 (rm.2 z).1).1 (by decide)
      · have i8 : (M_isWord kd pl fr 5 f 8).toInt = 0 := by rw [w_retry, if_neg (fun z => w8 z.2)]; decide
        have m22 : ¬ (M_m_nameNow pl fr n f).toInt = 22 := fun z => w8 (n22.mp z)
        have hw1 : M_m_wants (if 20 ≤ (M_m_nameNow pl fr n f).toInt ∧ (M_m_nameNow pl fr n f).toInt ≤ 22 then 1 else 0) fl 2 fr mw = (2, fr) := by rw [if_neg (by omega)]; exact t_wantsF q
        refine ⟨pl, kd, fr, vl, told, 2, fr, pl, fr, so, mv, 2, fr, hl, hr, li, re, be, dL, dR, dP, ?_, ?_, xR_no rfl (by decide) rfl, b1, b2, ht, fun z => absurd z (by decide)⟩
        · simp only [K_readRule_8, K_readRule_6, K_readRule_11, K_readRule_10, K_readRule_9, K_readRule_7, K_readRule_5, K_readRule_3, K_readRule_13, K_readRule_12, K_readRule_4, K_readRule_2, K_readRule_1, M_readRule]
          rw [if_pos i7, if_pos i8, t_refuse q]
        · simp only [K_m_readLine_11, K_m_readLine_10, K_m_readLine_7, K_m_readLine_9, K_m_readLine_8, K_m_readLine_6, K_m_readLine_4, K_m_readLine_5, K_m_readLine_3, K_m_readLine_37, K_m_readLine_14, K_m_readLine_30, K_m_readLine_29, K_m_readLine_36, K_m_readLine_35, K_m_readLine_32, K_m_readLine_34, K_m_readLine_33, K_m_readLine_31, K_m_readLine_16, K_m_readLine_21, K_m_readLine_20, K_m_readLine_22, K_m_readLine_19, K_m_readLine_28, K_m_readLine_27, K_m_readLine_24, K_m_readLine_26, K_m_readLine_25, K_m_readLine_23, K_m_readLine_18, K_m_readLine_17, K_m_readLine_15, K_m_readLine_13, K_m_readLine_12, K_m_readLine_42, K_m_readLine_41, K_m_readLine_39, K_m_readLine_40, K_m_readLine_38, K_m_readLine_1, M_m_readLine]
          rw [if_pos s1, hw1, if_neg m20, if_neg m21, if_neg m22]
  · have s1 : ¬ so.toInt = 1 := fun z => c1 (k1.1.mpr z)
    have i7 : (M_isWord kd pl fr 5 f 7).toInt = 0 := by rw [w_limit, if_neg (fun z => c1 z.1)]; decide
    have i8 : (M_isWord kd pl fr 5 f 8).toInt = 0 := by rw [w_retry, if_neg (fun z => c1 z.1)]; decide
    refine ⟨pl, kd, fr, vl, told, 2, fr, pl, fr, so, mv, 2, fr, hl, hr, li, re, be, dL, dR, dP, ?_, ?_, xR_no rfl (by decide) rfl, b1, b2, ht, fun z => absurd z (by decide)⟩
    · simp only [K_readRule_8, K_readRule_6, K_readRule_11, K_readRule_10, K_readRule_9, K_readRule_7, K_readRule_5, K_readRule_3, K_readRule_13, K_readRule_12, K_readRule_4, K_readRule_2, K_readRule_1, M_readRule]
      rw [if_pos i7, if_pos i8, t_refuse q]
    · simp only [K_m_readLine_11, K_m_readLine_10, K_m_readLine_7, K_m_readLine_9, K_m_readLine_8, K_m_readLine_6, K_m_readLine_4, K_m_readLine_5, K_m_readLine_3, K_m_readLine_37, K_m_readLine_14, K_m_readLine_30, K_m_readLine_29, K_m_readLine_36, K_m_readLine_35, K_m_readLine_32, K_m_readLine_34, K_m_readLine_33, K_m_readLine_31, K_m_readLine_16, K_m_readLine_21, K_m_readLine_20, K_m_readLine_22, K_m_readLine_19, K_m_readLine_28, K_m_readLine_27, K_m_readLine_24, K_m_readLine_26, K_m_readLine_25, K_m_readLine_23, K_m_readLine_18, K_m_readLine_17, K_m_readLine_15, K_m_readLine_13, K_m_readLine_12, K_m_readLine_42, K_m_readLine_41, K_m_readLine_39, K_m_readLine_40, K_m_readLine_38, K_m_readLine_1, M_m_readLine]
      rw [if_neg s1, if_neg (by decide : ¬ ((20 : Int) ≤ -4 ∧ (-4 : Int) ≤ 22)), t_wantsF q, if_neg (by decide : ¬ (-4 : Int32).toInt = 20), if_neg (by decide : ¬ (-4 : Int32).toInt = 21), if_neg (by decide : ¬ (-4 : Int32).toInt = 22)]
-- 78.line
abbrev xLn : Type := (Nat → Int64) × (Nat → Int64) × (Nat → Int64) × (Nat → Int64) × (Nat → Int64) × (Nat → Int64) × (Nat → Int64) × (Nat → Int64) × (Nat → Int64) × (Nat → Int64) × (Nat → Int64) × (Nat → Int64) × (Nat → Int64) × (Nat → Int64) × (Nat → Int32) × (Nat → Int64) × Int32 × Int32 × Int32 × Int32 × (Nat → Int32) × Int32 × Int32 × Int32 × Int32 × Int32 × Int32 × Int32 × Int32
/-- one line of the text, the class's side -/
def cLine (n : Int32) (f : Nat → Int32) (rails : Int32) (rf : Nat → Int32) (g0 : Nat → Int64) (g1 : Nat → Int64) (g2 : Nat → Int64) (g3 : Nat → Int64) (g4 : Nat → Int64) (g5 : Nat → Int64) (g6 : Nat → Int64) (a0 : Nat → Int64) (a1 : Nat → Int64) (a2 : Nat → Int64) (a3 : Nat → Int64) (a4 : Nat → Int64) (a5 : Nat → Int64) (a6 : Nat → Int64) (pn : Nat → Int32) (pt : Nat → Int64) (pl kd fr vl told dep fl fp li re be : Int32) : xLn := if (M_isWord kd pl fr 4 f 0).toInt = 0 then (fun t => (fun s => (g0, g1, g2, g3, g4, g5, g6, a0, a1, a2, a3, a4, a5, a6, pn, pt, rails, t.2.2.2.2.2.2.2.1, t.2.2.2.2.2.2.2.2.1, t.2.2.2.2.2.2.2.2.2, rf, s.1, s.2.1, s.2.2.1, s.2.2.2.1, t.2.2.2.2.1, dep, s.2.2.2.2.1, s.2.2.2.2.2)) (M_takeSign t.2.2.2.2.2.1 t.1 t.2.1 t.2.2.1 t.2.2.2.1 t.2.2.2.2.2.2.1 n f 59)) (M_readRule pl kd fr vl told li re be fl fp n f) else (fun t => (fun s => (t.2.2.2.2.2.2.2.2.2.1, t.2.2.2.2.2.2.2.2.2.2.1, t.2.2.2.2.2.2.2.2.2.2.2.1, t.2.2.2.2.2.2.2.2.2.2.2.2.1, t.2.2.2.2.2.2.2.2.2.2.2.2.2.1, t.2.2.2.2.2.2.2.2.2.2.2.2.2.2.1, t.2.2.2.2.2.2.2.2.2.2.2.2.2.2.2.1, t.2.2.2.2.2.2.2.2.2.2.2.2.2.2.2.2.1, t.2.2.2.2.2.2.2.2.2.2.2.2.2.2.2.2.2.1, t.2.2.2.2.2.2.2.2.2.2.2.2.2.2.2.2.2.2.1, t.2.2.2.2.2.2.2.2.2.2.2.2.2.2.2.2.2.2.2.1, t.2.2.2.2.2.2.2.2.2.2.2.2.2.2.2.2.2.2.2.2.1, t.2.2.2.2.2.2.2.2.2.2.2.2.2.2.2.2.2.2.2.2.2.1, t.2.2.2.2.2.2.2.2.2.2.2.2.2.2.2.2.2.2.2.2.2.2.1, t.2.2.2.2.2.2.2.2.2.2.2.2.2.2.2.2.2.2.2.2.2.2.2.2.1, t.2.2.2.2.2.2.2.2.2.2.2.2.2.2.2.2.2.2.2.2.2.2.2.2.2, t.2.2.2.2.2.2.2.2.2.2.2.2.2.2.2.2.2.2.2.2.2.2.2.1, li, re, be, t.2.2.2.2.2.2.2.2.1, s.1, s.2.1, s.2.2.1, s.2.2.2.1, t.2.2.2.2.1, t.2.2.2.2.2.1, s.2.2.2.2.1, s.2.2.2.2.2)) (M_takeSign t.2.2.2.2.2.2.1 t.1 t.2.1 t.2.2.1 t.2.2.2.1 t.2.2.2.2.2.2.2.1 n f 59)) (M_readRail rails dep rf g0 g1 g2 g3 g4 g5 g6 a0 a1 a2 a3 a4 a5 a6 n f told fl fp kd pl pt pn fr vl)
theorem line_rail {f c w ur ua Nm Tb P Td : Nat → Int32} {n dr dL dR dP us nc nw dp hl hr mv ps mr so mf mw : Int32} (q : mf.toInt = 0) (s1 : so.toInt = 1) (v : (M_m_nameNow ps mr n f).toInt = 20) : M_m_readLine so dL dR dP hl hr n f dr Tb P Nm us c ur ua w nw dp Td nc mv ps mr mf mw = (fun t => K_m_readLine_2 t.2.2.2.2.2.2.2.2.2.1 t.2.2.2.2.2.2.2.1 t.1 dL dR dP hl hr t.2.1 t.2.2.1 t.2.2.2.1 t.2.2.2.2.1 t.2.2.2.2.2.2.2.2.2.2.2.1 t.2.2.2.2.2.2.2.2.2.2.2.2.1 t.2.2.2.2.2.2.2.2.2.2.2.2.2.1 t.2.2.2.2.2.2.2.2.2.2.2.2.2.2.1 t.2.2.2.2.2.2.2.2.2.2.2.2.2.2.2.1 t.2.2.2.2.2.2.2.2.2.2.2.2.2.2.2.2.1 t.2.2.2.2.2.2.2.2.2.2.2.2.2.2.2.2.2.1 t.2.2.2.2.2.2.2.2.2.2.2.2.2.2.2.2.2.2 t.2.2.2.2.2.2.2.2.1 n f t.2.2.2.2.2.1 t.2.2.2.2.2.2.1 t.2.2.2.2.2.2.2.2.2.2.1) (M_m_readRail dr Tb P Nm n f us c ur ua w nw dp Td nc mv ps mr so mf mw) := by
  simp only [K_m_readLine_11, K_m_readLine_10, K_m_readLine_7, K_m_readLine_9, K_m_readLine_8, K_m_readLine_6, K_m_readLine_4, K_m_readLine_5, K_m_readLine_3, K_m_readLine_37, K_m_readLine_14, K_m_readLine_30, K_m_readLine_29, K_m_readLine_36, K_m_readLine_35, K_m_readLine_32, K_m_readLine_34, K_m_readLine_33, K_m_readLine_31, K_m_readLine_16, K_m_readLine_21, K_m_readLine_20, K_m_readLine_22, K_m_readLine_19, K_m_readLine_28, K_m_readLine_27, K_m_readLine_24, K_m_readLine_26, K_m_readLine_25, K_m_readLine_23, K_m_readLine_18, K_m_readLine_17, K_m_readLine_15, K_m_readLine_13, K_m_readLine_12, K_m_readLine_42, K_m_readLine_41, K_m_readLine_39, K_m_readLine_40, K_m_readLine_38, K_m_readLine_1, M_m_readLine]
  rw [if_pos s1, if_pos (by omega : 20 ≤ (M_m_nameNow ps mr n f).toInt ∧ (M_m_nameNow ps mr n f).toInt ≤ 22), t_wants1, if_pos v]
theorem r_sign2 {f : Nat → Int32} {n pl kd fr vl fl fp ps mr so mv mf mw : Int32} (q : fl.toInt = 0) (c : kd.toInt = 3) (v : vl.toInt = 41) (e : mf = 2) (ew : mw = fr) : xRt n (M_takeSign fl pl kd fr vl fp n f 59) (if mf.toInt = 0 then (if so.toInt = 7 then M_m_next mf mv mw n f ps mr so else (ps, mr, so, mv, 2, mr)) else (ps, mr, so, mv, mf, mw)) ∧ ¬ (M_takeSign fl pl kd fr vl fp n f 59).2.2.2.2.1.toInt = 0 := by
  subst e
  subst ew
  have z59 : (59 : Int32).toInt = 59 := by decide
  simp only [K_takeSign_7, K_takeSign_5, K_takeSign_8, K_takeSign_6, K_takeSign_4, K_takeSign_2, K_takeSign_3, K_takeSign_1, M_takeSign, t_isSign]
  rw [if_pos q, if_neg (by omega : ¬ (kd.toInt = 3 ∧ vl.toInt = (59 : Int32).toInt)), if_pos (by decide), t_refuse q, if_neg (by decide)]
  exact ⟨xR_no rfl (show 0 < (2 : Int32).toInt from by decide) rfl, show ¬ (2 : Int32).toInt = 0 from by decide⟩
theorem r_line {rf pn f c w ur ua Nm Tb P Td : Nat → Int32} {pt : Nat → Int64} {G A : Nat → Nat → Int64} {n dep us nc nw dp told hl hr pl kd fr vl fl fp ps mr so mv mf mw li re be dL dR dP : Int32} {q : Nat} (hf : ∀ j, 0 ≤ (f j).toInt) (hn : n.toInt ≤ 400) (h : xR n pl kd fr vl fl fp ps mr so mv mf mw) (q0 : fl.toInt = 0) (k0 : ¬ kd.toInt = 0) (d8 : q ≤ 8) (hu : xUs rf us ur ua fr.toInt) (hus : us.toInt ≤ fr.toInt) (ht : 0 ≤ told.toInt ∧ told.toInt < 64) (b1 : (told &&& 1).toInt = 0 ↔ hl.toInt = 0) (b2 : (told &&& 2).toInt = 0 ↔ hr.toInt = 0) (hL : li = dL ∧ re = dR ∧ be = dP) (hE : xE true q pn pt Td Nm Tb) :
    ∃ (pl' kd' fr' vl' td' dep' fl' fp' hl' hr' us' nc' nw' dp' ps' mr' so' mv' mf' mw' li' re' be' dL' dR' dP' : Int32) (rf' ur' ua' c' w' Nm' Tb' P' Td' pn' : Nat → Int32) (pt' : Nat → Int64) (G' A' : Nat → Nat → Int64) (q' : Nat) (dr' : Int32), cLine n f (nI q) rf (G 0) (G 1) (G 2) (G 3) (G 4) (G 5) (G 6) (A 0) (A 1) (A 2) (A 3) (A 4) (A 5) (A 6) pn pt pl kd fr vl told dep fl fp li re be = (G' 0, G' 1, G' 2, G' 3, G' 4, G' 5, G' 6, A' 0, A' 1, A' 2, A' 3, A' 4, A' 5, A' 6, pn', pt', nI q', li', re', be', rf', pl', kd', fr', vl', td', dep', fl', fp') ∧ M_m_readLine so dL dR dP hl hr n f (nI q) Tb P Nm us c ur ua w nw dp Td nc mv ps mr mf mw = (dr', dL', dR', dP', hl', hr', us', nc', nw', dp', ps', mr', so', mv', mf', mw', c', w', ur', ua', Nm', Tb', P', Td') ∧ q' ≤ 8 ∧ xR n pl' kd' fr' vl' fl' fp' ps' mr' so' mv' mf' mw' ∧ (fl'.toInt = 0 → dr' = nI q' ∧ xUs rf' us' ur' ua' fr'.toInt ∧ us'.toInt ≤ fr'.toInt ∧ fr.toInt < fr'.toInt ∧ (0 ≤ td'.toInt ∧ td'.toInt < 64) ∧ ((td' &&& 1).toInt = 0 ↔ hl'.toInt = 0) ∧ ((td' &&& 2).toInt = 0 ↔ hr'.toInt = 0) ∧ (li' = dL' ∧ re' = dR' ∧ be' = dP') ∧ xE true q' pn' pt' Td' Nm' Tb') := by
  have hx := h.2.2.2 q0
  have lt := hx.2.2.2.2.2.1 k0
  have q2 : mf.toInt = 0 := by rw [← h.1]; exact q0
  by_cases w0 : kd.toInt = 1 ∧ xW0 f fr pl
  · have i0 : ¬ (M_isWord kd pl fr 4 f 0).toInt = 0 := by rw [w_rail, if_pos w0]; decide
    have s1 : so.toInt = 1 := (xK1 hx.2.2.2.2.2.2).1.mp w0.1
    have v20 : (M_m_nameNow ps mr n f).toInt = 20 := by
      rw [← hx.1, ← hx.2.1]
      exact (nm_some (f := f) (ps := pl) hx.2.2.1 hx.2.2.2.2.1 hn).1.mpr w0.2
    obtain ⟨pl1, kd1, fr1, vl1, td1, dep1, fl1, fp1, us1, nc1, nw1, dp1, ps1, mr1, so1, mv1, mf1, mw1, dr1, rf1, ur1, ua1, pn1, c1, w1, Td1, Nm1, Tb1, P1, pt1, G1, A1, q1, x1, x2, x9, x3⟩ := r_rail (rf := rf) (ur := ur) (ua := ua) (dep := dep) (dp := dp) (us := us) (told := told) (nc := nc) (nw := nw) (c := c) (w := w) (P := P) (G := G) (A := A) hf hn h q0 d8 hu hus ht hE
    unfold cLine
    rw [if_neg i0, x1, line_rail q2 s1 v20, x2]
    dsimp only
    rcases x3 with ⟨m1, m2⟩ | ⟨m1, m2, m3, m4, m5⟩
    · have mp : 0 ≤ mf1.toInt := by rw [← m1.1]; exact m1.2.1
      rw [l_end mp]
      have rs := r_sign hf hn m1
      refine ⟨_, _, _, _, _, _, _, _, _, _, _, _, _, _, _, _, _, _, _, _, _, _, _, _, _, _, _, _, _, _, _, _, _, _, _, _, pt1, G1, A1, q1, dr1, rfl, rfl, x9, rs.1, fun z => ?_⟩
      have g := rs.2 z
      obtain ⟨g1, g2, g4, g5, g6, g7, g8, g9, g11⟩ := m2 g.1
      have g10 := (m1.2.2.2 g.1).2.2.2.1
      exact ⟨g1, xUs_up g4 (by omega), by omega, by omega, g9, by rw [g7]; exact b1, by rw [g8]; exact b2, hL, g11⟩
    · rw [l_end (by rw [m4]; decide)]
      have rs := r_sign2 (f := f) (n := n) (pl := pl1) (fp := fp1) (ps := ps1) (mr := mr1) (so := so1) (mv := mv1) m1 m2 m3 m4 m5
      exact ⟨_, _, _, _, _, _, _, _, _, _, _, _, _, _, _, _, _, _, _, _, _, _, _, _, _, _, _, _, _, _, _, _, _, _, _, _, pt1, G1, A1, q1, dr1, rfl, rfl, x9, rs.1, fun z => absurd z rs.2⟩
  · have i0 : (M_isWord kd pl fr 4 f 0).toInt = 0 := by rw [w_rail, if_neg w0]; decide
    obtain ⟨pl1, kd1, fr1, vl1, td1, fl1, fp1, ps1, mr1, so1, mv1, mf1, mw1, hl1, hr1, li1, re1, be1, dL1, dR1, dP1, x1, x2, m1, x4, x5, x6⟩ := r_rule (li := li) (re := re) (be := be) (dL := dL) (dR := dR) (dP := dP) (dr := nI q) (us := us) (dp := dp) (nc := nc) (nw := nw) (c := c) (w := w) (Nm := Nm) (Tb := Tb) (P := P) (Td := Td) (ur := ur) (ua := ua) hf hn h q0 w0 b1 b2 ht
    unfold cLine
    rw [if_pos i0, x1, x2]
    dsimp only
    have mp : 0 ≤ mf1.toInt := by rw [← m1.1]; exact m1.2.1
    rw [l_end mp]
    have rs := r_sign hf hn m1
    refine ⟨_, _, _, _, _, _, _, _, _, _, _, _, _, _, _, _, _, _, _, _, _, _, _, _, _, _, _, _, _, _, _, _, _, _, _, _, pt, G, A, q, nI q, rfl, rfl, d8, rs.1, fun z => ?_⟩
    have g := rs.2 z
    have g1 := x6.2 g.1
    have g10 := (m1.2.2.2 g.1).2.2.2.1
    exact ⟨rfl, xUs_up hu (by omega), by omega, by omega, x6.1, x4, x5, g1.2 hL.1 hL.2.1 hL.2.2, hE⟩
-- 79.lines
section
variable {rf pn f c w ur ua Nm Tb P Td : Nat → Int32} {pt : Nat → Int64} {G A : Nat → Nat → Int64} {n i lines rails pl kd fr vl told dep fl fp dr hl hr us nc nw dp ps mr so mv mf mw li re be dL dR dP : Int32} {sS sI sU sD sT sG oT oN oD : Nat → Int32} {mra mli mre mpa mtk mon mhe mtr mdn mdm mtp mhp : Int32}
theorem T_end (h : ¬ fl.toInt = 0 ∨ kd.toInt = 0) (k : Nat) : K_readText_L4 n f (k + 1) i lines (G 0) (G 1) (G 2) (G 3) (G 4) (G 5) (G 6) (A 0) (A 1) (A 2) (A 3) (A 4) (A 5) (A 6) pn pt rails li re be rf pl kd fr vl told dep fl fp = (lines, pl, kd, fr, vl, told, dep, (M_findNotTold fl fp rf rails).1, (M_findNotTold fl fp rf rails).2, rf, G 0, G 1, G 2, G 3, G 4, G 5, G 6, A 0, A 1, A 2, A 3, A 4, A 5, A 6, rails, li, re, be, pn, pt) := by
  simp only [K_readText_L4, K_readText_7, K_readText_5, K_readText_13, K_readText_11, K_readText_18, K_readText_17, K_readText_15, K_readText_20, K_readText_19, K_readText_16, K_readText_14, K_readText_12, K_readText_9, K_readText_10, K_readText_8, K_readText_6, K_readText_4, K_readText_3, K_readText_2, K_readText_1, M_readText]
  by_cases a : 400 ≤ i.toInt
  · simp only [if_pos a]
  · by_cases q : fl.toInt = 0
    · have c : kd.toInt = 0 := by
        rcases h with h | h
        · exact absurd q h
        · exact h
      simp only [if_neg a, if_pos q, if_pos c]
    · simp only [if_neg a, if_neg q]
theorem T_go (a : i.toInt < 400) (q : fl.toInt = 0) (c : ¬ kd.toInt = 0) (k : Nat) : K_readText_L4 n f (k + 1) i lines (G 0) (G 1) (G 2) (G 3) (G 4) (G 5) (G 6) (A 0) (A 1) (A 2) (A 3) (A 4) (A 5) (A 6) pn pt rails li re be rf pl kd fr vl told dep fl fp = (fun t => K_readText_L4 n f k (i + 1) (lines + 1) t.1 t.2.1 t.2.2.1 t.2.2.2.1 t.2.2.2.2.1 t.2.2.2.2.2.1 t.2.2.2.2.2.2.1 t.2.2.2.2.2.2.2.1 t.2.2.2.2.2.2.2.2.1 t.2.2.2.2.2.2.2.2.2.1 t.2.2.2.2.2.2.2.2.2.2.1 t.2.2.2.2.2.2.2.2.2.2.2.1 t.2.2.2.2.2.2.2.2.2.2.2.2.1 t.2.2.2.2.2.2.2.2.2.2.2.2.2.1 t.2.2.2.2.2.2.2.2.2.2.2.2.2.2.1 t.2.2.2.2.2.2.2.2.2.2.2.2.2.2.2.1 t.2.2.2.2.2.2.2.2.2.2.2.2.2.2.2.2.1 t.2.2.2.2.2.2.2.2.2.2.2.2.2.2.2.2.2.1 t.2.2.2.2.2.2.2.2.2.2.2.2.2.2.2.2.2.2.1 t.2.2.2.2.2.2.2.2.2.2.2.2.2.2.2.2.2.2.2.1 t.2.2.2.2.2.2.2.2.2.2.2.2.2.2.2.2.2.2.2.2.1 t.2.2.2.2.2.2.2.2.2.2.2.2.2.2.2.2.2.2.2.2.2.1 t.2.2.2.2.2.2.2.2.2.2.2.2.2.2.2.2.2.2.2.2.2.2.1 t.2.2.2.2.2.2.2.2.2.2.2.2.2.2.2.2.2.2.2.2.2.2.2.1 t.2.2.2.2.2.2.2.2.2.2.2.2.2.2.2.2.2.2.2.2.2.2.2.2.1 t.2.2.2.2.2.2.2.2.2.2.2.2.2.2.2.2.2.2.2.2.2.2.2.2.2.1 t.2.2.2.2.2.2.2.2.2.2.2.2.2.2.2.2.2.2.2.2.2.2.2.2.2.2.1 t.2.2.2.2.2.2.2.2.2.2.2.2.2.2.2.2.2.2.2.2.2.2.2.2.2.2.2.1 t.2.2.2.2.2.2.2.2.2.2.2.2.2.2.2.2.2.2.2.2.2.2.2.2.2.2.2.2) (cLine n f rails rf (G 0) (G 1) (G 2) (G 3) (G 4) (G 5) (G 6) (A 0) (A 1) (A 2) (A 3) (A 4) (A 5) (A 6) pn pt pl kd fr vl told dep fl fp li re be) := by
  unfold cLine
  simp only [K_readText_L4, K_readText_7, K_readText_5, K_readText_13, K_readText_11, K_readText_18, K_readText_17, K_readText_15, K_readText_20, K_readText_19, K_readText_16, K_readText_14, K_readText_12, K_readText_9, K_readText_10, K_readText_8, K_readText_6, K_readText_4, K_readText_3, K_readText_2, K_readText_1, M_readText]
  simp only [if_neg (by omega : ¬ 400 ≤ i.toInt), if_pos q, if_neg c]
  by_cases w : (M_isWord kd pl fr 4 f 0).toInt = 0
  · simp only [if_pos w]
  · simp only [if_neg w]
theorem X_end (h : ¬ mf.toInt = 0 ∨ so.toInt = 0) (k : Nat) : K_m_text_L14 sS sI sU sD sT sG oT oN oD mra mli mre mpa mtk mon mhe mtr mdn mdm mtp mhp n f (k + 1) lines c w ur ua Nm Tb P Td dr dL dR dP hl hr us nc nw dp ps mr so mv mf mw = K_m_text_L3 us lines dr dL dR dP hl hr nc nw dp ps mr so mv c w ur ua Nm Tb P Td sS sI sU sD sT sG oT oN oD mra mli mre mpa mtk mon mhe mtr mdn mdm mtp mhp 100000 0 mf mw := by
  simp only [K_m_text_L14, K_m_text_8, K_m_text_6, K_m_text_7, K_m_text_4, K_m_text_11, K_m_text_12, K_m_text_10, K_m_text_9, K_m_text_5, K_m_text_3, K_m_text_2, K_m_text_17, K_m_text_19, K_m_text_18, K_m_text_16, K_m_text_15, K_m_text_14, K_m_text_13, K_m_text_1, M_m_text]
  by_cases q : mf.toInt = 0
  · have c : so.toInt = 0 := by
      rcases h with h | h
      · exact absurd q h
      · exact h
    simp only [if_pos q, if_pos c]
  · simp only [if_neg q]
theorem X_go (q : mf.toInt = 0) (c0 : ¬ so.toInt = 0) (k : Nat) : K_m_text_L14 sS sI sU sD sT sG oT oN oD mra mli mre mpa mtk mon mhe mtr mdn mdm mtp mhp n f (k + 1) lines c w ur ua Nm Tb P Td dr dL dR dP hl hr us nc nw dp ps mr so mv mf mw = (fun t => K_m_text_L14 sS sI sU sD sT sG oT oN oD mra mli mre mpa mtk mon mhe mtr mdn mdm mtp mhp n f k (lines + 1) t.2.2.2.2.2.2.2.2.2.2.2.2.2.2.2.2.1 t.2.2.2.2.2.2.2.2.2.2.2.2.2.2.2.2.2.1 t.2.2.2.2.2.2.2.2.2.2.2.2.2.2.2.2.2.2.1 t.2.2.2.2.2.2.2.2.2.2.2.2.2.2.2.2.2.2.2.1 t.2.2.2.2.2.2.2.2.2.2.2.2.2.2.2.2.2.2.2.2.1 t.2.2.2.2.2.2.2.2.2.2.2.2.2.2.2.2.2.2.2.2.2.1 t.2.2.2.2.2.2.2.2.2.2.2.2.2.2.2.2.2.2.2.2.2.2.1 t.2.2.2.2.2.2.2.2.2.2.2.2.2.2.2.2.2.2.2.2.2.2.2 t.1 t.2.1 t.2.2.1 t.2.2.2.1 t.2.2.2.2.1 t.2.2.2.2.2.1 t.2.2.2.2.2.2.1 t.2.2.2.2.2.2.2.1 t.2.2.2.2.2.2.2.2.1 t.2.2.2.2.2.2.2.2.2.1 t.2.2.2.2.2.2.2.2.2.2.1 t.2.2.2.2.2.2.2.2.2.2.2.1 t.2.2.2.2.2.2.2.2.2.2.2.2.1 t.2.2.2.2.2.2.2.2.2.2.2.2.2.1 t.2.2.2.2.2.2.2.2.2.2.2.2.2.2.1 t.2.2.2.2.2.2.2.2.2.2.2.2.2.2.2.1) (M_m_readLine so dL dR dP hl hr n f dr Tb P Nm us c ur ua w nw dp Td nc mv ps mr mf mw) := by
  simp only [K_m_text_L14, K_m_text_8, K_m_text_6, K_m_text_7, K_m_text_4, K_m_text_11, K_m_text_12, K_m_text_10, K_m_text_9, K_m_text_5, K_m_text_3, K_m_text_2, K_m_text_17, K_m_text_19, K_m_text_18, K_m_text_16, K_m_text_15, K_m_text_14, K_m_text_13, K_m_text_1, M_m_text]
  simp only [if_pos q, if_neg c0]
end
/-- all lines, on both sides -/
theorem r_lines {f : Nat → Int32} {n : Int32} {sS sI sU sD sT sG oT oN oD : Nat → Int32} {mra mli mre mpa mtk mon mhe mtr mdn mdm mtp mhp : Int32} (hf : ∀ j, 0 ≤ (f j).toInt) (hn : n.toInt ≤ 400) : ∀ (m : Nat) (rf ur ua c w Nm Tb P Td pn : Nat → Int32) (pt : Nat → Int64) (G A : Nat → Nat → Int64) (i lines pl kd fr vl told dep fl fp dr hl hr us nc nw dp ps mr so mv mf mw li re be dL dR dP : Int32) (q : Nat), xR n pl kd fr vl fl fp ps mr so mv mf mw → q ≤ 8 → (fl.toInt = 0 → n.toInt - fr.toInt < (m : Int) ∧ 0 ≤ i.toInt ∧ i.toInt ≤ fr.toInt ∧ dr = nI q ∧ xUs rf us ur ua fr.toInt ∧ us.toInt ≤ fr.toInt ∧ (0 ≤ told.toInt ∧ told.toInt < 64) ∧ ((told &&& 1).toInt = 0 ↔ hl.toInt = 0) ∧ ((told &&& 2).toInt = 0 ↔ hr.toInt = 0) ∧ (li = dL ∧ re = dR ∧ be = dP) ∧ xE true q pn pt Td Nm Tb) →
    ∃ (lines' pl' kd' fr' vl' told' dep' fl' fp' dr' hl' hr' us' nc' nw' dp' ps' mr' so' mv' mf' mw' li' re' be' dL' dR' dP' : Int32) (rf' ur' ua' c' w' Nm' Tb' P' Td' pn' : Nat → Int32) (pt' : Nat → Int64) (G' A' : Nat → Nat → Int64) (q' : Nat), (∀ kc : Nat, m + 1 ≤ kc → K_readText_L4 n f kc i lines (G 0) (G 1) (G 2) (G 3) (G 4) (G 5) (G 6) (A 0) (A 1) (A 2) (A 3) (A 4) (A 5) (A 6) pn pt (nI q) li re be rf pl kd fr vl told dep fl fp = (lines', pl', kd', fr', vl', told', dep', (M_findNotTold fl' fp' rf' (nI q')).1, (M_findNotTold fl' fp' rf' (nI q')).2, rf', G' 0, G' 1, G' 2, G' 3, G' 4, G' 5, G' 6, A' 0, A' 1, A' 2, A' 3, A' 4, A' 5, A' 6, nI q', li', re', be', pn', pt')) ∧ (∀ km : Nat, m + 1 ≤ km → K_m_text_L14 sS sI sU sD sT sG oT oN oD mra mli mre mpa mtk mon mhe mtr mdn mdm mtp mhp n f km lines c w ur ua Nm Tb P Td dr dL dR dP hl hr us nc nw dp ps mr so mv mf mw = K_m_text_L3 us' lines' dr' dL' dR' dP' hl' hr' nc' nw' dp' ps' mr' so' mv' c' w' ur' ua' Nm' Tb' P' Td' sS sI sU sD sT sG oT oN oD mra mli mre mpa mtk mon mhe mtr mdn mdm mtp mhp 100000 0 mf' mw') ∧ q' ≤ 8 ∧ fl' = mf' ∧ 0 ≤ fl'.toInt ∧ (fl'.toInt ≠ 0 → fp' = mw') ∧ (fl'.toInt = 0 → dr' = nI q' ∧ xUs rf' us' ur' ua' 400 ∧ us'.toInt ≤ 400 ∧ (li' = dL' ∧ re' = dR' ∧ be' = dP') ∧ xE true q' pn' pt' Td' Nm' Tb') := by
  intro m
  induction m with
  | zero =>
    intro rf ur ua c w Nm Tb P Td pn pt G A i lines pl kd fr vl told dep fl fp dr hl hr us nc nw dp ps mr so mv mf mw li re be dL dR dP q h q8 g
    have q0 : ¬ fl.toInt = 0 := fun z => by
      have b := (g z).1
      have c := h.2.2.2 z
      omega
    have q2 : ¬ mf.toInt = 0 := by rw [← h.1]; exact q0
    refine ⟨lines, pl, kd, fr, vl, told, dep, fl, fp, dr, hl, hr, us, nc, nw, dp, ps, mr, so, mv, mf, mw, li, re, be, dL, dR, dP, rf, ur, ua, c, w, Nm, Tb, P, Td, pn, pt, G, A, q, fun kc hc => ?_, fun km hc => ?_, q8, h.1, h.2.1, h.2.2.1, fun z => absurd z q0⟩
    · obtain ⟨kc, rfl⟩ : ∃ j, kc = j + 1 := ⟨kc - 1, by omega⟩
      exact T_end (Or.inl q0) kc
    · obtain ⟨km, rfl⟩ : ∃ j, km = j + 1 := ⟨km - 1, by omega⟩
      exact X_end (Or.inl q2) km
  | succ m ih =>
    intro rf ur ua c w Nm Tb P Td pn pt G A i lines pl kd fr vl told dep fl fp dr hl hr us nc nw dp ps mr so mv mf mw li re be dL dR dP q h q8 g
    by_cases q0 : fl.toInt = 0
    · obtain ⟨g1, g2, g3, g4, g7, g8, g9, g10, g11, g12, g13⟩ := g q0
      have hx := h.2.2.2 q0
      have q2 : mf.toInt = 0 := by rw [← h.1]; exact q0
      by_cases k0 : kd.toInt = 0
      · have s0 : so.toInt = 0 := (xK1 hx.2.2.2.2.2.2).2.mp k0
        refine ⟨lines, pl, kd, fr, vl, told, dep, fl, fp, dr, hl, hr, us, nc, nw, dp, ps, mr, so, mv, mf, mw, li, re, be, dL, dR, dP, rf, ur, ua, c, w, Nm, Tb, P, Td, pn, pt, G, A, q, fun kc hc => ?_, fun km hc => ?_, q8, h.1, h.2.1, h.2.2.1, fun z => ⟨g4, xUs_up g7 (by omega), by omega, g12, g13⟩⟩
        · obtain ⟨kc, rfl⟩ : ∃ j, kc = j + 1 := ⟨kc - 1, by omega⟩
          exact T_end (Or.inr k0) kc
        · obtain ⟨km, rfl⟩ : ∃ j, km = j + 1 := ⟨km - 1, by omega⟩
          exact X_end (Or.inr s0) km
      · have s0 : ¬ so.toInt = 0 := fun z => k0 ((xK1 hx.2.2.2.2.2.2).2.mpr z)
        have lt := hx.2.2.2.2.2.1 k0
        have ii : (i + 1).toInt = i.toInt + 1 := xadd rfl (by decide) (by omega) (by omega)
        subst g4
        obtain ⟨pl1, kd1, fr1, vl1, td1, dep1, fl1, fp1, hl1, hr1, us1, nc1, nw1, dp1, ps1, mr1, so1, mv1, mf1, mw1, li1, re1, be1, dL1, dR1, dP1, rf1, ur1, ua1, c1, w1, Nm1, Tb1, P1, Td1, pn1, pt1, G1, A1, q1, dr1, x1, x2, x9, x3, x4⟩ := r_line (rf := rf) (ur := ur) (ua := ua) (c := c) (w := w) (P := P) (G := G) (A := A) (dep := dep) (dp := dp) (nc := nc) (nw := nw) hf hn h q0 k0 q8 g7 g8 g9 g10 g11 g12 g13
        obtain ⟨lines', pl', kd', fr', vl', told', dep', fl', fp', dr', hl', hr', us', nc', nw', dp', ps', mr', so', mv', mf', mw', li', re', be', dL', dR', dP', rf', ur', ua', c', w', Nm', Tb', P', Td', pn', pt', G', A', q', y1, y2, y3⟩ := ih rf1 ur1 ua1 c1 w1 Nm1 Tb1 P1 Td1 pn1 pt1 G1 A1 (i + 1) (lines + 1) pl1 kd1 fr1 vl1 td1 dep1 fl1 fp1 dr1 hl1 hr1 us1 nc1 nw1 dp1 ps1 mr1 so1 mv1 mf1 mw1 li1 re1 be1 dL1 dR1 dP1 q1 x3 x9 (fun z => by
          obtain ⟨a1, a4, a5, a6, a7, a8, a9, a10, a11⟩ := x4 z
          exact ⟨by omega, by omega, by omega, a1, a4, a5, a7, a8, a9, a10, a11⟩)
        refine ⟨lines', pl', kd', fr', vl', told', dep', fl', fp', dr', hl', hr', us', nc', nw', dp', ps', mr', so', mv', mf', mw', li', re', be', dL', dR', dP', rf', ur', ua', c', w', Nm', Tb', P', Td', pn', pt', G', A', q', fun kc hc => ?_, fun km hc => ?_, y3⟩
        · obtain ⟨kc, rfl⟩ : ∃ j, kc = j + 1 := ⟨kc - 1, by omega⟩
          rw [T_go (by omega) q0 k0, x1]
          exact y1 kc (by omega)
        · obtain ⟨km, rfl⟩ : ∃ j, km = j + 1 := ⟨km - 1, by omega⟩
          rw [X_go q2 s0, x2]
          exact y2 km (by omega)
    · have q2 : ¬ mf.toInt = 0 := by rw [← h.1]; exact q0
      refine ⟨lines, pl, kd, fr, vl, told, dep, fl, fp, dr, hl, hr, us, nc, nw, dp, ps, mr, so, mv, mf, mw, li, re, be, dL, dR, dP, rf, ur, ua, c, w, Nm, Tb, P, Td, pn, pt, G, A, q, fun kc hc => ?_, fun km hc => ?_, q8, h.1, h.2.1, h.2.2.1, fun z => absurd z q0⟩
      · obtain ⟨kc, rfl⟩ : ∃ j, kc = j + 1 := ⟨kc - 1, by omega⟩
        exact T_end (Or.inl q0) kc
      · obtain ⟨km, rfl⟩ : ∃ j, km = j + 1 := ⟨km - 1, by omega⟩
        exact X_end (Or.inl q2) km
-- 80.draft
section
variable {dr : Int32} {S I U D K G dT T dN Nm dO o nm : Nat → Int32}
theorem kd2 : ∀ (m x k : Nat) (f : Nat → Int32), x + m = 56 → ∃ f' : Nat → Int32, K_m_keepDraft_L2 dr S I U D K G dT T dN Nm dO (k + m + 1) (nI x) f = K_m_keepDraft_L5 f' dr S I U D K G dT T dN 100000 0 Nm ∧ (∀ j, x ≤ j → j < 56 → f' j = dO j) ∧ (∀ j, j < x → f' j = f j) := by
  intro m
  induction m with
  | zero =>
    intro x k f hx
    have ex : (nI x).toInt = (x : Int) := nI_toInt (by omega)
    refine ⟨f, ?_, fun j a b => absurd a (by omega), fun j _ => rfl⟩
    simp only [K_m_keepDraft_L2, K_m_keepDraft_11, K_m_keepDraft_9, K_m_keepDraft_10, K_m_keepDraft_8, K_m_keepDraft_6, K_m_keepDraft_7, K_m_keepDraft_5, K_m_keepDraft_3, K_m_keepDraft_4, K_m_keepDraft_2, K_m_keepDraft_1, M_m_keepDraft]
    rw [if_pos (by omega)]
  | succ m ih =>
    intro x k f hx
    have ex : (nI x).toInt = (x : Int) := nI_toInt (by omega)
    have exc : (nI x).toNatClampNeg = x := nI_clamp (by omega)
    obtain ⟨f', a1, a2, a3⟩ := ih (x + 1) k (upd f x (dO x)) (by omega)
    refine ⟨f', ?_, fun j j1 j2 => ?_, fun j hj => ?_⟩
    · show K_m_keepDraft_L2 dr S I U D K G dT T dN Nm dO ((k + m + 1) + 1) (nI x) f = _
      rw [← a1]
      generalize k + m + 1 = j
      simp only [K_m_keepDraft_L2, K_m_keepDraft_11, K_m_keepDraft_9, K_m_keepDraft_10, K_m_keepDraft_8, K_m_keepDraft_6, K_m_keepDraft_7, K_m_keepDraft_5, K_m_keepDraft_3, K_m_keepDraft_4, K_m_keepDraft_2, K_m_keepDraft_1, M_m_keepDraft]
      rw [if_neg (by omega), exc, nI_1]
    · by_cases y : j = x
      · rw [y, a3 x (by omega), xupd_s]
      · exact a2 j (by omega) j2
    · rw [a3 j (by omega), xupd_o (by omega)]
theorem kd5 : ∀ (m x k : Nat) (f : Nat → Int32), x + m = 8 → ∃ f' : Nat → Int32, K_m_keepDraft_L5 o dr S I U D K G dT T dN (k + m + 1) (nI x) f = K_m_keepDraft_L8 o f' dr S I U D K G dT 100000 0 T ∧ (∀ j, x ≤ j → j < 8 → f' j = dN j) ∧ (∀ j, j < x → f' j = f j) := by
  intro m
  induction m with
  | zero =>
    intro x k f hx
    have ex : (nI x).toInt = (x : Int) := nI_toInt (by omega)
    refine ⟨f, ?_, fun j a b => absurd a (by omega), fun j _ => rfl⟩
    simp only [K_m_keepDraft_L5, K_m_keepDraft_11, K_m_keepDraft_9, K_m_keepDraft_10, K_m_keepDraft_8, K_m_keepDraft_6, K_m_keepDraft_7, K_m_keepDraft_5, K_m_keepDraft_3, K_m_keepDraft_4, K_m_keepDraft_2, K_m_keepDraft_1, M_m_keepDraft]
    rw [if_pos (by omega)]
  | succ m ih =>
    intro x k f hx
    have ex : (nI x).toInt = (x : Int) := nI_toInt (by omega)
    have exc : (nI x).toNatClampNeg = x := nI_clamp (by omega)
    obtain ⟨f', a1, a2, a3⟩ := ih (x + 1) k (upd f x (dN x)) (by omega)
    refine ⟨f', ?_, fun j j1 j2 => ?_, fun j hj => ?_⟩
    · show K_m_keepDraft_L5 o dr S I U D K G dT T dN ((k + m + 1) + 1) (nI x) f = _
      rw [← a1]
      generalize k + m + 1 = j
      simp only [K_m_keepDraft_L5, K_m_keepDraft_11, K_m_keepDraft_9, K_m_keepDraft_10, K_m_keepDraft_8, K_m_keepDraft_6, K_m_keepDraft_7, K_m_keepDraft_5, K_m_keepDraft_3, K_m_keepDraft_4, K_m_keepDraft_2, K_m_keepDraft_1, M_m_keepDraft]
      rw [if_neg (by omega), exc, nI_1]
    · by_cases y : j = x
      · rw [y, a3 x (by omega), xupd_s]
      · exact a2 j (by omega) j2
    · rw [a3 j (by omega), xupd_o (by omega)]
theorem kd8 : ∀ (m x k : Nat) (f : Nat → Int32), x + m = 4096 → ∃ f' : Nat → Int32, K_m_keepDraft_L8 o nm dr S I U D K G dT (k + m + 1) (nI x) f = (fun t => (o, nm, f', t.1, t.2.1, t.2.2.1, t.2.2.2.1, t.2.2.2.2.1, t.2.2.2.2.2)) (M_m_begins dr o S I U D K G) ∧ (∀ j, x ≤ j → j < 4096 → f' j = vp_nar .boolean (dT j)) ∧ (∀ j, j < x → f' j = f j) := by
  intro m
  induction m with
  | zero =>
    intro x k f hx
    have ex : (nI x).toInt = (x : Int) := nI_toInt (by omega)
    refine ⟨f, ?_, fun j a b => absurd a (by omega), fun j _ => rfl⟩
    simp only [K_m_keepDraft_L8, K_m_keepDraft_11, K_m_keepDraft_9, K_m_keepDraft_10, K_m_keepDraft_8, K_m_keepDraft_6, K_m_keepDraft_7, K_m_keepDraft_5, K_m_keepDraft_3, K_m_keepDraft_4, K_m_keepDraft_2, K_m_keepDraft_1, M_m_keepDraft]
    rw [if_pos (by omega)]
  | succ m ih =>
    intro x k f hx
    have ex : (nI x).toInt = (x : Int) := nI_toInt (by omega)
    have exc : (nI x).toNatClampNeg = x := nI_clamp (by omega)
    obtain ⟨f', a1, a2, a3⟩ := ih (x + 1) k (upd f x (vp_nar .boolean (dT x))) (by omega)
    refine ⟨f', ?_, fun j j1 j2 => ?_, fun j hj => ?_⟩
    · show K_m_keepDraft_L8 o nm dr S I U D K G dT ((k + m + 1) + 1) (nI x) f = _
      rw [← a1]
      generalize k + m + 1 = j
      simp only [K_m_keepDraft_L8, K_m_keepDraft_11, K_m_keepDraft_9, K_m_keepDraft_10, K_m_keepDraft_8, K_m_keepDraft_6, K_m_keepDraft_7, K_m_keepDraft_5, K_m_keepDraft_3, K_m_keepDraft_4, K_m_keepDraft_2, K_m_keepDraft_1, M_m_keepDraft]
      rw [if_neg (by omega), exc, nI_1]
    · by_cases y : j = x
      · rw [y, a3 x (by omega), xupd_s]
      · exact a2 j (by omega) j2
    · rw [a3 j (by omega), xupd_o (by omega)]
/-- how all begins, the reference's side -/
def xB0 (q : Int) (o S I U D K G : Nat → Int32) (j : Nat) : Prop := S j = 0 ∧ I j = 0 ∧ U j = 0 ∧ D j = 0 ∧ K j = (if (j : Int) < q then o (7 * j) else 0) ∧ G j = 0
theorem b_beg : ∀ (m x k : Nat) (S I U D K G : Nat → Int32), x + m = 8 → ∃ S' I' U' D' K' G' : Nat → Int32, K_m_begins_L2 dr o (k + m + 1) (nI x) S I U D K G = (S', I', U', D', K', G') ∧ (∀ j, x ≤ j → j < 8 → xB0 dr.toInt o S' I' U' D' K' G' j) ∧ (∀ j, j < x → S' j = S j ∧ I' j = I j ∧ U' j = U j ∧ D' j = D j ∧ K' j = K j ∧ G' j = G j) := by
  intro m
  induction m with
  | zero =>
    intro x k S I U D K G hx
    have ex : (nI x).toInt = (x : Int) := nI_toInt (by omega)
    refine ⟨S, I, U, D, K, G, ?_, fun j a b => absurd a (by omega), fun j _ => ⟨rfl, rfl, rfl, rfl, rfl, rfl⟩⟩
    simp only [K_m_begins_L2, K_m_begins_3, K_m_begins_5, K_m_begins_7, K_m_begins_6, K_m_begins_4, K_m_begins_2, K_m_begins_1, M_m_begins]
    rw [if_pos (by omega)]
  | succ m ih =>
    intro x k S I U D K G hx
    have ex : (nI x).toInt = (x : Int) := nI_toInt (by omega)
    have exc : (nI x).toNatClampNeg = x := nI_clamp (by omega)
    have e7 : ((7 : Int32) * nI x + 0).toNatClampNeg = 7 * x := by
      have := xi7 (q := x) (k := 0) (by omega) (by decide)
      exact this
    have n0 : vp_nar .boolean (0 : Int32) = 0 := by decide
    obtain ⟨S', I', U', D', K', G', a1, a2, a3⟩ := ih (x + 1) k (upd S x 0) (upd I x 0) (upd U x 0) (upd D x 0) (upd K x (if (x : Int) < dr.toInt then o (7 * x) else 0)) (upd G x 0) (by omega)
    refine ⟨S', I', U', D', K', G', ?_, fun j j1 j2 => ?_, fun j hj => ?_⟩
    · show K_m_begins_L2 dr o ((k + m + 1) + 1) (nI x) S I U D K G = _
      rw [← a1]
      generalize k + m + 1 = j
      simp only [K_m_begins_L2, K_m_begins_3, K_m_begins_5, K_m_begins_7, K_m_begins_6, K_m_begins_4, K_m_begins_2, K_m_begins_1, M_m_begins, K_m_of_1, M_m_of, n0]
      rw [if_neg (by omega), exc, nI_1]
      by_cases y : (x : Int) < dr.toInt
      · rw [if_neg (by omega), if_pos y, e7]
      · rw [if_pos (by omega), if_neg y]
    · by_cases y : j = x
      · obtain ⟨b1, b2, b3, b4, b5, b6⟩ := a3 x (by omega)
        unfold xB0
        rw [y, b1, b2, b3, b4, b5, b6, xupd_s, xupd_s, xupd_s, xupd_s, xupd_s, xupd_s]
        exact ⟨rfl, rfl, rfl, rfl, rfl, rfl⟩
      · exact a2 j (by omega) j2
    · obtain ⟨b1, b2, b3, b4, b5, b6⟩ := a3 j (by omega)
      rw [b1, b2, b3, b4, b5, b6, xupd_o (by omega), xupd_o (by omega), xupd_o (by omega), xupd_o (by omega), xupd_o (by omega), xupd_o (by omega)]
      exact ⟨rfl, rfl, rfl, rfl, rfl, rfl⟩
/-- what a draft becomes -/
theorem r_draft (dr : Int32) (S I U D K G dT T dN Nm dO O : Nat → Int32) : ∃ O' N' T' S' I' U' D' K' G' : Nat → Int32, M_m_keepDraft dr S I U D K G dT T dN Nm dO O = (O', N', T', S', I', U', D', K', G') ∧ (∀ j, j < 56 → O' j = dO j) ∧ (∀ j, j < 8 → N' j = dN j) ∧ (∀ j, j < 4096 → T' j = vp_nar .boolean (dT j)) ∧ ∀ j, j < 8 → xB0 dr.toInt O' S' I' U' D' K' G' j := by
  obtain ⟨O', o1, o2, -⟩ := kd2 (dr := dr) (S := S) (I := I) (U := U) (D := D) (K := K) (G := G) (dT := dT) (T := T) (dN := dN) (Nm := Nm) (dO := dO) 56 0 99943 O (by omega)
  obtain ⟨N', n1, n2, -⟩ := kd5 (o := O') (dr := dr) (S := S) (I := I) (U := U) (D := D) (K := K) (G := G) (dT := dT) (T := T) (dN := dN) 8 0 99991 Nm (by omega)
  obtain ⟨T', t1, t2, -⟩ := kd8 (o := O') (nm := N') (dr := dr) (S := S) (I := I) (U := U) (D := D) (K := K) (G := G) (dT := dT) 4096 0 95903 T (by omega)
  obtain ⟨S', I', U', D', K', G', b1, b2, -⟩ := b_beg (dr := dr) (o := O') 8 0 99991 S I U D K G (by omega)
  refine ⟨O', N', T', S', I', U', D', K', G', ?_, fun j hj => o2 j (by omega) hj, fun j hj => n2 j (by omega) hj, fun j hj => t2 j (by omega) hj, fun j hj => b2 j (by omega) hj⟩
  show K_m_keepDraft_L2 dr S I U D K G dT T dN Nm dO (99943 + 56 + 1) (nI 0) O = _
  rw [o1]
  show K_m_keepDraft_L5 O' dr S I U D K G dT T dN (99991 + 8 + 1) (nI 0) Nm = _
  rw [n1]
  show K_m_keepDraft_L8 O' N' dr S I U D K G dT (95903 + 4096 + 1) (nI 0) T = _
  rw [t1, show M_m_begins dr O' S I U D K G = K_m_begins_L2 dr O' (99991 + 8 + 1) (nI 0) S I U D K G from rfl, b1]
end
/-- how all begins, the class's side -/
def xB1 (pn S I U K G : Nat → Int32) (j : Nat) : Prop := S j = 0 ∧ I j = 0 ∧ U j = 0 ∧ K j = pn (8 * j) ∧ G j = 0
theorem b_res {pn : Nat → Int32} : ∀ (m x k : Nat) (S I U K G : Nat → Int32), x + m = 8 → ∃ S' I' U' K' G' : Nat → Int32, K_rReset_L2 pn (k + m + 1) (nI x) S I U K G = (S', I', U', K', G') ∧ (∀ j, x ≤ j → j < 8 → xB1 pn S' I' U' K' G' j) ∧ (∀ j, j < x → S' j = S j ∧ I' j = I j ∧ U' j = U j ∧ K' j = K j ∧ G' j = G j) := by
  intro m
  induction m with
  | zero =>
    intro x k S I U K G hx
    have ex : (nI x).toInt = (x : Int) := nI_toInt (by omega)
    refine ⟨S, I, U, K, G, ?_, fun j a b => absurd a (by omega), fun j _ => ⟨rfl, rfl, rfl, rfl, rfl⟩⟩
    simp only [K_rReset_L2, K_rReset_3, K_rReset_5, K_rReset_4, K_rReset_2, K_rReset_1, M_rReset]
    rw [if_pos (by omega)]
  | succ m ih =>
    intro x k S I U K G hx
    have ex : (nI x).toInt = (x : Int) := nI_toInt (by omega)
    have exc : (nI x).toNatClampNeg = x := nI_clamp (by omega)
    have e8 : ((nI x * 8) + 0).toNatClampNeg = 8 * x := xi8 (q := x) (k := 0) (by omega) (by decide)
    obtain ⟨S', I', U', K', G', a1, a2, a3⟩ := ih (x + 1) k (upd S x 0) (upd I x 0) (upd U x 0) (upd K x (pn (8 * x))) (upd G x 0) (by omega)
    refine ⟨S', I', U', K', G', ?_, fun j j1 j2 => ?_, fun j hj => ?_⟩
    · show K_rReset_L2 pn ((k + m + 1) + 1) (nI x) S I U K G = _
      rw [← a1]
      generalize k + m + 1 = j
      simp only [K_rReset_L2, K_rReset_3, K_rReset_5, K_rReset_4, K_rReset_2, K_rReset_1, M_rReset, K_number_1, M_number]
      rw [if_neg (by omega), exc, nI_1, e8]
    · by_cases y : j = x
      · obtain ⟨b1, b2, b3, b5, b6⟩ := a3 x (by omega)
        unfold xB1
        rw [y, b1, b2, b3, b5, b6, xupd_s, xupd_s, xupd_s, xupd_s, xupd_s]
        exact ⟨rfl, rfl, rfl, rfl, rfl⟩
      · exact a2 j (by omega) j2
    · obtain ⟨b1, b2, b3, b5, b6⟩ := a3 j (by omega)
      rw [b1, b2, b3, b5, b6, xupd_o (by omega), xupd_o (by omega), xupd_o (by omega), xupd_o (by omega), xupd_o (by omega)]
      exact ⟨rfl, rfl, rfl, rfl, rfl⟩
theorem r_reset (pn S I U K G : Nat → Int32) : ∃ S' I' U' K' G' : Nat → Int32, M_rReset pn S I U K G = (S', I', U', K', G') ∧ ∀ j, j < 8 → xB1 pn S' I' U' K' G' j := by
  obtain ⟨S', I', U', K', G', a1, a2, -⟩ := b_res (pn := pn) 8 0 99991 S I U K G (by omega)
  exact ⟨S', I', U', K', G', a1, fun j hj => a2 j (by omega) hj⟩
theorem b_fgt : ∀ (m x k : Nat) (f : Nat → Int32), x + m = 64 → ∃ f' : Nat → Int32, K_forget_L2 (k + m + 1) (nI x) f = f' ∧ (∀ j, x ≤ j → j < 64 → f' j = 0) ∧ (∀ j, j < x → f' j = f j) := by
  intro m
  induction m with
  | zero =>
    intro x k f hx
    have ex : (nI x).toInt = (x : Int) := nI_toInt (by omega)
    refine ⟨f, ?_, fun j a b => absurd a (by omega), fun j _ => rfl⟩
    simp only [K_forget_L2, K_forget_3, K_forget_4, K_forget_2, K_forget_1, M_forget]
    rw [if_pos (by omega)]
  | succ m ih =>
    intro x k f hx
    have ex : (nI x).toInt = (x : Int) := nI_toInt (by omega)
    have exc : (nI x).toNatClampNeg = x := nI_clamp (by omega)
    have n0 : vp_nar .boolean (0 : Int32) = 0 := by decide
    obtain ⟨f', a1, a2, a3⟩ := ih (x + 1) k (upd f x 0) (by omega)
    refine ⟨f', ?_, fun j j1 j2 => ?_, fun j hj => ?_⟩
    · show K_forget_L2 ((k + m + 1) + 1) (nI x) f = _
      rw [← a1]
      generalize k + m + 1 = j
      simp only [K_forget_L2, K_forget_3, K_forget_4, K_forget_2, K_forget_1, M_forget, n0]
      rw [if_neg (by omega), exc, nI_1]
    · by_cases y : j = x
      · rw [y, a3 x (by omega), xupd_s]
      · exact a2 j (by omega) j2
    · rw [a3 j (by omega), xupd_o (by omega)]
theorem r_forget (f : Nat → Int32) : ∀ j, j < 64 → M_forgetReckoned f j = 0 := by
  obtain ⟨f', a1, a2, -⟩ := b_fgt 64 0 99935 f (by omega)
  intro j hj
  have e : M_forgetReckoned f = f' := by
    rw [show (99935 + 64 + 1 : Nat) = 100000 from rfl] at a1
    rw [← a1]
    simp only [K_forgetReckoned_2, K_forgetReckoned_1, M_forgetReckoned, M_forget, K_forget_1]
    rfl
  rw [e]
  exact a2 j (by omega) hj
-- 81.told
/-- the class: the first use of what is not told -/
theorem fnt_L {rf : Nat → Int32} {fl fp : Int32} : ∀ (m : Nat) (x a : Int32) (k : Nat), m ≤ 8 → x.toInt = 8 - (m : Int) → ∃ v : Int32, K_findNotTold_L2 fl fp rf (k + m + 1) x a = (if 400 ≤ v.toInt then (fl, fp) else M_refuse fl 6 v fp) ∧ v.toInt ≤ a.toInt ∧ (∀ r : Nat, x.toInt ≤ (r : Int) → r < 8 → (rf r).toInt ≠ -4 → v.toInt ≤ (rf r).toInt) ∧ (v = a ∨ ∃ r : Nat, x.toInt ≤ (r : Int) ∧ r < 8 ∧ (rf r).toInt ≠ -4 ∧ v = rf r) := by
  intro m
  induction m with
  | zero =>
    intro x a k hm hx
    refine ⟨a, ?_, Int.le_refl _, fun r h1 h2 => absurd h1 (by omega), Or.inl rfl⟩
    simp only [K_findNotTold_L2, K_findNotTold_5, K_findNotTold_7, K_findNotTold_6, K_findNotTold_3, K_findNotTold_8, K_findNotTold_9, K_findNotTold_4, K_findNotTold_2, K_findNotTold_1, M_findNotTold]
    rw [if_pos (by omega)]
  | succ m ih =>
    intro x a k hm hx
    have e : (x + 1).toInt = x.toInt + 1 := xadd rfl (by decide) (by omega) (by omega)
    have w := xtn (x := x) (by omega)
    have go : K_findNotTold_L2 fl fp rf (k + (m + 1) + 1) x a = if (rf x.toNatClampNeg).toInt = -4 then K_findNotTold_L2 fl fp rf (k + m + 1) (x + 1) a else K_findNotTold_L2 fl fp rf (k + m + 1) (x + 1) (if rf x.toNatClampNeg < a then rf x.toNatClampNeg else a) := by
      show K_findNotTold_L2 fl fp rf ((k + m + 1) + 1) x a = _
      generalize k + m + 1 = j
      simp only [K_findNotTold_L2, K_findNotTold_5, K_findNotTold_7, K_findNotTold_6, K_findNotTold_3, K_findNotTold_8, K_findNotTold_9, K_findNotTold_4, K_findNotTold_2, K_findNotTold_1, M_findNotTold]
      rw [if_neg (by omega)]
    by_cases q : (rf x.toNatClampNeg).toInt = -4
    · obtain ⟨v, v1, v2, v3, v4⟩ := ih (x + 1) a k (by omega) (by omega)
      refine ⟨v, ?_, v2, fun r h1 h2 h3 => ?_, ?_⟩
      · rw [go, if_pos q]; exact v1
      · by_cases z : r = x.toNatClampNeg
        · rw [z] at h3; exact absurd q h3
        · exact v3 r (by omega) h2 h3
      · rcases v4 with v4 | ⟨r, a1, a2, a3, a4⟩
        · exact Or.inl v4
        · exact Or.inr ⟨r, by omega, a2, a3, a4⟩
    · obtain ⟨v, v1, v2, v3, v4⟩ := ih (x + 1) (if rf x.toNatClampNeg < a then rf x.toNatClampNeg else a) k (by omega) (by omega)
      have mn : (if rf x.toNatClampNeg < a then rf x.toNatClampNeg else a).toInt ≤ a.toInt ∧ (if rf x.toNatClampNeg < a then rf x.toNatClampNeg else a).toInt ≤ (rf x.toNatClampNeg).toInt ∧ ((if rf x.toNatClampNeg < a then rf x.toNatClampNeg else a) = a ∨ (if rf x.toNatClampNeg < a then rf x.toNatClampNeg else a) = rf x.toNatClampNeg) := by
        by_cases z : rf x.toNatClampNeg < a
        · rw [if_pos z]
          have := Int32.lt_iff_toInt_lt.mp z
          exact ⟨by omega, Int.le_refl _, Or.inr rfl⟩
        · rw [if_neg z]
          have : ¬ (rf x.toNatClampNeg).toInt < a.toInt := fun y => z (Int32.lt_iff_toInt_lt.mpr y)
          exact ⟨Int.le_refl _, by omega, Or.inl rfl⟩
      refine ⟨v, ?_, by omega, fun r h1 h2 h3 => ?_, ?_⟩
      · rw [go, if_neg q]; exact v1
      · by_cases z : r = x.toNatClampNeg
        · rw [z]; omega
        · exact v3 r (by omega) h2 h3
      · rcases v4 with v4 | ⟨r, a1, a2, a3, a4⟩
        · rcases mn.2.2 with y | y
          · exact Or.inl (v4.trans y)
          · exact Or.inr ⟨x.toNatClampNeg, by omega, by omega, q, v4.trans y⟩
        · exact Or.inr ⟨r, by omega, a2, a3, a4⟩
theorem fnt {rf : Nat → Int32} {fl fp rails : Int32} (h0 : 0 ≤ rails.toInt) (h8 : rails.toInt ≤ 8) : ∃ v : Int32, M_findNotTold fl fp rf rails = (if 400 ≤ v.toInt then (fl, fp) else M_refuse fl 6 v fp) ∧ v.toInt ≤ 400 ∧ (∀ r : Nat, rails.toInt ≤ (r : Int) → r < 8 → (rf r).toInt ≠ -4 → v.toInt ≤ (rf r).toInt) ∧ (v = 400 ∨ ∃ r : Nat, rails.toInt ≤ (r : Int) ∧ r < 8 ∧ (rf r).toInt ≠ -4 ∧ v = rf r) := by
  have z : (400 : Int32).toInt = 400 := by decide
  obtain ⟨v, v1, v2, v3, v4⟩ := fnt_L (rf := rf) (fl := fl) (fp := fp) (8 - rails.toInt).toNat rails 400 (99999 - (8 - rails.toInt).toNat) (by omega) (by omega)
  refine ⟨v, ?_, by omega, v3, v4⟩
  rw [← v1]
  show K_findNotTold_L2 fl fp rf 100000 rails 400 = _
  rw [show (99999 - (8 - rails.toInt).toNat + (8 - rails.toInt).toNat + 1) = 100000 from by omega]
/-- the reference: the first use of what is not told -/
abbrev xTM : Type := Int32 × Int32 × Int32 × Int32 × Int32 × Int32 × Int32 × Int32 × Int32 × Int32 × Int32 × Int32 × Int32 × Int32 × Int32 × Int32 × Int32 × Int32 × Int32 × Int32 × Int32 × Int32 × Int32 × Int32 × Int32 × Int32 × Int32 × Int32 × Int32 × (Nat → Int32) × (Nat → Int32) × (Nat → Int32) × (Nat → Int32) × (Nat → Int32) × (Nat → Int32) × (Nat → Int32) × (Nat → Int32) × (Nat → Int32) × (Nat → Int32) × (Nat → Int32) × (Nat → Int32) × (Nat → Int32) × (Nat → Int32) × (Nat → Int32) × (Nat → Int32) × (Nat → Int32)
/-- a text that is taken, the reference's side -/
def okM (us lines dr dL dR dP hl hr nc nw dp ps mr so mv mf mw : Int32) (c w ur ua Nm Tb P Td : Nat → Int32) (sS sI sU sD sT sG oT oN oD : Nat → Int32) (mra mli mre mpa mtk mon mhe mtr mdn mdm mtp mhp : Int32) : xTM := (fun t => (lines, dr, dL, dR, dP, dr, dL, dR, dP, hl, hr, us, nc, nw, dp, ps, mr, so, mv, mf, mw, 0, 0, 0, dR, 0, 0, 0, 0, c, w, ur, ua, Nm, Tb, P, Td, t.1, t.2.1, t.2.2.1, t.2.2.2.1, t.2.2.2.2.1, t.2.2.2.2.2.1, t.2.2.2.2.2.2.1, t.2.2.2.2.2.2.2.1, t.2.2.2.2.2.2.2.2)) (M_m_keepDraft dr sS sI sU sD sT sG Tb oT Nm oN Td oD)
def badM (us lines dr dL dR dP hl hr nc nw dp ps mr so mv mf mw : Int32) (c w ur ua Nm Tb P Td : Nat → Int32) (sS sI sU sD sT sG oT oN oD : Nat → Int32) (mra mli mre mpa mtk mon mhe mtr mdn mdm mtp mhp : Int32) : xTM := (-10 - mw, mra, mli, mre, mpa, dr, dL, dR, dP, hl, hr, us, nc, nw, dp, ps, mr, so, mv, mf, mw, mtk, mon, mhe, mtr, mdn, mdm, mtp, mhp, c, w, ur, ua, Nm, Tb, P, Td, oD, oN, oT, sS, sI, sU, sD, sT, sG)
theorem X3_end {us lines dr dL dR dP hl hr nc nw dp ps mr so mv : Int32} {c w ur ua Nm Tb P Td : Nat → Int32} {sS sI sU sD sT sG oT oN oD : Nat → Int32} {mra mli mre mpa mtk mon mhe mtr mdn mdm mtp mhp : Int32} {x mf mw : Int32} (h : us.toInt ≤ x.toInt) (k : Nat) : K_m_text_L3 us lines dr dL dR dP hl hr nc nw dp ps mr so mv c w ur ua Nm Tb P Td sS sI sU sD sT sG oT oN oD mra mli mre mpa mtk mon mhe mtr mdn mdm mtp mhp (k + 1) x mf mw = if mf.toInt ≤ 0 then okM us lines dr dL dR dP hl hr nc nw dp ps mr so mv mf mw c w ur ua Nm Tb P Td sS sI sU sD sT sG oT oN oD mra mli mre mpa mtk mon mhe mtr mdn mdm mtp mhp else badM us lines dr dL dR dP hl hr nc nw dp ps mr so mv mf mw c w ur ua Nm Tb P Td sS sI sU sD sT sG oT oN oD mra mli mre mpa mtk mon mhe mtr mdn mdm mtp mhp := by
  simp only [K_m_text_L3, K_m_text_8, K_m_text_6, K_m_text_7, K_m_text_4, K_m_text_11, K_m_text_12, K_m_text_10, K_m_text_9, K_m_text_5, K_m_text_3, K_m_text_2, K_m_text_17, K_m_text_19, K_m_text_18, K_m_text_16, K_m_text_15, K_m_text_14, K_m_text_13, K_m_text_1, M_m_text, okM, badM]
  rw [if_pos h]
theorem X3_flt {us lines dr dL dR dP hl hr nc nw dp ps mr so mv : Int32} {c w ur ua Nm Tb P Td : Nat → Int32} {sS sI sU sD sT sG oT oN oD : Nat → Int32} {mra mli mre mpa mtk mon mhe mtr mdn mdm mtp mhp : Int32} {x mf mw : Int32} (h : 0 < mf.toInt) (k : Nat) : K_m_text_L3 us lines dr dL dR dP hl hr nc nw dp ps mr so mv c w ur ua Nm Tb P Td sS sI sU sD sT sG oT oN oD mra mli mre mpa mtk mon mhe mtr mdn mdm mtp mhp (k + 1) x mf mw = badM us lines dr dL dR dP hl hr nc nw dp ps mr so mv mf mw c w ur ua Nm Tb P Td sS sI sU sD sT sG oT oN oD mra mli mre mpa mtk mon mhe mtr mdn mdm mtp mhp := by
  simp only [K_m_text_L3, K_m_text_8, K_m_text_6, K_m_text_7, K_m_text_4, K_m_text_11, K_m_text_12, K_m_text_10, K_m_text_9, K_m_text_5, K_m_text_3, K_m_text_2, K_m_text_17, K_m_text_19, K_m_text_18, K_m_text_16, K_m_text_15, K_m_text_14, K_m_text_13, K_m_text_1, M_m_text, badM]
  by_cases y : us.toInt ≤ x.toInt
  · rw [if_pos y, if_neg (by omega)]
  · rw [if_neg y, if_neg (by omega)]
theorem X3_go {us lines dr dL dR dP hl hr nc nw dp ps mr so mv : Int32} {c w ur ua Nm Tb P Td : Nat → Int32} {sS sI sU sD sT sG oT oN oD : Nat → Int32} {mra mli mre mpa mtk mon mhe mtr mdn mdm mtp mhp : Int32} {x mw : Int32} (h : ¬ us.toInt ≤ x.toInt) (k : Nat) : K_m_text_L3 us lines dr dL dR dP hl hr nc nw dp ps mr so mv c w ur ua Nm Tb P Td sS sI sU sD sT sG oT oN oD mra mli mre mpa mtk mon mhe mtr mdn mdm mtp mhp (k + 1) x 0 mw = if (ur x.toNatClampNeg).toInt < dr.toInt then K_m_text_L3 us lines dr dL dR dP hl hr nc nw dp ps mr so mv c w ur ua Nm Tb P Td sS sI sU sD sT sG oT oN oD mra mli mre mpa mtk mon mhe mtr mdn mdm mtp mhp k (x + 1) 0 mw else K_m_text_L3 us lines dr dL dR dP hl hr nc nw dp ps mr so mv c w ur ua Nm Tb P Td sS sI sU sD sT sG oT oN oD mra mli mre mpa mtk mon mhe mtr mdn mdm mtp mhp k (x + 1) 6 (ua x.toNatClampNeg) := by
  simp only [K_m_text_L3, K_m_text_8, K_m_text_6, K_m_text_7, K_m_text_4, K_m_text_11, K_m_text_12, K_m_text_10, K_m_text_9, K_m_text_5, K_m_text_3, K_m_text_2, K_m_text_17, K_m_text_19, K_m_text_18, K_m_text_16, K_m_text_15, K_m_text_14, K_m_text_13, K_m_text_1, M_m_text]
  rw [if_neg h, if_pos (by decide)]
theorem mnt_L {us lines dr dL dR dP hl hr nc nw dp ps mr so mv : Int32} {c w ur ua Nm Tb P Td : Nat → Int32} {sS sI sU sD sT sG oT oN oD : Nat → Int32} {mra mli mre mpa mtk mon mhe mtr mdn mdm mtp mhp : Int32} {mw : Int32} (hu : us.toInt ≤ 400) : ∀ (m : Nat) (x : Int32) (k : Nat), 0 ≤ x.toInt → us.toInt - x.toInt ≤ (m : Int) → m ≤ 500 → ((∀ j : Nat, x.toInt ≤ (j : Int) → (j : Int) < us.toInt → (ur j).toInt < dr.toInt) ∧ K_m_text_L3 us lines dr dL dR dP hl hr nc nw dp ps mr so mv c w ur ua Nm Tb P Td sS sI sU sD sT sG oT oN oD mra mli mre mpa mtk mon mhe mtr mdn mdm mtp mhp (k + m + 2) x 0 mw = okM us lines dr dL dR dP hl hr nc nw dp ps mr so mv 0 mw c w ur ua Nm Tb P Td sS sI sU sD sT sG oT oN oD mra mli mre mpa mtk mon mhe mtr mdn mdm mtp mhp) ∨ (∃ J : Nat, x.toInt ≤ (J : Int) ∧ (J : Int) < us.toInt ∧ dr.toInt ≤ (ur J).toInt ∧ (∀ j : Nat, x.toInt ≤ (j : Int) → j < J → (ur j).toInt < dr.toInt) ∧ K_m_text_L3 us lines dr dL dR dP hl hr nc nw dp ps mr so mv c w ur ua Nm Tb P Td sS sI sU sD sT sG oT oN oD mra mli mre mpa mtk mon mhe mtr mdn mdm mtp mhp (k + m + 2) x 0 mw = badM us lines dr dL dR dP hl hr nc nw dp ps mr so mv 6 (ua J) c w ur ua Nm Tb P Td sS sI sU sD sT sG oT oN oD mra mli mre mpa mtk mon mhe mtr mdn mdm mtp mhp) := by
  intro m
  induction m with
  | zero =>
    intro x k h0 h hm
    left
    refine ⟨fun j h1 h2 => absurd h2 (by omega), ?_⟩
    rw [X3_end (by omega), if_pos (by decide)]
  | succ m ih =>
    intro x k h0 h hm
    by_cases q : us.toInt ≤ x.toInt
    · left
      refine ⟨fun j h1 h2 => absurd h2 (by omega), ?_⟩
      rw [X3_end q, if_pos (by decide)]
    · have e : (x + 1).toInt = x.toInt + 1 := xadd rfl (by decide) (by omega) (by omega)
      have wn9 := xtn (x := x) h0
      have go := X3_go (us := us) (lines := lines) (dr := dr) (dL := dL) (dR := dR) (dP := dP) (hl := hl) (hr := hr) (nc := nc) (nw := nw) (dp := dp) (ps := ps) (mr := mr) (so := so) (mv := mv) (c := c) (w := w) (ur := ur) (ua := ua) (Nm := Nm) (Tb := Tb) (P := P) (Td := Td) (sS := sS) (sI := sI) (sU := sU) (sD := sD) (sT := sT) (sG := sG) (oT := oT) (oN := oN) (oD := oD) (mra := mra) (mli := mli) (mre := mre) (mpa := mpa) (mtk := mtk) (mon := mon) (mhe := mhe) (mtr := mtr) (mdn := mdn) (mdm := mdm) (mtp := mtp) (mhp := mhp) (mw := mw) q (k + m + 2)
      rw [show k + m + 2 + 1 = k + (m + 1) + 2 from by omega] at go
      by_cases z : (ur x.toNatClampNeg).toInt < dr.toInt
      · rcases ih (x + 1) k (by omega) (by omega) (by omega) with ⟨a1, a2⟩ | ⟨J, a1, a2, a3, a4, a5⟩
        · left
          refine ⟨fun j h1 h2 => ?_, by rw [go, if_pos z]; exact a2⟩
          by_cases y : j = x.toNatClampNeg
          · rw [y]; exact z
          · exact a1 j (by omega) h2
        · right
          refine ⟨J, by omega, a2, a3, fun j h1 h2 => ?_, by rw [go, if_pos z]; exact a5⟩
          by_cases y : j = x.toNatClampNeg
          · rw [y]; exact z
          · exact a4 j (by omega) h2
      · right
        refine ⟨x.toNatClampNeg, by omega, by omega, by omega, fun j h1 h2 => absurd h2 (by omega), ?_⟩
        rw [go, if_neg z]
        exact X3_flt (by decide) (k + m + 1)
/-- what is not told: one fault on both sides -/
theorem r_told {us lines dr dL dR dP hl hr nc nw dp ps mr so mv : Int32} {c w ur ua Nm Tb P Td : Nat → Int32} {sS sI sU sD sT sG oT oN oD : Nat → Int32} {mra mli mre mpa mtk mon mhe mtr mdn mdm mtp mhp : Int32} {rf : Nat → Int32} {fl fp mf mw : Int32} {q : Nat} (e : fl = mf) (p : 0 ≤ fl.toInt) (ew : fl.toInt ≠ 0 → fp = mw) (q8 : q ≤ 8) (h : fl.toInt = 0 → dr = nI q ∧ xUs rf us ur ua 400 ∧ us.toInt ≤ 400) : ((M_findNotTold fl fp rf (nI q)).1.toInt = 0 ∧ fl.toInt = 0 ∧ K_m_text_L3 us lines dr dL dR dP hl hr nc nw dp ps mr so mv c w ur ua Nm Tb P Td sS sI sU sD sT sG oT oN oD mra mli mre mpa mtk mon mhe mtr mdn mdm mtp mhp 100000 0 mf mw = okM us lines dr dL dR dP hl hr nc nw dp ps mr so mv 0 mw c w ur ua Nm Tb P Td sS sI sU sD sT sG oT oN oD mra mli mre mpa mtk mon mhe mtr mdn mdm mtp mhp) ∨ (¬ (M_findNotTold fl fp rf (nI q)).1.toInt = 0 ∧ K_m_text_L3 us lines dr dL dR dP hl hr nc nw dp ps mr so mv c w ur ua Nm Tb P Td sS sI sU sD sT sG oT oN oD mra mli mre mpa mtk mon mhe mtr mdn mdm mtp mhp 100000 0 mf mw = badM us lines dr dL dR dP hl hr nc nw dp ps mr so mv (M_findNotTold fl fp rf (nI q)).1 (M_findNotTold fl fp rf (nI q)).2 c w ur ua Nm Tb P Td sS sI sU sD sT sG oT oN oD mra mli mre mpa mtk mon mhe mtr mdn mdm mtp mhp) := by
  subst e
  have qq : (nI q).toInt = (q : Int) := nI_toInt (by omega)
  obtain ⟨v, v1, v2, v3, v4⟩ := fnt (rf := rf) (fl := fl) (fp := fp) (rails := nI q) (by omega) (by omega)
  by_cases q0 : fl.toInt = 0
  · obtain ⟨hd, hu, hus⟩ := h q0
    have ez : fl = 0 := xi0 q0
    obtain ⟨g0, g1, g2, g3⟩ := hu
    have z0 : (0 : Int32).toInt = 0 := by decide
    rcases mnt_L (us := us) (lines := lines) (dr := dr) (dL := dL) (dR := dR) (dP := dP) (hl := hl) (hr := hr) (nc := nc) (nw := nw) (dp := dp) (ps := ps) (mr := mr) (so := so) (mv := mv) (c := c) (w := w) (ur := ur) (ua := ua) (Nm := Nm) (Tb := Tb) (P := P) (Td := Td) (sS := sS) (sI := sI) (sU := sU) (sD := sD) (sT := sT) (sG := sG) (oT := oT) (oN := oN) (oD := oD) (mra := mra) (mli := mli) (mre := mre) (mpa := mpa) (mtk := mtk) (mon := mon) (mhe := mhe) (mtr := mtr) (mdn := mdn) (mdm := mdm) (mtp := mtp) (mhp := mhp) (mw := mw) hus 400 0 99598 (by decide) (by omega) (by decide) with ⟨a1, a2⟩ | ⟨J, a1, a2, a3, a4, a5⟩
    · left
      have v4' : v = 400 := by
        rcases v4 with y | ⟨r, b1, b2, b3, b4⟩
        · exact y
        · rcases g3 r b2 with ⟨c1, -⟩ | ⟨j, c1, c2, c3, c4⟩
          · exact absurd c1 b3
          · have := a1 j (by omega) c1
            rw [hd] at this
            omega
      have f1 : M_findNotTold fl fp rf (nI q) = (fl, fp) := by rw [v1, if_pos (by rw [v4']; decide)]
      rw [f1]
      refine ⟨q0, q0, ?_⟩
      rw [ez]
      exact a2
    · right
      rw [hd] at a3 a4
      have b0 := g1 J a2
      have rJ : rf (ur J).toInt.toNat = ua J := by
        rcases g3 (ur J).toInt.toNat (by omega) with ⟨c1, c2⟩ | ⟨j, c1, c2, c3, c4⟩
        · exact absurd (by omega) (c2 J a2)
        · have jJ : j = J := by
            rcases Nat.lt_trichotomy j J with y | y | y
            · have := a4 j (by omega) y
              omega
            · exact y
            · exact absurd (by omega) (c4 J y)
          rw [c3, jJ]
      have vl : v.toInt ≤ (ua J).toInt := by
        have := v3 (ur J).toInt.toNat (by omega) (by omega) (by rw [rJ]; omega)
        rw [rJ] at this
        exact this
      have vJ : v = ua J := by
        rcases v4 with y | ⟨r, b1, b2, b3, b4⟩
        · have : (400 : Int32).toInt = 400 := by decide
          rw [y] at vl
          omega
        · rcases g3 r b2 with ⟨c1, -⟩ | ⟨j, c1, c2, c3, c4⟩
          · exact absurd c1 b3
          · rcases Nat.lt_trichotomy j J with y | y | y
            · have := a4 j (by omega) y
              omega
            · rw [b4, c3, y]
            · have := g2 J j y c1
              rw [b4, c3] at vl
              omega
      have f1 : M_findNotTold fl fp rf (nI q) = (6, ua J) := by rw [v1, if_neg (by rw [vJ]; omega), t_refuse q0, vJ]
      rw [f1]
      refine ⟨by dsimp only; decide, ?_⟩
      rw [ez]
      exact a5
  · right
    have f1 : M_findNotTold fl fp rf (nI q) = (fl, fp) := by
      rw [v1]
      by_cases z : 400 ≤ v.toInt
      · rw [if_pos z]
      · rw [if_neg z]
        simp only [K_refuse_3, K_refuse_2, K_refuse_1, M_refuse]
        rw [if_neg q0]
    rw [f1]
    refine ⟨q0, ?_⟩
    rw [ew q0]
    exact X3_flt (by omega) 99999
-- 82.text
theorem xE_nar {q : Nat} {pn : Nat → Int32} {pt : Nat → Int64} {Td Nm Tb O N B : Nat → Int32} (q8 : q ≤ 8) (h : xE true q pn pt Td Nm Tb) (h1 : ∀ j, j < 56 → O j = Td j) (h2 : ∀ j, j < 8 → N j = Nm j) (h3 : ∀ j, j < 4096 → B j = vp_nar .boolean (Tb j)) : xE true q pn pt O N B := by
  have n0 : vp_nar .boolean (0 : Int32) = 0 := by decide
  have n1 : vp_nar .boolean (1 : Int32) = 1 := by decide
  intro r hr
  obtain ⟨a, b, c, d, e⟩ := h r hr
  refine ⟨fun k hk hw => ?_, ?_, fun s hs => ?_, by rw [h2 _ (by omega)]; exact d, fun hw => by rw [h1 _ (by omega)]; exact e hw⟩
  · rw [h1 _ (by omega)]
    exact a k hk hw
  · rw [h2 _ (by omega)]
    exact b
  · rw [h3 _ (by omega), c s hs]
    split
    · exact n1
    · exact n0
/-- what a text leaves, both sides: T the class's, U the reference's -/
def xTxt (T : Int32 × Int32 × Int32 × Int32 × Int32 × Int32 × Int32 × Int32 × Int32 × (Nat → Int32) × (Nat → Int64) × (Nat → Int64) × (Nat → Int64) × (Nat → Int64) × (Nat → Int64) × (Nat → Int64) × (Nat → Int64) × (Nat → Int64) × (Nat → Int64) × (Nat → Int64) × (Nat → Int64) × (Nat → Int64) × (Nat → Int64) × (Nat → Int64) × Int32 × Int32 × Int32 × Int32 × (Nat → Int32) × (Nat → Int64)) (U : xTM) (sS : Nat → Int32) (sI : Nat → Int32) (sU : Nat → Int32) (sD : Nat → Int32) (sT : Nat → Int32) (sG : Nat → Int32) (oT : Nat → Int32) (oN : Nat → Int32) (oD : Nat → Int32) (mra mli mre mpa mtk mon mhe mtr mdn mdm mtp mhp : Int32) : Prop :=
  (T.2.2.2.2.2.2.2.1.toInt = 0 ∧ U.2.2.2.2.2.2.2.2.2.2.2.2.2.2.2.2.2.2.2.1.toInt = 0 ∧ U.1 = T.1 ∧ U.2.1 = T.2.2.2.2.2.2.2.2.2.2.2.2.2.2.2.2.2.2.2.2.2.2.2.2.1 ∧ (0 ≤ T.2.2.2.2.2.2.2.2.2.2.2.2.2.2.2.2.2.2.2.2.2.2.2.2.1.toInt ∧ T.2.2.2.2.2.2.2.2.2.2.2.2.2.2.2.2.2.2.2.2.2.2.2.2.1.toInt ≤ 8) ∧ U.2.2.1 = T.2.2.2.2.2.2.2.2.2.2.2.2.2.2.2.2.2.2.2.2.2.2.2.2.2.1 ∧ U.2.2.2.1 = T.2.2.2.2.2.2.2.2.2.2.2.2.2.2.2.2.2.2.2.2.2.2.2.2.2.2.1 ∧ U.2.2.2.2.1 = T.2.2.2.2.2.2.2.2.2.2.2.2.2.2.2.2.2.2.2.2.2.2.2.2.2.2.2.1 ∧ (U.2.2.2.2.2.2.2.2.2.2.2.2.2.2.2.2.2.2.2.2.2.1 = 0 ∧ U.2.2.2.2.2.2.2.2.2.2.2.2.2.2.2.2.2.2.2.2.2.2.1 = 0 ∧ U.2.2.2.2.2.2.2.2.2.2.2.2.2.2.2.2.2.2.2.2.2.2.2.1 = 0 ∧ U.2.2.2.2.2.2.2.2.2.2.2.2.2.2.2.2.2.2.2.2.2.2.2.2.1 = T.2.2.2.2.2.2.2.2.2.2.2.2.2.2.2.2.2.2.2.2.2.2.2.2.2.2.1 ∧ U.2.2.2.2.2.2.2.2.2.2.2.2.2.2.2.2.2.2.2.2.2.2.2.2.2.1 = 0 ∧ U.2.2.2.2.2.2.2.2.2.2.2.2.2.2.2.2.2.2.2.2.2.2.2.2.2.2.1 = 0 ∧ U.2.2.2.2.2.2.2.2.2.2.2.2.2.2.2.2.2.2.2.2.2.2.2.2.2.2.2.1 = 0 ∧ U.2.2.2.2.2.2.2.2.2.2.2.2.2.2.2.2.2.2.2.2.2.2.2.2.2.2.2.2.1 = 0) ∧ xE true T.2.2.2.2.2.2.2.2.2.2.2.2.2.2.2.2.2.2.2.2.2.2.2.2.1.toNatClampNeg T.2.2.2.2.2.2.2.2.2.2.2.2.2.2.2.2.2.2.2.2.2.2.2.2.2.2.2.2.1 T.2.2.2.2.2.2.2.2.2.2.2.2.2.2.2.2.2.2.2.2.2.2.2.2.2.2.2.2.2 U.2.2.2.2.2.2.2.2.2.2.2.2.2.2.2.2.2.2.2.2.2.2.2.2.2.2.2.2.2.2.2.2.2.2.2.2.2.1 U.2.2.2.2.2.2.2.2.2.2.2.2.2.2.2.2.2.2.2.2.2.2.2.2.2.2.2.2.2.2.2.2.2.2.2.2.2.2.1 U.2.2.2.2.2.2.2.2.2.2.2.2.2.2.2.2.2.2.2.2.2.2.2.2.2.2.2.2.2.2.2.2.2.2.2.2.2.2.2.1 ∧ ∀ j, j < 8 → xB0 T.2.2.2.2.2.2.2.2.2.2.2.2.2.2.2.2.2.2.2.2.2.2.2.2.1.toInt U.2.2.2.2.2.2.2.2.2.2.2.2.2.2.2.2.2.2.2.2.2.2.2.2.2.2.2.2.2.2.2.2.2.2.2.2.2.1 U.2.2.2.2.2.2.2.2.2.2.2.2.2.2.2.2.2.2.2.2.2.2.2.2.2.2.2.2.2.2.2.2.2.2.2.2.2.2.2.2.1 U.2.2.2.2.2.2.2.2.2.2.2.2.2.2.2.2.2.2.2.2.2.2.2.2.2.2.2.2.2.2.2.2.2.2.2.2.2.2.2.2.2.1 U.2.2.2.2.2.2.2.2.2.2.2.2.2.2.2.2.2.2.2.2.2.2.2.2.2.2.2.2.2.2.2.2.2.2.2.2.2.2.2.2.2.2.1 U.2.2.2.2.2.2.2.2.2.2.2.2.2.2.2.2.2.2.2.2.2.2.2.2.2.2.2.2.2.2.2.2.2.2.2.2.2.2.2.2.2.2.2.1 U.2.2.2.2.2.2.2.2.2.2.2.2.2.2.2.2.2.2.2.2.2.2.2.2.2.2.2.2.2.2.2.2.2.2.2.2.2.2.2.2.2.2.2.2.1 U.2.2.2.2.2.2.2.2.2.2.2.2.2.2.2.2.2.2.2.2.2.2.2.2.2.2.2.2.2.2.2.2.2.2.2.2.2.2.2.2.2.2.2.2.2 j) ∨
  (¬ T.2.2.2.2.2.2.2.1.toInt = 0 ∧ U.2.2.2.2.2.2.2.2.2.2.2.2.2.2.2.2.2.2.2.1 = T.2.2.2.2.2.2.2.1 ∧ U.1 = -10 - T.2.2.2.2.2.2.2.2.1 ∧ (U.2.1 = mra ∧ U.2.2.1 = mli ∧ U.2.2.2.1 = mre ∧ U.2.2.2.2.1 = mpa) ∧ (U.2.2.2.2.2.2.2.2.2.2.2.2.2.2.2.2.2.2.2.2.2.1 = mtk ∧ U.2.2.2.2.2.2.2.2.2.2.2.2.2.2.2.2.2.2.2.2.2.2.1 = mon ∧ U.2.2.2.2.2.2.2.2.2.2.2.2.2.2.2.2.2.2.2.2.2.2.2.1 = mhe ∧ U.2.2.2.2.2.2.2.2.2.2.2.2.2.2.2.2.2.2.2.2.2.2.2.2.1 = mtr ∧ U.2.2.2.2.2.2.2.2.2.2.2.2.2.2.2.2.2.2.2.2.2.2.2.2.2.1 = mdn ∧ U.2.2.2.2.2.2.2.2.2.2.2.2.2.2.2.2.2.2.2.2.2.2.2.2.2.2.1 = mdm ∧ U.2.2.2.2.2.2.2.2.2.2.2.2.2.2.2.2.2.2.2.2.2.2.2.2.2.2.2.1 = mtp ∧ U.2.2.2.2.2.2.2.2.2.2.2.2.2.2.2.2.2.2.2.2.2.2.2.2.2.2.2.2.1 = mhp) ∧ U.2.2.2.2.2.2.2.2.2.2.2.2.2.2.2.2.2.2.2.2.2.2.2.2.2.2.2.2.2.2.2.2.2.2.2.2.2.1 = oD ∧ U.2.2.2.2.2.2.2.2.2.2.2.2.2.2.2.2.2.2.2.2.2.2.2.2.2.2.2.2.2.2.2.2.2.2.2.2.2.2.1 = oN ∧ U.2.2.2.2.2.2.2.2.2.2.2.2.2.2.2.2.2.2.2.2.2.2.2.2.2.2.2.2.2.2.2.2.2.2.2.2.2.2.2.1 = oT ∧ U.2.2.2.2.2.2.2.2.2.2.2.2.2.2.2.2.2.2.2.2.2.2.2.2.2.2.2.2.2.2.2.2.2.2.2.2.2.2.2.2.1 = sS ∧ U.2.2.2.2.2.2.2.2.2.2.2.2.2.2.2.2.2.2.2.2.2.2.2.2.2.2.2.2.2.2.2.2.2.2.2.2.2.2.2.2.2.1 = sI ∧ U.2.2.2.2.2.2.2.2.2.2.2.2.2.2.2.2.2.2.2.2.2.2.2.2.2.2.2.2.2.2.2.2.2.2.2.2.2.2.2.2.2.2.1 = sU ∧ U.2.2.2.2.2.2.2.2.2.2.2.2.2.2.2.2.2.2.2.2.2.2.2.2.2.2.2.2.2.2.2.2.2.2.2.2.2.2.2.2.2.2.2.1 = sD ∧ U.2.2.2.2.2.2.2.2.2.2.2.2.2.2.2.2.2.2.2.2.2.2.2.2.2.2.2.2.2.2.2.2.2.2.2.2.2.2.2.2.2.2.2.2.1 = sT ∧ U.2.2.2.2.2.2.2.2.2.2.2.2.2.2.2.2.2.2.2.2.2.2.2.2.2.2.2.2.2.2.2.2.2.2.2.2.2.2.2.2.2.2.2.2.2 = sG)
theorem f_T {f rf pn : Nat → Int32} {pt : Nat → Int64} {G A : Nat → Nat → Int64} {n dep kd : Int32} : M_readText n f (G 0) (G 1) (G 2) (G 3) (G 4) (G 5) (G 6) (A 0) (A 1) (A 2) (A 3) (A 4) (A 5) (A 6) pn pt dep kd rf = (fun S => K_readText_L4 n f 100000 0 0 (G 0) (G 1) (G 2) (G 3) (G 4) (G 5) (G 6) (A 0) (A 1) (A 2) (A 3) (A 4) (A 5) (A 6) pn pt 0 999 0 5 (M_fillI 8 (-4) rf) S.1 S.2.1 S.2.2.1 S.2.2.2.1 0 dep S.2.2.2.2.1 S.2.2.2.2.2) (M_step n f 0 0 kd 0) := by
  simp only [K_readText_7, K_readText_5, K_readText_13, K_readText_11, K_readText_18, K_readText_17, K_readText_15, K_readText_20, K_readText_19, K_readText_16, K_readText_14, K_readText_12, K_readText_9, K_readText_10, K_readText_8, K_readText_6, K_readText_4, K_readText_3, K_readText_2, K_readText_1, M_readText]
theorem f_M {f c w ur ua Nm Tb P Td : Nat → Int32} {n nc nw dp mv mw mr so : Int32} {sS sI sU sD sT sG oT oN oD : Nat → Int32} {mra mli mre mpa mtk mon mhe mtr mdn mdm mtp mhp : Int32} : M_m_text sS sI sU sD sT sG oT oN oD mra mli mre mpa mtk mon mhe mtr mdn mdm mtp mhp n f c w ur ua Nm Tb P Td nc nw dp mv mw mr so = (fun V => K_m_text_L14 sS sI sU sD sT sG oT oN oD mra mli mre mpa mtk mon mhe mtr mdn mdm mtp mhp n f 100000 0 c w ur ua Nm Tb P Td 0 999 0 5 0 0 0 nc nw dp V.1 V.2.1 V.2.2.1 V.2.2.2.1 V.2.2.2.2.1 V.2.2.2.2.2) (M_m_next 0 mv mw n f 0 mr so) := by
  simp only [K_m_text_8, K_m_text_6, K_m_text_7, K_m_text_4, K_m_text_11, K_m_text_12, K_m_text_10, K_m_text_9, K_m_text_5, K_m_text_3, K_m_text_2, K_m_text_17, K_m_text_19, K_m_text_18, K_m_text_16, K_m_text_15, K_m_text_14, K_m_text_13, K_m_text_1, M_m_text]
theorem r_text {f rf pn c w ur ua Nm Tb P Td : Nat → Int32} {pt : Nat → Int64} {G A : Nat → Nat → Int64} {n dep kd nc nw dp mv mw mr so : Int32} {sS sI sU sD sT sG oT oN oD : Nat → Int32} {mra mli mre mpa mtk mon mhe mtr mdn mdm mtp mhp : Int32} (hf : ∀ j, 0 ≤ (f j).toInt) (h0 : 0 ≤ n.toInt) (hn : n.toInt ≤ 400) : xTxt (M_readText n f (G 0) (G 1) (G 2) (G 3) (G 4) (G 5) (G 6) (A 0) (A 1) (A 2) (A 3) (A 4) (A 5) (A 6) pn pt dep kd rf) (M_m_text sS sI sU sD sT sG oT oN oD mra mli mre mpa mtk mon mhe mtr mdn mdm mtp mhp n f c w ur ua Nm Tb P Td nc nw dp mv mw mr so) sS sI sU sD sT sG oT oN oD mra mli mre mpa mtk mon mhe mtr mdn mdm mtp mhp := by
  have z0 : (0 : Int32).toInt = 0 := by decide
  have rt := r_tok (fl := 0) (mf := 0) (x := 0) (fp := 0) (kd := kd) (mv := mv) (mw := mw) (mr := mr) (so := so) hf hn (by decide) (by omega) rfl (by decide)
  rw [f_T, f_M]
  dsimp only
  generalize M_step n f 0 0 kd 0 = S at rt ⊢
  generalize M_m_next 0 mv mw n f 0 mr so = V at rt ⊢
  obtain ⟨lines', pl', kd', fr', vl', told', dep', fl', fp', dr', hl', hr', us', nc', nw', dp', ps', mr', so', mv', mf', mw', li', re', be', dL', dR', dP', rf', ur', ua', c', w', Nm', Tb', P', Td', pn', pt', G', A', q', y1, y2, q8, y4, y5, y6, y7⟩ := r_lines (sS := sS) (sI := sI) (sU := sU) (sD := sD) (sT := sT) (sG := sG) (oT := oT) (oN := oN) (oD := oD) (mra := mra) (mli := mli) (mre := mre) (mpa := mpa) (mtk := mtk) (mon := mon) (mhe := mhe) (mtr := mtr) (mdn := mdn) (mdm := mdm) (mtp := mtp) (mhp := mhp) hf hn 401 (M_fillI 8 (-4) rf) ur ua c w Nm Tb P Td pn pt G A 0 0 S.1 S.2.1 S.2.2.1 S.2.2.2.1 0 dep S.2.2.2.2.1 S.2.2.2.2.2 0 0 0 0 nc nw dp V.1 V.2.1 V.2.2.1 V.2.2.2.1 V.2.2.2.2.1 V.2.2.2.2.2 999 0 5 999 0 5 0 rt.1 (by decide) (fun z => by
    have g := (rt.1.2.2.2 z).2.2.1
    refine ⟨by omega, by omega, by omega, rfl, ⟨by decide, fun j hj => absurd hj (by omega), fun i j _ hj => absurd hj (by omega), fun r hr => Or.inl ⟨?_, fun j hj => absurd hj (by omega)⟩⟩, by omega, by decide, by decide, by decide, ⟨rfl, rfl, rfl⟩, fun r hr => absurd hr (by omega)⟩
    unfold M_fillI
    rw [if_pos hr]
    decide)
  rw [show K_readText_L4 n f 100000 0 0 (G 0) (G 1) (G 2) (G 3) (G 4) (G 5) (G 6) (A 0) (A 1) (A 2) (A 3) (A 4) (A 5) (A 6) pn pt 0 999 0 5 (M_fillI 8 (-4) rf) S.1 S.2.1 S.2.2.1 S.2.2.2.1 0 dep S.2.2.2.2.1 S.2.2.2.2.2 = _ from y1 100000 (by decide), y2 100000 (by decide)]
  have qq : (nI q').toInt = (q' : Int) := nI_toInt (by omega)
  rcases r_told (us := us') (lines := lines') (dr := dr') (dL := dL') (dR := dR') (dP := dP') (hl := hl') (hr := hr') (nc := nc') (nw := nw') (dp := dp') (ps := ps') (mr := mr') (so := so') (mv := mv') (c := c') (w := w') (ur := ur') (ua := ua') (Nm := Nm') (Tb := Tb') (P := P') (Td := Td') (sS := sS) (sI := sI) (sU := sU) (sD := sD) (sT := sT) (sG := sG) (oT := oT) (oN := oN) (oD := oD) (mra := mra) (mli := mli) (mre := mre) (mpa := mpa) (mtk := mtk) (mon := mon) (mhe := mhe) (mtr := mtr) (mdn := mdn) (mdm := mdm) (mtp := mtp) (mhp := mhp) y4 y5 y6 q8 (fun z => ⟨(y7 z).1, (y7 z).2.1, (y7 z).2.2.1⟩) with ⟨a1, a2, a3⟩ | ⟨a1, a2⟩
  · obtain ⟨b1, b2, b3, ⟨b4, b5, b6⟩, b7⟩ := y7 a2
    have mz : mf' = 0 := by rw [← y4]; exact xi0 a2
    subst mz
    subst b1
    subst b4
    subst b5
    subst b6
    obtain ⟨O', N', T', S', I', U', D', K', G2, k1, k2, k3, k4, k5⟩ := r_draft (nI q') sS sI sU sD sT sG Tb' oT Nm' oN Td' oD
    rw [a3]
    unfold okM
    rw [k1]
    refine Or.inl ⟨a1, z0, rfl, rfl, ?_, rfl, rfl, rfl, ⟨rfl, rfl, rfl, rfl, rfl, rfl, rfl, rfl⟩, ?_, k5⟩
    · show 0 ≤ (nI q').toInt ∧ (nI q').toInt ≤ 8
      omega
    · show xE true (nI q').toNatClampNeg pn' pt' O' N' T'
      rw [nI_clamp (by omega)]
      exact xE_nar q8 b7 k2 k3 k4
  · rw [a2]
    unfold badM
    exact Or.inr ⟨a1, rfl, rfl, ⟨rfl, rfl, rfl, rfl⟩, ⟨rfl, rfl, rfl, rfl, rfl, rfl, rfl, rfl⟩, rfl, rfl, rfl, rfl, rfl, rfl, rfl, rfl, rfl⟩
-- 83.xtext
/-- what is told: one on both sides -/
def xPl (wt : Bool) (rails limit retry behind : Int32) (pn : Nat → Int32) (pt : Nat → Int64) (mrails mlimit mretry mpause : Int32) (Td Nm Tb : Nat → Int32) : Prop := rails = mrails ∧ limit = mlimit ∧ retry = mretry ∧ behind = mpause ∧ (0 ≤ rails.toInt ∧ rails.toInt ≤ 8) ∧ xE wt rails.toNatClampNeg pn pt Td Nm Tb
/-- what goes: one on both sides -/
def xRn (q : Int) (key tick held tries trips ldraw gdraw : Int32) (rs ri ra rt rg : Nat → Int32) (mon mtk mhe mtr mtp mdn mdm : Int32) (S I U K G : Nat → Int32) : Prop := key = mon ∧ tick = mtk ∧ held = mhe ∧ tries = mtr ∧ trips = mtp ∧ ldraw = mdn ∧ gdraw = mdm ∧ (∀ j : Nat, (j : Int) < q → (rs j = S j ∧ ri j = I j ∧ ra j = U j ∧ rt j = K j ∧ rg j = G j)) ∧ ∀ j : Nat, q ≤ (j : Int) → j < 8 → rs j = 0
/-- what happened: one on both sides -/
def xHi (ysz : Int32) (ya yb yc : Nat → Int32) (mh : Int32) (H : Nat → Int32) : Prop := ysz = mh ∧ ∀ j : Nat, (j : Int) < ysz.toInt → ya j = H (3 * j) ∧ yb j = H (3 * j + 1) ∧ yc j = H (3 * j + 2)
theorem xtext_C {sp pl sna sta pna pta : Nat} {pt ry0 ry1 ry2 ry3 ry4 ry5 ry6 rl0 rl1 rl2 rl3 rl4 rl5 rl6 pts : Nat → Int64} {pn wk rs ri ra rt rg tb pns rf : Nat → Int32} {rails limit retry behind gpk lpk slast dead key tick held tries trips ldraw gdraw ysz pk kn tl depth kind : Int32} {q1 q2 q1n q1t q2n q2t z9 : Nat} {pt9 pt8 ry09 ry19 ry29 ry39 ry49 ry59 ry69 rl09 rl19 rl29 rl39 rl49 rl59 rl69 : Nat → Int64} {pn9 pn8 rf9 rs9 ri9 ra9 rt9 rg9 wk9 : Nat → Int32} {u lf9 rails9 limit9 retry9 behind9 rails8 limit8 retry8 behind8 place9 kind9 from9 value9 told9 depth9 fault9 fplace9 dead9 key9 tick9 held9 tries9 trips9 ldraw9 gdraw9 ysz9 pk9 gpk9 lpk9 kn9 slast9 : Int32} {e1 e2 e3 e4 e5 e6 e7 e8 Ftold9 Fnames9 Ftable9 Fstate9 Fsince9 FupSince9 FisDead9 Ftakes9 FwasGood9 : Nat → Int32} {v mrails9 mlimit9 mretry9 mpause9 d1 d2 d3 d4 d5 d6 d7 d8 d9 d10 d11 d12 d13 d14 mfault9 d16 mtick9 misOn9 mheld9 mtries9 mdrawnNow9 mdrawnMost9 mtrips9 mhappenings9 : Int32} {c w ur ua Nm Tb P Td Ft : Nat → Int32} {mt nc nw dp mv mw mr so : Int32} {sS sI sU sD sT sG oT oN oD : Nat → Int32} {mra mli mre mpa mtk mon mhe mtr mdn mdm mtp mhp : Int32} (hta : tl.toInt = mt.toInt) (htb : tb = Ft) (hbn : ∀ j : Nat, 0 ≤ (tb j).toInt) (h : 0 ≤ tl.toInt ∧ tl.toInt ≤ 400) (x1 : M_x_text sp pl sna sta pna pta rails limit retry behind pn pt gpk lpk slast wk rs ri ra rt rg dead key tick held tries trips ldraw gdraw ysz pk kn tl tb ry0 ry1 ry2 ry3 ry4 ry5 ry6 rl0 rl1 rl2 rl3 rl4 rl5 rl6 pns pts depth kind rf = (u, q1, q2, lf9, q1n, q1t, rails9, limit9, retry9, behind9, pn9, pt9, q2n, q2t, rails8, limit8, retry8, behind8, pn8, pt8, z9, place9, kind9, from9, value9, told9, depth9, fault9, fplace9, rf9, ry09, ry19, ry29, ry39, ry49, ry59, ry69, rl09, rl19, rl29, rl39, rl49, rl59, rl69, dead9, key9, tick9, held9, tries9, trips9, ldraw9, gdraw9, rs9, ri9, ra9, rt9, rg9, ysz9, pk9, gpk9, lpk9, wk9, kn9, slast9)) (x2 : M_m_text sS sI sU sD sT sG oT oN oD mra mli mre mpa mtk mon mhe mtr mdn mdm mtp mhp mt Ft c w ur ua Nm Tb P Td nc nw dp mv mw mr so = (v, mrails9, mlimit9, mretry9, mpause9, d1, d2, d3, d4, d5, d6, d7, d8, d9, d10, d11, d12, d13, d14, mfault9, d16, mtick9, misOn9, mheld9, mtries9, mdrawnNow9, mdrawnMost9, mtrips9, mhappenings9, e1, e2, e3, e4, e5, e6, e7, e8, Ftold9, Fnames9, Ftable9, Fstate9, Fsince9, FupSince9, FisDead9, Ftakes9, FwasGood9)) :
    (u = v ∧ lf9 = mfault9) ∧ ((lf9.toInt = 0 ∧ xPl true rails9 limit9 retry9 behind9 pn9 pt9 mrails9 mlimit9 mretry9 mpause9 Ftold9 Fnames9 Ftable9 ∧ xRn rails9.toInt key9 tick9 held9 tries9 trips9 ldraw9 gdraw9 rs9 ri9 ra9 rt9 rg9 misOn9 mtick9 mheld9 mtries9 mtrips9 mdrawnNow9 mdrawnMost9 Fstate9 Fsince9 FupSince9 Ftakes9 FwasGood9 ∧ ysz9 = 0 ∧ mhappenings9 = 0 ∧ dead9 = 0 ∧ (∀ j, j < 8 → FisDead9 j = 0) ∧ pk9 = 0 ∧ kn9 = 0 ∧ (∀ j, j < 64 → wk9 j = 0) ∧ (∀ j : Nat, j < 8 → Fstate9 j = 0) ∧ ∀ j : Nat, (j : Int) < rails9.toInt → Ftakes9 j = Ftold9 (7 * j)) ∨ (¬ lf9.toInt = 0 ∧ (rails9, limit9, retry9, behind9, pn9, pt9, key9, tick9, held9, tries9, trips9, ldraw9, gdraw9, rs9, ri9, ra9, rt9, rg9, ysz9, dead9, pk9, gpk9, lpk9, wk9, kn9, slast9) = (rails, limit, retry, behind, pn, pt, key, tick, held, tries, trips, ldraw, gdraw, rs, ri, ra, rt, rg, ysz, dead, pk, gpk, lpk, wk, kn, slast) ∧ (mrails9, mlimit9, mretry9, mpause9, Ftold9, Fnames9, Ftable9, misOn9, mtick9, mheld9, mtries9, mtrips9, mdrawnNow9, mdrawnMost9, Fstate9, Fsince9, FupSince9, Ftakes9, FwasGood9, mhappenings9, FisDead9) = (mra, mli, mre, mpa, oD, oN, oT, mon, mtk, mhe, mtr, mtp, mdn, mdm, sS, sI, sU, sT, sG, mhp, sD))) := by
  have q := Int32.toInt_inj.mp hta
  subst q
  subst htb
  have rx := r_text (f := tb) (n := tl) (rf := rf) (pn := pns) (pt := pts) (G := xof ry0 ry1 ry2 ry3 ry4 ry5 ry6) (A := xof rl0 rl1 rl2 rl3 rl4 rl5 rl6) (dep := depth) (kd := kind) (c := c) (w := w) (ur := ur) (ua := ua) (Nm := Nm) (Tb := Tb) (P := P) (Td := Td) (nc := nc) (nw := nw) (dp := dp) (mv := mv) (mw := mw) (mr := mr) (so := so) (sS := sS) (sI := sI) (sU := sU) (sD := sD) (sT := sT) (sG := sG) (oT := oT) (oN := oN) (oD := oD) (mra := mra) (mli := mli) (mre := mre) (mpa := mpa) (mtk := mtk) (mon := mon) (mhe := mhe) (mtr := mtr) (mdn := mdn) (mdm := mdm) (mtp := mtp) (mhp := mhp) hbn h.1 h.2
  rw [x2] at rx
  simp only [K_x_text_6, K_x_text_5, K_x_text_3, K_x_text_4, K_x_text_2, K_x_text_1, M_x_text] at x1
  have rx : xTxt (M_readText tl tb ry0 ry1 ry2 ry3 ry4 ry5 ry6 rl0 rl1 rl2 rl3 rl4 rl5 rl6 pns pts depth kind rf) (v, mrails9, mlimit9, mretry9, mpause9, d1, d2, d3, d4, d5, d6, d7, d8, d9, d10, d11, d12, d13, d14, mfault9, d16, mtick9, misOn9, mheld9, mtries9, mdrawnNow9, mdrawnMost9, mtrips9, mhappenings9, e1, e2, e3, e4, e5, e6, e7, e8, Ftold9, Fnames9, Ftable9, Fstate9, Fsince9, FupSince9, FisDead9, Ftakes9, FwasGood9) sS sI sU sD sT sG oT oN oD mra mli mre mpa mtk mon mhe mtr mdn mdm mtp mhp := rx
  generalize M_readText tl tb ry0 ry1 ry2 ry3 ry4 ry5 ry6 rl0 rl1 rl2 rl3 rl4 rl5 rl6 pns pts depth kind rf = T at rx x1
  rcases rx with ⟨t1, t2, t3, t4, t5, t6, t7, t8, t9, t10, t11⟩ | ⟨t1, t2, t3, t4, t5, t6⟩
  · obtain ⟨S', I', U', K', G', b1, b2⟩ := r_reset T.2.2.2.2.2.2.2.2.2.2.2.2.2.2.2.2.2.2.2.2.2.2.2.2.2.2.2.2.1 rs ri ra rt rg
    have fg := r_forget wk
    rw [if_pos t1, b1] at x1
    generalize M_forgetReckoned wk = fk at fg x1
    simp only [Prod.mk.injEq] at x1
    obtain ⟨c0, c1, c2, c3, c4, c5, c6, c7, c8, c9, c10, c11, c12, c13, c14, c15, c16, c17, c18, c19, c20, c21, c22, c23, c24, c25, c26, c27, c28, c29, c30, c31, c32, c33, c34, c35, c36, c37, c38, c39, c40, c41, c42, c43, c44, c45, c46, c47, c48, c49, c50, c51, c52, c53, c54, c55, c56, c57, c58, c59, c60, c61, c62, c63⟩ := x1
    dsimp only at t2 t3 t4 t6 t7 t8 t9 t10 t11
    obtain ⟨g1, g2, g3, g4, g5, g6, g7, g8⟩ := t9
    have qn := xtn t5.1
    have e9 : ∀ j : Nat, (j : Int) < T.2.2.2.2.2.2.2.2.2.2.2.2.2.2.2.2.2.2.2.2.2.2.2.2.1.toInt → j < T.2.2.2.2.2.2.2.2.2.2.2.2.2.2.2.2.2.2.2.2.2.2.2.2.1.toNatClampNeg := fun j hj => by omega
    have hb : ∀ j : Nat, (j : Int) < T.2.2.2.2.2.2.2.2.2.2.2.2.2.2.2.2.2.2.2.2.2.2.2.2.1.toInt → S' j = Fstate9 j ∧ I' j = Fsince9 j ∧ U' j = FupSince9 j ∧ K' j = Ftakes9 j ∧ G' j = FwasGood9 j := fun j hj => by
      obtain ⟨a1, a2, a3, a4, a5⟩ := b2 j (by omega)
      obtain ⟨d1, d2, d3, d4, d5, d6⟩ := t11 j (by omega)
      rw [if_pos hj] at d5
      have num := (t10 j (e9 j hj)).1 0 (by decide) (Or.inl (by decide))
      exact ⟨a1.trans d1.symm, a2.trans d2.symm, a3.trans d3.symm, a4.trans (num.trans d5.symm), a5.trans d6.symm⟩
    have lz : lf9.toInt = 0 := by rw [← c3]; exact t1
    refine ⟨⟨?_, ?_⟩, Or.inl ⟨lz, ⟨?_, ?_, ?_, ?_, ?_, ?_⟩, ⟨?_, ?_, ?_, ?_, ?_, ?_, ?_, ?_, ?_⟩, c57.symm, g8, c44.symm, fun j hj => (t11 j hj).2.2.2.1, c58.symm, c62.symm, ?_, fun j hj => (t11 j hj).1, ?_⟩⟩
    · rw [← c0, t3]
    · exact Int32.toInt_inj.mp (by omega)
    · rw [← c6, t4]
    · rw [← c7, t6]
    · rw [← c8, t7]
    · rw [← c9, t8]
    · rw [← c6]
      exact t5
    · rw [← c6, ← c10, ← c11]
      exact t10
    · rw [← c45, g2]
    · rw [← c46, g1]
    · rw [← c47, g3]
    · rw [← c48, g4]
    · rw [← c49, g7]
    · rw [← c50, g5]
    · rw [← c51, g6]
    · rw [← c6, ← c52, ← c53, ← c54, ← c55, ← c56]
      exact hb
    · rw [← c52]
      exact fun j _ j2 => (b2 j j2).1
    · rw [← c61]
      exact fg
    · rw [← c6]
      exact fun j hj => by
        obtain ⟨d1, d2, d3, d4, d5, d6⟩ := t11 j (by omega)
        rw [if_pos hj] at d5
        exact d5
  · rw [if_neg t1] at x1
    simp only [Prod.mk.injEq] at x1
    obtain ⟨c0, c1, c2, c3, c4, c5, c6, c7, c8, c9, c10, c11, c12, c13, c14, c15, c16, c17, c18, c19, c20, c21, c22, c23, c24, c25, c26, c27, c28, c29, c30, c31, c32, c33, c34, c35, c36, c37, c38, c39, c40, c41, c42, c43, c44, c45, c46, c47, c48, c49, c50, c51, c52, c53, c54, c55, c56, c57, c58, c59, c60, c61, c62, c63⟩ := x1
    dsimp only at t2 t3 t4 t5 t6
    obtain ⟨p1, p2, p3, p4⟩ := t4
    obtain ⟨g1, g2, g3, g4, g5, g6, g7, g8⟩ := t5
    obtain ⟨w1, w2, w3, w4, w5, w6, w7, w8, w9⟩ := t6
    refine ⟨⟨?_, ?_⟩, Or.inr ⟨?_, ?_, ?_⟩⟩
    · rw [← c0, t3]
    · rw [← c3, t2]
    · rw [← c3]
      exact t1
    · rw [← c6, ← c7, ← c8, ← c9, ← c10, ← c11, ← c44, ← c45, ← c46, ← c47, ← c48, ← c49, ← c50, ← c51, ← c52, ← c53, ← c54, ← c55, ← c56, ← c57, ← c58, ← c59, ← c60, ← c61, ← c62, ← c63]
    · rw [p1, p2, p3, p4, g1, g2, g3, g4, g5, g6, g7, g8, w1, w2, w3, w4, w5, w6, w7, w8, w9]
