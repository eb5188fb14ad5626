def xof (a0 a1 a2 a3 a4 a5 a6 : Nat → Int64) : Nat → Nat → Int64
  | 0 => a0
  | 1 => a1
  | 2 => a2
  | 3 => a3
  | 4 => a4
  | 5 => a5
  | _ => a6
theorem c_x {f rf pn : Nat → Int32} {pt : Nat → Int64} {G A : Nat → Nat → Int64} {dep rails r n pl kd fr vl td fl fp : Int32} : K_readRail_L11 dep rf (G 0) (G 1) (G 2) (G 3) (G 4) (G 5) (G 6) (A 0) (A 1) (A 2) (A 3) (A 4) (A 5) (A 6) rails pt r n f 1 5 pl kd fr vl td fl fp pn = if fl.toInt = 0 then (@ite _ (kd.toInt = 1 ∧ xW1 f fr pl) (Classical.propDecidable _) ((fun S => (fun t => (t.1, t.2.1, t.2.2.1, t.2.2.2.1, td, t.2.2.2.2.1, t.2.2.2.2.2.1, t.2.2.2.2.2.2.1, t.2.2.2.2.2.2.2.1, t.2.2.2.2.2.2.2.2.1, t.2.2.2.2.2.2.2.2.2.1, t.2.2.2.2.2.2.2.2.2.2.1, t.2.2.2.2.2.2.2.2.2.2.2.1, t.2.2.2.2.2.2.2.2.2.2.2.2.1, t.2.2.2.2.2.2.2.2.2.2.2.2.2.1, t.2.2.2.2.2.2.2.2.2.2.2.2.2.2.1, t.2.2.2.2.2.2.2.2.2.2.2.2.2.2.2.1, t.2.2.2.2.2.2.2.2.2.2.2.2.2.2.2.2.1, t.2.2.2.2.2.2.2.2.2.2.2.2.2.2.2.2.2.1, t.2.2.2.2.2.2.2.2.2.2.2.2.2.2.2.2.2.2.1, t.2.2.2.2.2.2.2.2.2.2.2.2.2.2.2.2.2.2.2.1, t.2.2.2.2.2.2.2.2.2.2.2.2.2.2.2.2.2.2.2.2.1, t.2.2.2.2.2.2.2.2.2.2.2.2.2.2.2.2.2.2.2.2.2.1, rails, t.2.2.2.2.2.2.2.2.2.2.2.2.2.2.2.2.2.2.2.2.2.2.1, t.2.2.2.2.2.2.2.2.2.2.2.2.2.2.2.2.2.2.2.2.2.2.2)) (M_readFormula pt r n f rf (M_setNumber pn r 7 0) S.1 S.2.1 S.2.2.1 S.2.2.2.1 S.2.2.2.2.1 S.2.2.2.2.2 (G 1) (G 2) (G 3) (G 4) (G 5) (G 6) (A 1) (A 2) (A 3) (A 4) (A 5) (A 6) (A 0) (G 0))) (M_step n f fl fp kd pl)) (pl, kd, fr, vl, td, dep, fl, fp, rf, G 0, G 1, G 2, G 3, G 4, G 5, G 6, A 0, A 1, A 2, A 3, A 4, A 5, A 6, rails, pn, pt)) else (pl, kd, fr, vl, td, dep, fl, fp, rf, G 0, G 1, G 2, G 3, G 4, G 5, G 6, A 0, A 1, A 2, A 3, A 4, A 5, A 6, rails, pn, pt) := by
  simp only [K_readRail_L11, K_readRail_17, K_readRail_21, K_readRail_20, K_readRail_19, K_readRail_18, K_readRail_16, K_readRail_15, K_readRail_14, K_readRail_12, K_readRail_49, K_readRail_42, K_readRail_44, K_readRail_48, K_readRail_47, K_readRail_46, K_readRail_45, K_readRail_43, K_readRail_41, K_readRail_40, K_readRail_33, K_readRail_35, K_readRail_39, K_readRail_38, K_readRail_37, K_readRail_36, K_readRail_34, K_readRail_32, K_readRail_23, K_readRail_27, K_readRail_31, K_readRail_30, K_readRail_29, K_readRail_28, K_readRail_26, K_readRail_25, K_readRail_24, K_readRail_22, K_readRail_13, K_readRail_11, K_readRail_10, K_readRail_9, K_readRail_8, K_readRail_7, K_readRail_6, K_readRail_5, K_readRail_4, K_readRail_2, K_readRail_50, K_readRail_3, K_readRail_1, M_readRail]
  rw [if_pos (by decide : 4 < (5 : Int32).toInt)]
  by_cases q : fl.toInt = 0
  · rw [if_pos q, if_pos q]
    by_cases w : kd.toInt = 1 ∧ xW1 f fr pl
    · rw [if_neg (by rw [w_when, if_pos w]; decide), if_pos w]
    · rw [if_pos (by rw [w_when, if_neg w]; decide), if_neg w]
  · rw [if_neg q, if_neg q]
theorem m_x {f Td Tb P Nm c ur ua w : Nat → Int32} {n dr us nw dp ps mr so mv mf mw : Int32} (h : mf.toInt = 0 → so.toInt = 1 → (M_m_nameNow ps mr n f).toInt = 27) : K_m_readRail_L7 dr Tb P Nm n f us c ur ua w nw dp 1 0 Td ps mr so mv mf mw = if mf.toInt = 0 then (if so.toInt = 1 then (fun V => (fun t => if t.2.2.2.2.2.2.2.2.1.toInt = 0 then (fun z => (dr + 1, t.1, t.2.1, t.2.2.1, t.2.2.2.1, t.2.2.2.2.1, t.2.2.2.2.2.1, t.2.2.2.2.2.2.1, t.2.2.2.2.2.2.2.1, t.2.2.2.2.2.2.2.2.1, t.2.2.2.2.2.2.2.2.2.1, t.2.2.2.2.2.2.2.2.2.2.1, t.2.2.2.2.2.2.2.2.2.2.2.1, t.2.2.2.2.2.2.2.2.2.2.2.2.1, t.2.2.2.2.2.2.2.2.2.2.2.2.2, z.1, z.2.1, z.2.2, Td)) (M_m_keepFormula t.2.1 dr t.2.2.2.2.2.2.2.2.2.2.1 Tb P Nm) else (dr, t.1, t.2.1, t.2.2.1, t.2.2.2.1, t.2.2.2.2.1, t.2.2.2.2.2.1, t.2.2.2.2.2.2.1, t.2.2.2.2.2.2.2.1, t.2.2.2.2.2.2.2.2.1, t.2.2.2.2.2.2.2.2.2.1, t.2.2.2.2.2.2.2.2.2.2.1, t.2.2.2.2.2.2.2.2.2.2.2.1, t.2.2.2.2.2.2.2.2.2.2.2.2.1, t.2.2.2.2.2.2.2.2.2.2.2.2.2, Nm, Tb, P, Td)) (M_m_readFormula n f us c ur ua V.1 V.2.1 V.2.2.1 V.2.2.2.1 V.2.2.2.2.1 V.2.2.2.2.2 w)) (M_m_next mf mv mw n f ps mr so) else (fun z => (dr + 1, us, 1, nw, dp, ps, mr, so, mv, mf, mw, (upd c (0 : Int32).toNatClampNeg 8), w, ur, ua, z.1, z.2.1, z.2.2, Td)) (M_m_keepFormula 1 dr (upd c (0 : Int32).toNatClampNeg 8) Tb P Nm)) else (dr, us, 1, nw, dp, ps, mr, so, mv, mf, mw, (upd c (0 : Int32).toNatClampNeg 8), w, ur, ua, Nm, Tb, P, Td) := by
  simp only [K_m_readRail_L7, K_m_readRail_17, K_m_readRail_15, K_m_readRail_19, K_m_readRail_18, K_m_readRail_27, K_m_readRail_25, K_m_readRail_26, K_m_readRail_24, K_m_readRail_23, K_m_readRail_22, K_m_readRail_21, K_m_readRail_20, K_m_readRail_16, K_m_readRail_14, K_m_readRail_12, K_m_readRail_13, K_m_readRail_11, K_m_readRail_9, K_m_readRail_10, K_m_readRail_8, K_m_readRail_7, K_m_readRail_5, K_m_readRail_6, K_m_readRail_4, K_m_readRail_28, K_m_readRail_3, K_m_readRail_30, K_m_readRail_29, K_m_readRail_51, K_m_readRail_49, K_m_readRail_50, K_m_readRail_48, K_m_readRail_47, K_m_readRail_46, K_m_readRail_45, K_m_readRail_44, K_m_readRail_35, K_m_readRail_43, K_m_readRail_41, K_m_readRail_42, K_m_readRail_40, K_m_readRail_39, K_m_readRail_38, K_m_readRail_37, K_m_readRail_36, K_m_readRail_34, K_m_readRail_33, K_m_readRail_32, K_m_readRail_31, K_m_readRail_55, K_m_readRail_54, K_m_readRail_52, K_m_readRail_57, K_m_readRail_56, K_m_readRail_53, K_m_readRail_1, M_m_readRail, K_m_readWhen_11, K_m_readWhen_10, K_m_readWhen_9, K_m_readWhen_8, K_m_readWhen_7, K_m_readWhen_5, K_m_readWhen_6, K_m_readWhen_4, K_m_readWhen_3, K_m_readWhen_2, K_m_readWhen_1, M_m_readWhen]
  by_cases q : mf.toInt = 0
  · by_cases s : so.toInt = 1
    · have w1 := h q s
      simp only [if_pos q, if_pos s, if_pos w1]
      by_cases z : (M_m_readFormula n f us c ur ua (M_m_next mf mv mw n f ps mr so).1 (M_m_next mf mv mw n f ps mr so).2.1 (M_m_next mf mv mw n f ps mr so).2.2.1 (M_m_next mf mv mw n f ps mr so).2.2.2.1 (M_m_next mf mv mw n f ps mr so).2.2.2.2.1 (M_m_next mf mv mw n f ps mr so).2.2.2.2.2 w).2.2.2.2.2.2.2.2.1.toInt = 0
      · simp only [if_pos z]
      · simp only [if_neg z]
    · simp only [if_pos q, if_neg s]
  · simp only [if_neg q]
theorem f_R1 {f c ur ua w : Nat → Int32} {n us ps mr so mv mf mw : Int32} : M_m_readFormula n f us c ur ua ps mr so mv mf mw w = R1 n f 100000 100000 us 0 c ur ua 0 0 ps mr so mv mf mw w := by
  unfold R1 xGo
  simp only [K_m_readFormula_8, K_m_readFormula_7, K_m_readFormula_16, K_m_readFormula_15, K_m_readFormula_14, K_m_readFormula_10, K_m_readFormula_13, K_m_readFormula_12, K_m_readFormula_11, K_m_readFormula_9, K_m_readFormula_6, K_m_readFormula_17, K_m_readFormula_20, K_m_readFormula_30, K_m_readFormula_29, K_m_readFormula_28, K_m_readFormula_27, K_m_readFormula_22, K_m_readFormula_26, K_m_readFormula_25, K_m_readFormula_24, K_m_readFormula_23, K_m_readFormula_21, K_m_readFormula_19, K_m_readFormula_18, K_m_readFormula_5, K_m_readFormula_4, K_m_readFormula_3, K_m_readFormula_2, K_m_readFormula_1, M_m_readFormula]
  rfl
theorem f_C1 {f rf pn : Nat → Int32} {pt : Nat → Int64} {G A : Nat → Nat → Int64} {n r pl kd fr vl fl fp : Int32} : M_readFormula pt r n f rf pn pl kd fr vl fl fp (G 1) (G 2) (G 3) (G 4) (G 5) (G 6) (A 1) (A 2) (A 3) (A 4) (A 5) (A 6) (A 0) (G 0) = K_readFormula_L3 pt r n f 100000 0 1 1 rf pn pl kd fr vl (nI 0) fl fp (zst G 0 (M_fillJ 8 0 (G 0)) 0) (zst G 0 (M_fillJ 8 0 (G 0)) 1) (zst G 0 (M_fillJ 8 0 (G 0)) 2) (zst G 0 (M_fillJ 8 0 (G 0)) 3) (zst G 0 (M_fillJ 8 0 (G 0)) 4) (zst G 0 (M_fillJ 8 0 (G 0)) 5) (zst G 0 (M_fillJ 8 0 (G 0)) 6) (zst A 0 (M_fillJ 8 (-1) (A 0)) 0) (zst A 0 (M_fillJ 8 (-1) (A 0)) 1) (zst A 0 (M_fillJ 8 (-1) (A 0)) 2) (zst A 0 (M_fillJ 8 (-1) (A 0)) 3) (zst A 0 (M_fillJ 8 (-1) (A 0)) 4) (zst A 0 (M_fillJ 8 (-1) (A 0)) 5) (zst A 0 (M_fillJ 8 (-1) (A 0)) 6) := by
  simp only [K_readFormula_11, K_readFormula_9, K_readFormula_13, K_readFormula_12, K_readFormula_10, K_readFormula_7, K_readFormula_8, K_readFormula_6, K_readFormula_4, K_readFormula_28, K_readFormula_26, K_readFormula_30, K_readFormula_29, K_readFormula_27, K_readFormula_24, K_readFormula_40, K_readFormula_42, K_readFormula_45, K_readFormula_44, K_readFormula_43, K_readFormula_41, K_readFormula_39, K_readFormula_37, K_readFormula_47, K_readFormula_46, K_readFormula_38, K_readFormula_36, K_readFormula_34, K_readFormula_48, K_readFormula_35, K_readFormula_33, K_readFormula_31, K_readFormula_49, K_readFormula_32, K_readFormula_25, K_readFormula_15, K_readFormula_21, K_readFormula_19, K_readFormula_23, K_readFormula_22, K_readFormula_20, K_readFormula_17, K_readFormula_18, K_readFormula_16, K_readFormula_14, K_readFormula_5, K_readFormula_3, K_readFormula_2, K_readFormula_1, M_readFormula]
  rw [show M_openDepth 0 (G 1) (G 2) (G 3) (G 4) (G 5) (G 6) (A 1) (A 2) (A 3) (A 4) (A 5) (A 6) (A 0) (G 0) = _ from r_open (d := 0) (by decide) G A]
  rfl
theorem xcpy {g pt : Nat → Int64} {q i : Nat} (hq : q < 8) (hi : i < 8) : va_cpy g pt (0 : Int32).toNatClampNeg (nI q * 8).toNatClampNeg (8 : Int32).toNatClampNeg (8 * q + i) = g i := by
  have e0 : (0 : Int32).toNatClampNeg = 0 := by decide
  have e8 : (8 : Int32).toNatClampNeg = 8 := by decide
  have e1 : (nI q * 8).toNatClampNeg = 8 * q := by
    rw [show nI q * 8 = nI (q * 8) from pk_mul q 8, nI_clamp (by omega)]
    omega
  unfold va_cpy
  rw [e0, e8, e1, if_pos (by omega)]
  congr 1
  omega
theorem xcpy_o {g pt : Nat → Int64} {q j : Nat} (hq : q < 8) (hj : j < 8 * q ∨ 8 * q + 8 ≤ j) : va_cpy g pt (0 : Int32).toNatClampNeg (nI q * 8).toNatClampNeg (8 : Int32).toNatClampNeg j = pt j := by
  have e8 : (8 : Int32).toNatClampNeg = 8 := by decide
  have e1 : (nI q * 8).toNatClampNeg = 8 * q := by
    rw [show nI q * 8 = nI (q * 8) from pk_mul q 8, nI_clamp (by omega)]
    omega
  unfold va_cpy
  rw [e8, e1, if_neg (by omega)]
theorem xKn_q {q : Nat} (hq : q < 8) : xKn (nI q) = 8 * q + 7 := xi8 (k := 7) hq (by decide)
/-- what stands behind the withs: nothing, or when and a formula -/
theorem r_when {f rf ur ua pn c w Td Nm Tb P : Nat → Int32} {pt : Nat → Int64} {G A : Nat → Nat → Int64} {n dep rails us nw dp pl kd fr vl td fl fp ps mr so mv mf mw : Int32} {q : Nat} {b : Int} (hf : ∀ j, 0 ≤ (f j).toInt) (hn : n.toInt ≤ 400) (hq : q < 8) (h : xR n pl kd fr vl fl fp ps mr so mv mf mw) (he : ¬ fl.toInt = 0 ∨ ¬ kd.toInt = 1 ∨ xW1 f fr pl) (hu : fl.toInt = 0 → xUs rf us ur ua fr.toInt ∧ us.toInt ≤ fr.toInt ∧ b ≤ fr.toInt ∧ xE true q pn pt Td Nm Tb ∧ (∀ k, k < 7 → pn (8 * q + k) = Td (7 * q + k)) ∧ pn (8 * q + 7) = 256 ∧ xDf q pt ∧ 0 ≤ (Td (7 * q + 5)).toInt ∧ (Td (7 * q + 5)).toInt ≤ 9) :
    ∃ (pl' kd' fr' vl' dep' fl' fp' us' nc' nw' dp' ps' mr' so' mv' mf' mw' dr' : Int32) (rf' ur' ua' pn' c' w' Nm' Tb' P' : Nat → Int32) (pt' : Nat → Int64) (G' A' : Nat → Nat → Int64), K_readRail_L11 dep rf (G 0) (G 1) (G 2) (G 3) (G 4) (G 5) (G 6) (A 0) (A 1) (A 2) (A 3) (A 4) (A 5) (A 6) rails pt (nI q) n f 1 5 pl kd fr vl td fl fp pn = (pl', kd', fr', vl', td, dep', fl', fp', rf', G' 0, G' 1, G' 2, G' 3, G' 4, G' 5, G' 6, A' 0, A' 1, A' 2, A' 3, A' 4, A' 5, A' 6, rails, pn', pt') ∧ K_m_readRail_L7 (nI q) Tb P Nm n f us c ur ua w nw dp 1 0 Td ps mr so mv mf mw = (dr', us', nc', nw', dp', ps', mr', so', mv', mf', mw', c', w', ur', ua', Nm', Tb', P', Td) ∧ ((xR n pl' kd' fr' vl' fl' fp' ps' mr' so' mv' mf' mw' ∧ (fl'.toInt = 0 → fl.toInt = 0 ∧ dr' = nI (q + 1) ∧ xUs rf' us' ur' ua' fr'.toInt ∧ us'.toInt ≤ fr'.toInt ∧ b ≤ fr'.toInt ∧ xE true (q + 1) pn' pt' Td Nm' Tb')) ∨ (fl'.toInt = 0 ∧ fl.toInt = 0 ∧ kd'.toInt = 3 ∧ vl'.toInt = 41 ∧ mf' = 2 ∧ mw' = fr')) := by
  obtain ⟨e, hp, hw, hk⟩ := h
  subst e
  by_cases q0 : fl.toInt = 0
  · obtain ⟨e1, e2, r0, r1, r2, r3, k⟩ := hk q0
    subst e1
    subst e2
    obtain ⟨u1, u2, u3, u4, u5, u6, u7, u8⟩ := hu q0
    obtain ⟨n20, n21, n22, n23, n24, n25, n26, n27, n28, nle⟩ := nm_some (f := f) (ps := pl) r0 r2 hn
    by_cases c1 : kd.toInt = 1
    · have s1 : so.toInt = 1 := (xK1 k).1.mp c1
      have w1 : xW1 f fr pl := by
        rcases he with z | z | z
        · exact absurd q0 z
        · exact absurd c1 z
        · exact z
      rw [c_x, if_pos q0, if_pos ⟨c1, w1⟩, m_x (fun _ _ => n27.mpr w1), if_pos q0, if_pos s1]
      dsimp only
      have rt := r_tok (fp := fp) (kd := kd) (mv := mv) (mw := mw) (mr := fr) (so := so) hf hn (by omega) r2 (rfl : fl = fl) q0
      generalize M_step n f fl fp kd pl = S at rt ⊢
      generalize M_m_next fl mv mw n f pl fr so = V at rt ⊢
      have lt := r3 (by omega)
      rw [show M_setNumber pn (nI q) 7 0 = _ from t_setN (k := 7) hq (by decide)]
      have z0 : (0 : Int32).toInt = 0 := by decide
      have zn : (0 : Int32).toNatClampNeg = 0 := by decide
      have sm := (sim (pn0 := pn) (pt := pt) (r := nI q) hf hn 402 (by decide)).1 0 S.1 S.2.1 S.2.2.1 S.2.2.2.1 S.2.2.2.2.1 S.2.2.2.2.2 us 0 0 V.1 V.2.1 V.2.2.1 V.2.2.2.1 V.2.2.2.2.1 V.2.2.2.2.2 rf (upd pn (8 * q + 7) 0) c w ur ua (zst G 0 (M_fillJ 8 0 (G 0))) (zst A 0 (M_fillJ 8 (-1) (A 0))) 0 b rt.1 (fun z => by
        have g := rt.2 z
        refine ⟨by omega, by omega, by omega, by omega, xUs_up u1 (by omega), by omega, by omega, by omega, by omega, by omega, ?_, ?_⟩
        · rw [zn]
          exact s_start (fun x hx => by unfold M_fillJ; rw [if_pos hx]) (fun x hx => by unfold M_fillJ; rw [if_pos hx])
        · rw [zn, xKn_q hq]
          rfl) 100000 100000 100000 (by decide) (by decide) (by decide)
      rw [← f_C1, show R1 n f 100000 100000 us 0 c ur ua 0 (nI 0) V.1 V.2.1 V.2.2.1 V.2.2.2.1 V.2.2.2.2.1 V.2.2.2.2.2 w = _ from f_R1.symm] at sm
      generalize M_readFormula pt (nI q) n f rf (upd pn (8 * q + 7) 0) S.1 S.2.1 S.2.2.1 S.2.2.2.1 S.2.2.2.2.1 S.2.2.2.2.2 (G 1) (G 2) (G 3) (G 4) (G 5) (G 6) (A 1) (A 2) (A 3) (A 4) (A 5) (A 6) (A 0) (G 0) = t at sm ⊢
      generalize M_m_readFormula n f us c ur ua V.1 V.2.1 V.2.2.1 V.2.2.2.1 V.2.2.2.2.1 V.2.2.2.2.2 w = u at sm ⊢
      rcases sm with ⟨m1, m2⟩ | ⟨m1, m2, m3, m4, m5⟩
      · by_cases z : t.2.2.2.2.2.1.toInt = 0
        · have z2 : u.2.2.2.2.2.2.2.2.1.toInt = 0 := by rw [← m1.1]; exact z
          obtain ⟨g1, g2, g3, g4, g5, g6, g, g7, g8, g9, g10⟩ := m2 z
          have y := (m1.2.2.2 z).2.2.2.1
          have y2 := (m1.2.2.2 z).2.2.2.2.1
          have lf : t.2.2.1.toInt ≤ 400 := by omega
          obtain ⟨T', P', k1, k2, k3⟩ := r_keep (T := Tb) (P := P) (f := Nm) hq g4 (by omega) g8 g9 g10
          rw [if_pos z2, k1]
          refine ⟨t.1, t.2.1, t.2.2.1, t.2.2.2.1, t.2.2.2.2.1, t.2.2.2.2.2.1, t.2.2.2.2.2.2.1, u.1, u.2.1, u.2.2.1, u.2.2.2.1, u.2.2.2.2.1, u.2.2.2.2.2.1, u.2.2.2.2.2.2.1, u.2.2.2.2.2.2.2.1, u.2.2.2.2.2.2.2.2.1, u.2.2.2.2.2.2.2.2.2.1, nI q + 1, t.2.2.2.2.2.2.2.1, u.2.2.2.2.2.2.2.2.2.2.2.2.1, u.2.2.2.2.2.2.2.2.2.2.2.2.2, t.2.2.2.2.2.2.2.2.2.2.2.2.2.2.2.2.2.2.2.2.2.2.1, u.2.2.2.2.2.2.2.2.2.2.1, u.2.2.2.2.2.2.2.2.2.2.2.1, upd Nm q (xnm u.2.2.2.2.2.2.2.2.2.2.1 u.2.1.toNatClampNeg), T', P', t.2.2.2.2.2.2.2.2.2.2.2.2.2.2.2.2.2.2.2.2.2.2.2, xof t.2.2.2.2.2.2.2.2.1 t.2.2.2.2.2.2.2.2.2.1 t.2.2.2.2.2.2.2.2.2.2.1 t.2.2.2.2.2.2.2.2.2.2.2.1 t.2.2.2.2.2.2.2.2.2.2.2.2.1 t.2.2.2.2.2.2.2.2.2.2.2.2.2.1 t.2.2.2.2.2.2.2.2.2.2.2.2.2.2.1, xof t.2.2.2.2.2.2.2.2.2.2.2.2.2.2.2.1 t.2.2.2.2.2.2.2.2.2.2.2.2.2.2.2.2.1 t.2.2.2.2.2.2.2.2.2.2.2.2.2.2.2.2.2.1 t.2.2.2.2.2.2.2.2.2.2.2.2.2.2.2.2.2.2.1 t.2.2.2.2.2.2.2.2.2.2.2.2.2.2.2.2.2.2.2.1 t.2.2.2.2.2.2.2.2.2.2.2.2.2.2.2.2.2.2.2.2.1 t.2.2.2.2.2.2.2.2.2.2.2.2.2.2.2.2.2.2.2.2.2.1, rfl, rfl, Or.inl ⟨m1, fun _ => ⟨q0, nI_1 q, g1, g2, g3, ?_⟩⟩⟩
          rw [g6, g7, xKn_q hq]
          refine xE_add (xE_keep u4 (fun j hj => xupd_o (by omega)) (fun j hj => xcpy_o hq (by omega)) (fun j hj => rfl) (fun j hj => xupd_o (by omega)) (fun j hj => k3 j (by omega))) ⟨fun j hj _ => ?_, ?_, fun s hs => ?_, fun s t hs ht hst hv => ?_, fun _ => u8⟩
          · rw [xupd_o (by omega)]
            exact u5 j hj
          · rw [xupd_s, xupd_s]
          · rw [k2 s hs, xbt_ext (g := fun i => va_cpy g pt (0 : Int32).toNatClampNeg (nI q * 8).toNatClampNeg (8 : Int32).toNatClampNeg (8 * q + i)) (h := g) hs (fun i hi => xcpy hq hi)]
          · rw [xbt_ext (g := fun i => va_cpy g pt (0 : Int32).toNatClampNeg (nI q * 8).toNatClampNeg (8 : Int32).toNatClampNeg (8 * q + i)) (h := g) ht (fun i hi => xcpy hq hi)]
            rw [xbt_ext (g := fun i => va_cpy g pt (0 : Int32).toNatClampNeg (nI q * 8).toNatClampNeg (8 : Int32).toNatClampNeg (8 * q + i)) (h := g) hs (fun i hi => xcpy hq hi)] at hv
            rw [xupd_s] at hst
            exact xev_mono1 (fun j hj h9 hv => hst _ (by have := (g8 j hj).1; omega) (xnm_bit _ j hj (g8 j hj).1 h9) hv) (g10 s hs) (g10 t ht) hv
        · have z2 : ¬ u.2.2.2.2.2.2.2.2.1.toInt = 0 := by rw [← m1.1]; exact z
          rw [if_neg z2]
          exact ⟨t.1, t.2.1, t.2.2.1, t.2.2.2.1, t.2.2.2.2.1, t.2.2.2.2.2.1, t.2.2.2.2.2.2.1, u.1, u.2.1, u.2.2.1, u.2.2.2.1, u.2.2.2.2.1, u.2.2.2.2.2.1, u.2.2.2.2.2.2.1, u.2.2.2.2.2.2.2.1, u.2.2.2.2.2.2.2.2.1, u.2.2.2.2.2.2.2.2.2.1, nI q, t.2.2.2.2.2.2.2.1, u.2.2.2.2.2.2.2.2.2.2.2.2.1, u.2.2.2.2.2.2.2.2.2.2.2.2.2, t.2.2.2.2.2.2.2.2.2.2.2.2.2.2.2.2.2.2.2.2.2.2.1, u.2.2.2.2.2.2.2.2.2.2.1, u.2.2.2.2.2.2.2.2.2.2.2.1, Nm, Tb, P, t.2.2.2.2.2.2.2.2.2.2.2.2.2.2.2.2.2.2.2.2.2.2.2, xof t.2.2.2.2.2.2.2.2.1 t.2.2.2.2.2.2.2.2.2.1 t.2.2.2.2.2.2.2.2.2.2.1 t.2.2.2.2.2.2.2.2.2.2.2.1 t.2.2.2.2.2.2.2.2.2.2.2.2.1 t.2.2.2.2.2.2.2.2.2.2.2.2.2.1 t.2.2.2.2.2.2.2.2.2.2.2.2.2.2.1, xof t.2.2.2.2.2.2.2.2.2.2.2.2.2.2.2.1 t.2.2.2.2.2.2.2.2.2.2.2.2.2.2.2.2.1 t.2.2.2.2.2.2.2.2.2.2.2.2.2.2.2.2.2.1 t.2.2.2.2.2.2.2.2.2.2.2.2.2.2.2.2.2.2.1 t.2.2.2.2.2.2.2.2.2.2.2.2.2.2.2.2.2.2.2.1 t.2.2.2.2.2.2.2.2.2.2.2.2.2.2.2.2.2.2.2.2.1 t.2.2.2.2.2.2.2.2.2.2.2.2.2.2.2.2.2.2.2.2.2.1, rfl, rfl, Or.inl ⟨m1, fun y => absurd y z⟩⟩
      · have z2 : ¬ u.2.2.2.2.2.2.2.2.1.toInt = 0 := by rw [m4]; decide
        rw [if_neg z2]
        exact ⟨t.1, t.2.1, t.2.2.1, t.2.2.2.1, t.2.2.2.2.1, t.2.2.2.2.2.1, t.2.2.2.2.2.2.1, u.1, u.2.1, u.2.2.1, u.2.2.2.1, u.2.2.2.2.1, u.2.2.2.2.2.1, u.2.2.2.2.2.2.1, u.2.2.2.2.2.2.2.1, u.2.2.2.2.2.2.2.2.1, u.2.2.2.2.2.2.2.2.2.1, nI q, t.2.2.2.2.2.2.2.1, u.2.2.2.2.2.2.2.2.2.2.2.2.1, u.2.2.2.2.2.2.2.2.2.2.2.2.2, t.2.2.2.2.2.2.2.2.2.2.2.2.2.2.2.2.2.2.2.2.2.2.1, u.2.2.2.2.2.2.2.2.2.2.1, u.2.2.2.2.2.2.2.2.2.2.2.1, Nm, Tb, P, t.2.2.2.2.2.2.2.2.2.2.2.2.2.2.2.2.2.2.2.2.2.2.2, xof t.2.2.2.2.2.2.2.2.1 t.2.2.2.2.2.2.2.2.2.1 t.2.2.2.2.2.2.2.2.2.2.1 t.2.2.2.2.2.2.2.2.2.2.2.1 t.2.2.2.2.2.2.2.2.2.2.2.2.1 t.2.2.2.2.2.2.2.2.2.2.2.2.2.1 t.2.2.2.2.2.2.2.2.2.2.2.2.2.2.1, xof t.2.2.2.2.2.2.2.2.2.2.2.2.2.2.2.1 t.2.2.2.2.2.2.2.2.2.2.2.2.2.2.2.2.1 t.2.2.2.2.2.2.2.2.2.2.2.2.2.2.2.2.2.1 t.2.2.2.2.2.2.2.2.2.2.2.2.2.2.2.2.2.2.1 t.2.2.2.2.2.2.2.2.2.2.2.2.2.2.2.2.2.2.2.1 t.2.2.2.2.2.2.2.2.2.2.2.2.2.2.2.2.2.2.2.2.1 t.2.2.2.2.2.2.2.2.2.2.2.2.2.2.2.2.2.2.2.2.2.1, rfl, rfl, Or.inr ⟨m1, q0, m2, m3, m4, m5⟩⟩
    · have s1 : ¬ so.toInt = 1 := fun z => c1 ((xK1 k).1.mpr z)
      have c0 : (0 : Int32).toNatClampNeg = 0 := by decide
      have o1 : (1 : Int32).toNatClampNeg = 1 := by decide
      have v8 : ∀ s, s < 512 → xev (upd c 0 8) s (1 : Int32).toNatClampNeg = [s.testBit 8] := fun s hs => by
        rw [o1, show (1 : Nat) = 0 + 1 from rfl, xev_put, if_pos (by decide)]
        rfl
      obtain ⟨T', P', k1, k2, k3⟩ := r_keep (c := upd c 0 8) (nc := 1) (T := Tb) (P := P) (f := Nm) hq (by decide) (by decide) (fun j hj => by
        obtain rfl : j = 0 := by rw [o1] at hj; omega
        rw [xupd_s]
        exact ⟨by decide, Or.inl (by decide)⟩) (fun j hj h9 => by
        obtain rfl : j = 0 := by rw [o1] at hj; omega
        rw [xupd_s] at h9
        exact absurd h9 (by decide)) v8
      rw [c_x, if_pos q0, if_neg (fun z => c1 z.1), m_x (fun _ z => absurd z s1), if_pos q0, if_neg s1, c0, k1]
      refine ⟨pl, kd, fr, vl, dep, fl, fp, us, 1, nw, dp, pl, fr, so, mv, fl, mw, nI q + 1, rf, ur, ua, pn, upd c 0 8, w, upd Nm q (xnm (upd c 0 8) (1 : Int32).toNatClampNeg), T', P', pt, G, A, rfl, rfl, Or.inl ⟨xR_ok rfl q0 r0 r1 r2 r3 k rfl, fun _ => ⟨q0, nI_1 q, u1, u2, u3, ?_⟩⟩⟩
      refine xE_add (xE_keep u4 (fun j hj => rfl) (fun j hj => rfl) (fun j hj => rfl) (fun j hj => xupd_o (by omega)) (fun j hj => k3 j (by omega))) ⟨fun j hj _ => u5 j hj, ?_, fun s hs => ?_, fun s t hs ht hst hv => ?_, fun _ => u8⟩
      · rw [xupd_s, u6, o1, show (1 : Nat) = 0 + 1 from rfl, xnm_put (by decide)]
        show (256 : Int32) = (0 : Int32) ||| ((1 : Int32) <<< ((8 : Int32) &&& 31))
        decide
      · rw [k2 s hs, xdf_bit hs u7]
      · rw [xdf_bit hs u7] at hv
        rw [xdf_bit ht u7]
        refine hst 8 (by decide) ?_ hv
        rw [xupd_s, o1, show (1 : Nat) = 0 + 1 from rfl, xnm_put (by decide)]
        show ((0 : Int32) ||| ((1 : Int32) <<< ((8 : Int32) &&& 31))).toBitVec.getLsbD 8 = true
        decide
  · rw [c_x, if_neg q0, m_x (fun z => absurd z q0), if_neg q0]
    exact ⟨pl, kd, fr, vl, dep, fl, fp, us, 1, nw, dp, ps, mr, so, mv, fl, mw, nI q, rf, ur, ua, pn, (upd c (0 : Int32).toNatClampNeg 8), w, Nm, Tb, P, pt, G, A, rfl, rfl, Or.inl ⟨⟨rfl, hp, hw, hk⟩, fun z => absurd z q0⟩⟩
