theorem x_cnt : ∀ s : Fin 256, M_bitCount (nI s.val) = M_m_countOf (nI s.val) := by decide +kernel
theorem cnt_b : ∀ s : Fin 256, 0 ≤ (M_m_countOf (nI s.val)).toInt ∧ (M_m_countOf (nI s.val)).toInt ≤ 8 := by decide +kernel
/-- how many -/
def xct (s : Nat) : Int := (M_m_countOf (nI s)).toInt
section
variable {pn Td Nm Tb F : Nat → Int32} {pt : Nat → Int64} {dead r : Int32} {q : Nat}
theorem cut_in {wt : Bool} (hE : xE wt q pn pt Td Nm Tb) (hd : xDd dead F) (q8 : q ≤ 8) {a1 : Int32} : ∀ (m s k : Nat) (b : Nat), 0 < s → s + m = 2 ^ q → b < s → (K_m_cut_L10 (nI q) a1 r Tb F (k + m + 1) (nI s) (if b = 0 then -4 else nI b)) = (fun z => if z.toInt = 0 then -4 else if a1.toInt = 0 then M_m_countOf z else z) (K_fewestCut_L2 r (nI q) (xA q &&& (dead ^^^ (-1))) pt (k + m + 1) (nI s) (nI b)) := by
  have qq : (nI q).toInt = (q : Int) := nI_toInt (by omega)
  have p2 := p2_le q8
  have eA : (xA q).toInt = ((2 ^ q - 1 : Nat) : Int) := by
    rw [xA_eq q8]
    exact nI_toInt (by omega)
  have e1 : ((1 : Int32) <<< (nI q &&& 31)).toInt = ((2 ^ q : Nat) : Int) := by
    rw [x_shl ⟨q, by omega⟩]
    show (nI (2 ^ q)).toInt = _
    exact nI_toInt (by omega)
  have m4 : (-4 : Int32).toInt = -4 := by decide
  intro m
  induction m with
  | zero =>
    intro s k b s0 hs hb
    have ss : (nI s).toInt = (s : Int) := nI_toInt (by omega)
    have bb : (nI b).toInt = (b : Int) := nI_toInt (by omega)
    simp only [K_m_cut_L10, K_fewestCut_L2, K_m_cut_9, K_m_cut_14, K_m_cut_17, K_m_cut_16, K_m_cut_15, K_m_cut_13, K_m_cut_11, K_m_cut_25, K_m_cut_24, K_m_cut_23, K_m_cut_22, K_m_cut_20, K_m_cut_28, K_m_cut_33, K_m_cut_32, K_m_cut_31, K_m_cut_30, K_m_cut_29, K_m_cut_27, K_m_cut_26, K_m_cut_21, K_m_cut_19, K_m_cut_18, K_m_cut_12, K_m_cut_10, K_m_cut_8, K_m_cut_7, K_m_cut_6, K_m_cut_4, K_m_cut_5, K_m_cut_3, K_m_cut_2, K_m_cut_1, M_m_cut, K_fewestCut_4, K_fewestCut_18, K_fewestCut_17, K_fewestCut_16, K_fewestCut_14, K_fewestCut_21, K_fewestCut_25, K_fewestCut_24, K_fewestCut_23, K_fewestCut_22, K_fewestCut_20, K_fewestCut_19, K_fewestCut_15, K_fewestCut_7, K_fewestCut_8, K_fewestCut_12, K_fewestCut_13, K_fewestCut_11, K_fewestCut_10, K_fewestCut_9, K_fewestCut_6, K_fewestCut_5, K_fewestCut_3, K_fewestCut_2, K_fewestCut_1, M_fewestCut, t_allR]
    rw [if_pos (show ((1 : Int32) <<< (nI q &&& 31)).toInt ≤ (nI s).toInt by omega), if_pos (show (xA q).toInt < (nI s).toInt by omega)]
    by_cases z : b = 0
    · rw [if_pos z, if_pos m4, if_pos (show (nI b).toInt = 0 by omega)]
    · rw [if_neg z, if_neg (show ¬ (nI b).toInt = -4 by omega), if_neg (show ¬ (nI b).toInt = 0 by omega)]
  | succ m ih =>
    intro s k b s0 hs hb
    have ss : (nI s).toInt = (s : Int) := nI_toInt (by omega)
    have bb : (nI b).toInt = (b : Int) := nI_toInt (by omega)
    have z1 := ih (s + 1) k b (by omega) (by omega) (by omega)
    have z2 := ih (s + 1) k s (by omega) (by omega) (by omega)
    rw [if_neg (by omega : ¬ s = 0)] at z2
    have cs := x_cnt ⟨s, by omega⟩
    have cb := x_cnt ⟨b, by omega⟩
    dsimp only at cs cb
    show K_m_cut_L10 (nI q) a1 r Tb F ((k + m + 1) + 1) (nI s) (if b = 0 then -4 else nI b) = (fun z => if z.toInt = 0 then -4 else if a1.toInt = 0 then M_m_countOf z else z) (K_fewestCut_L2 r (nI q) (xA q &&& (dead ^^^ (-1))) pt ((k + m + 1) + 1) (nI s) (nI b))
    generalize k + m + 1 = j at z1 z2 ⊢
    have gc : K_fewestCut_L2 r (nI q) (xA q &&& (dead ^^^ (-1))) pt (j + 1) (nI s) (nI b) = if ((nI s >>> (r &&& 31)) &&& (1 : Int32)).toInt = 0 ∧ (b = 0 ∨ (M_m_countOf (nI s)).toInt < (M_m_countOf (nI b)).toInt) ∧ (M_m_isUp r (nI q) (nI (xDb q dead) ||| nI s) Tb).toInt = 0 then K_fewestCut_L2 r (nI q) (xA q &&& (dead ^^^ (-1))) pt j (nI (s + 1)) (nI s) else K_fewestCut_L2 r (nI q) (xA q &&& (dead ^^^ (-1))) pt j (nI (s + 1)) (nI b) := by
      simp only [K_fewestCut_L2, K_fewestCut_4, K_fewestCut_18, K_fewestCut_17, K_fewestCut_16, K_fewestCut_14, K_fewestCut_21, K_fewestCut_25, K_fewestCut_24, K_fewestCut_23, K_fewestCut_22, K_fewestCut_20, K_fewestCut_19, K_fewestCut_15, K_fewestCut_7, K_fewestCut_8, K_fewestCut_12, K_fewestCut_13, K_fewestCut_11, K_fewestCut_10, K_fewestCut_9, K_fewestCut_6, K_fewestCut_5, K_fewestCut_3, K_fewestCut_2, K_fewestCut_1, M_fewestCut, t_allR]
      rw [if_neg (show ¬ (xA q).toInt < (nI s).toInt by omega), i_up (up_less hE q8 (nI s)), cs, cb, nI_1]
      by_cases o : ((nI s >>> (r &&& 31)) &&& (1 : Int32)).toInt = 0
      · rw [if_pos o]
        by_cases z : b = 0
        · rw [if_pos (show (nI b).toInt = 0 by omega)]
          by_cases u : (M_m_isUp r (nI q) (nI (xDb q dead) ||| nI s) Tb).toInt = 0
          · rw [if_pos u, if_pos ⟨o, Or.inl z, u⟩]
          · rw [if_neg u, if_neg (fun y => u y.2.2)]
        · rw [if_neg (show ¬ (nI b).toInt = 0 by omega)]
          by_cases c : (M_m_countOf (nI b)).toInt ≤ (M_m_countOf (nI s)).toInt
          · rw [if_pos c, if_neg (fun y => by rcases y.2.1 with w | w <;> omega)]
          · rw [if_neg c]
            by_cases u : (M_m_isUp r (nI q) (nI (xDb q dead) ||| nI s) Tb).toInt = 0
            · rw [if_pos u, if_pos ⟨o, Or.inr (by omega), u⟩]
            · rw [if_neg u, if_neg (fun y => u y.2.2)]
      · rw [if_neg o]
        by_cases z : b = 0
        · rw [if_pos (show (nI b).toInt = 0 by omega), if_neg (fun y => o y.1)]
        · rw [if_neg (show ¬ (nI b).toInt = 0 by omega)]
          by_cases c : (M_m_countOf (nI b)).toInt ≤ (M_m_countOf (nI s)).toInt
          · rw [if_pos c, if_neg (fun y => o y.1)]
          · rw [if_neg c, if_neg (fun y => o y.1)]
    have gm : K_m_cut_L10 (nI q) a1 r Tb F (j + 1) (nI s) (if b = 0 then -4 else nI b) = if ((nI s >>> (r &&& 31)) &&& (1 : Int32)).toInt = 0 ∧ (b = 0 ∨ (M_m_countOf (nI s)).toInt < (M_m_countOf (nI b)).toInt) ∧ (M_m_isUp r (nI q) (nI (xDb q dead) ||| nI s) Tb).toInt = 0 then K_m_cut_L10 (nI q) a1 r Tb F j (nI (s + 1)) (nI s) else K_m_cut_L10 (nI q) a1 r Tb F j (nI (s + 1)) (if b = 0 then -4 else nI b) := by
      simp only [K_m_cut_L10, K_m_cut_9, K_m_cut_14, K_m_cut_17, K_m_cut_16, K_m_cut_15, K_m_cut_13, K_m_cut_11, K_m_cut_25, K_m_cut_24, K_m_cut_23, K_m_cut_22, K_m_cut_20, K_m_cut_28, K_m_cut_33, K_m_cut_32, K_m_cut_31, K_m_cut_30, K_m_cut_29, K_m_cut_27, K_m_cut_26, K_m_cut_21, K_m_cut_19, K_m_cut_18, K_m_cut_12, K_m_cut_10, K_m_cut_8, K_m_cut_7, K_m_cut_6, K_m_cut_4, K_m_cut_5, K_m_cut_3, K_m_cut_2, K_m_cut_1, M_m_cut]
      rw [if_neg (show ¬ ((1 : Int32) <<< (nI q &&& 31)).toInt ≤ (nI s).toInt by omega), r_dead hd q8, nI_1]
      by_cases o : ((nI s >>> (r &&& 31)) &&& (1 : Int32)).toInt = 0
      · rw [if_pos o]
        by_cases z : b = 0
        · rw [if_pos z, if_pos m4]
          by_cases u : (M_m_isUp r (nI q) (nI (xDb q dead) ||| nI s) Tb).toInt = 0
          · rw [if_pos u, if_pos ⟨o, Or.inl z, u⟩]
          · rw [if_neg u, if_neg (fun y => u y.2.2)]
        · rw [if_neg z, if_neg (by omega)]
          by_cases c : (M_m_countOf (nI b)).toInt ≤ (M_m_countOf (nI s)).toInt
          · rw [if_pos c, if_neg (fun y => by rcases y.2.1 with w | w <;> omega)]
          · rw [if_neg c]
            by_cases u : (M_m_isUp r (nI q) (nI (xDb q dead) ||| nI s) Tb).toInt = 0
            · rw [if_pos u, if_pos ⟨o, Or.inr (by omega), u⟩]
            · rw [if_neg u, if_neg (fun y => u y.2.2)]
      · rw [if_neg o]
        exact (if_neg (fun y => o y.1)).symm
    rw [gc, gm]
    by_cases y : ((nI s >>> (r &&& 31)) &&& (1 : Int32)).toInt = 0 ∧ (b = 0 ∨ (M_m_countOf (nI s)).toInt < (M_m_countOf (nI b)).toInt) ∧ (M_m_isUp r (nI q) (nI (xDb q dead) ||| nI s) Tb).toInt = 0
    · rw [if_pos y, if_pos y]
      exact z2
    · rw [if_neg y, if_neg y]
      exact z1
theorem f_lt {s0 : Int32} (q8 : q ≤ 8) : ∀ (m s k : Nat) (b : Nat), s + m = 2 ^ q → b < 2 ^ q → ∃ z : Nat, z < 2 ^ q ∧ K_fewestCut_L2 r (nI q) s0 pt (k + m + 1) (nI s) (nI b) = nI z := by
  have p2 := p2_le q8
  have eA : (xA q).toInt = ((2 ^ q - 1 : Nat) : Int) := by
    rw [xA_eq q8]
    exact nI_toInt (by omega)
  intro m
  induction m with
  | zero =>
    intro s k b hs hb
    have ss : (nI s).toInt = (s : Int) := nI_toInt (by omega)
    refine ⟨b, hb, ?_⟩
    simp only [K_fewestCut_L2, K_fewestCut_4, K_fewestCut_18, K_fewestCut_17, K_fewestCut_16, K_fewestCut_14, K_fewestCut_21, K_fewestCut_25, K_fewestCut_24, K_fewestCut_23, K_fewestCut_22, K_fewestCut_20, K_fewestCut_19, K_fewestCut_15, K_fewestCut_7, K_fewestCut_8, K_fewestCut_12, K_fewestCut_13, K_fewestCut_11, K_fewestCut_10, K_fewestCut_9, K_fewestCut_6, K_fewestCut_5, K_fewestCut_3, K_fewestCut_2, K_fewestCut_1, M_fewestCut, t_allR]
    rw [if_pos (by omega)]
  | succ m ih =>
    intro s k b hs hb
    have ss : (nI s).toInt = (s : Int) := nI_toInt (by omega)
    have z1 := ih (s + 1) k b (by omega) hb
    have z2 := ih (s + 1) k s (by omega) (by omega)
    show ∃ z : Nat, z < 2 ^ q ∧ K_fewestCut_L2 r (nI q) s0 pt ((k + m + 1) + 1) (nI s) (nI b) = nI z
    generalize k + m + 1 = j at z1 z2 ⊢
    simp only [K_fewestCut_L2, K_fewestCut_4, K_fewestCut_18, K_fewestCut_17, K_fewestCut_16, K_fewestCut_14, K_fewestCut_21, K_fewestCut_25, K_fewestCut_24, K_fewestCut_23, K_fewestCut_22, K_fewestCut_20, K_fewestCut_19, K_fewestCut_15, K_fewestCut_7, K_fewestCut_8, K_fewestCut_12, K_fewestCut_13, K_fewestCut_11, K_fewestCut_10, K_fewestCut_9, K_fewestCut_6, K_fewestCut_5, K_fewestCut_3, K_fewestCut_2, K_fewestCut_1, M_fewestCut, t_allR]
    rw [if_neg (show ¬ (xA q).toInt < (nI s).toInt by omega), nI_1]
    repeat' split
    all_goals first | exact z1 | exact z2
end
section
variable {a0 a1 rails limit retry behind mra mli mre mpa dead : Int32} {pn Td Nm Tb F : Nat → Int32} {pt : Nat → Int64}
theorem x_cut_eq {wt : Bool} (h : xPl wt rails limit retry behind pn pt mra mli mre mpa Td Nm Tb) (hd : xDd dead F) : M_x_cut a0 rails a1 pt dead = M_m_cut a0 mra a1 Tb F := by
  obtain ⟨e, -, -, -, r8, hE⟩ := h
  subst e
  obtain ⟨eq, q8⟩ := xq_of r8
  generalize rails.toNatClampNeg = q at eq q8 hE
  subst eq
  have p2 := p2_le q8
  have p0 : 0 < 2 ^ q := Nat.two_pow_pos q
  simp only [K_x_cut_4, K_x_cut_10, K_x_cut_14, K_x_cut_17, K_x_cut_16, K_x_cut_15, K_x_cut_13, K_x_cut_12, K_x_cut_11, K_x_cut_9, K_x_cut_8, K_x_cut_6, K_x_cut_7, K_x_cut_5, K_x_cut_3, K_x_cut_2, K_x_cut_1, M_x_cut, K_m_cut_9, K_m_cut_14, K_m_cut_17, K_m_cut_16, K_m_cut_15, K_m_cut_13, K_m_cut_11, K_m_cut_25, K_m_cut_24, K_m_cut_23, K_m_cut_22, K_m_cut_20, K_m_cut_28, K_m_cut_33, K_m_cut_32, K_m_cut_31, K_m_cut_30, K_m_cut_29, K_m_cut_27, K_m_cut_26, K_m_cut_21, K_m_cut_19, K_m_cut_18, K_m_cut_12, K_m_cut_8, K_m_cut_7, K_m_cut_6, K_m_cut_4, K_m_cut_5, K_m_cut_3, K_m_cut_2, K_m_cut_1, M_m_cut]
  rw [r_dead hd q8, i_can hE q8, t_alive]
  by_cases z : 0 ≤ a0.toInt ∧ a0.toInt < (nI q).toInt
  · rw [if_pos z, if_pos z]
    by_cases y : 0 ≤ a1.toInt ∧ a1.toInt ≤ 1
    · rw [if_neg (by omega), if_pos y.2, if_pos y]
      by_cases u : (M_m_isUp a0 (nI q) (nI (xDb q dead)) Tb).toInt = 0
      · rw [if_pos u, if_pos u]
      · rw [if_neg u, if_neg u]
        have qq : (nI q).toInt = (q : Int) := nI_toInt (by omega)
        have e1 : ((1 : Int32) <<< (nI q &&& 31)).toInt = ((2 ^ q : Nat) : Int) := by
          rw [x_shl ⟨q, by omega⟩]
          show (nI (2 ^ q)).toInt = _
          exact nI_toInt (by omega)
        have n0 : nI 0 = 0 := rfl
        have o0 : nI (xDb q dead) ||| (0 : Int32) = nI (xDb q dead) := xor00 _
        have sh0 : ((0 : Int32) >>> (a0 &&& 31)) &&& (1 : Int32) = 0 := by
          have an := xtn (x := a0) z.1
          have ea : nI a0.toNatClampNeg = a0 := xnI z.1
          have b := (xsr_0 (0 : Int32) (r := a0.toNatClampNeg) (by omega)).mpr (xb_z _)
          rw [ea] at b
          exact xi0 b
        have st : K_m_cut_L10 (nI q) a1 a0 Tb F (99999 + 1) 0 (-4) = K_m_cut_L10 (nI q) a1 a0 Tb F 99999 (0 + 1) (-4) := by
          generalize 99999 = j
          simp only [K_m_cut_L10, K_m_cut_9, K_m_cut_14, K_m_cut_17, K_m_cut_16, K_m_cut_15, K_m_cut_13, K_m_cut_11, K_m_cut_25, K_m_cut_24, K_m_cut_23, K_m_cut_22, K_m_cut_20, K_m_cut_28, K_m_cut_33, K_m_cut_32, K_m_cut_31, K_m_cut_30, K_m_cut_29, K_m_cut_27, K_m_cut_26, K_m_cut_21, K_m_cut_19, K_m_cut_18, K_m_cut_12, K_m_cut_10, K_m_cut_8, K_m_cut_7, K_m_cut_6, K_m_cut_4, K_m_cut_5, K_m_cut_3, K_m_cut_2, K_m_cut_1, M_m_cut]
          rw [if_neg (by have z0 : (0 : Int32).toInt = 0 := (by decide); omega), r_dead hd q8, sh0, if_pos (by decide), if_pos (by decide), o0, if_neg u]
        have w := cut_in (r := a0) (a1 := a1) hE hd q8 (2 ^ q - 1) 1 (99998 - (2 ^ q - 1)) 0 (by decide) (by omega) (by decide)
        rw [show 99998 - (2 ^ q - 1) + (2 ^ q - 1) + 1 = 99999 from by omega, if_pos rfl] at w
        rw [show K_m_cut_L10 (nI q) a1 a0 Tb F 100000 0 (-4) = _ from st, show (0 : Int32) + 1 = nI 1 from rfl, w]
        have fu : M_fewestCut a0 (nI q) (xA q &&& (dead ^^^ (-1))) pt = K_fewestCut_L2 a0 (nI q) (xA q &&& (dead ^^^ (-1))) pt 99999 (nI 1) (nI 0) := by
          obtain ⟨x1, x2, x3⟩ := f_lt (pt := pt) (r := a0) (s0 := xA q &&& (dead ^^^ (-1))) q8 (2 ^ q - 1) 1 (99998 - (2 ^ q - 1)) 0 (by omega) (by omega)
          have big : ∀ j, ∀ (m s : Nat) (b : Nat), s + m = 2 ^ q → K_fewestCut_L2 a0 (nI q) (xA q &&& (dead ^^^ (-1))) pt (j + m + 1) (nI s) (nI b) = K_fewestCut_L2 a0 (nI q) (xA q &&& (dead ^^^ (-1))) pt (j + m + 2) (nI s) (nI b) := by
            intro j m
            have eA : (xA q).toInt = ((2 ^ q - 1 : Nat) : Int) := by
              rw [xA_eq q8]
              exact nI_toInt (by omega)
            induction m with
            | zero =>
              intro s b hs
              have ss : (nI s).toInt = (s : Int) := nI_toInt (by omega)
              simp only [K_fewestCut_L2, K_fewestCut_4, K_fewestCut_18, K_fewestCut_17, K_fewestCut_16, K_fewestCut_14, K_fewestCut_21, K_fewestCut_25, K_fewestCut_24, K_fewestCut_23, K_fewestCut_22, K_fewestCut_20, K_fewestCut_19, K_fewestCut_15, K_fewestCut_7, K_fewestCut_8, K_fewestCut_12, K_fewestCut_13, K_fewestCut_11, K_fewestCut_10, K_fewestCut_9, K_fewestCut_6, K_fewestCut_5, K_fewestCut_3, K_fewestCut_2, K_fewestCut_1, M_fewestCut, t_allR]
              rw [if_pos (by omega), if_pos (by omega)]
            | succ m ih =>
              intro s b hs
              have ss : (nI s).toInt = (s : Int) := nI_toInt (by omega)
              have z1 := ih (s + 1) b (by omega)
              have z2 := ih (s + 1) s (by omega)
              show K_fewestCut_L2 a0 (nI q) _ pt ((j + m + 1) + 1) (nI s) (nI b) = K_fewestCut_L2 a0 (nI q) _ pt ((j + m + 2) + 1) (nI s) (nI b)
              generalize j + m + 1 = j1 at z1 z2 ⊢
              generalize j + m + 2 = j2 at z1 z2 ⊢
              simp only [K_fewestCut_L2, K_fewestCut_4, K_fewestCut_18, K_fewestCut_17, K_fewestCut_16, K_fewestCut_14, K_fewestCut_21, K_fewestCut_25, K_fewestCut_24, K_fewestCut_23, K_fewestCut_22, K_fewestCut_20, K_fewestCut_19, K_fewestCut_15, K_fewestCut_7, K_fewestCut_8, K_fewestCut_12, K_fewestCut_13, K_fewestCut_11, K_fewestCut_10, K_fewestCut_9, K_fewestCut_6, K_fewestCut_5, K_fewestCut_3, K_fewestCut_2, K_fewestCut_1, M_fewestCut]
              rw [nI_1, z1, z2]
          have b := big (99998 - (2 ^ q - 1)) (2 ^ q - 1) 1 0 (by omega)
          rw [show 99998 - (2 ^ q - 1) + (2 ^ q - 1) + 1 = 99999 from by omega, show 99998 - (2 ^ q - 1) + (2 ^ q - 1) + 2 = 100000 from by omega] at b
          exact b.symm
        rw [fu]
        obtain ⟨x1, x2, x3⟩ := f_lt (pt := pt) (r := a0) (s0 := xA q &&& (dead ^^^ (-1))) q8 (2 ^ q - 1) 1 (99998 - (2 ^ q - 1)) 0 (by omega) (by omega)
        rw [show 99998 - (2 ^ q - 1) + (2 ^ q - 1) + 1 = 99999 from by omega] at x3
        rw [x3]
        dsimp only
        have cs := x_cnt ⟨x1, by omega⟩
        dsimp only at cs
        rw [cs]
    · rw [if_neg y]
      by_cases w : a1.toInt < 0
      · rw [if_pos w]
      · rw [if_neg w, if_neg (by omega)]
  · rw [if_neg z, if_neg z]
end
