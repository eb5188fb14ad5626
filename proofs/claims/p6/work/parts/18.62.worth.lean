theorem xtb (s : Fin 512) (k : Fin 9) : (((nI s.val >>> (nI k.val &&& 31)) &&& 1).toInt = 1) ↔ s.val.testBit k.val = true := by
  rw [xsr_1 (nI s.val) (by omega), xb_nI (by omega)]
theorem b_worth {c : Nat → Int32} {nc : Int32} {s : Nat} (hs : s < 512) (h0 : 0 ≤ nc.toInt) (h4 : nc.toInt ≤ 400) (hl : ∀ j : Nat, (j : Int) < nc.toInt → 0 ≤ (c j).toInt ∧ ((c j).toInt < 9 ∨ (c j).toInt = 10 ∨ (c j).toInt = 11)) (wk : xwk c nc.toNatClampNeg) : ∀ (m : Nat) (x h : Int32) (p : Nat → Int32) (k : Nat), nc.toInt - x.toInt = (m : Int) → 0 ≤ x.toInt → 0 ≤ h.toInt → h.toInt ≤ x.toInt → xpl p h.toNatClampNeg = xev c s x.toNatClampNeg → ∃ (p' : Nat → Int32) (h' : Nat), K_m_worth_L2 nc c (nI s) (k + m + 1) x h p = (p' 0, p') ∧ xpl p' h' = xev c s nc.toNatClampNeg := by
  have n0 : vp_nar .boolean (0 : Int32) = 0 := by decide
  have n1 : vp_nar .boolean (1 : Int32) = 1 := by decide
  intro m
  induction m with
  | zero =>
    intro x h p k e0 e1 e2 e3 e4
    have xn := xtn (x := x) e1
    have ncn := xtn (x := nc) h0
    refine ⟨p, h.toNatClampNeg, ?_, ?_⟩
    · simp only [K_m_worth_L2, K_m_worth_3, K_m_worth_13, K_m_worth_15, K_m_worth_16, K_m_worth_14, K_m_worth_8, K_m_worth_11, K_m_worth_12, K_m_worth_10, K_m_worth_9, K_m_worth_7, K_m_worth_5, K_m_worth_18, K_m_worth_17, K_m_worth_6, K_m_worth_4, K_m_worth_2, K_m_worth_1, M_m_worth]
      rw [if_pos (by omega)]
    · rw [e4, show x.toNatClampNeg = nc.toNatClampNeg from by omega]
  | succ m ih =>
    intro x h p k e0 e1 e2 e3 e4
    have x1 : (x + 1).toInt = x.toInt + 1 := xadd rfl (by decide) (by omega) (by omega)
    have xn := xtn (x := x) e1
    have hn := xtn (x := h) e2
    have ncn := xtn (x := nc) h0
    have x1n : (x + 1).toNatClampNeg = x.toNatClampNeg + 1 := by
      have := xtn (x := x + 1) (by omega)
      omega
    obtain ⟨l0, l1⟩ := hl x.toNatClampNeg (by omega)
    have evs : xev c s (x.toNatClampNeg + 1) = if (c x.toNatClampNeg).toInt < 9 then s.testBit (c x.toNatClampNeg).toInt.toNat :: xev c s x.toNatClampNeg else xap (c x.toNatClampNeg).toInt (xev c s x.toNatClampNeg) := rfl
    by_cases q : 9 ≤ (c x.toNatClampNeg).toInt
    · obtain ⟨y, b, t, ey⟩ := wk x.toNatClampNeg (by omega) q s hs
      rw [if_neg (by omega), ey] at evs
      rw [ey] at e4
      obtain ⟨g, eg⟩ : ∃ g : Nat, h.toNatClampNeg = g + 2 := by
        match z : h.toNatClampNeg with
        | 0 => rw [z] at e4; exact absurd e4 (by simp [xpl])
        | 1 => rw [z] at e4; exact absurd e4 (by simp [xpl])
        | g + 2 => exact ⟨g, rfl⟩
      rw [eg] at e4
      have e4 : (!decide ((p (g + 1)).toInt = 0)) :: (!decide ((p g).toInt = 0)) :: xpl p g = y :: b :: t := e4
      injection e4 with a1 e5
      injection e5 with a2 a3
      have hm1 : (h + (-1)).toInt = h.toInt + (-1) := xadd rfl (by decide) (by omega) (by omega)
      obtain ⟨hy9, ey9⟩ : ∃ hy9 : Int32, h + (-1) = hy9 := ⟨_, rfl⟩
      rw [ey9] at hm1
      have hm2 : (hy9 - 1).toInt = hy9.toInt - 1 := xsub rfl (by decide) (by omega) (by omega)
      have c1 : hy9.toNatClampNeg = g + 1 := by
        have := xtn (x := hy9) (by omega)
        omega
      have c2 : (hy9 - 1).toNatClampNeg = g := by
        have := xtn (x := hy9 - 1) (by omega)
        omega
      have stp : ∀ z : Int32, (!decide (z.toInt = 0)) = (if (c x.toNatClampNeg).toInt = 10 then b && y else b || y) → ∃ (p' : Nat → Int32) (h' : Nat), K_m_worth_L2 nc c (nI s) (k + m + 1) (x + 1) hy9 (upd p g z) = (p' 0, p') ∧ xpl p' h' = xev c s nc.toNatClampNeg := by
        intro z h9z
        refine ih (x + 1) hy9 (upd p g z) k (by omega) (by omega) (by omega) (by omega) ?_
        rw [c1, x1n, xpl_put, evs, h9z, a3]
        rfl
      have go : K_m_worth_L2 nc c (nI s) (k + (m + 1) + 1) x h p = if (c x.toNatClampNeg).toInt = 10 then (if (p g).toInt = 0 then K_m_worth_L2 nc c (nI s) (k + m + 1) (x + 1) hy9 (upd p g 0) else if (p (g + 1)).toInt = 0 then K_m_worth_L2 nc c (nI s) (k + m + 1) (x + 1) hy9 (upd p g 0) else K_m_worth_L2 nc c (nI s) (k + m + 1) (x + 1) hy9 (upd p g 1)) else (if (p g).toInt = 0 then (if (p (g + 1)).toInt = 0 then K_m_worth_L2 nc c (nI s) (k + m + 1) (x + 1) hy9 (upd p g 0) else K_m_worth_L2 nc c (nI s) (k + m + 1) (x + 1) hy9 (upd p g 1)) else K_m_worth_L2 nc c (nI s) (k + m + 1) (x + 1) hy9 (upd p g 1)) := by
        show K_m_worth_L2 nc c (nI s) ((k + m + 1) + 1) x h p = _
        generalize k + m + 1 = j
        simp only [K_m_worth_L2, K_m_worth_3, K_m_worth_13, K_m_worth_15, K_m_worth_16, K_m_worth_14, K_m_worth_8, K_m_worth_11, K_m_worth_12, K_m_worth_10, K_m_worth_9, K_m_worth_7, K_m_worth_5, K_m_worth_18, K_m_worth_17, K_m_worth_6, K_m_worth_4, K_m_worth_2, K_m_worth_1, M_m_worth, ey9, c1, c2, n0, n1]
        rw [if_neg (by omega), if_pos q]
      rw [go]
      have d0 : (!decide ((0 : Int32).toInt = 0)) = false := by decide
      have d1 : (!decide ((1 : Int32).toInt = 0)) = true := by decide
      by_cases o : (c x.toNatClampNeg).toInt = 10
      · rw [if_pos o]
        rw [if_pos o] at stp
        by_cases g0 : (p g).toInt = 0
        · rw [if_pos g0]
          exact stp 0 (by rw [d0, ← a2]; simp [g0])
        · rw [if_neg g0]
          by_cases g1 : (p (g + 1)).toInt = 0
          · rw [if_pos g1]
            exact stp 0 (by rw [d0, ← a1]; simp [g1])
          · rw [if_neg g1]
            exact stp 1 (by rw [d1, ← a1, ← a2]; simp [g0, g1])
      · rw [if_neg o]
        rw [if_neg o] at stp
        by_cases g0 : (p g).toInt = 0
        · rw [if_pos g0]
          by_cases g1 : (p (g + 1)).toInt = 0
          · rw [if_pos g1]
            exact stp 0 (by rw [d0, ← a1, ← a2]; simp [g0, g1])
          · rw [if_neg g1]
            exact stp 1 (by rw [d1, ← a1]; simp [g1])
        · rw [if_neg g0]
          exact stp 1 (by rw [d1, ← a2]; simp [g0])
    · rw [if_pos (by omega)] at evs
      have h1 : (h + 1).toInt = h.toInt + 1 := xadd rfl (by decide) (by omega) (by omega)
      have h1n : (h + 1).toNatClampNeg = h.toNatClampNeg + 1 := by
        have := xtn (x := h + 1) (by omega)
        omega
      have ck : c x.toNatClampNeg = nI (c x.toNatClampNeg).toInt.toNat := Int32.toInt_inj.mp (by rw [nI_toInt (by omega)]; omega)
      have tb := xtb ⟨s, hs⟩ ⟨(c x.toNatClampNeg).toInt.toNat, by omega⟩
      dsimp only at tb
      rw [← ck] at tb
      have stp : ∀ z : Int32, (!decide (z.toInt = 0)) = s.testBit (c x.toNatClampNeg).toInt.toNat → ∃ (p' : Nat → Int32) (h' : Nat), K_m_worth_L2 nc c (nI s) (k + m + 1) (x + 1) (h + 1) (upd p h.toNatClampNeg z) = (p' 0, p') ∧ xpl p' h' = xev c s nc.toNatClampNeg := by
        intro z hz
        refine ih (x + 1) (h + 1) (upd p h.toNatClampNeg z) k (by omega) (by omega) (by omega) (by omega) ?_
        rw [h1n, x1n, xpl_put, evs, hz, e4]
      have go : K_m_worth_L2 nc c (nI s) (k + (m + 1) + 1) x h p = if ((nI s >>> (c x.toNatClampNeg &&& 31)) &&& (1 : Int32)).toInt = 1 then K_m_worth_L2 nc c (nI s) (k + m + 1) (x + 1) (h + 1) (upd p h.toNatClampNeg 1) else K_m_worth_L2 nc c (nI s) (k + m + 1) (x + 1) (h + 1) (upd p h.toNatClampNeg 0) := by
        show K_m_worth_L2 nc c (nI s) ((k + m + 1) + 1) x h p = _
        generalize k + m + 1 = j
        simp only [K_m_worth_L2, K_m_worth_3, K_m_worth_13, K_m_worth_15, K_m_worth_16, K_m_worth_14, K_m_worth_8, K_m_worth_11, K_m_worth_12, K_m_worth_10, K_m_worth_9, K_m_worth_7, K_m_worth_5, K_m_worth_18, K_m_worth_17, K_m_worth_6, K_m_worth_4, K_m_worth_2, K_m_worth_1, M_m_worth, n0, n1]
        rw [if_neg (by omega), if_neg q]
      rw [go]
      by_cases o : ((nI s >>> (c x.toNatClampNeg &&& 31)) &&& (1 : Int32)).toInt = 1
      · rw [if_pos o]
        exact stp 1 (by rw [tb.mp o]; decide)
      · rw [if_neg o]
        exact stp 0 (by rw [show s.testBit (c x.toNatClampNeg).toInt.toNat = false from by simpa using fun z => o (tb.mpr z)]; decide)
/-- what a formula is worth for a set -/
theorem r_worth {c p : Nat → Int32} {nc : Int32} {s : Nat} {b : Bool} (hs : s < 512) (h0 : 0 ≤ nc.toInt) (h4 : nc.toInt ≤ 400) (hl : ∀ j : Nat, (j : Int) < nc.toInt → 0 ≤ (c j).toInt ∧ ((c j).toInt < 9 ∨ (c j).toInt = 10 ∨ (c j).toInt = 11)) (wk : xwk c nc.toNatClampNeg) (hv : xev c s nc.toNatClampNeg = [b]) : ((M_m_worth nc c (nI s) p).1.toInt = 0 ↔ b = false) := by
  have z0 : (0 : Int32).toInt = 0 := by decide
  have c0 : (0 : Int32).toNatClampNeg = 0 := by decide
  obtain ⟨p', h', e1, e2⟩ := b_worth hs h0 h4 hl wk nc.toInt.toNat 0 0 p (99999 - nc.toInt.toNat) (by omega) (by omega) (by omega) (by omega) (by rw [c0]; rfl)
  have e3 : M_m_worth nc c (nI s) p = (p' 0, p') := by
    rw [← e1, show 99999 - nc.toInt.toNat + nc.toInt.toNat + 1 = 100000 from by omega]
    rfl
  rw [e3]
  rw [hv] at e2
  match h', e2 with
  | 0, e2 => exact absurd e2 (by simp [xpl])
  | 1, e2 =>
    have e2 : (!decide ((p' 0).toInt = 0)) = b := by
      have e2 : [!decide ((p' 0).toInt = 0)] = [b] := e2
      injection e2
    rw [← e2]
    simp
  | g + 2, e2 => exact absurd e2 (by simp [xpl])
