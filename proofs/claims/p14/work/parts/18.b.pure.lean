-- 61.done
theorem b_done {w : Nat → Int32} {e : Int32} : ∀ (m : Nat) (nc nw : Int32) (c : Nat → Int32) (k : Nat), nw.toInt = (m : Int) → 0 ≤ nc.toInt → nc.toInt + nw.toInt ≤ 400 → (∀ j, j < m → 9 ≤ (w j).toInt) → xwk c nc.toNatClampNeg → (∀ s, s < 512 → zdp e.toInt (xwl w m) (xev c s nc.toNatClampNeg)) →
    ∃ (nc' nw' : Int32) (c' : Nat → Int32), K_m_done_L2 w e (k + m + 1) nc nw c = (nc', nw', c') ∧ 0 ≤ nw'.toInt ∧ nw'.toInt ≤ nw.toInt ∧ nc'.toInt + nw'.toInt = nc.toInt + nw.toInt ∧ xwk c' nc'.toNatClampNeg ∧ (∀ s, s < 512 → (xwl w nw'.toNatClampNeg, xev c' s nc'.toNatClampNeg) = xdn e.toInt (xwl w m) (xev c s nc.toNatClampNeg)) ∧ (∀ j : Nat, (j : Int) < nc.toInt → c' j = c j) ∧ (∀ j : Nat, nc.toInt ≤ (j : Int) → (j : Int) < nc'.toInt → (c' j).toInt ≠ 12 ∧ ∃ i, i < m ∧ c' j = w i) := by
  intro m
  induction m with
  | zero =>
    intro nc nw c k h0 h1 h2 h3 h4 h5
    have z : nw.toNatClampNeg = 0 := by
      have := xtn (x := nw) (by omega)
      omega
    refine ⟨nc, nw, c, ?_, by omega, by omega, rfl, h4, fun s _ => ?_, fun j _ => rfl, fun j h1 h2 => absurd h2 (by omega)⟩
    · simp only [K_m_done_L2, K_m_done_3, K_m_done_5, K_m_done_7, K_m_done_8, K_m_done_6, K_m_done_4, K_m_done_2, K_m_done_1, M_m_done]
      rw [if_pos (by omega)]
    · rw [z]
      rfl
  | succ m ih =>
    intro nc nw c k h0 h1 h2 h3 h4 h5
    have e1 : (nw - 1).toInt = nw.toInt - 1 := xsub rfl (by decide) (by omega) (by omega)
    have e2 : (nc + 1).toInt = nc.toInt + 1 := xadd rfl (by decide) (by omega) (by omega)
    have w1 : (nw - 1).toNatClampNeg = m := by
      have := xtn (x := nw - 1) (by omega)
      omega
    have w2 : (nc + 1).toNatClampNeg = nc.toNatClampNeg + 1 := by
      have := xtn (x := nc + 1) (by omega)
      have := xtn (x := nc) (by omega)
      omega
    have z : nw.toNatClampNeg = m + 1 := by
      have := xtn (x := nw) (by omega)
      omega
    have h9 := h3 m (by omega)
    have go : K_m_done_L2 w e (k + (m + 1) + 1) nc nw c = if (w m).toInt = 12 then (nc, nw, c) else if e.toInt < (w m).toInt then (nc, nw, c) else K_m_done_L2 w e (k + m + 1) (nc + 1) (nw - 1) (upd c nc.toNatClampNeg (w m)) := by
      show K_m_done_L2 w e ((k + m + 1) + 1) nc nw c = _
      generalize k + m + 1 = j
      simp only [K_m_done_L2, K_m_done_3, K_m_done_5, K_m_done_7, K_m_done_8, K_m_done_6, K_m_done_4, K_m_done_2, K_m_done_1, M_m_done, w1]
      rw [if_neg (by omega)]
    by_cases q : (w m).toInt = 12
    · refine ⟨nc, nw, c, by rw [go, if_pos q], by omega, by omega, rfl, h4, fun s _ => ?_, fun j _ => rfl, fun j h1 h2 => absurd h2 (by omega)⟩
      rw [z, xwl, xdn, if_neg (by omega)]
    · by_cases q2 : e.toInt < (w m).toInt
      · refine ⟨nc, nw, c, by rw [go, if_neg q, if_pos q2], by omega, by omega, rfl, h4, fun s _ => ?_, fun j _ => rfl, fun j h1 h2 => absurd h2 (by omega)⟩
        rw [z, xwl, xdn, if_neg (by omega)]
      · have h6 : ∀ s, s < 512 → (∃ y b t, xev c s nc.toNatClampNeg = y :: b :: t) ∧ zdp e.toInt (xwl w m) (xap (w m).toInt (xev c s nc.toNatClampNeg)) := fun s hs => h5 s hs q (by omega)
        have ev1 : ∀ s, xev (upd c nc.toNatClampNeg (w m)) s (nc.toNatClampNeg + 1) = xap (w m).toInt (xev c s nc.toNatClampNeg) := fun s => by rw [xev_put, if_neg (by omega)]
        have wk1 : xwk (upd c nc.toNatClampNeg (w m)) (nc.toNatClampNeg + 1) := by
          intro j hj h9 s hs
          by_cases y : j = nc.toNatClampNeg
          · rw [y, xev_ext (c' := c) (fun i hi => xupd_o (by omega))]
            exact (h6 s hs).1
          · rw [xev_ext (c' := c) (fun i hi => xupd_o (by omega))]
            rw [xupd_o y] at h9
            exact h4 j (by omega) h9 s hs
        obtain ⟨nc', nw', c', a1, a2, a3, a4, a5, a6, a7, a8⟩ := ih (nc + 1) (nw - 1) (upd c nc.toNatClampNeg (w m)) k (by omega) (by omega) (by omega) (fun j hj => h3 j (by omega)) (by rw [w2]; exact wk1) (fun s hs => by rw [w2, ev1]; exact (h6 s hs).2)
        refine ⟨nc', nw', c', by rw [go, if_neg q, if_neg q2, a1], a2, by omega, by omega, a5, fun s hs => ?_, fun j hj => ?_, fun j j1 j2 => ?_⟩
        · rw [a6 s hs, w2, ev1, show xwl w (m + 1) = (w m).toInt :: xwl w m from rfl, show xdn e.toInt ((w m).toInt :: xwl w m) (xev c s nc.toNatClampNeg) = xdn e.toInt (xwl w m) (xap (w m).toInt (xev c s nc.toNatClampNeg)) from by rw [xdn, if_pos ⟨q, by omega⟩]]
        · have := xtn (x := nc) (by omega)
          rw [a7 j (by omega), xupd_o (by omega)]
        · have := xtn (x := nc) (by omega)
          by_cases y : j = nc.toNatClampNeg
          · rw [a7 j (by omega), y, xupd_s]
            exact ⟨q, m, by omega, rfl⟩
          · obtain ⟨b1, i, b2, b3⟩ := a8 j (by omega) j2
            exact ⟨b1, i, by omega, b3⟩
/-- what is piled up, the top first -/
def xpl (p : Nat → Int32) : Nat → List Bool
  | 0 => []
  | n + 1 => (!decide ((p n).toInt = 0)) :: xpl p n
theorem xpl_ext {p p' : Nat → Int32} {n : Nat} (h : ∀ j, j < n → p j = p' j) : xpl p n = xpl p' n := by
  induction n with
  | zero => rfl
  | succ n ih => rw [xpl, xpl, h n (by omega), ih (fun j hj => h j (by omega))]
theorem xpl_put {p : Nat → Int32} {n : Nat} {x : Int32} : xpl (upd p n x) (n + 1) = (!decide (x.toInt = 0)) :: xpl p n := by
  rw [xpl, xupd_s, xpl_ext (p' := p) (fun j hj => xupd_o (by omega))]
-- 62.worth
theorem xtb (s : Fin 512) (k : Fin 9) : (((nI s.val >>> (nI k.val &&& 31)) &&& 1).toInt = 1) ↔ s.val.testBit k.val = true := by
  rw [xsr_1 (nI s.val) (by omega), xb_nI (by omega)]
theorem b_worth {c : Nat → Int32} {nc : Int32} {s : Nat} (hs : s < 512) (h0 : 0 ≤ nc.toInt) (h4 : nc.toInt ≤ 400) (hl : ∀ j : Nat, (j : Int) < nc.toInt → 0 ≤ (c j).toInt ∧ ((c j).toInt < 9 ∨ (c j).toInt = 10 ∨ (c j).toInt = 11)) (wk : xwk c nc.toNatClampNeg) : ∀ (m : Nat) (x h : Int32) (p : Nat → Int32) (k : Nat), nc.toInt - x.toInt = (m : Int) → 0 ≤ x.toInt → 0 ≤ h.toInt → h.toInt ≤ x.toInt → xpl p h.toNatClampNeg = xev c s x.toNatClampNeg → ∃ (p' : Nat → Int32) (h' : Nat), K_m_worth_L2 nc c (nI s) (k + m + 1) x h p = (p' 0, p') ∧ xpl p' h' = xev c s nc.toNatClampNeg := by
  have n0 : vp_nar .boolean (0 : Int32) = 0 := by decide
  have n1 : vp_nar .boolean (1 : Int32) = 1 := by decide
  intro m
  induction m with
  | zero =>
    intro x h p k e0 e1 e2 e3 e4
    have xn := xtn (x := x) e1
    have ncn := xtn (x := nc) h0
    refine ⟨p, h.toNatClampNeg, ?_, ?_⟩
    · simp only [K_m_worth_L2, K_m_worth_3, K_m_worth_13, K_m_worth_15, K_m_worth_16, K_m_worth_14, K_m_worth_8, K_m_worth_11, K_m_worth_12, K_m_worth_10, K_m_worth_9, K_m_worth_7, K_m_worth_5, K_m_worth_18, K_m_worth_17, K_m_worth_6, K_m_worth_4, K_m_worth_2, K_m_worth_1, M_m_worth]
      rw [if_pos (by omega)]
    · rw [e4, show x.toNatClampNeg = nc.toNatClampNeg from by omega]
  | succ m ih =>
    intro x h p k e0 e1 e2 e3 e4
    have x1 : (x + 1).toInt = x.toInt + 1 := xadd rfl (by decide) (by omega) (by omega)
    have xn := xtn (x := x) e1
    have hn := xtn (x := h) e2
    have ncn := xtn (x := nc) h0
    have x1n : (x + 1).toNatClampNeg = x.toNatClampNeg + 1 := by
      have := xtn (x := x + 1) (by omega)
      omega
    obtain ⟨l0, l1⟩ := hl x.toNatClampNeg (by omega)
    have evs : xev c s (x.toNatClampNeg + 1) = if (c x.toNatClampNeg).toInt < 9 then s.testBit (c x.toNatClampNeg).toInt.toNat :: xev c s x.toNatClampNeg else xap (c x.toNatClampNeg).toInt (xev c s x.toNatClampNeg) := rfl
    by_cases q : 9 ≤ (c x.toNatClampNeg).toInt
    · obtain ⟨y, b, t, ey⟩ := wk x.toNatClampNeg (by omega) q s hs
      rw [if_neg (by omega), ey] at evs
      rw [ey] at e4
      obtain ⟨g, eg⟩ : ∃ g : Nat, h.toNatClampNeg = g + 2 := by
        match z : h.toNatClampNeg with
        | 0 => rw [z] at e4; exact absurd e4 (by simp [xpl])
        | 1 => rw [z] at e4; exact absurd e4 (by simp [xpl])
        | g + 2 => exact ⟨g, rfl⟩
      rw [eg] at e4
      have e4 : (!decide ((p (g + 1)).toInt = 0)) :: (!decide ((p g).toInt = 0)) :: xpl p g = y :: b :: t := e4
      injection e4 with a1 e5
      injection e5 with a2 a3
      have hm1 : (h + (-1)).toInt = h.toInt + (-1) := xadd rfl (by decide) (by omega) (by omega)
      obtain ⟨hy9, ey9⟩ : ∃ hy9 : Int32, h + (-1) = hy9 := ⟨_, rfl⟩
      rw [ey9] at hm1
      have hm2 : (hy9 - 1).toInt = hy9.toInt - 1 := xsub rfl (by decide) (by omega) (by omega)
      have c1 : hy9.toNatClampNeg = g + 1 := by
        have := xtn (x := hy9) (by omega)
        omega
      have c2 : (hy9 - 1).toNatClampNeg = g := by
        have := xtn (x := hy9 - 1) (by omega)
        omega
      have stp : ∀ z : Int32, (!decide (z.toInt = 0)) = (if (c x.toNatClampNeg).toInt = 10 then b && y else b || y) → ∃ (p' : Nat → Int32) (h' : Nat), K_m_worth_L2 nc c (nI s) (k + m + 1) (x + 1) hy9 (upd p g z) = (p' 0, p') ∧ xpl p' h' = xev c s nc.toNatClampNeg := by
        intro z h9z
        refine ih (x + 1) hy9 (upd p g z) k (by omega) (by omega) (by omega) (by omega) ?_
        rw [c1, x1n, xpl_put, evs, h9z, a3]
        rfl
      have go : K_m_worth_L2 nc c (nI s) (k + (m + 1) + 1) x h p = if (c x.toNatClampNeg).toInt = 10 then (if (p g).toInt = 0 then K_m_worth_L2 nc c (nI s) (k + m + 1) (x + 1) hy9 (upd p g 0) else if (p (g + 1)).toInt = 0 then K_m_worth_L2 nc c (nI s) (k + m + 1) (x + 1) hy9 (upd p g 0) else K_m_worth_L2 nc c (nI s) (k + m + 1) (x + 1) hy9 (upd p g 1)) else (if (p g).toInt = 0 then (if (p (g + 1)).toInt = 0 then K_m_worth_L2 nc c (nI s) (k + m + 1) (x + 1) hy9 (upd p g 0) else K_m_worth_L2 nc c (nI s) (k + m + 1) (x + 1) hy9 (upd p g 1)) else K_m_worth_L2 nc c (nI s) (k + m + 1) (x + 1) hy9 (upd p g 1)) := by
        show K_m_worth_L2 nc c (nI s) ((k + m + 1) + 1) x h p = _
        generalize k + m + 1 = j
        simp only [K_m_worth_L2, K_m_worth_3, K_m_worth_13, K_m_worth_15, K_m_worth_16, K_m_worth_14, K_m_worth_8, K_m_worth_11, K_m_worth_12, K_m_worth_10, K_m_worth_9, K_m_worth_7, K_m_worth_5, K_m_worth_18, K_m_worth_17, K_m_worth_6, K_m_worth_4, K_m_worth_2, K_m_worth_1, M_m_worth, ey9, c1, c2, n0, n1]
        rw [if_neg (by omega), if_pos q]
      rw [go]
      have d0 : (!decide ((0 : Int32).toInt = 0)) = false := by decide
      have d1 : (!decide ((1 : Int32).toInt = 0)) = true := by decide
      by_cases o : (c x.toNatClampNeg).toInt = 10
      · rw [if_pos o]
        rw [if_pos o] at stp
        by_cases g0 : (p g).toInt = 0
        · rw [if_pos g0]
          exact stp 0 (by rw [d0, ← a2]; simp [g0])
        · rw [if_neg g0]
          by_cases g1 : (p (g + 1)).toInt = 0
          · rw [if_pos g1]
            exact stp 0 (by rw [d0, ← a1]; simp [g1])
          · rw [if_neg g1]
            exact stp 1 (by rw [d1, ← a1, ← a2]; simp [g0, g1])
      · rw [if_neg o]
        rw [if_neg o] at stp
        by_cases g0 : (p g).toInt = 0
        · rw [if_pos g0]
          by_cases g1 : (p (g + 1)).toInt = 0
          · rw [if_pos g1]
            exact stp 0 (by rw [d0, ← a1, ← a2]; simp [g0, g1])
          · rw [if_neg g1]
            exact stp 1 (by rw [d1, ← a1]; simp [g1])
        · rw [if_neg g0]
          exact stp 1 (by rw [d1, ← a2]; simp [g0])
    · rw [if_pos (by omega)] at evs
      have h1 : (h + 1).toInt = h.toInt + 1 := xadd rfl (by decide) (by omega) (by omega)
      have h1n : (h + 1).toNatClampNeg = h.toNatClampNeg + 1 := by
        have := xtn (x := h + 1) (by omega)
        omega
      have ck : c x.toNatClampNeg = nI (c x.toNatClampNeg).toInt.toNat := Int32.toInt_inj.mp (by rw [nI_toInt (by omega)]; omega)
      have tb := xtb ⟨s, hs⟩ ⟨(c x.toNatClampNeg).toInt.toNat, by omega⟩
      dsimp only at tb
      rw [← ck] at tb
      have stp : ∀ z : Int32, (!decide (z.toInt = 0)) = s.testBit (c x.toNatClampNeg).toInt.toNat → ∃ (p' : Nat → Int32) (h' : Nat), K_m_worth_L2 nc c (nI s) (k + m + 1) (x + 1) (h + 1) (upd p h.toNatClampNeg z) = (p' 0, p') ∧ xpl p' h' = xev c s nc.toNatClampNeg := by
        intro z hz
        refine ih (x + 1) (h + 1) (upd p h.toNatClampNeg z) k (by omega) (by omega) (by omega) (by omega) ?_
        rw [h1n, x1n, xpl_put, evs, hz, e4]
      have go : K_m_worth_L2 nc c (nI s) (k + (m + 1) + 1) x h p = if ((nI s >>> (c x.toNatClampNeg &&& 31)) &&& (1 : Int32)).toInt = 1 then K_m_worth_L2 nc c (nI s) (k + m + 1) (x + 1) (h + 1) (upd p h.toNatClampNeg 1) else K_m_worth_L2 nc c (nI s) (k + m + 1) (x + 1) (h + 1) (upd p h.toNatClampNeg 0) := by
        show K_m_worth_L2 nc c (nI s) ((k + m + 1) + 1) x h p = _
        generalize k + m + 1 = j
        simp only [K_m_worth_L2, K_m_worth_3, K_m_worth_13, K_m_worth_15, K_m_worth_16, K_m_worth_14, K_m_worth_8, K_m_worth_11, K_m_worth_12, K_m_worth_10, K_m_worth_9, K_m_worth_7, K_m_worth_5, K_m_worth_18, K_m_worth_17, K_m_worth_6, K_m_worth_4, K_m_worth_2, K_m_worth_1, M_m_worth, n0, n1]
        rw [if_neg (by omega), if_neg q]
      rw [go]
      by_cases o : ((nI s >>> (c x.toNatClampNeg &&& 31)) &&& (1 : Int32)).toInt = 1
      · rw [if_pos o]
        exact stp 1 (by rw [tb.mp o]; decide)
      · rw [if_neg o]
        exact stp 0 (by rw [show s.testBit (c x.toNatClampNeg).toInt.toNat = false from by simpa using fun z => o (tb.mpr z)]; decide)
/-- what a formula is worth for a set -/
theorem r_worth {c p : Nat → Int32} {nc : Int32} {s : Nat} {b : Bool} (hs : s < 512) (h0 : 0 ≤ nc.toInt) (h4 : nc.toInt ≤ 400) (hl : ∀ j : Nat, (j : Int) < nc.toInt → 0 ≤ (c j).toInt ∧ ((c j).toInt < 9 ∨ (c j).toInt = 10 ∨ (c j).toInt = 11)) (wk : xwk c nc.toNatClampNeg) (hv : xev c s nc.toNatClampNeg = [b]) : ((M_m_worth nc c (nI s) p).1.toInt = 0 ↔ b = false) := by
  have z0 : (0 : Int32).toInt = 0 := by decide
  have c0 : (0 : Int32).toNatClampNeg = 0 := by decide
  obtain ⟨p', h', e1, e2⟩ := b_worth hs h0 h4 hl wk nc.toInt.toNat 0 0 p (99999 - nc.toInt.toNat) (by omega) (by omega) (by omega) (by omega) (by rw [c0]; rfl)
  have e3 : M_m_worth nc c (nI s) p = (p' 0, p') := by
    rw [← e1, show 99999 - nc.toInt.toNat + nc.toInt.toNat + 1 = 100000 from by omega]
    rfl
  rw [e3]
  rw [hv] at e2
  match h', e2 with
  | 0, e2 => exact absurd e2 (by simp [xpl])
  | 1, e2 =>
    have e2 : (!decide ((p' 0).toInt = 0)) = b := by
      have e2 : [!decide ((p' 0).toInt = 0)] = [b] := e2
      injection e2
    rw [← e2]
    simp
  | g + 2, e2 => exact absurd e2 (by simp [xpl])
-- 63.rows
def zst (G : Nat → Nat → Int64) (d : Nat) (g : Nat → Int64) : Nat → Nat → Int64 := fun k => if k = d then g else G k
theorem xst_s {G : Nat → Nat → Int64} {d : Nat} {g : Nat → Int64} : zst G d g d = g := if_pos rfl
theorem xst_o {G : Nat → Nat → Int64} {d k : Nat} {g : Nat → Int64} (h : k ≠ d) : zst G d g k = G k := if_neg h
theorem xst_2 {G : Nat → Nat → Int64} {d : Nat} {g g1 : Nat → Int64} : zst (zst G d g) d g1 = zst G d g1 := by
  funext k
  unfold zst
  split <;> rfl
abbrev xT7 : Type := (Nat → Int64) × (Nat → Int64) × (Nat → Int64) × (Nat → Int64) × (Nat → Int64) × (Nat → Int64) × (Nat → Int64) × (Nat → Int64) × (Nat → Int64) × (Nat → Int64) × (Nat → Int64) × (Nat → Int64) × (Nat → Int64) × (Nat → Int64)
def xt7 (G A : Nat → Nat → Int64) : xT7 := (G 0, G 1, G 2, G 3, G 4, G 5, G 6, A 0, A 1, A 2, A 3, A 4, A 5, A 6)
theorem xupL_s {f : Nat → Int64} {i : Nat} {x : Int64} : vp_updL f i x i = x := by unfold vp_updL; exact if_pos rfl
theorem xupL_o {f : Nat → Int64} {i j : Nat} {x : Int64} (h : j ≠ i) : vp_updL f i x j = f j := by unfold vp_updL; exact if_neg h
theorem ja_0 {G A : Nat → Nat → Int64} {x : Int32} (h : x.toInt < 8) (k : Nat) : K_joinAny_L2 (nI 0) (k + 1) x (G 0) (G 1) (G 2) (G 3) (G 4) (G 5) (G 6) (A 0) (A 1) (A 2) (A 3) (A 4) (A 5) (A 6) = K_joinAny_L2 (nI 0) k (x + 1) (zst G 0 (vp_updL (G 0) x.toNatClampNeg (G 0 x.toNatClampNeg ||| A 0 x.toNatClampNeg)) 0) (zst G 0 (vp_updL (G 0) x.toNatClampNeg (G 0 x.toNatClampNeg ||| A 0 x.toNatClampNeg)) 1) (zst G 0 (vp_updL (G 0) x.toNatClampNeg (G 0 x.toNatClampNeg ||| A 0 x.toNatClampNeg)) 2) (zst G 0 (vp_updL (G 0) x.toNatClampNeg (G 0 x.toNatClampNeg ||| A 0 x.toNatClampNeg)) 3) (zst G 0 (vp_updL (G 0) x.toNatClampNeg (G 0 x.toNatClampNeg ||| A 0 x.toNatClampNeg)) 4) (zst G 0 (vp_updL (G 0) x.toNatClampNeg (G 0 x.toNatClampNeg ||| A 0 x.toNatClampNeg)) 5) (zst G 0 (vp_updL (G 0) x.toNatClampNeg (G 0 x.toNatClampNeg ||| A 0 x.toNatClampNeg)) 6) (zst A 0 (vp_updL (A 0) x.toNatClampNeg (-1)) 0) (zst A 0 (vp_updL (A 0) x.toNatClampNeg (-1)) 1) (zst A 0 (vp_updL (A 0) x.toNatClampNeg (-1)) 2) (zst A 0 (vp_updL (A 0) x.toNatClampNeg (-1)) 3) (zst A 0 (vp_updL (A 0) x.toNatClampNeg (-1)) 4) (zst A 0 (vp_updL (A 0) x.toNatClampNeg (-1)) 5) (zst A 0 (vp_updL (A 0) x.toNatClampNeg (-1)) 6) := by
  simp only [K_joinAny_L2, K_joinAny_3, K_joinAny_5, K_joinAny_7, K_joinAny_9, K_joinAny_11, K_joinAny_13, K_joinAny_15, K_joinAny_16, K_joinAny_14, K_joinAny_12, K_joinAny_10, K_joinAny_8, K_joinAny_6, K_joinAny_4, K_joinAny_2, K_joinAny_1, M_joinAny]
  rw [if_neg (by omega), if_pos (by decide)]
  rfl
theorem ja_1 {G A : Nat → Nat → Int64} {x : Int32} (h : x.toInt < 8) (k : Nat) : K_joinAny_L2 (nI 1) (k + 1) x (G 0) (G 1) (G 2) (G 3) (G 4) (G 5) (G 6) (A 0) (A 1) (A 2) (A 3) (A 4) (A 5) (A 6) = K_joinAny_L2 (nI 1) k (x + 1) (zst G 1 (vp_updL (G 1) x.toNatClampNeg (G 1 x.toNatClampNeg ||| A 1 x.toNatClampNeg)) 0) (zst G 1 (vp_updL (G 1) x.toNatClampNeg (G 1 x.toNatClampNeg ||| A 1 x.toNatClampNeg)) 1) (zst G 1 (vp_updL (G 1) x.toNatClampNeg (G 1 x.toNatClampNeg ||| A 1 x.toNatClampNeg)) 2) (zst G 1 (vp_updL (G 1) x.toNatClampNeg (G 1 x.toNatClampNeg ||| A 1 x.toNatClampNeg)) 3) (zst G 1 (vp_updL (G 1) x.toNatClampNeg (G 1 x.toNatClampNeg ||| A 1 x.toNatClampNeg)) 4) (zst G 1 (vp_updL (G 1) x.toNatClampNeg (G 1 x.toNatClampNeg ||| A 1 x.toNatClampNeg)) 5) (zst G 1 (vp_updL (G 1) x.toNatClampNeg (G 1 x.toNatClampNeg ||| A 1 x.toNatClampNeg)) 6) (zst A 1 (vp_updL (A 1) x.toNatClampNeg (-1)) 0) (zst A 1 (vp_updL (A 1) x.toNatClampNeg (-1)) 1) (zst A 1 (vp_updL (A 1) x.toNatClampNeg (-1)) 2) (zst A 1 (vp_updL (A 1) x.toNatClampNeg (-1)) 3) (zst A 1 (vp_updL (A 1) x.toNatClampNeg (-1)) 4) (zst A 1 (vp_updL (A 1) x.toNatClampNeg (-1)) 5) (zst A 1 (vp_updL (A 1) x.toNatClampNeg (-1)) 6) := by
  simp only [K_joinAny_L2, K_joinAny_3, K_joinAny_5, K_joinAny_7, K_joinAny_9, K_joinAny_11, K_joinAny_13, K_joinAny_15, K_joinAny_16, K_joinAny_14, K_joinAny_12, K_joinAny_10, K_joinAny_8, K_joinAny_6, K_joinAny_4, K_joinAny_2, K_joinAny_1, M_joinAny]
  rw [if_neg (by omega), if_neg (by decide), if_pos (by decide)]
  rfl
theorem ja_2 {G A : Nat → Nat → Int64} {x : Int32} (h : x.toInt < 8) (k : Nat) : K_joinAny_L2 (nI 2) (k + 1) x (G 0) (G 1) (G 2) (G 3) (G 4) (G 5) (G 6) (A 0) (A 1) (A 2) (A 3) (A 4) (A 5) (A 6) = K_joinAny_L2 (nI 2) k (x + 1) (zst G 2 (vp_updL (G 2) x.toNatClampNeg (G 2 x.toNatClampNeg ||| A 2 x.toNatClampNeg)) 0) (zst G 2 (vp_updL (G 2) x.toNatClampNeg (G 2 x.toNatClampNeg ||| A 2 x.toNatClampNeg)) 1) (zst G 2 (vp_updL (G 2) x.toNatClampNeg (G 2 x.toNatClampNeg ||| A 2 x.toNatClampNeg)) 2) (zst G 2 (vp_updL (G 2) x.toNatClampNeg (G 2 x.toNatClampNeg ||| A 2 x.toNatClampNeg)) 3) (zst G 2 (vp_updL (G 2) x.toNatClampNeg (G 2 x.toNatClampNeg ||| A 2 x.toNatClampNeg)) 4) (zst G 2 (vp_updL (G 2) x.toNatClampNeg (G 2 x.toNatClampNeg ||| A 2 x.toNatClampNeg)) 5) (zst G 2 (vp_updL (G 2) x.toNatClampNeg (G 2 x.toNatClampNeg ||| A 2 x.toNatClampNeg)) 6) (zst A 2 (vp_updL (A 2) x.toNatClampNeg (-1)) 0) (zst A 2 (vp_updL (A 2) x.toNatClampNeg (-1)) 1) (zst A 2 (vp_updL (A 2) x.toNatClampNeg (-1)) 2) (zst A 2 (vp_updL (A 2) x.toNatClampNeg (-1)) 3) (zst A 2 (vp_updL (A 2) x.toNatClampNeg (-1)) 4) (zst A 2 (vp_updL (A 2) x.toNatClampNeg (-1)) 5) (zst A 2 (vp_updL (A 2) x.toNatClampNeg (-1)) 6) := by
  simp only [K_joinAny_L2, K_joinAny_3, K_joinAny_5, K_joinAny_7, K_joinAny_9, K_joinAny_11, K_joinAny_13, K_joinAny_15, K_joinAny_16, K_joinAny_14, K_joinAny_12, K_joinAny_10, K_joinAny_8, K_joinAny_6, K_joinAny_4, K_joinAny_2, K_joinAny_1, M_joinAny]
  rw [if_neg (by omega), if_neg (by decide), if_neg (by decide), if_pos (by decide)]
  rfl
theorem ja_3 {G A : Nat → Nat → Int64} {x : Int32} (h : x.toInt < 8) (k : Nat) : K_joinAny_L2 (nI 3) (k + 1) x (G 0) (G 1) (G 2) (G 3) (G 4) (G 5) (G 6) (A 0) (A 1) (A 2) (A 3) (A 4) (A 5) (A 6) = K_joinAny_L2 (nI 3) k (x + 1) (zst G 3 (vp_updL (G 3) x.toNatClampNeg (G 3 x.toNatClampNeg ||| A 3 x.toNatClampNeg)) 0) (zst G 3 (vp_updL (G 3) x.toNatClampNeg (G 3 x.toNatClampNeg ||| A 3 x.toNatClampNeg)) 1) (zst G 3 (vp_updL (G 3) x.toNatClampNeg (G 3 x.toNatClampNeg ||| A 3 x.toNatClampNeg)) 2) (zst G 3 (vp_updL (G 3) x.toNatClampNeg (G 3 x.toNatClampNeg ||| A 3 x.toNatClampNeg)) 3) (zst G 3 (vp_updL (G 3) x.toNatClampNeg (G 3 x.toNatClampNeg ||| A 3 x.toNatClampNeg)) 4) (zst G 3 (vp_updL (G 3) x.toNatClampNeg (G 3 x.toNatClampNeg ||| A 3 x.toNatClampNeg)) 5) (zst G 3 (vp_updL (G 3) x.toNatClampNeg (G 3 x.toNatClampNeg ||| A 3 x.toNatClampNeg)) 6) (zst A 3 (vp_updL (A 3) x.toNatClampNeg (-1)) 0) (zst A 3 (vp_updL (A 3) x.toNatClampNeg (-1)) 1) (zst A 3 (vp_updL (A 3) x.toNatClampNeg (-1)) 2) (zst A 3 (vp_updL (A 3) x.toNatClampNeg (-1)) 3) (zst A 3 (vp_updL (A 3) x.toNatClampNeg (-1)) 4) (zst A 3 (vp_updL (A 3) x.toNatClampNeg (-1)) 5) (zst A 3 (vp_updL (A 3) x.toNatClampNeg (-1)) 6) := by
  simp only [K_joinAny_L2, K_joinAny_3, K_joinAny_5, K_joinAny_7, K_joinAny_9, K_joinAny_11, K_joinAny_13, K_joinAny_15, K_joinAny_16, K_joinAny_14, K_joinAny_12, K_joinAny_10, K_joinAny_8, K_joinAny_6, K_joinAny_4, K_joinAny_2, K_joinAny_1, M_joinAny]
  rw [if_neg (by omega), if_neg (by decide), if_neg (by decide), if_neg (by decide), if_pos (by decide)]
  rfl
theorem ja_4 {G A : Nat → Nat → Int64} {x : Int32} (h : x.toInt < 8) (k : Nat) : K_joinAny_L2 (nI 4) (k + 1) x (G 0) (G 1) (G 2) (G 3) (G 4) (G 5) (G 6) (A 0) (A 1) (A 2) (A 3) (A 4) (A 5) (A 6) = K_joinAny_L2 (nI 4) k (x + 1) (zst G 4 (vp_updL (G 4) x.toNatClampNeg (G 4 x.toNatClampNeg ||| A 4 x.toNatClampNeg)) 0) (zst G 4 (vp_updL (G 4) x.toNatClampNeg (G 4 x.toNatClampNeg ||| A 4 x.toNatClampNeg)) 1) (zst G 4 (vp_updL (G 4) x.toNatClampNeg (G 4 x.toNatClampNeg ||| A 4 x.toNatClampNeg)) 2) (zst G 4 (vp_updL (G 4) x.toNatClampNeg (G 4 x.toNatClampNeg ||| A 4 x.toNatClampNeg)) 3) (zst G 4 (vp_updL (G 4) x.toNatClampNeg (G 4 x.toNatClampNeg ||| A 4 x.toNatClampNeg)) 4) (zst G 4 (vp_updL (G 4) x.toNatClampNeg (G 4 x.toNatClampNeg ||| A 4 x.toNatClampNeg)) 5) (zst G 4 (vp_updL (G 4) x.toNatClampNeg (G 4 x.toNatClampNeg ||| A 4 x.toNatClampNeg)) 6) (zst A 4 (vp_updL (A 4) x.toNatClampNeg (-1)) 0) (zst A 4 (vp_updL (A 4) x.toNatClampNeg (-1)) 1) (zst A 4 (vp_updL (A 4) x.toNatClampNeg (-1)) 2) (zst A 4 (vp_updL (A 4) x.toNatClampNeg (-1)) 3) (zst A 4 (vp_updL (A 4) x.toNatClampNeg (-1)) 4) (zst A 4 (vp_updL (A 4) x.toNatClampNeg (-1)) 5) (zst A 4 (vp_updL (A 4) x.toNatClampNeg (-1)) 6) := by
  simp only [K_joinAny_L2, K_joinAny_3, K_joinAny_5, K_joinAny_7, K_joinAny_9, K_joinAny_11, K_joinAny_13, K_joinAny_15, K_joinAny_16, K_joinAny_14, K_joinAny_12, K_joinAny_10, K_joinAny_8, K_joinAny_6, K_joinAny_4, K_joinAny_2, K_joinAny_1, M_joinAny]
  rw [if_neg (by omega), if_neg (by decide), if_neg (by decide), if_neg (by decide), if_neg (by decide), if_pos (by decide)]
  rfl
theorem ja_5 {G A : Nat → Nat → Int64} {x : Int32} (h : x.toInt < 8) (k : Nat) : K_joinAny_L2 (nI 5) (k + 1) x (G 0) (G 1) (G 2) (G 3) (G 4) (G 5) (G 6) (A 0) (A 1) (A 2) (A 3) (A 4) (A 5) (A 6) = K_joinAny_L2 (nI 5) k (x + 1) (zst G 5 (vp_updL (G 5) x.toNatClampNeg (G 5 x.toNatClampNeg ||| A 5 x.toNatClampNeg)) 0) (zst G 5 (vp_updL (G 5) x.toNatClampNeg (G 5 x.toNatClampNeg ||| A 5 x.toNatClampNeg)) 1) (zst G 5 (vp_updL (G 5) x.toNatClampNeg (G 5 x.toNatClampNeg ||| A 5 x.toNatClampNeg)) 2) (zst G 5 (vp_updL (G 5) x.toNatClampNeg (G 5 x.toNatClampNeg ||| A 5 x.toNatClampNeg)) 3) (zst G 5 (vp_updL (G 5) x.toNatClampNeg (G 5 x.toNatClampNeg ||| A 5 x.toNatClampNeg)) 4) (zst G 5 (vp_updL (G 5) x.toNatClampNeg (G 5 x.toNatClampNeg ||| A 5 x.toNatClampNeg)) 5) (zst G 5 (vp_updL (G 5) x.toNatClampNeg (G 5 x.toNatClampNeg ||| A 5 x.toNatClampNeg)) 6) (zst A 5 (vp_updL (A 5) x.toNatClampNeg (-1)) 0) (zst A 5 (vp_updL (A 5) x.toNatClampNeg (-1)) 1) (zst A 5 (vp_updL (A 5) x.toNatClampNeg (-1)) 2) (zst A 5 (vp_updL (A 5) x.toNatClampNeg (-1)) 3) (zst A 5 (vp_updL (A 5) x.toNatClampNeg (-1)) 4) (zst A 5 (vp_updL (A 5) x.toNatClampNeg (-1)) 5) (zst A 5 (vp_updL (A 5) x.toNatClampNeg (-1)) 6) := by
  simp only [K_joinAny_L2, K_joinAny_3, K_joinAny_5, K_joinAny_7, K_joinAny_9, K_joinAny_11, K_joinAny_13, K_joinAny_15, K_joinAny_16, K_joinAny_14, K_joinAny_12, K_joinAny_10, K_joinAny_8, K_joinAny_6, K_joinAny_4, K_joinAny_2, K_joinAny_1, M_joinAny]
  rw [if_neg (by omega), if_neg (by decide), if_neg (by decide), if_neg (by decide), if_neg (by decide), if_neg (by decide), if_pos (by decide)]
  rfl
theorem ja_6 {G A : Nat → Nat → Int64} {x : Int32} (h : x.toInt < 8) (k : Nat) : K_joinAny_L2 (nI 6) (k + 1) x (G 0) (G 1) (G 2) (G 3) (G 4) (G 5) (G 6) (A 0) (A 1) (A 2) (A 3) (A 4) (A 5) (A 6) = K_joinAny_L2 (nI 6) k (x + 1) (zst G 6 (vp_updL (G 6) x.toNatClampNeg (G 6 x.toNatClampNeg ||| A 6 x.toNatClampNeg)) 0) (zst G 6 (vp_updL (G 6) x.toNatClampNeg (G 6 x.toNatClampNeg ||| A 6 x.toNatClampNeg)) 1) (zst G 6 (vp_updL (G 6) x.toNatClampNeg (G 6 x.toNatClampNeg ||| A 6 x.toNatClampNeg)) 2) (zst G 6 (vp_updL (G 6) x.toNatClampNeg (G 6 x.toNatClampNeg ||| A 6 x.toNatClampNeg)) 3) (zst G 6 (vp_updL (G 6) x.toNatClampNeg (G 6 x.toNatClampNeg ||| A 6 x.toNatClampNeg)) 4) (zst G 6 (vp_updL (G 6) x.toNatClampNeg (G 6 x.toNatClampNeg ||| A 6 x.toNatClampNeg)) 5) (zst G 6 (vp_updL (G 6) x.toNatClampNeg (G 6 x.toNatClampNeg ||| A 6 x.toNatClampNeg)) 6) (zst A 6 (vp_updL (A 6) x.toNatClampNeg (-1)) 0) (zst A 6 (vp_updL (A 6) x.toNatClampNeg (-1)) 1) (zst A 6 (vp_updL (A 6) x.toNatClampNeg (-1)) 2) (zst A 6 (vp_updL (A 6) x.toNatClampNeg (-1)) 3) (zst A 6 (vp_updL (A 6) x.toNatClampNeg (-1)) 4) (zst A 6 (vp_updL (A 6) x.toNatClampNeg (-1)) 5) (zst A 6 (vp_updL (A 6) x.toNatClampNeg (-1)) 6) := by
  simp only [K_joinAny_L2, K_joinAny_3, K_joinAny_5, K_joinAny_7, K_joinAny_9, K_joinAny_11, K_joinAny_13, K_joinAny_15, K_joinAny_16, K_joinAny_14, K_joinAny_12, K_joinAny_10, K_joinAny_8, K_joinAny_6, K_joinAny_4, K_joinAny_2, K_joinAny_1, M_joinAny]
  rw [if_neg (by omega), if_neg (by decide), if_neg (by decide), if_neg (by decide), if_neg (by decide), if_neg (by decide), if_neg (by decide)]
  rfl
theorem ja_step {G A : Nat → Nat → Int64} {d : Nat} (hd : d ≤ 6) {x : Int32} (h : x.toInt < 8) (k : Nat) : K_joinAny_L2 (nI d) (k + 1) x (G 0) (G 1) (G 2) (G 3) (G 4) (G 5) (G 6) (A 0) (A 1) (A 2) (A 3) (A 4) (A 5) (A 6) = K_joinAny_L2 (nI d) k (x + 1) (zst G d (vp_updL (G d) x.toNatClampNeg (G d x.toNatClampNeg ||| A d x.toNatClampNeg)) 0) (zst G d (vp_updL (G d) x.toNatClampNeg (G d x.toNatClampNeg ||| A d x.toNatClampNeg)) 1) (zst G d (vp_updL (G d) x.toNatClampNeg (G d x.toNatClampNeg ||| A d x.toNatClampNeg)) 2) (zst G d (vp_updL (G d) x.toNatClampNeg (G d x.toNatClampNeg ||| A d x.toNatClampNeg)) 3) (zst G d (vp_updL (G d) x.toNatClampNeg (G d x.toNatClampNeg ||| A d x.toNatClampNeg)) 4) (zst G d (vp_updL (G d) x.toNatClampNeg (G d x.toNatClampNeg ||| A d x.toNatClampNeg)) 5) (zst G d (vp_updL (G d) x.toNatClampNeg (G d x.toNatClampNeg ||| A d x.toNatClampNeg)) 6) (zst A d (vp_updL (A d) x.toNatClampNeg (-1)) 0) (zst A d (vp_updL (A d) x.toNatClampNeg (-1)) 1) (zst A d (vp_updL (A d) x.toNatClampNeg (-1)) 2) (zst A d (vp_updL (A d) x.toNatClampNeg (-1)) 3) (zst A d (vp_updL (A d) x.toNatClampNeg (-1)) 4) (zst A d (vp_updL (A d) x.toNatClampNeg (-1)) 5) (zst A d (vp_updL (A d) x.toNatClampNeg (-1)) 6) := by
  match d, hd with
  | 0, _ => exact ja_0 h k
  | 1, _ => exact ja_1 h k
  | 2, _ => exact ja_2 h k
  | 3, _ => exact ja_3 h k
  | 4, _ => exact ja_4 h k
  | 5, _ => exact ja_5 h k
  | 6, _ => exact ja_6 h k
theorem ja_end {G A : Nat → Nat → Int64} {d x : Int32} (h : 8 ≤ x.toInt) (k : Nat) : K_joinAny_L2 d (k + 1) x (G 0) (G 1) (G 2) (G 3) (G 4) (G 5) (G 6) (A 0) (A 1) (A 2) (A 3) (A 4) (A 5) (A 6) = xt7 G A := by
  simp only [K_joinAny_L2, K_joinAny_3, K_joinAny_5, K_joinAny_7, K_joinAny_9, K_joinAny_11, K_joinAny_13, K_joinAny_15, K_joinAny_16, K_joinAny_14, K_joinAny_12, K_joinAny_10, K_joinAny_8, K_joinAny_6, K_joinAny_4, K_joinAny_2, K_joinAny_1, M_joinAny]
  rw [if_pos h]
  rfl
theorem b_ja {d : Nat} (hd : d ≤ 6) : ∀ (m : Nat) (x : Int32) (k : Nat) (G A : Nat → Nat → Int64), x.toInt + (m : Int) = 8 → 0 ≤ x.toInt → ∃ g a : Nat → Int64, K_joinAny_L2 (nI d) (k + m + 1) x (G 0) (G 1) (G 2) (G 3) (G 4) (G 5) (G 6) (A 0) (A 1) (A 2) (A 3) (A 4) (A 5) (A 6) = xt7 (zst G d g) (zst A d a) ∧ (∀ i : Nat, x.toInt ≤ (i : Int) → i < 8 → g i = G d i ||| A d i ∧ a i = -1) ∧ (∀ i : Nat, (i : Int) < x.toInt → g i = G d i ∧ a i = A d i) := by
  intro m
  induction m with
  | zero =>
    intro x k G A h h0
    refine ⟨G d, A d, ?_, fun i h1 h2 => absurd h2 (by omega), fun i _ => ⟨rfl, rfl⟩⟩
    rw [show k + 0 + 1 = k + 1 from rfl, ja_end (by omega)]
    have eG : zst G d (G d) = G := by
      funext j
      unfold zst
      split
      · next z => rw [z]
      · rfl
    have eA : zst A d (A d) = A := by
      funext j
      unfold zst
      split
      · next z => rw [z]
      · rfl
    rw [eG, eA]
  | succ m ih =>
    intro x k G A h h0
    have e : (x + 1).toInt = x.toInt + 1 := xadd rfl (by decide) (by omega) (by omega)
    have xn := xtn (x := x) h0
    obtain ⟨g, a, h1, h2, h3⟩ := ih (x + 1) k (zst G d (vp_updL (G d) x.toNatClampNeg (G d x.toNatClampNeg ||| A d x.toNatClampNeg))) (zst A d (vp_updL (A d) x.toNatClampNeg (-1))) (by omega) (by omega)
    refine ⟨g, a, ?_, fun i i1 i2 => ?_, fun i i1 => ?_⟩
    · rw [show k + (m + 1) + 1 = (k + m + 1) + 1 from by omega, ja_step hd (by omega), h1, xst_2, xst_2]
    · by_cases y : i = x.toNatClampNeg
      · have z := h3 i (by omega)
        rw [xst_s, xst_s, y, xupL_s, xupL_s] at z
        rw [y]
        exact z
      · have z := h2 i (by omega) i2
        rw [xst_s, xst_s, xupL_o y, xupL_o y] at z
        exact z
    · have z := h3 i (by omega)
      rw [xst_s, xst_s, xupL_o (by omega), xupL_o (by omega)] at z
      exact z
theorem r_ja {d : Nat} (hd : d ≤ 6) (G A : Nat → Nat → Int64) : ∃ g a : Nat → Int64, M_joinAny (nI d) (G 0) (G 1) (G 2) (G 3) (G 4) (G 5) (G 6) (A 0) (A 1) (A 2) (A 3) (A 4) (A 5) (A 6) = xt7 (zst G d g) (zst A d a) ∧ ∀ i : Nat, i < 8 → g i = G d i ||| A d i ∧ a i = -1 := by
  obtain ⟨g, a, h1, h2, -⟩ := b_ja hd 8 0 99991 G A (by decide) (by decide)
  exact ⟨g, a, h1, fun i hi => h2 i (by have z : (0 : Int32).toInt = 0 := (by decide); omega) hi⟩
-- 64.rows2
theorem od_0 {G A : Nat → Nat → Int64} : M_openDepth (nI 0) (G 1) (G 2) (G 3) (G 4) (G 5) (G 6) (A 1) (A 2) (A 3) (A 4) (A 5) (A 6) (A 0) (G 0) = xt7 (zst G 0 (M_fillJ 8 0 (G 0))) (zst A 0 (M_fillJ 8 (-1) (A 0))) := by
  simp only [K_openDepth_5, K_openDepth_4, K_openDepth_2, K_openDepth_9, K_openDepth_8, K_openDepth_6, K_openDepth_13, K_openDepth_12, K_openDepth_10, K_openDepth_17, K_openDepth_16, K_openDepth_14, K_openDepth_21, K_openDepth_20, K_openDepth_18, K_openDepth_25, K_openDepth_24, K_openDepth_22, K_openDepth_27, K_openDepth_26, K_openDepth_23, K_openDepth_19, K_openDepth_15, K_openDepth_11, K_openDepth_7, K_openDepth_3, K_openDepth_1, M_openDepth]
  rw [if_pos (by decide)]
  rfl
theorem od_1 {G A : Nat → Nat → Int64} : M_openDepth (nI 1) (G 1) (G 2) (G 3) (G 4) (G 5) (G 6) (A 1) (A 2) (A 3) (A 4) (A 5) (A 6) (A 0) (G 0) = xt7 (zst G 1 (M_fillJ 8 0 (G 1))) (zst A 1 (M_fillJ 8 (-1) (A 1))) := by
  simp only [K_openDepth_5, K_openDepth_4, K_openDepth_2, K_openDepth_9, K_openDepth_8, K_openDepth_6, K_openDepth_13, K_openDepth_12, K_openDepth_10, K_openDepth_17, K_openDepth_16, K_openDepth_14, K_openDepth_21, K_openDepth_20, K_openDepth_18, K_openDepth_25, K_openDepth_24, K_openDepth_22, K_openDepth_27, K_openDepth_26, K_openDepth_23, K_openDepth_19, K_openDepth_15, K_openDepth_11, K_openDepth_7, K_openDepth_3, K_openDepth_1, M_openDepth]
  rw [if_neg (by decide), if_pos (by decide)]
  rfl
theorem od_2 {G A : Nat → Nat → Int64} : M_openDepth (nI 2) (G 1) (G 2) (G 3) (G 4) (G 5) (G 6) (A 1) (A 2) (A 3) (A 4) (A 5) (A 6) (A 0) (G 0) = xt7 (zst G 2 (M_fillJ 8 0 (G 2))) (zst A 2 (M_fillJ 8 (-1) (A 2))) := by
  simp only [K_openDepth_5, K_openDepth_4, K_openDepth_2, K_openDepth_9, K_openDepth_8, K_openDepth_6, K_openDepth_13, K_openDepth_12, K_openDepth_10, K_openDepth_17, K_openDepth_16, K_openDepth_14, K_openDepth_21, K_openDepth_20, K_openDepth_18, K_openDepth_25, K_openDepth_24, K_openDepth_22, K_openDepth_27, K_openDepth_26, K_openDepth_23, K_openDepth_19, K_openDepth_15, K_openDepth_11, K_openDepth_7, K_openDepth_3, K_openDepth_1, M_openDepth]
  rw [if_neg (by decide), if_neg (by decide), if_pos (by decide)]
  rfl
theorem od_3 {G A : Nat → Nat → Int64} : M_openDepth (nI 3) (G 1) (G 2) (G 3) (G 4) (G 5) (G 6) (A 1) (A 2) (A 3) (A 4) (A 5) (A 6) (A 0) (G 0) = xt7 (zst G 3 (M_fillJ 8 0 (G 3))) (zst A 3 (M_fillJ 8 (-1) (A 3))) := by
  simp only [K_openDepth_5, K_openDepth_4, K_openDepth_2, K_openDepth_9, K_openDepth_8, K_openDepth_6, K_openDepth_13, K_openDepth_12, K_openDepth_10, K_openDepth_17, K_openDepth_16, K_openDepth_14, K_openDepth_21, K_openDepth_20, K_openDepth_18, K_openDepth_25, K_openDepth_24, K_openDepth_22, K_openDepth_27, K_openDepth_26, K_openDepth_23, K_openDepth_19, K_openDepth_15, K_openDepth_11, K_openDepth_7, K_openDepth_3, K_openDepth_1, M_openDepth]
  rw [if_neg (by decide), if_neg (by decide), if_neg (by decide), if_pos (by decide)]
  rfl
theorem od_4 {G A : Nat → Nat → Int64} : M_openDepth (nI 4) (G 1) (G 2) (G 3) (G 4) (G 5) (G 6) (A 1) (A 2) (A 3) (A 4) (A 5) (A 6) (A 0) (G 0) = xt7 (zst G 4 (M_fillJ 8 0 (G 4))) (zst A 4 (M_fillJ 8 (-1) (A 4))) := by
  simp only [K_openDepth_5, K_openDepth_4, K_openDepth_2, K_openDepth_9, K_openDepth_8, K_openDepth_6, K_openDepth_13, K_openDepth_12, K_openDepth_10, K_openDepth_17, K_openDepth_16, K_openDepth_14, K_openDepth_21, K_openDepth_20, K_openDepth_18, K_openDepth_25, K_openDepth_24, K_openDepth_22, K_openDepth_27, K_openDepth_26, K_openDepth_23, K_openDepth_19, K_openDepth_15, K_openDepth_11, K_openDepth_7, K_openDepth_3, K_openDepth_1, M_openDepth]
  rw [if_neg (by decide), if_neg (by decide), if_neg (by decide), if_neg (by decide), if_pos (by decide)]
  rfl
theorem od_5 {G A : Nat → Nat → Int64} : M_openDepth (nI 5) (G 1) (G 2) (G 3) (G 4) (G 5) (G 6) (A 1) (A 2) (A 3) (A 4) (A 5) (A 6) (A 0) (G 0) = xt7 (zst G 5 (M_fillJ 8 0 (G 5))) (zst A 5 (M_fillJ 8 (-1) (A 5))) := by
  simp only [K_openDepth_5, K_openDepth_4, K_openDepth_2, K_openDepth_9, K_openDepth_8, K_openDepth_6, K_openDepth_13, K_openDepth_12, K_openDepth_10, K_openDepth_17, K_openDepth_16, K_openDepth_14, K_openDepth_21, K_openDepth_20, K_openDepth_18, K_openDepth_25, K_openDepth_24, K_openDepth_22, K_openDepth_27, K_openDepth_26, K_openDepth_23, K_openDepth_19, K_openDepth_15, K_openDepth_11, K_openDepth_7, K_openDepth_3, K_openDepth_1, M_openDepth]
  rw [if_neg (by decide), if_neg (by decide), if_neg (by decide), if_neg (by decide), if_neg (by decide), if_pos (by decide)]
  rfl
theorem od_6 {G A : Nat → Nat → Int64} : M_openDepth (nI 6) (G 1) (G 2) (G 3) (G 4) (G 5) (G 6) (A 1) (A 2) (A 3) (A 4) (A 5) (A 6) (A 0) (G 0) = xt7 (zst G 6 (M_fillJ 8 0 (G 6))) (zst A 6 (M_fillJ 8 (-1) (A 6))) := by
  simp only [K_openDepth_5, K_openDepth_4, K_openDepth_2, K_openDepth_9, K_openDepth_8, K_openDepth_6, K_openDepth_13, K_openDepth_12, K_openDepth_10, K_openDepth_17, K_openDepth_16, K_openDepth_14, K_openDepth_21, K_openDepth_20, K_openDepth_18, K_openDepth_25, K_openDepth_24, K_openDepth_22, K_openDepth_27, K_openDepth_26, K_openDepth_23, K_openDepth_19, K_openDepth_15, K_openDepth_11, K_openDepth_7, K_openDepth_3, K_openDepth_1, M_openDepth]
  rw [if_neg (by decide), if_neg (by decide), if_neg (by decide), if_neg (by decide), if_neg (by decide), if_neg (by decide)]
  rfl
theorem r_open {d : Nat} (hd : d ≤ 6) (G A : Nat → Nat → Int64) : M_openDepth (nI d) (G 1) (G 2) (G 3) (G 4) (G 5) (G 6) (A 1) (A 2) (A 3) (A 4) (A 5) (A 6) (A 0) (G 0) = xt7 (zst G d (M_fillJ 8 0 (G d))) (zst A d (M_fillJ 8 (-1) (A d))) := by
  match d, hd with
  | 0, _ => exact od_0
  | 1, _ => exact od_1
  | 2, _ => exact od_2
  | 3, _ => exact od_3
  | 4, _ => exact od_4
  | 5, _ => exact od_5
  | 6, _ => exact od_6
theorem cd_0 {G A : Nat → Nat → Int64} {z : Nat → Int64} {x : Int32} (h : x.toInt < 8) (k : Nat) : K_closeDepth_L3 (nI (0 + 1)) (G 0) (G 1) (G 2) (G 3) (G 4) (G 5) (G 6) z (k + 1) x (A 0) (A 1) (A 2) (A 3) (A 4) (A 5) = K_closeDepth_L3 (nI (0 + 1)) (G 0) (G 1) (G 2) (G 3) (G 4) (G 5) (G 6) z k (x + 1) (zst A 0 (vp_updL (A 0) x.toNatClampNeg (A 0 x.toNatClampNeg &&& G (0 + 1) x.toNatClampNeg)) 0) (zst A 0 (vp_updL (A 0) x.toNatClampNeg (A 0 x.toNatClampNeg &&& G (0 + 1) x.toNatClampNeg)) 1) (zst A 0 (vp_updL (A 0) x.toNatClampNeg (A 0 x.toNatClampNeg &&& G (0 + 1) x.toNatClampNeg)) 2) (zst A 0 (vp_updL (A 0) x.toNatClampNeg (A 0 x.toNatClampNeg &&& G (0 + 1) x.toNatClampNeg)) 3) (zst A 0 (vp_updL (A 0) x.toNatClampNeg (A 0 x.toNatClampNeg &&& G (0 + 1) x.toNatClampNeg)) 4) (zst A 0 (vp_updL (A 0) x.toNatClampNeg (A 0 x.toNatClampNeg &&& G (0 + 1) x.toNatClampNeg)) 5) := by
  simp only [K_closeDepth_L3, K_closeDepth_4, K_closeDepth_6, K_closeDepth_8, K_closeDepth_10, K_closeDepth_12, K_closeDepth_14, K_closeDepth_15, K_closeDepth_13, K_closeDepth_11, K_closeDepth_9, K_closeDepth_7, K_closeDepth_5, K_closeDepth_3, K_closeDepth_2, K_closeDepth_1, M_closeDepth]
  rw [if_neg (by omega), if_pos (by decide)]
  rfl
theorem cd_1 {G A : Nat → Nat → Int64} {z : Nat → Int64} {x : Int32} (h : x.toInt < 8) (k : Nat) : K_closeDepth_L3 (nI (1 + 1)) (G 0) (G 1) (G 2) (G 3) (G 4) (G 5) (G 6) z (k + 1) x (A 0) (A 1) (A 2) (A 3) (A 4) (A 5) = K_closeDepth_L3 (nI (1 + 1)) (G 0) (G 1) (G 2) (G 3) (G 4) (G 5) (G 6) z k (x + 1) (zst A 1 (vp_updL (A 1) x.toNatClampNeg (A 1 x.toNatClampNeg &&& G (1 + 1) x.toNatClampNeg)) 0) (zst A 1 (vp_updL (A 1) x.toNatClampNeg (A 1 x.toNatClampNeg &&& G (1 + 1) x.toNatClampNeg)) 1) (zst A 1 (vp_updL (A 1) x.toNatClampNeg (A 1 x.toNatClampNeg &&& G (1 + 1) x.toNatClampNeg)) 2) (zst A 1 (vp_updL (A 1) x.toNatClampNeg (A 1 x.toNatClampNeg &&& G (1 + 1) x.toNatClampNeg)) 3) (zst A 1 (vp_updL (A 1) x.toNatClampNeg (A 1 x.toNatClampNeg &&& G (1 + 1) x.toNatClampNeg)) 4) (zst A 1 (vp_updL (A 1) x.toNatClampNeg (A 1 x.toNatClampNeg &&& G (1 + 1) x.toNatClampNeg)) 5) := by
  simp only [K_closeDepth_L3, K_closeDepth_4, K_closeDepth_6, K_closeDepth_8, K_closeDepth_10, K_closeDepth_12, K_closeDepth_14, K_closeDepth_15, K_closeDepth_13, K_closeDepth_11, K_closeDepth_9, K_closeDepth_7, K_closeDepth_5, K_closeDepth_3, K_closeDepth_2, K_closeDepth_1, M_closeDepth]
  rw [if_neg (by omega), if_neg (by decide), if_pos (by decide)]
  rfl
theorem cd_2 {G A : Nat → Nat → Int64} {z : Nat → Int64} {x : Int32} (h : x.toInt < 8) (k : Nat) : K_closeDepth_L3 (nI (2 + 1)) (G 0) (G 1) (G 2) (G 3) (G 4) (G 5) (G 6) z (k + 1) x (A 0) (A 1) (A 2) (A 3) (A 4) (A 5) = K_closeDepth_L3 (nI (2 + 1)) (G 0) (G 1) (G 2) (G 3) (G 4) (G 5) (G 6) z k (x + 1) (zst A 2 (vp_updL (A 2) x.toNatClampNeg (A 2 x.toNatClampNeg &&& G (2 + 1) x.toNatClampNeg)) 0) (zst A 2 (vp_updL (A 2) x.toNatClampNeg (A 2 x.toNatClampNeg &&& G (2 + 1) x.toNatClampNeg)) 1) (zst A 2 (vp_updL (A 2) x.toNatClampNeg (A 2 x.toNatClampNeg &&& G (2 + 1) x.toNatClampNeg)) 2) (zst A 2 (vp_updL (A 2) x.toNatClampNeg (A 2 x.toNatClampNeg &&& G (2 + 1) x.toNatClampNeg)) 3) (zst A 2 (vp_updL (A 2) x.toNatClampNeg (A 2 x.toNatClampNeg &&& G (2 + 1) x.toNatClampNeg)) 4) (zst A 2 (vp_updL (A 2) x.toNatClampNeg (A 2 x.toNatClampNeg &&& G (2 + 1) x.toNatClampNeg)) 5) := by
  simp only [K_closeDepth_L3, K_closeDepth_4, K_closeDepth_6, K_closeDepth_8, K_closeDepth_10, K_closeDepth_12, K_closeDepth_14, K_closeDepth_15, K_closeDepth_13, K_closeDepth_11, K_closeDepth_9, K_closeDepth_7, K_closeDepth_5, K_closeDepth_3, K_closeDepth_2, K_closeDepth_1, M_closeDepth]
  rw [if_neg (by omega), if_neg (by decide), if_neg (by decide), if_pos (by decide)]
  rfl
theorem cd_3 {G A : Nat → Nat → Int64} {z : Nat → Int64} {x : Int32} (h : x.toInt < 8) (k : Nat) : K_closeDepth_L3 (nI (3 + 1)) (G 0) (G 1) (G 2) (G 3) (G 4) (G 5) (G 6) z (k + 1) x (A 0) (A 1) (A 2) (A 3) (A 4) (A 5) = K_closeDepth_L3 (nI (3 + 1)) (G 0) (G 1) (G 2) (G 3) (G 4) (G 5) (G 6) z k (x + 1) (zst A 3 (vp_updL (A 3) x.toNatClampNeg (A 3 x.toNatClampNeg &&& G (3 + 1) x.toNatClampNeg)) 0) (zst A 3 (vp_updL (A 3) x.toNatClampNeg (A 3 x.toNatClampNeg &&& G (3 + 1) x.toNatClampNeg)) 1) (zst A 3 (vp_updL (A 3) x.toNatClampNeg (A 3 x.toNatClampNeg &&& G (3 + 1) x.toNatClampNeg)) 2) (zst A 3 (vp_updL (A 3) x.toNatClampNeg (A 3 x.toNatClampNeg &&& G (3 + 1) x.toNatClampNeg)) 3) (zst A 3 (vp_updL (A 3) x.toNatClampNeg (A 3 x.toNatClampNeg &&& G (3 + 1) x.toNatClampNeg)) 4) (zst A 3 (vp_updL (A 3) x.toNatClampNeg (A 3 x.toNatClampNeg &&& G (3 + 1) x.toNatClampNeg)) 5) := by
  simp only [K_closeDepth_L3, K_closeDepth_4, K_closeDepth_6, K_closeDepth_8, K_closeDepth_10, K_closeDepth_12, K_closeDepth_14, K_closeDepth_15, K_closeDepth_13, K_closeDepth_11, K_closeDepth_9, K_closeDepth_7, K_closeDepth_5, K_closeDepth_3, K_closeDepth_2, K_closeDepth_1, M_closeDepth]
  rw [if_neg (by omega), if_neg (by decide), if_neg (by decide), if_neg (by decide), if_pos (by decide)]
  rfl
theorem cd_4 {G A : Nat → Nat → Int64} {z : Nat → Int64} {x : Int32} (h : x.toInt < 8) (k : Nat) : K_closeDepth_L3 (nI (4 + 1)) (G 0) (G 1) (G 2) (G 3) (G 4) (G 5) (G 6) z (k + 1) x (A 0) (A 1) (A 2) (A 3) (A 4) (A 5) = K_closeDepth_L3 (nI (4 + 1)) (G 0) (G 1) (G 2) (G 3) (G 4) (G 5) (G 6) z k (x + 1) (zst A 4 (vp_updL (A 4) x.toNatClampNeg (A 4 x.toNatClampNeg &&& G (4 + 1) x.toNatClampNeg)) 0) (zst A 4 (vp_updL (A 4) x.toNatClampNeg (A 4 x.toNatClampNeg &&& G (4 + 1) x.toNatClampNeg)) 1) (zst A 4 (vp_updL (A 4) x.toNatClampNeg (A 4 x.toNatClampNeg &&& G (4 + 1) x.toNatClampNeg)) 2) (zst A 4 (vp_updL (A 4) x.toNatClampNeg (A 4 x.toNatClampNeg &&& G (4 + 1) x.toNatClampNeg)) 3) (zst A 4 (vp_updL (A 4) x.toNatClampNeg (A 4 x.toNatClampNeg &&& G (4 + 1) x.toNatClampNeg)) 4) (zst A 4 (vp_updL (A 4) x.toNatClampNeg (A 4 x.toNatClampNeg &&& G (4 + 1) x.toNatClampNeg)) 5) := by
  simp only [K_closeDepth_L3, K_closeDepth_4, K_closeDepth_6, K_closeDepth_8, K_closeDepth_10, K_closeDepth_12, K_closeDepth_14, K_closeDepth_15, K_closeDepth_13, K_closeDepth_11, K_closeDepth_9, K_closeDepth_7, K_closeDepth_5, K_closeDepth_3, K_closeDepth_2, K_closeDepth_1, M_closeDepth]
  rw [if_neg (by omega), if_neg (by decide), if_neg (by decide), if_neg (by decide), if_neg (by decide), if_pos (by decide)]
  rfl
theorem cd_5 {G A : Nat → Nat → Int64} {z : Nat → Int64} {x : Int32} (h : x.toInt < 8) (k : Nat) : K_closeDepth_L3 (nI (5 + 1)) (G 0) (G 1) (G 2) (G 3) (G 4) (G 5) (G 6) z (k + 1) x (A 0) (A 1) (A 2) (A 3) (A 4) (A 5) = K_closeDepth_L3 (nI (5 + 1)) (G 0) (G 1) (G 2) (G 3) (G 4) (G 5) (G 6) z k (x + 1) (zst A 5 (vp_updL (A 5) x.toNatClampNeg (A 5 x.toNatClampNeg &&& G (5 + 1) x.toNatClampNeg)) 0) (zst A 5 (vp_updL (A 5) x.toNatClampNeg (A 5 x.toNatClampNeg &&& G (5 + 1) x.toNatClampNeg)) 1) (zst A 5 (vp_updL (A 5) x.toNatClampNeg (A 5 x.toNatClampNeg &&& G (5 + 1) x.toNatClampNeg)) 2) (zst A 5 (vp_updL (A 5) x.toNatClampNeg (A 5 x.toNatClampNeg &&& G (5 + 1) x.toNatClampNeg)) 3) (zst A 5 (vp_updL (A 5) x.toNatClampNeg (A 5 x.toNatClampNeg &&& G (5 + 1) x.toNatClampNeg)) 4) (zst A 5 (vp_updL (A 5) x.toNatClampNeg (A 5 x.toNatClampNeg &&& G (5 + 1) x.toNatClampNeg)) 5) := by
  simp only [K_closeDepth_L3, K_closeDepth_4, K_closeDepth_6, K_closeDepth_8, K_closeDepth_10, K_closeDepth_12, K_closeDepth_14, K_closeDepth_15, K_closeDepth_13, K_closeDepth_11, K_closeDepth_9, K_closeDepth_7, K_closeDepth_5, K_closeDepth_3, K_closeDepth_2, K_closeDepth_1, M_closeDepth]
  rw [if_neg (by omega), if_neg (by decide), if_neg (by decide), if_neg (by decide), if_neg (by decide), if_neg (by decide)]
  rfl
theorem cd_step {G A : Nat → Nat → Int64} {z : Nat → Int64} {d : Nat} (hd : d ≤ 5) {x : Int32} (h : x.toInt < 8) (k : Nat) : K_closeDepth_L3 (nI (d + 1)) (G 0) (G 1) (G 2) (G 3) (G 4) (G 5) (G 6) z (k + 1) x (A 0) (A 1) (A 2) (A 3) (A 4) (A 5) = K_closeDepth_L3 (nI (d + 1)) (G 0) (G 1) (G 2) (G 3) (G 4) (G 5) (G 6) z k (x + 1) (zst A d (vp_updL (A d) x.toNatClampNeg (A d x.toNatClampNeg &&& G (d + 1) x.toNatClampNeg)) 0) (zst A d (vp_updL (A d) x.toNatClampNeg (A d x.toNatClampNeg &&& G (d + 1) x.toNatClampNeg)) 1) (zst A d (vp_updL (A d) x.toNatClampNeg (A d x.toNatClampNeg &&& G (d + 1) x.toNatClampNeg)) 2) (zst A d (vp_updL (A d) x.toNatClampNeg (A d x.toNatClampNeg &&& G (d + 1) x.toNatClampNeg)) 3) (zst A d (vp_updL (A d) x.toNatClampNeg (A d x.toNatClampNeg &&& G (d + 1) x.toNatClampNeg)) 4) (zst A d (vp_updL (A d) x.toNatClampNeg (A d x.toNatClampNeg &&& G (d + 1) x.toNatClampNeg)) 5) := by
  match d, hd with
  | 0, _ => exact cd_0 h k
  | 1, _ => exact cd_1 h k
  | 2, _ => exact cd_2 h k
  | 3, _ => exact cd_3 h k
  | 4, _ => exact cd_4 h k
  | 5, _ => exact cd_5 h k
theorem b_cd {d : Nat} (hd : d ≤ 5) {G : Nat → Nat → Int64} {z : Nat → Int64} : ∀ (m : Nat) (x : Int32) (k : Nat) (A : Nat → Nat → Int64), x.toInt + (m : Int) = 8 → 0 ≤ x.toInt → ∃ a : Nat → Int64, K_closeDepth_L3 (nI (d + 1)) (G 0) (G 1) (G 2) (G 3) (G 4) (G 5) (G 6) z (k + m + 1) x (A 0) (A 1) (A 2) (A 3) (A 4) (A 5) = (nI (d + 1) - 1, G 0, G 1, G 2, G 3, G 4, G 5, G 6, zst A d a 0, zst A d a 1, zst A d a 2, zst A d a 3, zst A d a 4, zst A d a 5, z) ∧ (∀ i : Nat, x.toInt ≤ (i : Int) → i < 8 → a i = A d i &&& G (d + 1) i) ∧ (∀ i : Nat, (i : Int) < x.toInt → a i = A d i) := by
  intro m
  induction m with
  | zero =>
    intro x k A h h0
    have eA : zst A d (A d) = A := by
      funext j
      unfold zst
      split
      · next y => rw [y]
      · rfl
    refine ⟨A d, ?_, fun i h1 h2 => absurd h2 (by omega), fun i _ => rfl⟩
    rw [eA]
    simp only [K_closeDepth_L3, K_closeDepth_4, K_closeDepth_6, K_closeDepth_8, K_closeDepth_10, K_closeDepth_12, K_closeDepth_14, K_closeDepth_15, K_closeDepth_13, K_closeDepth_11, K_closeDepth_9, K_closeDepth_7, K_closeDepth_5, K_closeDepth_3, K_closeDepth_2, K_closeDepth_1, M_closeDepth]
    rw [if_pos (by omega)]
  | succ m ih =>
    intro x k A h h0
    have e : (x + 1).toInt = x.toInt + 1 := xadd rfl (by decide) (by omega) (by omega)
    have xn := xtn (x := x) h0
    obtain ⟨a, h1, h2, h3⟩ := ih (x + 1) k (zst A d (vp_updL (A d) x.toNatClampNeg (A d x.toNatClampNeg &&& G (d + 1) x.toNatClampNeg))) (by omega) (by omega)
    refine ⟨a, ?_, fun i i1 i2 => ?_, fun i i1 => ?_⟩
    · rw [show k + (m + 1) + 1 = (k + m + 1) + 1 from by omega, cd_step hd (by omega), h1, xst_2]
    · by_cases y : i = x.toNatClampNeg
      · have z := h3 i (by omega)
        rw [xst_s, y, xupL_s] at z
        rw [y]
        exact z
      · have z := h2 i (by omega) i2
        rw [xst_s, xupL_o y] at z
        exact z
    · have z := h3 i (by omega)
      rw [xst_s, xupL_o (by omega)] at z
      exact z
theorem jp_0 {A : Nat → Nat → Int64} {pn : Nat → Int32} {x b : Int32} (h : x.toInt < 8) (k : Nat) : K_joinPart_L4 pn b (nI 0) (k + 1) x (A 0) (A 1) (A 2) (A 3) (A 4) (A 5) (A 6) = if 6 ≤ b.toInt then (if ((x >>> ((b - 6) &&& 31)) &&& (1 : Int32)).toInt = 0 then K_joinPart_L4 pn b (nI 0) k (x + 1) (zst A 0 (vp_updL (A 0) x.toNatClampNeg 0) 0) (zst A 0 (vp_updL (A 0) x.toNatClampNeg 0) 1) (zst A 0 (vp_updL (A 0) x.toNatClampNeg 0) 2) (zst A 0 (vp_updL (A 0) x.toNatClampNeg 0) 3) (zst A 0 (vp_updL (A 0) x.toNatClampNeg 0) 4) (zst A 0 (vp_updL (A 0) x.toNatClampNeg 0) 5) (zst A 0 (vp_updL (A 0) x.toNatClampNeg 0) 6) else K_joinPart_L4 pn b (nI 0) k (x + 1) (A 0) (A 1) (A 2) (A 3) (A 4) (A 5) (A 6)) else K_joinPart_L4 pn b (nI 0) k (x + 1) (zst A 0 (vp_updL (A 0) x.toNatClampNeg (A 0 x.toNatClampNeg &&& xinw.getD b.toNatClampNeg 0)) 0) (zst A 0 (vp_updL (A 0) x.toNatClampNeg (A 0 x.toNatClampNeg &&& xinw.getD b.toNatClampNeg 0)) 1) (zst A 0 (vp_updL (A 0) x.toNatClampNeg (A 0 x.toNatClampNeg &&& xinw.getD b.toNatClampNeg 0)) 2) (zst A 0 (vp_updL (A 0) x.toNatClampNeg (A 0 x.toNatClampNeg &&& xinw.getD b.toNatClampNeg 0)) 3) (zst A 0 (vp_updL (A 0) x.toNatClampNeg (A 0 x.toNatClampNeg &&& xinw.getD b.toNatClampNeg 0)) 4) (zst A 0 (vp_updL (A 0) x.toNatClampNeg (A 0 x.toNatClampNeg &&& xinw.getD b.toNatClampNeg 0)) 5) (zst A 0 (vp_updL (A 0) x.toNatClampNeg (A 0 x.toNatClampNeg &&& xinw.getD b.toNatClampNeg 0)) 6) := by
  simp only [K_joinPart_L4, K_joinPart_5, K_joinPart_11, K_joinPart_13, K_joinPart_15, K_joinPart_17, K_joinPart_19, K_joinPart_21, K_joinPart_22, K_joinPart_20, K_joinPart_18, K_joinPart_16, K_joinPart_14, K_joinPart_12, K_joinPart_10, K_joinPart_9, K_joinPart_7, K_joinPart_23, K_joinPart_25, K_joinPart_27, K_joinPart_29, K_joinPart_31, K_joinPart_33, K_joinPart_34, K_joinPart_32, K_joinPart_30, K_joinPart_28, K_joinPart_26, K_joinPart_24, K_joinPart_8, K_joinPart_6, K_joinPart_4, K_joinPart_3, K_joinPart_2, K_joinPart_1, M_joinPart]
  rw [if_neg (by omega)]
  by_cases q : 6 ≤ b.toInt
  · rw [if_pos q, if_pos q]
    by_cases z : ((x >>> ((b - 6) &&& 31)) &&& (1 : Int32)).toInt = 0
    · rw [if_pos z, if_pos z, if_pos (by decide)]
      rfl
    · rw [if_neg z, if_neg z]
  · rw [if_neg q, if_neg q, if_pos (by decide)]
    rfl
theorem jp_1 {A : Nat → Nat → Int64} {pn : Nat → Int32} {x b : Int32} (h : x.toInt < 8) (k : Nat) : K_joinPart_L4 pn b (nI 1) (k + 1) x (A 0) (A 1) (A 2) (A 3) (A 4) (A 5) (A 6) = if 6 ≤ b.toInt then (if ((x >>> ((b - 6) &&& 31)) &&& (1 : Int32)).toInt = 0 then K_joinPart_L4 pn b (nI 1) k (x + 1) (zst A 1 (vp_updL (A 1) x.toNatClampNeg 0) 0) (zst A 1 (vp_updL (A 1) x.toNatClampNeg 0) 1) (zst A 1 (vp_updL (A 1) x.toNatClampNeg 0) 2) (zst A 1 (vp_updL (A 1) x.toNatClampNeg 0) 3) (zst A 1 (vp_updL (A 1) x.toNatClampNeg 0) 4) (zst A 1 (vp_updL (A 1) x.toNatClampNeg 0) 5) (zst A 1 (vp_updL (A 1) x.toNatClampNeg 0) 6) else K_joinPart_L4 pn b (nI 1) k (x + 1) (A 0) (A 1) (A 2) (A 3) (A 4) (A 5) (A 6)) else K_joinPart_L4 pn b (nI 1) k (x + 1) (zst A 1 (vp_updL (A 1) x.toNatClampNeg (A 1 x.toNatClampNeg &&& xinw.getD b.toNatClampNeg 0)) 0) (zst A 1 (vp_updL (A 1) x.toNatClampNeg (A 1 x.toNatClampNeg &&& xinw.getD b.toNatClampNeg 0)) 1) (zst A 1 (vp_updL (A 1) x.toNatClampNeg (A 1 x.toNatClampNeg &&& xinw.getD b.toNatClampNeg 0)) 2) (zst A 1 (vp_updL (A 1) x.toNatClampNeg (A 1 x.toNatClampNeg &&& xinw.getD b.toNatClampNeg 0)) 3) (zst A 1 (vp_updL (A 1) x.toNatClampNeg (A 1 x.toNatClampNeg &&& xinw.getD b.toNatClampNeg 0)) 4) (zst A 1 (vp_updL (A 1) x.toNatClampNeg (A 1 x.toNatClampNeg &&& xinw.getD b.toNatClampNeg 0)) 5) (zst A 1 (vp_updL (A 1) x.toNatClampNeg (A 1 x.toNatClampNeg &&& xinw.getD b.toNatClampNeg 0)) 6) := by
  simp only [K_joinPart_L4, K_joinPart_5, K_joinPart_11, K_joinPart_13, K_joinPart_15, K_joinPart_17, K_joinPart_19, K_joinPart_21, K_joinPart_22, K_joinPart_20, K_joinPart_18, K_joinPart_16, K_joinPart_14, K_joinPart_12, K_joinPart_10, K_joinPart_9, K_joinPart_7, K_joinPart_23, K_joinPart_25, K_joinPart_27, K_joinPart_29, K_joinPart_31, K_joinPart_33, K_joinPart_34, K_joinPart_32, K_joinPart_30, K_joinPart_28, K_joinPart_26, K_joinPart_24, K_joinPart_8, K_joinPart_6, K_joinPart_4, K_joinPart_3, K_joinPart_2, K_joinPart_1, M_joinPart]
  rw [if_neg (by omega)]
  by_cases q : 6 ≤ b.toInt
  · rw [if_pos q, if_pos q]
    by_cases z : ((x >>> ((b - 6) &&& 31)) &&& (1 : Int32)).toInt = 0
    · rw [if_pos z, if_pos z, if_neg (by decide), if_pos (by decide)]
      rfl
    · rw [if_neg z, if_neg z]
  · rw [if_neg q, if_neg q, if_neg (by decide), if_pos (by decide)]
    rfl
theorem jp_2 {A : Nat → Nat → Int64} {pn : Nat → Int32} {x b : Int32} (h : x.toInt < 8) (k : Nat) : K_joinPart_L4 pn b (nI 2) (k + 1) x (A 0) (A 1) (A 2) (A 3) (A 4) (A 5) (A 6) = if 6 ≤ b.toInt then (if ((x >>> ((b - 6) &&& 31)) &&& (1 : Int32)).toInt = 0 then K_joinPart_L4 pn b (nI 2) k (x + 1) (zst A 2 (vp_updL (A 2) x.toNatClampNeg 0) 0) (zst A 2 (vp_updL (A 2) x.toNatClampNeg 0) 1) (zst A 2 (vp_updL (A 2) x.toNatClampNeg 0) 2) (zst A 2 (vp_updL (A 2) x.toNatClampNeg 0) 3) (zst A 2 (vp_updL (A 2) x.toNatClampNeg 0) 4) (zst A 2 (vp_updL (A 2) x.toNatClampNeg 0) 5) (zst A 2 (vp_updL (A 2) x.toNatClampNeg 0) 6) else K_joinPart_L4 pn b (nI 2) k (x + 1) (A 0) (A 1) (A 2) (A 3) (A 4) (A 5) (A 6)) else K_joinPart_L4 pn b (nI 2) k (x + 1) (zst A 2 (vp_updL (A 2) x.toNatClampNeg (A 2 x.toNatClampNeg &&& xinw.getD b.toNatClampNeg 0)) 0) (zst A 2 (vp_updL (A 2) x.toNatClampNeg (A 2 x.toNatClampNeg &&& xinw.getD b.toNatClampNeg 0)) 1) (zst A 2 (vp_updL (A 2) x.toNatClampNeg (A 2 x.toNatClampNeg &&& xinw.getD b.toNatClampNeg 0)) 2) (zst A 2 (vp_updL (A 2) x.toNatClampNeg (A 2 x.toNatClampNeg &&& xinw.getD b.toNatClampNeg 0)) 3) (zst A 2 (vp_updL (A 2) x.toNatClampNeg (A 2 x.toNatClampNeg &&& xinw.getD b.toNatClampNeg 0)) 4) (zst A 2 (vp_updL (A 2) x.toNatClampNeg (A 2 x.toNatClampNeg &&& xinw.getD b.toNatClampNeg 0)) 5) (zst A 2 (vp_updL (A 2) x.toNatClampNeg (A 2 x.toNatClampNeg &&& xinw.getD b.toNatClampNeg 0)) 6) := by
  simp only [K_joinPart_L4, K_joinPart_5, K_joinPart_11, K_joinPart_13, K_joinPart_15, K_joinPart_17, K_joinPart_19, K_joinPart_21, K_joinPart_22, K_joinPart_20, K_joinPart_18, K_joinPart_16, K_joinPart_14, K_joinPart_12, K_joinPart_10, K_joinPart_9, K_joinPart_7, K_joinPart_23, K_joinPart_25, K_joinPart_27, K_joinPart_29, K_joinPart_31, K_joinPart_33, K_joinPart_34, K_joinPart_32, K_joinPart_30, K_joinPart_28, K_joinPart_26, K_joinPart_24, K_joinPart_8, K_joinPart_6, K_joinPart_4, K_joinPart_3, K_joinPart_2, K_joinPart_1, M_joinPart]
  rw [if_neg (by omega)]
  by_cases q : 6 ≤ b.toInt
  · rw [if_pos q, if_pos q]
    by_cases z : ((x >>> ((b - 6) &&& 31)) &&& (1 : Int32)).toInt = 0
    · rw [if_pos z, if_pos z, if_neg (by decide), if_neg (by decide), if_pos (by decide)]
      rfl
    · rw [if_neg z, if_neg z]
  · rw [if_neg q, if_neg q, if_neg (by decide), if_neg (by decide), if_pos (by decide)]
    rfl
theorem jp_3 {A : Nat → Nat → Int64} {pn : Nat → Int32} {x b : Int32} (h : x.toInt < 8) (k : Nat) : K_joinPart_L4 pn b (nI 3) (k + 1) x (A 0) (A 1) (A 2) (A 3) (A 4) (A 5) (A 6) = if 6 ≤ b.toInt then (if ((x >>> ((b - 6) &&& 31)) &&& (1 : Int32)).toInt = 0 then K_joinPart_L4 pn b (nI 3) k (x + 1) (zst A 3 (vp_updL (A 3) x.toNatClampNeg 0) 0) (zst A 3 (vp_updL (A 3) x.toNatClampNeg 0) 1) (zst A 3 (vp_updL (A 3) x.toNatClampNeg 0) 2) (zst A 3 (vp_updL (A 3) x.toNatClampNeg 0) 3) (zst A 3 (vp_updL (A 3) x.toNatClampNeg 0) 4) (zst A 3 (vp_updL (A 3) x.toNatClampNeg 0) 5) (zst A 3 (vp_updL (A 3) x.toNatClampNeg 0) 6) else K_joinPart_L4 pn b (nI 3) k (x + 1) (A 0) (A 1) (A 2) (A 3) (A 4) (A 5) (A 6)) else K_joinPart_L4 pn b (nI 3) k (x + 1) (zst A 3 (vp_updL (A 3) x.toNatClampNeg (A 3 x.toNatClampNeg &&& xinw.getD b.toNatClampNeg 0)) 0) (zst A 3 (vp_updL (A 3) x.toNatClampNeg (A 3 x.toNatClampNeg &&& xinw.getD b.toNatClampNeg 0)) 1) (zst A 3 (vp_updL (A 3) x.toNatClampNeg (A 3 x.toNatClampNeg &&& xinw.getD b.toNatClampNeg 0)) 2) (zst A 3 (vp_updL (A 3) x.toNatClampNeg (A 3 x.toNatClampNeg &&& xinw.getD b.toNatClampNeg 0)) 3) (zst A 3 (vp_updL (A 3) x.toNatClampNeg (A 3 x.toNatClampNeg &&& xinw.getD b.toNatClampNeg 0)) 4) (zst A 3 (vp_updL (A 3) x.toNatClampNeg (A 3 x.toNatClampNeg &&& xinw.getD b.toNatClampNeg 0)) 5) (zst A 3 (vp_updL (A 3) x.toNatClampNeg (A 3 x.toNatClampNeg &&& xinw.getD b.toNatClampNeg 0)) 6) := by
  simp only [K_joinPart_L4, K_joinPart_5, K_joinPart_11, K_joinPart_13, K_joinPart_15, K_joinPart_17, K_joinPart_19, K_joinPart_21, K_joinPart_22, K_joinPart_20, K_joinPart_18, K_joinPart_16, K_joinPart_14, K_joinPart_12, K_joinPart_10, K_joinPart_9, K_joinPart_7, K_joinPart_23, K_joinPart_25, K_joinPart_27, K_joinPart_29, K_joinPart_31, K_joinPart_33, K_joinPart_34, K_joinPart_32, K_joinPart_30, K_joinPart_28, K_joinPart_26, K_joinPart_24, K_joinPart_8, K_joinPart_6, K_joinPart_4, K_joinPart_3, K_joinPart_2, K_joinPart_1, M_joinPart]
  rw [if_neg (by omega)]
  by_cases q : 6 ≤ b.toInt
  · rw [if_pos q, if_pos q]
    by_cases z : ((x >>> ((b - 6) &&& 31)) &&& (1 : Int32)).toInt = 0
    · rw [if_pos z, if_pos z, if_neg (by decide), if_neg (by decide), if_neg (by decide), if_pos (by decide)]
      rfl
    · rw [if_neg z, if_neg z]
  · rw [if_neg q, if_neg q, if_neg (by decide), if_neg (by decide), if_neg (by decide), if_pos (by decide)]
    rfl
theorem jp_4 {A : Nat → Nat → Int64} {pn : Nat → Int32} {x b : Int32} (h : x.toInt < 8) (k : Nat) : K_joinPart_L4 pn b (nI 4) (k + 1) x (A 0) (A 1) (A 2) (A 3) (A 4) (A 5) (A 6) = if 6 ≤ b.toInt then (if ((x >>> ((b - 6) &&& 31)) &&& (1 : Int32)).toInt = 0 then K_joinPart_L4 pn b (nI 4) k (x + 1) (zst A 4 (vp_updL (A 4) x.toNatClampNeg 0) 0) (zst A 4 (vp_updL (A 4) x.toNatClampNeg 0) 1) (zst A 4 (vp_updL (A 4) x.toNatClampNeg 0) 2) (zst A 4 (vp_updL (A 4) x.toNatClampNeg 0) 3) (zst A 4 (vp_updL (A 4) x.toNatClampNeg 0) 4) (zst A 4 (vp_updL (A 4) x.toNatClampNeg 0) 5) (zst A 4 (vp_updL (A 4) x.toNatClampNeg 0) 6) else K_joinPart_L4 pn b (nI 4) k (x + 1) (A 0) (A 1) (A 2) (A 3) (A 4) (A 5) (A 6)) else K_joinPart_L4 pn b (nI 4) k (x + 1) (zst A 4 (vp_updL (A 4) x.toNatClampNeg (A 4 x.toNatClampNeg &&& xinw.getD b.toNatClampNeg 0)) 0) (zst A 4 (vp_updL (A 4) x.toNatClampNeg (A 4 x.toNatClampNeg &&& xinw.getD b.toNatClampNeg 0)) 1) (zst A 4 (vp_updL (A 4) x.toNatClampNeg (A 4 x.toNatClampNeg &&& xinw.getD b.toNatClampNeg 0)) 2) (zst A 4 (vp_updL (A 4) x.toNatClampNeg (A 4 x.toNatClampNeg &&& xinw.getD b.toNatClampNeg 0)) 3) (zst A 4 (vp_updL (A 4) x.toNatClampNeg (A 4 x.toNatClampNeg &&& xinw.getD b.toNatClampNeg 0)) 4) (zst A 4 (vp_updL (A 4) x.toNatClampNeg (A 4 x.toNatClampNeg &&& xinw.getD b.toNatClampNeg 0)) 5) (zst A 4 (vp_updL (A 4) x.toNatClampNeg (A 4 x.toNatClampNeg &&& xinw.getD b.toNatClampNeg 0)) 6) := by
  simp only [K_joinPart_L4, K_joinPart_5, K_joinPart_11, K_joinPart_13, K_joinPart_15, K_joinPart_17, K_joinPart_19, K_joinPart_21, K_joinPart_22, K_joinPart_20, K_joinPart_18, K_joinPart_16, K_joinPart_14, K_joinPart_12, K_joinPart_10, K_joinPart_9, K_joinPart_7, K_joinPart_23, K_joinPart_25, K_joinPart_27, K_joinPart_29, K_joinPart_31, K_joinPart_33, K_joinPart_34, K_joinPart_32, K_joinPart_30, K_joinPart_28, K_joinPart_26, K_joinPart_24, K_joinPart_8, K_joinPart_6, K_joinPart_4, K_joinPart_3, K_joinPart_2, K_joinPart_1, M_joinPart]
  rw [if_neg (by omega)]
  by_cases q : 6 ≤ b.toInt
  · rw [if_pos q, if_pos q]
    by_cases z : ((x >>> ((b - 6) &&& 31)) &&& (1 : Int32)).toInt = 0
    · rw [if_pos z, if_pos z, if_neg (by decide), if_neg (by decide), if_neg (by decide), if_neg (by decide), if_pos (by decide)]
      rfl
    · rw [if_neg z, if_neg z]
  · rw [if_neg q, if_neg q, if_neg (by decide), if_neg (by decide), if_neg (by decide), if_neg (by decide), if_pos (by decide)]
    rfl
theorem jp_5 {A : Nat → Nat → Int64} {pn : Nat → Int32} {x b : Int32} (h : x.toInt < 8) (k : Nat) : K_joinPart_L4 pn b (nI 5) (k + 1) x (A 0) (A 1) (A 2) (A 3) (A 4) (A 5) (A 6) = if 6 ≤ b.toInt then (if ((x >>> ((b - 6) &&& 31)) &&& (1 : Int32)).toInt = 0 then K_joinPart_L4 pn b (nI 5) k (x + 1) (zst A 5 (vp_updL (A 5) x.toNatClampNeg 0) 0) (zst A 5 (vp_updL (A 5) x.toNatClampNeg 0) 1) (zst A 5 (vp_updL (A 5) x.toNatClampNeg 0) 2) (zst A 5 (vp_updL (A 5) x.toNatClampNeg 0) 3) (zst A 5 (vp_updL (A 5) x.toNatClampNeg 0) 4) (zst A 5 (vp_updL (A 5) x.toNatClampNeg 0) 5) (zst A 5 (vp_updL (A 5) x.toNatClampNeg 0) 6) else K_joinPart_L4 pn b (nI 5) k (x + 1) (A 0) (A 1) (A 2) (A 3) (A 4) (A 5) (A 6)) else K_joinPart_L4 pn b (nI 5) k (x + 1) (zst A 5 (vp_updL (A 5) x.toNatClampNeg (A 5 x.toNatClampNeg &&& xinw.getD b.toNatClampNeg 0)) 0) (zst A 5 (vp_updL (A 5) x.toNatClampNeg (A 5 x.toNatClampNeg &&& xinw.getD b.toNatClampNeg 0)) 1) (zst A 5 (vp_updL (A 5) x.toNatClampNeg (A 5 x.toNatClampNeg &&& xinw.getD b.toNatClampNeg 0)) 2) (zst A 5 (vp_updL (A 5) x.toNatClampNeg (A 5 x.toNatClampNeg &&& xinw.getD b.toNatClampNeg 0)) 3) (zst A 5 (vp_updL (A 5) x.toNatClampNeg (A 5 x.toNatClampNeg &&& xinw.getD b.toNatClampNeg 0)) 4) (zst A 5 (vp_updL (A 5) x.toNatClampNeg (A 5 x.toNatClampNeg &&& xinw.getD b.toNatClampNeg 0)) 5) (zst A 5 (vp_updL (A 5) x.toNatClampNeg (A 5 x.toNatClampNeg &&& xinw.getD b.toNatClampNeg 0)) 6) := by
  simp only [K_joinPart_L4, K_joinPart_5, K_joinPart_11, K_joinPart_13, K_joinPart_15, K_joinPart_17, K_joinPart_19, K_joinPart_21, K_joinPart_22, K_joinPart_20, K_joinPart_18, K_joinPart_16, K_joinPart_14, K_joinPart_12, K_joinPart_10, K_joinPart_9, K_joinPart_7, K_joinPart_23, K_joinPart_25, K_joinPart_27, K_joinPart_29, K_joinPart_31, K_joinPart_33, K_joinPart_34, K_joinPart_32, K_joinPart_30, K_joinPart_28, K_joinPart_26, K_joinPart_24, K_joinPart_8, K_joinPart_6, K_joinPart_4, K_joinPart_3, K_joinPart_2, K_joinPart_1, M_joinPart]
  rw [if_neg (by omega)]
  by_cases q : 6 ≤ b.toInt
  · rw [if_pos q, if_pos q]
    by_cases z : ((x >>> ((b - 6) &&& 31)) &&& (1 : Int32)).toInt = 0
    · rw [if_pos z, if_pos z, if_neg (by decide), if_neg (by decide), if_neg (by decide), if_neg (by decide), if_neg (by decide), if_pos (by decide)]
      rfl
    · rw [if_neg z, if_neg z]
  · rw [if_neg q, if_neg q, if_neg (by decide), if_neg (by decide), if_neg (by decide), if_neg (by decide), if_neg (by decide), if_pos (by decide)]
    rfl
theorem jp_6 {A : Nat → Nat → Int64} {pn : Nat → Int32} {x b : Int32} (h : x.toInt < 8) (k : Nat) : K_joinPart_L4 pn b (nI 6) (k + 1) x (A 0) (A 1) (A 2) (A 3) (A 4) (A 5) (A 6) = if 6 ≤ b.toInt then (if ((x >>> ((b - 6) &&& 31)) &&& (1 : Int32)).toInt = 0 then K_joinPart_L4 pn b (nI 6) k (x + 1) (zst A 6 (vp_updL (A 6) x.toNatClampNeg 0) 0) (zst A 6 (vp_updL (A 6) x.toNatClampNeg 0) 1) (zst A 6 (vp_updL (A 6) x.toNatClampNeg 0) 2) (zst A 6 (vp_updL (A 6) x.toNatClampNeg 0) 3) (zst A 6 (vp_updL (A 6) x.toNatClampNeg 0) 4) (zst A 6 (vp_updL (A 6) x.toNatClampNeg 0) 5) (zst A 6 (vp_updL (A 6) x.toNatClampNeg 0) 6) else K_joinPart_L4 pn b (nI 6) k (x + 1) (A 0) (A 1) (A 2) (A 3) (A 4) (A 5) (A 6)) else K_joinPart_L4 pn b (nI 6) k (x + 1) (zst A 6 (vp_updL (A 6) x.toNatClampNeg (A 6 x.toNatClampNeg &&& xinw.getD b.toNatClampNeg 0)) 0) (zst A 6 (vp_updL (A 6) x.toNatClampNeg (A 6 x.toNatClampNeg &&& xinw.getD b.toNatClampNeg 0)) 1) (zst A 6 (vp_updL (A 6) x.toNatClampNeg (A 6 x.toNatClampNeg &&& xinw.getD b.toNatClampNeg 0)) 2) (zst A 6 (vp_updL (A 6) x.toNatClampNeg (A 6 x.toNatClampNeg &&& xinw.getD b.toNatClampNeg 0)) 3) (zst A 6 (vp_updL (A 6) x.toNatClampNeg (A 6 x.toNatClampNeg &&& xinw.getD b.toNatClampNeg 0)) 4) (zst A 6 (vp_updL (A 6) x.toNatClampNeg (A 6 x.toNatClampNeg &&& xinw.getD b.toNatClampNeg 0)) 5) (zst A 6 (vp_updL (A 6) x.toNatClampNeg (A 6 x.toNatClampNeg &&& xinw.getD b.toNatClampNeg 0)) 6) := by
  simp only [K_joinPart_L4, K_joinPart_5, K_joinPart_11, K_joinPart_13, K_joinPart_15, K_joinPart_17, K_joinPart_19, K_joinPart_21, K_joinPart_22, K_joinPart_20, K_joinPart_18, K_joinPart_16, K_joinPart_14, K_joinPart_12, K_joinPart_10, K_joinPart_9, K_joinPart_7, K_joinPart_23, K_joinPart_25, K_joinPart_27, K_joinPart_29, K_joinPart_31, K_joinPart_33, K_joinPart_34, K_joinPart_32, K_joinPart_30, K_joinPart_28, K_joinPart_26, K_joinPart_24, K_joinPart_8, K_joinPart_6, K_joinPart_4, K_joinPart_3, K_joinPart_2, K_joinPart_1, M_joinPart]
  rw [if_neg (by omega)]
  by_cases q : 6 ≤ b.toInt
  · rw [if_pos q, if_pos q]
    by_cases z : ((x >>> ((b - 6) &&& 31)) &&& (1 : Int32)).toInt = 0
    · rw [if_pos z, if_pos z, if_neg (by decide), if_neg (by decide), if_neg (by decide), if_neg (by decide), if_neg (by decide), if_neg (by decide)]
      rfl
    · rw [if_neg z, if_neg z]
  · rw [if_neg q, if_neg q, if_neg (by decide), if_neg (by decide), if_neg (by decide), if_neg (by decide), if_neg (by decide), if_neg (by decide)]
    rfl
theorem jp_step {A : Nat → Nat → Int64} {pn : Nat → Int32} {d : Nat} (hd : d ≤ 6) {x b : Int32} (h : x.toInt < 8) (k : Nat) : K_joinPart_L4 pn b (nI d) (k + 1) x (A 0) (A 1) (A 2) (A 3) (A 4) (A 5) (A 6) = if 6 ≤ b.toInt then (if ((x >>> ((b - 6) &&& 31)) &&& (1 : Int32)).toInt = 0 then K_joinPart_L4 pn b (nI d) k (x + 1) (zst A d (vp_updL (A d) x.toNatClampNeg 0) 0) (zst A d (vp_updL (A d) x.toNatClampNeg 0) 1) (zst A d (vp_updL (A d) x.toNatClampNeg 0) 2) (zst A d (vp_updL (A d) x.toNatClampNeg 0) 3) (zst A d (vp_updL (A d) x.toNatClampNeg 0) 4) (zst A d (vp_updL (A d) x.toNatClampNeg 0) 5) (zst A d (vp_updL (A d) x.toNatClampNeg 0) 6) else K_joinPart_L4 pn b (nI d) k (x + 1) (A 0) (A 1) (A 2) (A 3) (A 4) (A 5) (A 6)) else K_joinPart_L4 pn b (nI d) k (x + 1) (zst A d (vp_updL (A d) x.toNatClampNeg (A d x.toNatClampNeg &&& xinw.getD b.toNatClampNeg 0)) 0) (zst A d (vp_updL (A d) x.toNatClampNeg (A d x.toNatClampNeg &&& xinw.getD b.toNatClampNeg 0)) 1) (zst A d (vp_updL (A d) x.toNatClampNeg (A d x.toNatClampNeg &&& xinw.getD b.toNatClampNeg 0)) 2) (zst A d (vp_updL (A d) x.toNatClampNeg (A d x.toNatClampNeg &&& xinw.getD b.toNatClampNeg 0)) 3) (zst A d (vp_updL (A d) x.toNatClampNeg (A d x.toNatClampNeg &&& xinw.getD b.toNatClampNeg 0)) 4) (zst A d (vp_updL (A d) x.toNatClampNeg (A d x.toNatClampNeg &&& xinw.getD b.toNatClampNeg 0)) 5) (zst A d (vp_updL (A d) x.toNatClampNeg (A d x.toNatClampNeg &&& xinw.getD b.toNatClampNeg 0)) 6) := by
  match d, hd with
  | 0, _ => exact jp_0 h k
  | 1, _ => exact jp_1 h k
  | 2, _ => exact jp_2 h k
  | 3, _ => exact jp_3 h k
  | 4, _ => exact jp_4 h k
  | 5, _ => exact jp_5 h k
  | 6, _ => exact jp_6 h k
/-- the word of a part: where it is in -/
def xpw (b : Int32) (i : Nat) : Int64 := if 6 ≤ b.toInt then (if ((nI i >>> ((b - 6) &&& 31)) &&& (1 : Int32)).toInt = 0 then 0 else -1) else xinw.getD b.toNatClampNeg 0
theorem xan0 (x : Int64) : x &&& 0 = 0 := by
  apply Int64.toBitVec_inj.mp
  rw [Int64.toBitVec_and]
  exact BitVec.and_zero
theorem xan1 (x : Int64) : x &&& (-1) = x := by
  apply Int64.toBitVec_inj.mp
  rw [Int64.toBitVec_and]
  exact BitVec.and_allOnes
theorem b_jp {d : Nat} (hd : d ≤ 6) {pn : Nat → Int32} {b : Int32} : ∀ (m : Nat) (x : Int32) (k : Nat) (A : Nat → Nat → Int64), x.toInt + (m : Int) = 8 → 0 ≤ x.toInt → ∃ a : Nat → Int64, K_joinPart_L4 pn b (nI d) (k + m + 1) x (A 0) (A 1) (A 2) (A 3) (A 4) (A 5) (A 6) = (zst A d a 0, zst A d a 1, zst A d a 2, zst A d a 3, zst A d a 4, zst A d a 5, zst A d a 6, pn) ∧ (∀ i : Nat, x.toInt ≤ (i : Int) → i < 8 → a i = A d i &&& xpw b i) ∧ (∀ i : Nat, (i : Int) < x.toInt → a i = A d i) := by
  intro m
  induction m with
  | zero =>
    intro x k A h h0
    have eA : zst A d (A d) = A := by
      funext j
      unfold zst
      split
      · next y => rw [y]
      · rfl
    refine ⟨A d, ?_, fun i h1 h2 => absurd h2 (by omega), fun i _ => rfl⟩
    rw [eA]
    simp only [K_joinPart_L4, K_joinPart_5, K_joinPart_11, K_joinPart_13, K_joinPart_15, K_joinPart_17, K_joinPart_19, K_joinPart_21, K_joinPart_22, K_joinPart_20, K_joinPart_18, K_joinPart_16, K_joinPart_14, K_joinPart_12, K_joinPart_10, K_joinPart_9, K_joinPart_7, K_joinPart_23, K_joinPart_25, K_joinPart_27, K_joinPart_29, K_joinPart_31, K_joinPart_33, K_joinPart_34, K_joinPart_32, K_joinPart_30, K_joinPart_28, K_joinPart_26, K_joinPart_24, K_joinPart_8, K_joinPart_6, K_joinPart_4, K_joinPart_3, K_joinPart_2, K_joinPart_1, M_joinPart]
    rw [if_pos (by omega)]
  | succ m ih =>
    intro x k A h h0
    have e : (x + 1).toInt = x.toInt + 1 := xadd rfl (by decide) (by omega) (by omega)
    have xn := xtn (x := x) h0
    have xi : nI x.toNatClampNeg = x := xnI h0
    have go := jp_step (A := A) (pn := pn) (b := b) hd (x := x) (by omega) (k + m + 1)
    by_cases q : 6 ≤ b.toInt
    · rw [if_pos q] at go
      by_cases w : ((x >>> ((b - 6) &&& 31)) &&& (1 : Int32)).toInt = 0
      · rw [if_pos w] at go
        have pw : xpw b x.toNatClampNeg = 0 := by
          unfold xpw
          rw [if_pos q, xi, if_pos w]
        obtain ⟨a, h1, h2, h3⟩ := ih (x + 1) k (zst A d (vp_updL (A d) x.toNatClampNeg 0)) (by omega) (by omega)
        refine ⟨a, ?_, fun i i1 i2 => ?_, fun i i1 => ?_⟩
        · rw [show k + (m + 1) + 1 = (k + m + 1) + 1 from by omega, go, h1, xst_2]
        · by_cases y : i = x.toNatClampNeg
          · have z := h3 i (by omega)
            rw [xst_s, y, xupL_s] at z
            rw [y, z]
            rw [pw, xan0]
          · have z := h2 i (by omega) i2
            rw [xst_s, xupL_o y] at z
            exact z
        · have z := h3 i (by omega)
          rw [xst_s, xupL_o (by omega)] at z
          exact z
      · rw [if_neg w] at go
        have pw : xpw b x.toNatClampNeg = -1 := by
          unfold xpw
          rw [if_pos q, xi, if_neg w]
        obtain ⟨a, h1, h2, h3⟩ := ih (x + 1) k A (by omega) (by omega)
        refine ⟨a, ?_, fun i i1 i2 => ?_, fun i i1 => h3 i (by omega)⟩
        · rw [show k + (m + 1) + 1 = (k + m + 1) + 1 from by omega, go, h1]
        · by_cases y : i = x.toNatClampNeg
          · rw [y, pw, xan1, h3 _ (by omega)]
          · exact h2 i (by omega) i2
    · rw [if_neg q] at go
      have pw : xpw b x.toNatClampNeg = xinw.getD b.toNatClampNeg 0 := by
        unfold xpw
        rw [if_neg q]
      obtain ⟨a, h1, h2, h3⟩ := ih (x + 1) k (zst A d (vp_updL (A d) x.toNatClampNeg (A d x.toNatClampNeg &&& xinw.getD b.toNatClampNeg 0))) (by omega) (by omega)
      refine ⟨a, ?_, fun i i1 i2 => ?_, fun i i1 => ?_⟩
      · rw [show k + (m + 1) + 1 = (k + m + 1) + 1 from by omega, go, h1, xst_2]
      · by_cases y : i = x.toNatClampNeg
        · have z := h3 i (by omega)
          rw [xst_s, y, xupL_s] at z
          rw [y, z]
          rw [pw]
        · have z := h2 i (by omega) i2
          rw [xst_s, xupL_o y] at z
          exact z
      · have z := h3 i (by omega)
        rw [xst_s, xupL_o (by omega)] at z
        exact z
-- 65.sem
/-- whether a row of words holds a set -/
def xbt (g : Nat → Int64) (s : Nat) : Bool := (g (s / 64)).toBitVec.getLsbD (s % 64)
theorem xbt_or {g a h : Nat → Int64} {s : Nat} (e : h (s / 64) = g (s / 64) ||| a (s / 64)) : xbt h s = (xbt g s || xbt a s) := by
  unfold xbt
  rw [e, Int64.toBitVec_or, BitVec.getLsbD_or]
theorem xbt_and {g h : Nat → Int64} {y : Int64} {s : Nat} (e : h (s / 64) = g (s / 64) &&& y) : xbt h s = (xbt g s && y.toBitVec.getLsbD (s % 64)) := by
  unfold xbt
  rw [e, Int64.toBitVec_and, BitVec.getLsbD_and]
theorem xb64 : ∀ j : Fin 64, (-1 : Int64).toBitVec.getLsbD j.val = true := by decide
theorem xbt_1 {g : Nat → Int64} {s : Nat} (e : g (s / 64) = -1) : xbt g s = true := by
  unfold xbt
  rw [e]
  exact xb64 ⟨s % 64, Nat.mod_lt _ (by decide)⟩
theorem xb640 : ∀ j : Fin 64, (0 : Int64).toBitVec.getLsbD j.val = false := by decide
theorem xbt_0 {g : Nat → Int64} {s : Nat} (e : g (s / 64) = 0) : xbt g s = false := by
  unfold xbt
  rw [e]
  exact xb640 ⟨s % 64, Nat.mod_lt _ (by decide)⟩
theorem xpw_bit : ∀ (k : Fin 9) (s : Fin 512), (xpw (nI k.val) (s.val / 64)).toBitVec.getLsbD (s.val % 64) = s.val.testBit k.val := by decide +kernel
/-- the levels below n, for one set, the deepest first -/
def xcb (G A : Nat → Nat → Int64) (s : Nat) : Nat → List (Bool × Bool)
  | 0 => []
  | n + 1 => (xbt (G n) s, xbt (A n) s) :: xcb G A s n
theorem xcb_ext {G A G' A' : Nat → Nat → Int64} {s n : Nat} (h : ∀ k, k < n → G k = G' k ∧ A k = A' k) : xcb G A s n = xcb G' A' s n := by
  induction n with
  | zero => rfl
  | succ n ih => rw [xcb, xcb, (h n (by omega)).1, (h n (by omega)).2, ih (fun k hk => h k (by omega))]
theorem xcb_st {G A : Nat → Nat → Int64} {g a : Nat → Int64} {s n : Nat} : xcb (zst G n g) (zst A n a) s (n + 1) = (xbt g s, xbt a s) :: xcb G A s n := by
  rw [xcb, xst_s, xst_s, xcb_ext (G' := G) (A' := A) (fun k hk => ⟨xst_o (by omega), xst_o (by omega)⟩)]
theorem xcb_sA {G A : Nat → Nat → Int64} {a : Nat → Int64} {s n : Nat} : xcb G (zst A n a) s (n + 1) = (xbt (G n) s, xbt a s) :: xcb G A s n := by
  rw [xcb, xst_s, xcb_ext (G' := G) (A' := A) (fun k hk => ⟨rfl, xst_o (by omega)⟩)]
/-- the formula so far, on both sides: m tells whether a unit stands last -/
def xS (m : Bool) (d : Nat) (G A : Nat → Nat → Int64) (c w : Nat → Int32) (nc nw : Nat) : Prop := (∀ j, j < nw → 10 ≤ (w j).toInt ∧ (w j).toInt ≤ 12) ∧ (∀ j, j < nc → 0 ≤ (c j).toInt ∧ ((c j).toInt < 9 ∨ (c j).toInt = 10 ∨ (c j).toInt = 11)) ∧ xwk c nc ∧ ∀ s, s < 512 → (if m = true then xM2 (xcb G A s (d + 1)) (xwl w nw) (xev c s nc) else xM1 (xcb G A s (d + 1)) (xwl w nw) (xev c s nc))
-- 66.a.nm
theorem nm {f : Nat → Int32} {n ps fr : Int32} (h0 : 0 ≤ fr.toInt) (h2 : ps.toInt ≤ n.toInt) (hn : n.toInt ≤ 400) : M_m_nameNow ps fr n f = if ps.toInt - fr.toInt = 1 then (if 0 ≤ (f fr.toNatClampNeg - 97).toInt ∧ (f fr.toNatClampNeg - 97).toInt ≤ 7 then f fr.toNatClampNeg - 97 else -4) else @ite _ (xW0 f fr ps) (Classical.propDecidable _) 20 (@ite _ (xW7 f fr ps) (Classical.propDecidable _) 21 (@ite _ (xW8 f fr ps) (Classical.propDecidable _) 22 (@ite _ (xW2 f fr ps) (Classical.propDecidable _) 23 (@ite _ (xW3 f fr ps) (Classical.propDecidable _) 24 (@ite _ (xW4 f fr ps) (Classical.propDecidable _) 25 (@ite _ (xW5 f fr ps) (Classical.propDecidable _) 26 (@ite _ (xW1 f fr ps) (Classical.propDecidable _) 27 (@ite _ (xW6 f fr ps) (Classical.propDecidable _) 28 (-4))))))))) := by
  rw [t_name, b_retry, b_fall, b_when]
  by_cases q : ps.toInt - fr.toInt = 1
  · rw [if_pos q, if_pos q, sp_look_in (by omega)]
  · rw [if_neg q, if_neg q, propext (vw0 (f := f) (ps := ps) h0 h2 hn), propext (vw1 (f := f) (ps := ps) h0 h2 hn), propext (vw2 (f := f) (ps := ps) h0 h2 hn), propext (vw3 (f := f) (ps := ps) h0 h2 hn), propext (vw4 (f := f) (ps := ps) h0 h2 hn), propext (vw5 (f := f) (ps := ps) h0 h2 hn), propext (vw6 (f := f) (ps := ps) h0 h2 hn), propext (vw7 (f := f) (ps := ps) h0 h2 hn), propext (vw8 (f := f) (ps := ps) h0 h2 hn)]
/-- what a name is, with the word that it is -/
theorem nm_some {f : Nat → Int32} {n ps fr : Int32} (h0 : 0 ≤ fr.toInt) (h2 : ps.toInt ≤ n.toInt) (hn : n.toInt ≤ 400) : ((M_m_nameNow ps fr n f).toInt = 20 ↔ xW0 f fr ps) ∧ ((M_m_nameNow ps fr n f).toInt = 21 ↔ xW7 f fr ps) ∧ ((M_m_nameNow ps fr n f).toInt = 22 ↔ xW8 f fr ps) ∧ ((M_m_nameNow ps fr n f).toInt = 23 ↔ xW2 f fr ps) ∧ ((M_m_nameNow ps fr n f).toInt = 24 ↔ xW3 f fr ps) ∧ ((M_m_nameNow ps fr n f).toInt = 25 ↔ xW4 f fr ps) ∧ ((M_m_nameNow ps fr n f).toInt = 26 ↔ xW5 f fr ps) ∧ ((M_m_nameNow ps fr n f).toInt = 27 ↔ xW1 f fr ps) ∧ ((M_m_nameNow ps fr n f).toInt = 28 ↔ xW6 f fr ps) ∧ (M_m_nameNow ps fr n f).toInt ≤ 28 := by
  rw [nm h0 h2 hn]
  have z4 : (-4 : Int32).toInt = -4 := by decide
  by_cases q : ps.toInt - fr.toInt = 1
  · rw [if_pos q]
    have nw : ¬ xW0 f fr ps ∧ ¬ xW1 f fr ps ∧ ¬ xW2 f fr ps ∧ ¬ xW3 f fr ps ∧ ¬ xW4 f fr ps ∧ ¬ xW5 f fr ps ∧ ¬ xW6 f fr ps ∧ ¬ xW7 f fr ps ∧ ¬ xW8 f fr ps := by
      unfold xW0 xW1 xW2 xW3 xW4 xW5 xW6 xW7 xW8
      omega
    obtain ⟨n0, n1, n2, n3, n4, n5, n6, n7, n8⟩ := nw
    have le : (if 0 ≤ (f fr.toNatClampNeg - 97).toInt ∧ (f fr.toNatClampNeg - 97).toInt ≤ 7 then f fr.toNatClampNeg - 97 else -4).toInt ≤ 7 := by
      by_cases g : 0 ≤ (f fr.toNatClampNeg - 97).toInt ∧ (f fr.toNatClampNeg - 97).toInt ≤ 7
      · rw [if_pos g]; exact g.2
      · rw [if_neg g]; omega
    refine ⟨⟨fun z => absurd z (by omega), fun z => absurd z n0⟩, ⟨fun z => absurd z (by omega), fun z => absurd z n7⟩, ⟨fun z => absurd z (by omega), fun z => absurd z n8⟩, ⟨fun z => absurd z (by omega), fun z => absurd z n2⟩, ⟨fun z => absurd z (by omega), fun z => absurd z n3⟩, ⟨fun z => absurd z (by omega), fun z => absurd z n4⟩, ⟨fun z => absurd z (by omega), fun z => absurd z n5⟩, ⟨fun z => absurd z (by omega), fun z => absurd z n1⟩, ⟨fun z => absurd z (by omega), fun z => absurd z n6⟩, by omega⟩
  · rw [if_neg q]
    by_cases w0 : xW0 f fr ps
    · have no : ¬ xW7 f fr ps ∧ ¬ xW8 f fr ps ∧ ¬ xW2 f fr ps ∧ ¬ xW3 f fr ps ∧ ¬ xW4 f fr ps ∧ ¬ xW5 f fr ps ∧ ¬ xW1 f fr ps ∧ ¬ xW6 f fr ps := by
        unfold xW0 at w0
        unfold xW7 xW8 xW2 xW3 xW4 xW5 xW1 xW6
        omega
      rw [if_pos w0]
      have zc : (20 : Int32).toInt = 20 := by decide
      exact ⟨⟨fun _ => w0, fun _ => zc⟩, ⟨fun z => absurd z (by omega), fun z => absurd z no.1⟩, ⟨fun z => absurd z (by omega), fun z => absurd z no.2.1⟩, ⟨fun z => absurd z (by omega), fun z => absurd z no.2.2.1⟩, ⟨fun z => absurd z (by omega), fun z => absurd z no.2.2.2.1⟩, ⟨fun z => absurd z (by omega), fun z => absurd z no.2.2.2.2.1⟩, ⟨fun z => absurd z (by omega), fun z => absurd z no.2.2.2.2.2.1⟩, ⟨fun z => absurd z (by omega), fun z => absurd z no.2.2.2.2.2.2.1⟩, ⟨fun z => absurd z (by omega), fun z => absurd z no.2.2.2.2.2.2.2⟩, by omega⟩
    rw [if_neg w0]
    by_cases w7 : xW7 f fr ps
    · have no : ¬ xW0 f fr ps ∧ ¬ xW8 f fr ps ∧ ¬ xW2 f fr ps ∧ ¬ xW3 f fr ps ∧ ¬ xW4 f fr ps ∧ ¬ xW5 f fr ps ∧ ¬ xW1 f fr ps ∧ ¬ xW6 f fr ps := by
        unfold xW7 at w7
        unfold xW0 xW8 xW2 xW3 xW4 xW5 xW1 xW6
        omega
      rw [if_pos w7]
      have zc : (21 : Int32).toInt = 21 := by decide
      exact ⟨⟨fun z => absurd z (by omega), fun z => absurd z no.1⟩, ⟨fun _ => w7, fun _ => zc⟩, ⟨fun z => absurd z (by omega), fun z => absurd z no.2.1⟩, ⟨fun z => absurd z (by omega), fun z => absurd z no.2.2.1⟩, ⟨fun z => absurd z (by omega), fun z => absurd z no.2.2.2.1⟩, ⟨fun z => absurd z (by omega), fun z => absurd z no.2.2.2.2.1⟩, ⟨fun z => absurd z (by omega), fun z => absurd z no.2.2.2.2.2.1⟩, ⟨fun z => absurd z (by omega), fun z => absurd z no.2.2.2.2.2.2.1⟩, ⟨fun z => absurd z (by omega), fun z => absurd z no.2.2.2.2.2.2.2⟩, by omega⟩
    rw [if_neg w7]
    by_cases w8 : xW8 f fr ps
    · have no : ¬ xW0 f fr ps ∧ ¬ xW7 f fr ps ∧ ¬ xW2 f fr ps ∧ ¬ xW3 f fr ps ∧ ¬ xW4 f fr ps ∧ ¬ xW5 f fr ps ∧ ¬ xW1 f fr ps ∧ ¬ xW6 f fr ps := by
        unfold xW8 at w8
        unfold xW0 xW7 xW2 xW3 xW4 xW5 xW1 xW6
        omega
      rw [if_pos w8]
      have zc : (22 : Int32).toInt = 22 := by decide
      exact ⟨⟨fun z => absurd z (by omega), fun z => absurd z no.1⟩, ⟨fun z => absurd z (by omega), fun z => absurd z no.2.1⟩, ⟨fun _ => w8, fun _ => zc⟩, ⟨fun z => absurd z (by omega), fun z => absurd z no.2.2.1⟩, ⟨fun z => absurd z (by omega), fun z => absurd z no.2.2.2.1⟩, ⟨fun z => absurd z (by omega), fun z => absurd z no.2.2.2.2.1⟩, ⟨fun z => absurd z (by omega), fun z => absurd z no.2.2.2.2.2.1⟩, ⟨fun z => absurd z (by omega), fun z => absurd z no.2.2.2.2.2.2.1⟩, ⟨fun z => absurd z (by omega), fun z => absurd z no.2.2.2.2.2.2.2⟩, by omega⟩
    rw [if_neg w8]
    by_cases w2 : xW2 f fr ps
    · have no : ¬ xW0 f fr ps ∧ ¬ xW7 f fr ps ∧ ¬ xW8 f fr ps ∧ ¬ xW3 f fr ps ∧ ¬ xW4 f fr ps ∧ ¬ xW5 f fr ps ∧ ¬ xW1 f fr ps ∧ ¬ xW6 f fr ps := by
        unfold xW2 at w2
        unfold xW0 xW7 xW8 xW3 xW4 xW5 xW1 xW6
        omega
      rw [if_pos w2]
      have zc : (23 : Int32).toInt = 23 := by decide
      exact ⟨⟨fun z => absurd z (by omega), fun z => absurd z no.1⟩, ⟨fun z => absurd z (by omega), fun z => absurd z no.2.1⟩, ⟨fun z => absurd z (by omega), fun z => absurd z no.2.2.1⟩, ⟨fun _ => w2, fun _ => zc⟩, ⟨fun z => absurd z (by omega), fun z => absurd z no.2.2.2.1⟩, ⟨fun z => absurd z (by omega), fun z => absurd z no.2.2.2.2.1⟩, ⟨fun z => absurd z (by omega), fun z => absurd z no.2.2.2.2.2.1⟩, ⟨fun z => absurd z (by omega), fun z => absurd z no.2.2.2.2.2.2.1⟩, ⟨fun z => absurd z (by omega), fun z => absurd z no.2.2.2.2.2.2.2⟩, by omega⟩
    rw [if_neg w2]
    by_cases w3 : xW3 f fr ps
    · have no : ¬ xW0 f fr ps ∧ ¬ xW7 f fr ps ∧ ¬ xW8 f fr ps ∧ ¬ xW2 f fr ps ∧ ¬ xW4 f fr ps ∧ ¬ xW5 f fr ps ∧ ¬ xW1 f fr ps ∧ ¬ xW6 f fr ps := by
        unfold xW3 at w3
        unfold xW0 xW7 xW8 xW2 xW4 xW5 xW1 xW6
        omega
      rw [if_pos w3]
      have zc : (24 : Int32).toInt = 24 := by decide
      exact ⟨⟨fun z => absurd z (by omega), fun z => absurd z no.1⟩, ⟨fun z => absurd z (by omega), fun z => absurd z no.2.1⟩, ⟨fun z => absurd z (by omega), fun z => absurd z no.2.2.1⟩, ⟨fun z => absurd z (by omega), fun z => absurd z no.2.2.2.1⟩, ⟨fun _ => w3, fun _ => zc⟩, ⟨fun z => absurd z (by omega), fun z => absurd z no.2.2.2.2.1⟩, ⟨fun z => absurd z (by omega), fun z => absurd z no.2.2.2.2.2.1⟩, ⟨fun z => absurd z (by omega), fun z => absurd z no.2.2.2.2.2.2.1⟩, ⟨fun z => absurd z (by omega), fun z => absurd z no.2.2.2.2.2.2.2⟩, by omega⟩
    rw [if_neg w3]
    by_cases w4 : xW4 f fr ps
    · have no : ¬ xW0 f fr ps ∧ ¬ xW7 f fr ps ∧ ¬ xW8 f fr ps ∧ ¬ xW2 f fr ps ∧ ¬ xW3 f fr ps ∧ ¬ xW5 f fr ps ∧ ¬ xW1 f fr ps ∧ ¬ xW6 f fr ps := by
        unfold xW4 at w4
        unfold xW0 xW7 xW8 xW2 xW3 xW5 xW1 xW6
        omega
      rw [if_pos w4]
      have zc : (25 : Int32).toInt = 25 := by decide
      exact ⟨⟨fun z => absurd z (by omega), fun z => absurd z no.1⟩, ⟨fun z => absurd z (by omega), fun z => absurd z no.2.1⟩, ⟨fun z => absurd z (by omega), fun z => absurd z no.2.2.1⟩, ⟨fun z => absurd z (by omega), fun z => absurd z no.2.2.2.1⟩, ⟨fun z => absurd z (by omega), fun z => absurd z no.2.2.2.2.1⟩, ⟨fun _ => w4, fun _ => zc⟩, ⟨fun z => absurd z (by omega), fun z => absurd z no.2.2.2.2.2.1⟩, ⟨fun z => absurd z (by omega), fun z => absurd z no.2.2.2.2.2.2.1⟩, ⟨fun z => absurd z (by omega), fun z => absurd z no.2.2.2.2.2.2.2⟩, by omega⟩
    rw [if_neg w4]
    by_cases w5 : xW5 f fr ps
    · have no : ¬ xW0 f fr ps ∧ ¬ xW7 f fr ps ∧ ¬ xW8 f fr ps ∧ ¬ xW2 f fr ps ∧ ¬ xW3 f fr ps ∧ ¬ xW4 f fr ps ∧ ¬ xW1 f fr ps ∧ ¬ xW6 f fr ps := by
        unfold xW5 at w5
        unfold xW0 xW7 xW8 xW2 xW3 xW4 xW1 xW6
        omega
      rw [if_pos w5]
      have zc : (26 : Int32).toInt = 26 := by decide
      exact ⟨⟨fun z => absurd z (by omega), fun z => absurd z no.1⟩, ⟨fun z => absurd z (by omega), fun z => absurd z no.2.1⟩, ⟨fun z => absurd z (by omega), fun z => absurd z no.2.2.1⟩, ⟨fun z => absurd z (by omega), fun z => absurd z no.2.2.2.1⟩, ⟨fun z => absurd z (by omega), fun z => absurd z no.2.2.2.2.1⟩, ⟨fun z => absurd z (by omega), fun z => absurd z no.2.2.2.2.2.1⟩, ⟨fun _ => w5, fun _ => zc⟩, ⟨fun z => absurd z (by omega), fun z => absurd z no.2.2.2.2.2.2.1⟩, ⟨fun z => absurd z (by omega), fun z => absurd z no.2.2.2.2.2.2.2⟩, by omega⟩
    rw [if_neg w5]
    by_cases w1 : xW1 f fr ps
    · have no : ¬ xW0 f fr ps ∧ ¬ xW7 f fr ps ∧ ¬ xW8 f fr ps ∧ ¬ xW2 f fr ps ∧ ¬ xW3 f fr ps ∧ ¬ xW4 f fr ps ∧ ¬ xW5 f fr ps ∧ ¬ xW6 f fr ps := by
        unfold xW1 at w1
        unfold xW0 xW7 xW8 xW2 xW3 xW4 xW5 xW6
        omega
      rw [if_pos w1]
      have zc : (27 : Int32).toInt = 27 := by decide
      exact ⟨⟨fun z => absurd z (by omega), fun z => absurd z no.1⟩, ⟨fun z => absurd z (by omega), fun z => absurd z no.2.1⟩, ⟨fun z => absurd z (by omega), fun z => absurd z no.2.2.1⟩, ⟨fun z => absurd z (by omega), fun z => absurd z no.2.2.2.1⟩, ⟨fun z => absurd z (by omega), fun z => absurd z no.2.2.2.2.1⟩, ⟨fun z => absurd z (by omega), fun z => absurd z no.2.2.2.2.2.1⟩, ⟨fun z => absurd z (by omega), fun z => absurd z no.2.2.2.2.2.2.1⟩, ⟨fun _ => w1, fun _ => zc⟩, ⟨fun z => absurd z (by omega), fun z => absurd z no.2.2.2.2.2.2.2⟩, by omega⟩
    rw [if_neg w1]
    by_cases w6 : xW6 f fr ps
    · have no : ¬ xW0 f fr ps ∧ ¬ xW7 f fr ps ∧ ¬ xW8 f fr ps ∧ ¬ xW2 f fr ps ∧ ¬ xW3 f fr ps ∧ ¬ xW4 f fr ps ∧ ¬ xW5 f fr ps ∧ ¬ xW1 f fr ps := by
        unfold xW6 at w6
        unfold xW0 xW7 xW8 xW2 xW3 xW4 xW5 xW1
        omega
      rw [if_pos w6]
      have zc : (28 : Int32).toInt = 28 := by decide
      exact ⟨⟨fun z => absurd z (by omega), fun z => absurd z no.1⟩, ⟨fun z => absurd z (by omega), fun z => absurd z no.2.1⟩, ⟨fun z => absurd z (by omega), fun z => absurd z no.2.2.1⟩, ⟨fun z => absurd z (by omega), fun z => absurd z no.2.2.2.1⟩, ⟨fun z => absurd z (by omega), fun z => absurd z no.2.2.2.2.1⟩, ⟨fun z => absurd z (by omega), fun z => absurd z no.2.2.2.2.2.1⟩, ⟨fun z => absurd z (by omega), fun z => absurd z no.2.2.2.2.2.2.1⟩, ⟨fun z => absurd z (by omega), fun z => absurd z no.2.2.2.2.2.2.2⟩, ⟨fun _ => w6, fun _ => zc⟩, by omega⟩
    rw [if_neg w6]
    exact ⟨⟨fun z => absurd z (by omega), fun z => absurd z w0⟩, ⟨fun z => absurd z (by omega), fun z => absurd z w7⟩, ⟨fun z => absurd z (by omega), fun z => absurd z w8⟩, ⟨fun z => absurd z (by omega), fun z => absurd z w2⟩, ⟨fun z => absurd z (by omega), fun z => absurd z w3⟩, ⟨fun z => absurd z (by omega), fun z => absurd z w4⟩, ⟨fun z => absurd z (by omega), fun z => absurd z w5⟩, ⟨fun z => absurd z (by omega), fun z => absurd z w1⟩, ⟨fun z => absurd z (by omega), fun z => absurd z w6⟩, by omega⟩
theorem ob_dist (t a b : Int32) : (t ||| a) &&& b = (t &&& b) ||| (a &&& b) := by
  apply Int32.toBitVec_inj.mp
  rw [Int32.toBitVec_and, Int32.toBitVec_or, Int32.toBitVec_or, Int32.toBitVec_and, Int32.toBitVec_and]
  ext i hi
  simp only [BitVec.getElem_and, BitVec.getElem_or]
  cases t.toBitVec[i] <;> cases a.toBitVec[i] <;> cases b.toBitVec[i] <;> rfl
theorem xi0 {x : Int32} (h : x.toInt = 0) : x = 0 := Int32.toInt_inj.mp (by rw [h]; decide)
theorem bit1 {t a b : Int32} (h : (a &&& b).toInt = 0) : (((t ||| a) &&& b).toInt = 0 ↔ (t &&& b).toInt = 0) := by
  rw [ob_dist, xi0 h, Int32.or_zero]
theorem bitS {t a : Int32} (h : (a &&& a).toInt ≠ 0) : ¬ ((t ||| a) &&& a).toInt = 0 := by
  intro z
  rw [ob_dist] at z
  apply h
  have z := xi0 z
  have e : (t &&& a) ||| (a &&& a) = a &&& a := by
    apply Int32.toBitVec_inj.mp
    rw [Int32.toBitVec_or, Int32.toBitVec_and, Int32.toBitVec_and]
    ext i hi
    simp only [BitVec.getElem_and, BitVec.getElem_or]
    cases t.toBitVec[i] <;> cases a.toBitVec[i] <;> rfl
  rw [← e, z]
  decide
theorem t_once0 {f : Nat → Int32} {told b n fl fp kd pl fr vl : Int32} (h : (told &&& b).toInt = 0) : M_takeOnce told b n f fl fp kd pl fr vl = ((M_step n f fl fp kd pl).1, (M_step n f fl fp kd pl).2.1, (M_step n f fl fp kd pl).2.2.1, (M_step n f fl fp kd pl).2.2.2.1, told ||| b, (M_step n f fl fp kd pl).2.2.2.2.1, (M_step n f fl fp kd pl).2.2.2.2.2) := by
  simp only [K_takeOnce_4, K_takeOnce_2, K_takeOnce_5, K_takeOnce_3, K_takeOnce_1, M_takeOnce]
  rw [if_pos h]
theorem t_once1 {f : Nat → Int32} {told b n fl fp kd pl fr vl : Int32} (h : ¬ (told &&& b).toInt = 0) (q : fl.toInt = 0) : M_takeOnce told b n f fl fp kd pl fr vl = (pl, kd, fr, vl, told, 4, fr) := by
  simp only [K_takeOnce_4, K_takeOnce_2, K_takeOnce_5, K_takeOnce_3, K_takeOnce_1, M_takeOnce]
  rw [if_neg h, t_refuse q]
theorem fin64 {P : Int32 → Prop} (h : ∀ t : Fin 64, P (Int32.ofNat t.val)) {x : Int32} (h0 : 0 ≤ x.toInt) (h1 : x.toInt < 64) : P x := by
  have e : x = Int32.ofNat x.toInt.toNat := Int32.toInt_inj.mp (by
    have q : (Int32.ofNat x.toInt.toNat).toInt = ((x.toInt.toNat : Nat) : Int) := nI_toInt (n := x.toInt.toNat) (by omega)
    omega)
  rw [e]
  exact h ⟨x.toInt.toNat, by omega⟩
theorem h12 : ∀ t : Fin 64, (0 ≤ ((Int32.ofNat t.val) ||| 1).toInt ∧ ((Int32.ofNat t.val) ||| 1).toInt < 64) ∧ (0 ≤ ((Int32.ofNat t.val) ||| 2).toInt ∧ ((Int32.ofNat t.val) ||| 2).toInt < 64) := by decide +kernel
-- 66.b.railn
def xUs (rf : Nat → Int32) (us : Int32) (ur ua : Nat → Int32) (b : Int) : Prop := 0 ≤ us.toInt ∧ (∀ j : Nat, (j : Int) < us.toInt → 0 ≤ (ur j).toInt ∧ (ur j).toInt ≤ 7 ∧ 0 ≤ (ua j).toInt ∧ (ua j).toInt < b) ∧ (∀ i j : Nat, i < j → (j : Int) < us.toInt → (ua i).toInt < (ua j).toInt) ∧ (∀ r : Nat, r < 8 → ((rf r).toInt = -4 ∧ ∀ j : Nat, (j : Int) < us.toInt → (ur j).toInt ≠ (r : Int)) ∨ (∃ j : Nat, (j : Int) < us.toInt ∧ (ur j).toInt = (r : Int) ∧ rf r = ua j ∧ ∀ i : Nat, i < j → (ur i).toInt ≠ (r : Int)))
theorem xUs_up {rf ur ua : Nat → Int32} {us : Int32} {b c : Int} (h : xUs rf us ur ua b) (hb : b ≤ c) : xUs rf us ur ua c := ⟨h.1, fun j hj => ⟨(h.2.1 j hj).1, (h.2.1 j hj).2.1, (h.2.1 j hj).2.2.1, Int.lt_of_lt_of_le (h.2.1 j hj).2.2.2 hb⟩, h.2.2⟩
theorem use_add {rf ur ua : Nat → Int32} {us r fr : Int32} (h : xUs rf us ur ua fr.toInt) (hu : us.toInt ≤ 400) (h0 : 0 ≤ r.toInt) (h7 : r.toInt ≤ 7) (hf : 0 ≤ fr.toInt) : xUs (M_noteUse rf r fr) (us + 1) (upd ur us.toNatClampNeg r) (upd ua us.toNatClampNeg fr) (fr.toInt + 1) := by
  obtain ⟨g0, g1, g2, g3⟩ := h
  have e : (us + 1).toInt = us.toInt + 1 := xadd rfl (by decide) (by omega) (by omega)
  have u := xtn (x := us) g0
  have v := xtn (x := r) h0
  refine ⟨by omega, fun j hj => ?_, fun i j hij hj => ?_, fun r2 hr2 => ?_⟩
  · by_cases q : j = us.toNatClampNeg
    · rw [q, xupd_s, xupd_s]
      exact ⟨h0, h7, hf, by omega⟩
    · rw [xupd_o q, xupd_o q]
      have w := g1 j (by omega)
      exact ⟨w.1, w.2.1, w.2.2.1, by omega⟩
  · have qi : i ≠ us.toNatClampNeg := by omega
    rw [xupd_o qi]
    by_cases q : j = us.toNatClampNeg
    · rw [q, xupd_s]
      exact (g1 i (by omega)).2.2.2
    · rw [xupd_o q]
      exact g2 i j hij (by omega)
  · simp only [K_noteUse_3, K_noteUse_2, K_noteUse_1, M_noteUse]
    by_cases rr : r2 = r.toNatClampNeg
    · rcases g3 r2 hr2 with ⟨a, b⟩ | ⟨j, a, b, c, d⟩
      · right
        refine ⟨us.toNatClampNeg, by omega, by rw [xupd_s]; omega, ?_, fun i hi => ?_⟩
        · rw [rr] at a
          rw [if_pos a, xupd_s, rr, xupd_s]
        · rw [xupd_o (by omega)]
          exact b i (by omega)
      · right
        have ne : ¬ (rf r.toNatClampNeg).toInt = -4 := by
          rw [← rr, c]
          have w := (g1 j a).2.2.1
          omega
        refine ⟨j, by omega, by rw [xupd_o (by omega)]; exact b, ?_, fun i hi => by rw [xupd_o (by omega)]; exact d i hi⟩
        rw [if_neg ne, xupd_o (by omega)]
        exact c
    · have same : (if (rf r.toNatClampNeg).toInt = -4 then upd rf r.toNatClampNeg fr else rf) r2 = rf r2 := by
        by_cases z : (rf r.toNatClampNeg).toInt = -4
        · rw [if_pos z, xupd_o rr]
        · rw [if_neg z]
      rcases g3 r2 hr2 with ⟨a, b⟩ | ⟨j, a, b, c, d⟩
      · left
        refine ⟨?_, fun j hj => ?_⟩
        · first | (rw [same]; exact a) | skip
        · by_cases q : j = us.toNatClampNeg
          · rw [q, xupd_s]; omega
          · rw [xupd_o q]; exact b j (by omega)
      · right
        refine ⟨j, by omega, by rw [xupd_o (by omega)]; exact b, ?_, fun i hi => by rw [xupd_o (by omega)]; exact d i hi⟩
        rw [xupd_o (by omega)]
        first | (rw [same]; exact c) | skip
theorem t_railN {f : Nat → Int32} {pl fr : Int32} : M_railNamed pl fr f = if pl.toInt - fr.toInt = 1 then (if 0 ≤ (f fr.toNatClampNeg - 97).toInt ∧ (f fr.toNatClampNeg - 97).toInt ≤ 7 then f fr.toNatClampNeg - 97 else -4) else -4 := by
  simp only [K_railNamed_4, K_railNamed_6, K_railNamed_7, K_railNamed_5, K_railNamed_2, K_railNamed_3, K_railNamed_1, M_railNamed]
  by_cases q : pl.toInt - fr.toInt = 1
  · simp only [if_pos q]
    by_cases a : 0 ≤ (f fr.toNatClampNeg - 97).toInt ∧ (f fr.toNatClampNeg - 97).toInt ≤ 7
    · rw [if_pos a]
      split <;> (try split) <;> first | rfl | omega
    · rw [if_neg a]
      split <;> (try split) <;> first | rfl | omega
  · simp only [if_neg q]
theorem nr {f : Nat → Int32} {n pl fr : Int32} (h0 : 0 ≤ fr.toInt) (h2 : pl.toInt ≤ n.toInt) (hn : n.toInt ≤ 400) : (0 ≤ (M_railNamed pl fr f).toInt ∧ (M_railNamed pl fr f).toInt ≤ 7 ∧ M_m_nameNow pl fr n f = M_railNamed pl fr f) ∨ ((M_railNamed pl fr f).toInt = -4 ∧ ¬ (0 ≤ (M_m_nameNow pl fr n f).toInt ∧ (M_m_nameNow pl fr n f).toInt ≤ 7)) := by
  rw [t_railN, nm h0 h2 hn]
  by_cases q : pl.toInt - fr.toInt = 1
  · rw [if_pos q, if_pos q]
    by_cases g : 0 ≤ (f fr.toNatClampNeg - 97).toInt ∧ (f fr.toNatClampNeg - 97).toInt ≤ 7
    · rw [if_pos g]
      exact Or.inl ⟨g.1, g.2, rfl⟩
    · rw [if_neg g]
      exact Or.inr ⟨by decide, by decide⟩
  · rw [if_neg q, if_neg q]
    refine Or.inr ⟨by decide, ?_⟩
    split
    · decide
    split
    · decide
    split
    · decide
    split
    · decide
    split
    · decide
    split
    · decide
    split
    · decide
    split
    · decide
    split
    · decide
    decide
-- 66.steps
section
variable {G A : Nat → Nat → Int64} {c w : Nat → Int32} {d nc nw : Nat}
theorem s_start {g a : Nat → Int64} (hg : ∀ i, i < 8 → g i = 0) (ha : ∀ i, i < 8 → a i = -1) : xS false 0 (zst G 0 g) (zst A 0 a) c w 0 0 := by
  refine ⟨fun j hj => absurd hj (by omega), fun j hj => absurd hj (by omega), fun k hk => absurd hk (by omega), fun s hs => ?_⟩
  rw [if_neg (by decide), xcb_st, xbt_0 (hg _ (by omega)), xbt_1 (ha _ (by omega))]
  exact ⟨[], [], Or.inl ⟨rfl, rfl, rfl, rfl⟩, rfl, rfl⟩
theorem s_open {g a : Nat → Int64} (h : xS false d G A c w nc nw) (hg : ∀ i, i < 8 → g i = 0) (ha : ∀ i, i < 8 → a i = -1) : xS false (d + 1) (zst G (d + 1) g) (zst A (d + 1) a) c (upd w nw 12) nc (nw + 1) := by
  obtain ⟨h1, h2, h3, h4⟩ := h
  refine ⟨fun j hj => ?_, h2, h3, fun s hs => ?_⟩
  · by_cases q : j = nw
    · rw [q, xupd_s]
      decide
    · rw [xupd_o q]
      exact h1 j (by omega)
  · have z := h4 s hs
    rw [if_neg (by decide)] at z ⊢
    rw [xcb_st, xbt_0 (hg _ (by omega)), xbt_1 (ha _ (by omega)), xwl_put]
    exact xm_open z
theorem s_unit {a : Nat → Int64} {k : Nat} (hk : k < 9) (h : xS false d G A c w nc nw) (ha : ∀ i, i < 8 → a i = A d i &&& xpw (nI k) i) : xS true d G (zst A d a) (upd c nc (nI k)) w (nc + 1) nw := by
  obtain ⟨h1, h2, h3, h4⟩ := h
  have kk : (nI k).toInt = (k : Int) := nI_toInt (by omega)
  refine ⟨h1, fun j hj => ?_, fun j hj h9 s hs => ?_, fun s hs => ?_⟩
  · by_cases q : j = nc
    · rw [q, xupd_s]
      exact ⟨by omega, Or.inl (by omega)⟩
    · rw [xupd_o q]
      exact h2 j (by omega)
  · by_cases q : j = nc
    · rw [q, xupd_s] at h9
      omega
    · rw [xupd_o q] at h9
      rw [xev_ext (c' := c) (fun i hi => xupd_o (by omega))]
      exact h3 j (by omega) h9 s hs
  · have z := h4 s hs
    rw [if_neg (by decide), xcb] at z
    rw [if_pos rfl, xcb_sA, xbt_and (ha _ (by omega)), xev_put, if_pos (by omega), xpw_bit ⟨k, hk⟩ ⟨s, hs⟩, show (nI k).toInt.toNat = k from by omega]
    exact xm_unit z
/-- what done leaves -/
def xDn (e : Int) (c w : Nat → Int32) (nc nw : Nat) (c' : Nat → Int32) (nc' nw' : Nat) : Prop := nw' ≤ nw ∧ xwk c' nc' ∧ (∀ s, s < 512 → (xwl w nw', xev c' s nc') = xdn e (xwl w nw) (xev c s nc)) ∧ (∀ j, j < nc → c' j = c j) ∧ (∀ j, nc ≤ j → j < nc' → (c' j).toInt ≠ 12 ∧ ∃ i, i < nw ∧ c' j = w i)
theorem dn_code {e : Int} {c' : Nat → Int32} {nc' nw' : Nat} (h1 : ∀ j, j < nw → 10 ≤ (w j).toInt ∧ (w j).toInt ≤ 12) (h2 : ∀ j, j < nc → 0 ≤ (c j).toInt ∧ ((c j).toInt < 9 ∨ (c j).toInt = 10 ∨ (c j).toInt = 11)) (hd : xDn e c w nc nw c' nc' nw') : ∀ j, j < nc' → 0 ≤ (c' j).toInt ∧ ((c' j).toInt < 9 ∨ (c' j).toInt = 10 ∨ (c' j).toInt = 11) := by
  intro j hj
  by_cases q : j < nc
  · rw [hd.2.2.2.1 j q]
    exact h2 j q
  · obtain ⟨b1, i, b2, b3⟩ := hd.2.2.2.2 j (by omega) hj
    have b4 := h1 i b2
    rw [← b3] at b4
    exact ⟨by omega, by omega⟩
theorem w_put {x : Int32} {n : Nat} (h : ∀ j, j < nw → 10 ≤ (w j).toInt ∧ (w j).toInt ≤ 12) (hn : n ≤ nw) (hx : 10 ≤ x.toInt ∧ x.toInt ≤ 12) : ∀ j, j < n + 1 → 10 ≤ (upd w n x j).toInt ∧ (upd w n x j).toInt ≤ 12 := by
  intro j hj
  by_cases q : j = n
  · rw [q, xupd_s]
    exact hx
  · rw [xupd_o q]
    exact h j (by omega)
theorem s_and {c' : Nat → Int32} {nc' nw' : Nat} (h : xS true d G A c w nc nw) (hd : xDn 10 c w nc nw c' nc' nw') : xS false d G A c' (upd w nw' 10) nc' (nw' + 1) := by
  obtain ⟨h1, h2, h3, h4⟩ := h
  refine ⟨w_put h1 hd.1 (by decide), dn_code h1 h2 hd, hd.2.1, fun s hs => ?_⟩
  have z := h4 s hs
  rw [if_pos rfl, xcb] at z
  have y := xm_and z
  rw [← hd.2.2.1 s hs] at y
  rw [if_neg (by decide), xwl_put, xcb]
  exact y
theorem s_or {g a : Nat → Int64} {c' : Nat → Int32} {nc' nw' : Nat} (h : xS true d G A c w nc nw) (hd : xDn 11 c w nc nw c' nc' nw') (hg : ∀ i, i < 8 → g i = G d i ||| A d i ∧ a i = -1) : xS false d (zst G d g) (zst A d a) c' (upd w nw' 11) nc' (nw' + 1) := by
  obtain ⟨h1, h2, h3, h4⟩ := h
  refine ⟨w_put h1 hd.1 (by decide), dn_code h1 h2 hd, hd.2.1, fun s hs => ?_⟩
  have z := h4 s hs
  rw [if_pos rfl, xcb] at z
  have y := xm_or z
  rw [← hd.2.2.1 s hs] at y
  rw [if_neg (by decide), xwl_put, xcb_st, xbt_or (hg _ (by omega)).1, xbt_1 (hg _ (by omega)).2]
  exact y
theorem s_close {g a a2 : Nat → Int64} {c' : Nat → Int32} {nc' nw' : Nat} (h : xS true (d + 1) G A c w nc nw) (hd : xDn 11 c w nc nw c' nc' nw') (hg : ∀ i, i < 8 → g i = G (d + 1) i ||| A (d + 1) i ∧ a i = -1) (ha : ∀ i, i < 8 → a2 i = A d i &&& g i) : ∃ n2, nw' = n2 + 1 ∧ xS true d (zst G (d + 1) g) (zst (zst A (d + 1) a) d a2) c' w nc' n2 := by
  obtain ⟨h1, h2, h3, h4⟩ := h
  have key : ∀ s, s < 512 → ∃ o2 : List Int, xwl w nw' = 12 :: o2 ∧ xM2 ((xbt (G d) s, xbt (A d) s && (xbt (G (d + 1)) s || xbt (A (d + 1)) s)) :: xcb G A s d) o2 (xev c' s nc') := by
    intro s hs
    have z := h4 s hs
    rw [if_pos rfl, xcb, xcb] at z
    obtain ⟨o2, v2, y1, y2⟩ := xm_close z
    rw [← hd.2.2.1 s hs] at y1
    have e1 : xwl w nw' = 12 :: o2 := congrArg Prod.fst y1
    have e2 : xev c' s nc' = (xbt (G (d + 1)) s || xbt (A (d + 1)) s) :: v2 := congrArg Prod.snd y1
    exact ⟨o2, e1, by rw [e2]; exact y2⟩
  obtain ⟨n2, hn⟩ : ∃ n2, nw' = n2 + 1 := by
    obtain ⟨o2, e1, -⟩ := key 0 (by decide)
    cases nw' with
    | zero => exact absurd e1 (by simp [xwl])
    | succ n => exact ⟨n, rfl⟩
  refine ⟨n2, hn, fun j hj => h1 j (by have := hd.1; omega), dn_code h1 h2 hd, hd.2.1, fun s hs => ?_⟩
  obtain ⟨o2, e1, e2⟩ := key s hs
  rw [hn, xwl] at e1
  injection e1 with e3 e4
  rw [if_pos rfl, xcb_sA, xst_o (by omega), xbt_and (ha _ (by omega)), show (g (s / 64)).toBitVec.getLsbD (s % 64) = xbt g s from rfl, xbt_or (hg _ (by omega)).1, e4, xcb_ext (G' := G) (A' := A) (fun k hk => ⟨xst_o (by omega), xst_o (by omega)⟩)]
  exact e2
theorem s_end {g : Nat → Int64} {c' : Nat → Int32} {nc' nw' : Nat} (h : xS true 0 G A c w nc nw) (hd : xDn 11 c w nc nw c' nc' nw') (hg : ∀ i, i < 8 → g i = G 0 i ||| A 0 i) : (∀ j, j < nc' → 0 ≤ (c' j).toInt ∧ ((c' j).toInt < 9 ∨ (c' j).toInt = 10 ∨ (c' j).toInt = 11)) ∧ xwk c' nc' ∧ ∀ s, s < 512 → xev c' s nc' = [xbt g s] := by
  obtain ⟨h1, h2, h3, h4⟩ := h
  refine ⟨dn_code h1 h2 hd, hd.2.1, fun s hs => ?_⟩
  have z := h4 s hs
  rw [if_pos rfl] at z
  have y := xm_end (a := xbt (G 0) s) (l := xbt (A 0) s) z
  rw [← hd.2.2.1 s hs] at y
  rw [xbt_or (hg _ (by omega))]
  exact congrArg Prod.snd y
end
-- 67.cform
abbrev xTC : Type := Int32 × Int32 × Int32 × Int32 × Int32 × Int32 × Int32 × (Nat → Int32) × (Nat → Int64) × (Nat → Int64) × (Nat → Int64) × (Nat → Int64) × (Nat → Int64) × (Nat → Int64) × (Nat → Int64) × (Nat → Int64) × (Nat → Int64) × (Nat → Int64) × (Nat → Int64) × (Nat → Int64) × (Nat → Int64) × (Nat → Int64) × (Nat → Int32) × (Nat → Int64)
def xFn (pl kd fr vl dep fl fp : Int32) (rf pn : Nat → Int32) (pt : Nat → Int64) (r : Int32) (t : xT7) : xTC := (pl, kd, fr, vl, dep, fl, fp, rf, t.1, t.2.1, t.2.2.1, t.2.2.2.1, t.2.2.2.2.1, t.2.2.2.2.2.1, t.2.2.2.2.2.2.1, t.2.2.2.2.2.2.2.1, t.2.2.2.2.2.2.2.2.1, t.2.2.2.2.2.2.2.2.2.1, t.2.2.2.2.2.2.2.2.2.2.1, t.2.2.2.2.2.2.2.2.2.2.2.1, t.2.2.2.2.2.2.2.2.2.2.2.2.1, t.2.2.2.2.2.2.2.2.2.2.2.2.2, pn, va_cpy t.1 pt (0 : Int32).toNatClampNeg (r * 8).toNatClampNeg (8 : Int32).toNatClampNeg)
section
variable {f rf pn : Nat → Int32} {pt : Nat → Int64} {G A : Nat → Nat → Int64} {n r i more want pl kd fr vl dep fl fp : Int32}
theorem C_fault (q : fl.toInt ≠ 0) (k : Nat) : K_readFormula_L3 pt r n f (k + 1) i more want rf pn pl kd fr vl dep fl fp (G 0) (G 1) (G 2) (G 3) (G 4) (G 5) (G 6) (A 0) (A 1) (A 2) (A 3) (A 4) (A 5) (A 6) = xFn pl kd fr vl dep fl fp rf pn pt r (M_joinAny dep (G 0) (G 1) (G 2) (G 3) (G 4) (G 5) (G 6) (A 0) (A 1) (A 2) (A 3) (A 4) (A 5) (A 6)) := by
  simp only [K_readFormula_L3, K_readFormula_11, K_readFormula_9, K_readFormula_13, K_readFormula_12, K_readFormula_10, K_readFormula_7, K_readFormula_8, K_readFormula_6, K_readFormula_4, K_readFormula_28, K_readFormula_26, K_readFormula_30, K_readFormula_29, K_readFormula_27, K_readFormula_24, K_readFormula_40, K_readFormula_42, K_readFormula_45, K_readFormula_44, K_readFormula_43, K_readFormula_41, K_readFormula_39, K_readFormula_37, K_readFormula_47, K_readFormula_46, K_readFormula_38, K_readFormula_36, K_readFormula_34, K_readFormula_48, K_readFormula_35, K_readFormula_33, K_readFormula_31, K_readFormula_49, K_readFormula_32, K_readFormula_25, K_readFormula_15, K_readFormula_21, K_readFormula_19, K_readFormula_23, K_readFormula_22, K_readFormula_20, K_readFormula_17, K_readFormula_18, K_readFormula_16, K_readFormula_14, K_readFormula_5, K_readFormula_3, K_readFormula_2, K_readFormula_1, M_readFormula, xFn]
  by_cases a : 400 < i.toInt
  · simp only [if_pos a, if_neg q]
  · simp only [if_neg a, if_neg q]
theorem C_stop (q : fl.toInt = 0) (h : more.toInt = 0) (k : Nat) : K_readFormula_L3 pt r n f (k + 1) i more want rf pn pl kd fr vl dep fl fp (G 0) (G 1) (G 2) (G 3) (G 4) (G 5) (G 6) (A 0) (A 1) (A 2) (A 3) (A 4) (A 5) (A 6) = if dep.toInt ≤ 0 then xFn pl kd fr vl dep fl fp rf pn pt r (M_joinAny dep (G 0) (G 1) (G 2) (G 3) (G 4) (G 5) (G 6) (A 0) (A 1) (A 2) (A 3) (A 4) (A 5) (A 6)) else xFn pl kd fr vl dep 2 fr rf pn pt r (M_joinAny dep (G 0) (G 1) (G 2) (G 3) (G 4) (G 5) (G 6) (A 0) (A 1) (A 2) (A 3) (A 4) (A 5) (A 6)) := by
  simp only [K_readFormula_L3, K_readFormula_11, K_readFormula_9, K_readFormula_13, K_readFormula_12, K_readFormula_10, K_readFormula_7, K_readFormula_8, K_readFormula_6, K_readFormula_4, K_readFormula_28, K_readFormula_26, K_readFormula_30, K_readFormula_29, K_readFormula_27, K_readFormula_24, K_readFormula_40, K_readFormula_42, K_readFormula_45, K_readFormula_44, K_readFormula_43, K_readFormula_41, K_readFormula_39, K_readFormula_37, K_readFormula_47, K_readFormula_46, K_readFormula_38, K_readFormula_36, K_readFormula_34, K_readFormula_48, K_readFormula_35, K_readFormula_33, K_readFormula_31, K_readFormula_49, K_readFormula_32, K_readFormula_25, K_readFormula_15, K_readFormula_21, K_readFormula_19, K_readFormula_23, K_readFormula_22, K_readFormula_20, K_readFormula_17, K_readFormula_18, K_readFormula_16, K_readFormula_14, K_readFormula_5, K_readFormula_3, K_readFormula_2, K_readFormula_1, M_readFormula, t_refuse q, xFn]
  by_cases a : 400 < i.toInt
  · simp only [if_pos a, if_pos q]
  · simp only [if_neg a, if_pos q, if_pos h]
theorem C_want (q : fl.toInt = 0) (a : i.toInt ≤ 400) (m : more.toInt ≠ 0) (w : want.toInt ≠ 0) (k : Nat) : K_readFormula_L3 pt r n f (k + 1) i more want rf pn pl kd fr vl dep fl fp (G 0) (G 1) (G 2) (G 3) (G 4) (G 5) (G 6) (A 0) (A 1) (A 2) (A 3) (A 4) (A 5) (A 6) = (fun t => K_readFormula_L3 pt r n f k (i + 1) more t.1 t.2.2.2.2.2.2.2.2.1 t.2.2.2.2.2.2.2.2.2.2.2.2.2.2.2.2.2.2.2.2.2.2.2 t.2.1 t.2.2.1 t.2.2.2.1 t.2.2.2.2.1 t.2.2.2.2.2.1 t.2.2.2.2.2.2.1 t.2.2.2.2.2.2.2.1 t.2.2.2.2.2.2.2.2.2.1 t.2.2.2.2.2.2.2.2.2.2.1 t.2.2.2.2.2.2.2.2.2.2.2.1 t.2.2.2.2.2.2.2.2.2.2.2.2.1 t.2.2.2.2.2.2.2.2.2.2.2.2.2.1 t.2.2.2.2.2.2.2.2.2.2.2.2.2.2.1 t.2.2.2.2.2.2.2.2.2.2.2.2.2.2.2.1 t.2.2.2.2.2.2.2.2.2.2.2.2.2.2.2.2.1 t.2.2.2.2.2.2.2.2.2.2.2.2.2.2.2.2.2.1 t.2.2.2.2.2.2.2.2.2.2.2.2.2.2.2.2.2.2.1 t.2.2.2.2.2.2.2.2.2.2.2.2.2.2.2.2.2.2.2.1 t.2.2.2.2.2.2.2.2.2.2.2.2.2.2.2.2.2.2.2.2.1 t.2.2.2.2.2.2.2.2.2.2.2.2.2.2.2.2.2.2.2.2.2.1 t.2.2.2.2.2.2.2.2.2.2.2.2.2.2.2.2.2.2.2.2.2.2.1) (M_takeUnit kd pl fr vl dep rf (G 0) (G 1) (G 2) (G 3) (G 4) (G 5) (G 6) (A 0) (A 1) (A 2) (A 3) (A 4) (A 5) (A 6) pn fl fp n f r) := by
  simp only [K_readFormula_L3, K_readFormula_11, K_readFormula_9, K_readFormula_13, K_readFormula_12, K_readFormula_10, K_readFormula_7, K_readFormula_8, K_readFormula_6, K_readFormula_4, K_readFormula_28, K_readFormula_26, K_readFormula_30, K_readFormula_29, K_readFormula_27, K_readFormula_24, K_readFormula_40, K_readFormula_42, K_readFormula_45, K_readFormula_44, K_readFormula_43, K_readFormula_41, K_readFormula_39, K_readFormula_37, K_readFormula_47, K_readFormula_46, K_readFormula_38, K_readFormula_36, K_readFormula_34, K_readFormula_48, K_readFormula_35, K_readFormula_33, K_readFormula_31, K_readFormula_49, K_readFormula_32, K_readFormula_25, K_readFormula_15, K_readFormula_21, K_readFormula_19, K_readFormula_23, K_readFormula_22, K_readFormula_20, K_readFormula_17, K_readFormula_18, K_readFormula_16, K_readFormula_14, K_readFormula_5, K_readFormula_3, K_readFormula_2, K_readFormula_1, M_readFormula]
  simp only [if_neg (by omega : ¬ 400 < i.toInt), if_pos q, if_neg m, if_neg w]
theorem C_and (q : fl.toInt = 0) (a : i.toInt ≤ 400) (m : more.toInt ≠ 0) (w : want.toInt = 0) (c : kd.toInt = 3) (v : vl.toInt = 38) (k : Nat) : K_readFormula_L3 pt r n f (k + 1) i more want rf pn pl kd fr vl dep fl fp (G 0) (G 1) (G 2) (G 3) (G 4) (G 5) (G 6) (A 0) (A 1) (A 2) (A 3) (A 4) (A 5) (A 6) = (fun t => K_readFormula_L3 pt r n f k (i + 1) more 1 rf pn t.1 t.2.1 t.2.2.1 t.2.2.2.1 dep t.2.2.2.2.1 t.2.2.2.2.2 (G 0) (G 1) (G 2) (G 3) (G 4) (G 5) (G 6) (A 0) (A 1) (A 2) (A 3) (A 4) (A 5) (A 6)) (M_step n f fl fp kd pl) := by
  have z38 : (38 : Int32).toInt = 38 := by decide
  have e : ¬ (M_isSign kd vl 38).toInt = 0 := by rw [t_isSign, if_pos ⟨c, by omega⟩]; decide
  simp only [K_readFormula_L3, K_readFormula_11, K_readFormula_9, K_readFormula_13, K_readFormula_12, K_readFormula_10, K_readFormula_7, K_readFormula_8, K_readFormula_6, K_readFormula_4, K_readFormula_28, K_readFormula_26, K_readFormula_30, K_readFormula_29, K_readFormula_27, K_readFormula_24, K_readFormula_40, K_readFormula_42, K_readFormula_45, K_readFormula_44, K_readFormula_43, K_readFormula_41, K_readFormula_39, K_readFormula_37, K_readFormula_47, K_readFormula_46, K_readFormula_38, K_readFormula_36, K_readFormula_34, K_readFormula_48, K_readFormula_35, K_readFormula_33, K_readFormula_31, K_readFormula_49, K_readFormula_32, K_readFormula_25, K_readFormula_15, K_readFormula_21, K_readFormula_19, K_readFormula_23, K_readFormula_22, K_readFormula_20, K_readFormula_17, K_readFormula_18, K_readFormula_16, K_readFormula_14, K_readFormula_5, K_readFormula_3, K_readFormula_2, K_readFormula_1, M_readFormula]
  simp only [if_neg (by omega : ¬ 400 < i.toInt), if_pos q, if_neg m, if_pos w, if_neg e]
theorem C_or (q : fl.toInt = 0) (a : i.toInt ≤ 400) (m : more.toInt ≠ 0) (w : want.toInt = 0) (c : kd.toInt = 3) (v : vl.toInt = 124) (k : Nat) : K_readFormula_L3 pt r n f (k + 1) i more want rf pn pl kd fr vl dep fl fp (G 0) (G 1) (G 2) (G 3) (G 4) (G 5) (G 6) (A 0) (A 1) (A 2) (A 3) (A 4) (A 5) (A 6) = (fun z => (fun t => K_readFormula_L3 pt r n f k (i + 1) more 1 rf pn t.1 t.2.1 t.2.2.1 t.2.2.2.1 dep t.2.2.2.2.1 t.2.2.2.2.2 z.1 z.2.1 z.2.2.1 z.2.2.2.1 z.2.2.2.2.1 z.2.2.2.2.2.1 z.2.2.2.2.2.2.1 z.2.2.2.2.2.2.2.1 z.2.2.2.2.2.2.2.2.1 z.2.2.2.2.2.2.2.2.2.1 z.2.2.2.2.2.2.2.2.2.2.1 z.2.2.2.2.2.2.2.2.2.2.2.1 z.2.2.2.2.2.2.2.2.2.2.2.2.1 z.2.2.2.2.2.2.2.2.2.2.2.2.2) (M_step n f fl fp kd pl)) (M_joinAny dep (G 0) (G 1) (G 2) (G 3) (G 4) (G 5) (G 6) (A 0) (A 1) (A 2) (A 3) (A 4) (A 5) (A 6)) := by
  have z38 : (38 : Int32).toInt = 38 := by decide
  have z124 : (124 : Int32).toInt = 124 := by decide
  have e : (M_isSign kd vl 38).toInt = 0 := by rw [t_isSign, if_neg (by omega)]; decide
  have e2 : ¬ (M_isSign kd vl 124).toInt = 0 := by rw [t_isSign, if_pos ⟨c, by omega⟩]; decide
  simp only [K_readFormula_L3, K_readFormula_11, K_readFormula_9, K_readFormula_13, K_readFormula_12, K_readFormula_10, K_readFormula_7, K_readFormula_8, K_readFormula_6, K_readFormula_4, K_readFormula_28, K_readFormula_26, K_readFormula_30, K_readFormula_29, K_readFormula_27, K_readFormula_24, K_readFormula_40, K_readFormula_42, K_readFormula_45, K_readFormula_44, K_readFormula_43, K_readFormula_41, K_readFormula_39, K_readFormula_37, K_readFormula_47, K_readFormula_46, K_readFormula_38, K_readFormula_36, K_readFormula_34, K_readFormula_48, K_readFormula_35, K_readFormula_33, K_readFormula_31, K_readFormula_49, K_readFormula_32, K_readFormula_25, K_readFormula_15, K_readFormula_21, K_readFormula_19, K_readFormula_23, K_readFormula_22, K_readFormula_20, K_readFormula_17, K_readFormula_18, K_readFormula_16, K_readFormula_14, K_readFormula_5, K_readFormula_3, K_readFormula_2, K_readFormula_1, M_readFormula]
  simp only [if_neg (by omega : ¬ 400 < i.toInt), if_pos q, if_neg m, if_pos w, if_pos e, if_neg e2]
theorem C_right (q : fl.toInt = 0) (a : i.toInt ≤ 400) (m : more.toInt ≠ 0) (w : want.toInt = 0) (c : kd.toInt = 3) (v : vl.toInt = 41) (d : 0 < dep.toInt) (k : Nat) : K_readFormula_L3 pt r n f (k + 1) i more want rf pn pl kd fr vl dep fl fp (G 0) (G 1) (G 2) (G 3) (G 4) (G 5) (G 6) (A 0) (A 1) (A 2) (A 3) (A 4) (A 5) (A 6) = (fun z => (fun t => K_readFormula_L3 pt r n f k (i + 1) more want rf pn t.1 t.2.1 t.2.2.1 t.2.2.2.1 z.1 t.2.2.2.2.1 t.2.2.2.2.2 z.2.1 z.2.2.1 z.2.2.2.1 z.2.2.2.2.1 z.2.2.2.2.2.1 z.2.2.2.2.2.2.1 z.2.2.2.2.2.2.2.1 z.2.2.2.2.2.2.2.2.1 z.2.2.2.2.2.2.2.2.2.1 z.2.2.2.2.2.2.2.2.2.2.1 z.2.2.2.2.2.2.2.2.2.2.2.1 z.2.2.2.2.2.2.2.2.2.2.2.2.1 z.2.2.2.2.2.2.2.2.2.2.2.2.2.1 z.2.2.2.2.2.2.2.2.2.2.2.2.2.2) (M_step n f fl fp kd pl)) (M_closeDepth dep (G 0) (G 1) (G 2) (G 3) (G 4) (G 5) (G 6) (A 0) (A 1) (A 2) (A 3) (A 4) (A 5) (A 6)) := by
  have z38 : (38 : Int32).toInt = 38 := by decide
  have z124 : (124 : Int32).toInt = 124 := by decide
  have z41 : (41 : Int32).toInt = 41 := by decide
  have e : (M_isSign kd vl 38).toInt = 0 := by rw [t_isSign, if_neg (by omega)]; decide
  have e2 : (M_isSign kd vl 124).toInt = 0 := by rw [t_isSign, if_neg (by omega)]; decide
  have e3 : ¬ (M_isSign kd vl 41).toInt = 0 := by rw [t_isSign, if_pos ⟨c, by omega⟩]; decide
  simp only [K_readFormula_L3, K_readFormula_11, K_readFormula_9, K_readFormula_13, K_readFormula_12, K_readFormula_10, K_readFormula_7, K_readFormula_8, K_readFormula_6, K_readFormula_4, K_readFormula_28, K_readFormula_26, K_readFormula_30, K_readFormula_29, K_readFormula_27, K_readFormula_24, K_readFormula_40, K_readFormula_42, K_readFormula_45, K_readFormula_44, K_readFormula_43, K_readFormula_41, K_readFormula_39, K_readFormula_37, K_readFormula_47, K_readFormula_46, K_readFormula_38, K_readFormula_36, K_readFormula_34, K_readFormula_48, K_readFormula_35, K_readFormula_33, K_readFormula_31, K_readFormula_49, K_readFormula_32, K_readFormula_25, K_readFormula_15, K_readFormula_21, K_readFormula_19, K_readFormula_23, K_readFormula_22, K_readFormula_20, K_readFormula_17, K_readFormula_18, K_readFormula_16, K_readFormula_14, K_readFormula_5, K_readFormula_3, K_readFormula_2, K_readFormula_1, M_readFormula]
  simp only [if_neg (by omega : ¬ 400 < i.toInt), if_pos q, if_neg m, if_pos w, if_pos e, if_pos e2, if_neg e3, if_neg (by omega : ¬ dep.toInt ≤ 0)]
theorem C_no (q : fl.toInt = 0) (a : i.toInt ≤ 400) (m : more.toInt ≠ 0) (w : want.toInt = 0) (h : ¬ (kd.toInt = 3 ∧ (vl.toInt = 38 ∨ vl.toInt = 124 ∨ (vl.toInt = 41 ∧ 0 < dep.toInt)))) (k : Nat) : K_readFormula_L3 pt r n f (k + 1) i more want rf pn pl kd fr vl dep fl fp (G 0) (G 1) (G 2) (G 3) (G 4) (G 5) (G 6) (A 0) (A 1) (A 2) (A 3) (A 4) (A 5) (A 6) = K_readFormula_L3 pt r n f k (i + 1) 0 want rf pn pl kd fr vl dep fl fp (G 0) (G 1) (G 2) (G 3) (G 4) (G 5) (G 6) (A 0) (A 1) (A 2) (A 3) (A 4) (A 5) (A 6) := by
  have z38 : (38 : Int32).toInt = 38 := by decide
  have z124 : (124 : Int32).toInt = 124 := by decide
  have z41 : (41 : Int32).toInt = 41 := by decide
  simp only [K_readFormula_L3, K_readFormula_11, K_readFormula_9, K_readFormula_13, K_readFormula_12, K_readFormula_10, K_readFormula_7, K_readFormula_8, K_readFormula_6, K_readFormula_4, K_readFormula_28, K_readFormula_26, K_readFormula_30, K_readFormula_29, K_readFormula_27, K_readFormula_24, K_readFormula_40, K_readFormula_42, K_readFormula_45, K_readFormula_44, K_readFormula_43, K_readFormula_41, K_readFormula_39, K_readFormula_37, K_readFormula_47, K_readFormula_46, K_readFormula_38, K_readFormula_36, K_readFormula_34, K_readFormula_48, K_readFormula_35, K_readFormula_33, K_readFormula_31, K_readFormula_49, K_readFormula_32, K_readFormula_25, K_readFormula_15, K_readFormula_21, K_readFormula_19, K_readFormula_23, K_readFormula_22, K_readFormula_20, K_readFormula_17, K_readFormula_18, K_readFormula_16, K_readFormula_14, K_readFormula_5, K_readFormula_3, K_readFormula_2, K_readFormula_1, M_readFormula]
  have e : (M_isSign kd vl 38).toInt = 0 := by rw [t_isSign, if_neg (by omega)]; decide
  have e2 : (M_isSign kd vl 124).toInt = 0 := by rw [t_isSign, if_neg (by omega)]; decide
  simp only [if_neg (by omega : ¬ 400 < i.toInt), if_pos q, if_neg m, if_pos w, if_pos e, if_pos e2]
  by_cases e3 : (M_isSign kd vl 41).toInt = 0
  · simp only [if_pos e3]
  · have e4 : dep.toInt ≤ 0 := by
      rw [t_isSign] at e3
      by_cases z : kd.toInt = 3 ∧ vl.toInt = (41 : Int32).toInt
      · omega
      · rw [if_neg z] at e3
        exact absurd (by decide) e3
    simp only [if_neg e3, if_pos e4]
theorem C_last (q : fl.toInt = 0) (a : i.toInt ≤ 400) (m : more.toInt ≠ 0) (w : want.toInt = 0) (h : ¬ (kd.toInt = 3 ∧ (vl.toInt = 38 ∨ vl.toInt = 124 ∨ (vl.toInt = 41 ∧ 0 < dep.toInt)))) (k : Nat) : K_readFormula_L3 pt r n f (k + 2) i more want rf pn pl kd fr vl dep fl fp (G 0) (G 1) (G 2) (G 3) (G 4) (G 5) (G 6) (A 0) (A 1) (A 2) (A 3) (A 4) (A 5) (A 6) = if dep.toInt ≤ 0 then xFn pl kd fr vl dep fl fp rf pn pt r (M_joinAny dep (G 0) (G 1) (G 2) (G 3) (G 4) (G 5) (G 6) (A 0) (A 1) (A 2) (A 3) (A 4) (A 5) (A 6)) else xFn pl kd fr vl dep 2 fr rf pn pt r (M_joinAny dep (G 0) (G 1) (G 2) (G 3) (G 4) (G 5) (G 6) (A 0) (A 1) (A 2) (A 3) (A 4) (A 5) (A 6)) := by
  rw [show k + 2 = (k + 1) + 1 from rfl, C_no q a m w h, C_stop q (by decide)]
theorem U_left (q : fl.toInt = 0) (c : kd.toInt = 3) (v : vl.toInt = 40) (d : dep.toInt < 6) : M_takeUnit kd pl fr vl dep rf (G 0) (G 1) (G 2) (G 3) (G 4) (G 5) (G 6) (A 0) (A 1) (A 2) (A 3) (A 4) (A 5) (A 6) pn fl fp n f r = (fun z => (fun t => (1, t.1, t.2.1, t.2.2.1, t.2.2.2.1, dep + 1, t.2.2.2.2.1, t.2.2.2.2.2, rf, z.1, z.2.1, z.2.2.1, z.2.2.2.1, z.2.2.2.2.1, z.2.2.2.2.2.1, z.2.2.2.2.2.2.1, z.2.2.2.2.2.2.2.1, z.2.2.2.2.2.2.2.2.1, z.2.2.2.2.2.2.2.2.2.1, z.2.2.2.2.2.2.2.2.2.2.1, z.2.2.2.2.2.2.2.2.2.2.2.1, z.2.2.2.2.2.2.2.2.2.2.2.2.1, z.2.2.2.2.2.2.2.2.2.2.2.2.2, pn)) (M_step n f fl fp kd pl)) (M_openDepth (dep + 1) (G 1) (G 2) (G 3) (G 4) (G 5) (G 6) (A 1) (A 2) (A 3) (A 4) (A 5) (A 6) (A 0) (G 0)) := by
  have z40 : (40 : Int32).toInt = 40 := by decide
  have e : ¬ (M_isSign kd vl 40).toInt = 0 := by rw [t_isSign, if_pos ⟨c, by omega⟩]; decide
  simp only [K_takeUnit_18, K_takeUnit_12, K_takeUnit_17, K_takeUnit_16, K_takeUnit_15, K_takeUnit_14, K_takeUnit_13, K_takeUnit_11, K_takeUnit_10, K_takeUnit_8, K_takeUnit_20, K_takeUnit_19, K_takeUnit_9, K_takeUnit_7, K_takeUnit_5, K_takeUnit_21, K_takeUnit_6, K_takeUnit_3, K_takeUnit_25, K_takeUnit_24, K_takeUnit_22, K_takeUnit_26, K_takeUnit_23, K_takeUnit_4, K_takeUnit_2, K_takeUnit_1, M_takeUnit]
  simp only [if_neg e, if_pos d]
theorem U_deep (q : fl.toInt = 0) (c : kd.toInt = 3) (v : vl.toInt = 40) (d : 6 ≤ dep.toInt) : M_takeUnit kd pl fr vl dep rf (G 0) (G 1) (G 2) (G 3) (G 4) (G 5) (G 6) (A 0) (A 1) (A 2) (A 3) (A 4) (A 5) (A 6) pn fl fp n f r = (1, pl, kd, fr, vl, dep, 5, fr, rf, G 0, G 1, G 2, G 3, G 4, G 5, G 6, A 0, A 1, A 2, A 3, A 4, A 5, A 6, pn) := by
  have z40 : (40 : Int32).toInt = 40 := by decide
  have e : ¬ (M_isSign kd vl 40).toInt = 0 := by rw [t_isSign, if_pos ⟨c, by omega⟩]; decide
  simp only [K_takeUnit_18, K_takeUnit_12, K_takeUnit_17, K_takeUnit_16, K_takeUnit_15, K_takeUnit_14, K_takeUnit_13, K_takeUnit_11, K_takeUnit_10, K_takeUnit_8, K_takeUnit_20, K_takeUnit_19, K_takeUnit_9, K_takeUnit_7, K_takeUnit_5, K_takeUnit_21, K_takeUnit_6, K_takeUnit_3, K_takeUnit_25, K_takeUnit_24, K_takeUnit_22, K_takeUnit_26, K_takeUnit_23, K_takeUnit_4, K_takeUnit_2, K_takeUnit_1, M_takeUnit, t_refuse q]
  simp only [if_neg e, if_neg (by omega : ¬ dep.toInt < 6)]
theorem U_other (q : fl.toInt = 0) (c : ¬ (kd.toInt = 3 ∧ vl.toInt = 40)) (c1 : ¬ kd.toInt = 1) : M_takeUnit kd pl fr vl dep rf (G 0) (G 1) (G 2) (G 3) (G 4) (G 5) (G 6) (A 0) (A 1) (A 2) (A 3) (A 4) (A 5) (A 6) pn fl fp n f r = (0, pl, kd, fr, vl, dep, 2, fr, rf, G 0, G 1, G 2, G 3, G 4, G 5, G 6, A 0, A 1, A 2, A 3, A 4, A 5, A 6, pn) := by
  have z40 : (40 : Int32).toInt = 40 := by decide
  have e : (M_isSign kd vl 40).toInt = 0 := by rw [t_isSign, if_neg (by omega)]; decide
  simp only [K_takeUnit_18, K_takeUnit_12, K_takeUnit_17, K_takeUnit_16, K_takeUnit_15, K_takeUnit_14, K_takeUnit_13, K_takeUnit_11, K_takeUnit_10, K_takeUnit_8, K_takeUnit_20, K_takeUnit_19, K_takeUnit_9, K_takeUnit_7, K_takeUnit_5, K_takeUnit_21, K_takeUnit_6, K_takeUnit_3, K_takeUnit_25, K_takeUnit_24, K_takeUnit_22, K_takeUnit_26, K_takeUnit_23, K_takeUnit_4, K_takeUnit_2, K_takeUnit_1, M_takeUnit, t_refuse q]
  simp only [if_pos e, if_neg c1]
theorem U_key (c1 : kd.toInt = 1) (w : xW6 f fr pl) : M_takeUnit kd pl fr vl dep rf (G 0) (G 1) (G 2) (G 3) (G 4) (G 5) (G 6) (A 0) (A 1) (A 2) (A 3) (A 4) (A 5) (A 6) pn fl fp n f r = (fun z => (fun t => (0, t.1, t.2.1, t.2.2.1, t.2.2.2.1, dep, t.2.2.2.2.1, t.2.2.2.2.2, rf, G 0, G 1, G 2, G 3, G 4, G 5, G 6, z.1, z.2.1, z.2.2.1, z.2.2.2.1, z.2.2.2.2.1, z.2.2.2.2.2.1, z.2.2.2.2.2.2.1, z.2.2.2.2.2.2.2)) (M_step n f fl fp kd pl)) (M_joinPart 8 dep (A 0) (A 1) (A 2) (A 3) (A 4) (A 5) (A 6) pn r) := by
  have e : (M_isSign kd vl 40).toInt = 0 := by rw [t_isSign, if_neg (by omega)]; decide
  have i6 : ¬ (M_isWord kd pl fr 3 f 6).toInt = 0 := by rw [w_key, if_pos ⟨c1, w⟩]; decide
  simp only [K_takeUnit_18, K_takeUnit_12, K_takeUnit_17, K_takeUnit_16, K_takeUnit_15, K_takeUnit_14, K_takeUnit_13, K_takeUnit_11, K_takeUnit_10, K_takeUnit_8, K_takeUnit_20, K_takeUnit_19, K_takeUnit_9, K_takeUnit_7, K_takeUnit_5, K_takeUnit_21, K_takeUnit_6, K_takeUnit_3, K_takeUnit_25, K_takeUnit_24, K_takeUnit_22, K_takeUnit_26, K_takeUnit_23, K_takeUnit_4, K_takeUnit_2, K_takeUnit_1, M_takeUnit]
  simp only [if_pos e, if_pos c1, if_neg i6]
end
