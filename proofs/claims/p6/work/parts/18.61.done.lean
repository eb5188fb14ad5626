theorem b_done {w : Nat → Int32} {e : Int32} : ∀ (m : Nat) (nc nw : Int32) (c : Nat → Int32) (k : Nat), nw.toInt = (m : Int) → 0 ≤ nc.toInt → nc.toInt + nw.toInt ≤ 400 → (∀ j, j < m → 9 ≤ (w j).toInt) → xwk c nc.toNatClampNeg → (∀ s, s < 512 → zdp e.toInt (xwl w m) (xev c s nc.toNatClampNeg)) →
    ∃ (nc' nw' : Int32) (c' : Nat → Int32), K_m_done_L2 w e (k + m + 1) nc nw c = (nc', nw', c') ∧ 0 ≤ nw'.toInt ∧ nw'.toInt ≤ nw.toInt ∧ nc'.toInt + nw'.toInt = nc.toInt + nw.toInt ∧ xwk c' nc'.toNatClampNeg ∧ (∀ s, s < 512 → (xwl w nw'.toNatClampNeg, xev c' s nc'.toNatClampNeg) = xdn e.toInt (xwl w m) (xev c s nc.toNatClampNeg)) ∧ (∀ j : Nat, (j : Int) < nc.toInt → c' j = c j) ∧ (∀ j : Nat, nc.toInt ≤ (j : Int) → (j : Int) < nc'.toInt → (c' j).toInt ≠ 12 ∧ ∃ i, i < m ∧ c' j = w i) := by
  intro m
  induction m with
  | zero =>
    intro nc nw c k h0 h1 h2 h3 h4 h5
    have z : nw.toNatClampNeg = 0 := by
      have := xtn (x := nw) (by omega)
      omega
    refine ⟨nc, nw, c, ?_, by omega, by omega, rfl, h4, fun s _ => ?_, fun j _ => rfl, fun j h1 h2 => absurd h2 (by omega)⟩
    · simp only [K_m_done_L2, K_m_done_3, K_m_done_5, K_m_done_7, K_m_done_8, K_m_done_6, K_m_done_4, K_m_done_2, K_m_done_1, M_m_done]
      rw [if_pos (by omega)]
    · rw [z]
      rfl
  | succ m ih =>
    intro nc nw c k h0 h1 h2 h3 h4 h5
    have e1 : (nw - 1).toInt = nw.toInt - 1 := xsub rfl (by decide) (by omega) (by omega)
    have e2 : (nc + 1).toInt = nc.toInt + 1 := xadd rfl (by decide) (by omega) (by omega)
    have w1 : (nw - 1).toNatClampNeg = m := by
      have := xtn (x := nw - 1) (by omega)
      omega
    have w2 : (nc + 1).toNatClampNeg = nc.toNatClampNeg + 1 := by
      have := xtn (x := nc + 1) (by omega)
      have := xtn (x := nc) (by omega)
      omega
    have z : nw.toNatClampNeg = m + 1 := by
      have := xtn (x := nw) (by omega)
      omega
    have h9 := h3 m (by omega)
    have go : K_m_done_L2 w e (k + (m + 1) + 1) nc nw c = if (w m).toInt = 12 then (nc, nw, c) else if e.toInt < (w m).toInt then (nc, nw, c) else K_m_done_L2 w e (k + m + 1) (nc + 1) (nw - 1) (upd c nc.toNatClampNeg (w m)) := by
      show K_m_done_L2 w e ((k + m + 1) + 1) nc nw c = _
      generalize k + m + 1 = j
      simp only [K_m_done_L2, K_m_done_3, K_m_done_5, K_m_done_7, K_m_done_8, K_m_done_6, K_m_done_4, K_m_done_2, K_m_done_1, M_m_done, w1]
      rw [if_neg (by omega)]
    by_cases q : (w m).toInt = 12
    · refine ⟨nc, nw, c, by rw [go, if_pos q], by omega, by omega, rfl, h4, fun s _ => ?_, fun j _ => rfl, fun j h1 h2 => absurd h2 (by omega)⟩
      rw [z, xwl, xdn, if_neg (by omega)]
    · by_cases q2 : e.toInt < (w m).toInt
      · refine ⟨nc, nw, c, by rw [go, if_neg q, if_pos q2], by omega, by omega, rfl, h4, fun s _ => ?_, fun j _ => rfl, fun j h1 h2 => absurd h2 (by omega)⟩
        rw [z, xwl, xdn, if_neg (by omega)]
      · have h6 : ∀ s, s < 512 → (∃ y b t, xev c s nc.toNatClampNeg = y :: b :: t) ∧ zdp e.toInt (xwl w m) (xap (w m).toInt (xev c s nc.toNatClampNeg)) := fun s hs => h5 s hs q (by omega)
        have ev1 : ∀ s, xev (upd c nc.toNatClampNeg (w m)) s (nc.toNatClampNeg + 1) = xap (w m).toInt (xev c s nc.toNatClampNeg) := fun s => by rw [xev_put, if_neg (by omega)]
        have wk1 : xwk (upd c nc.toNatClampNeg (w m)) (nc.toNatClampNeg + 1) := by
          intro j hj h9 s hs
          by_cases y : j = nc.toNatClampNeg
          · rw [y, xev_ext (c' := c) (fun i hi => xupd_o (by omega))]
            exact (h6 s hs).1
          · rw [xev_ext (c' := c) (fun i hi => xupd_o (by omega))]
            rw [xupd_o y] at h9
            exact h4 j (by omega) h9 s hs
        obtain ⟨nc', nw', c', a1, a2, a3, a4, a5, a6, a7, a8⟩ := ih (nc + 1) (nw - 1) (upd c nc.toNatClampNeg (w m)) k (by omega) (by omega) (by omega) (fun j hj => h3 j (by omega)) (by rw [w2]; exact wk1) (fun s hs => by rw [w2, ev1]; exact (h6 s hs).2)
        refine ⟨nc', nw', c', by rw [go, if_neg q, if_neg q2, a1], a2, by omega, by omega, a5, fun s hs => ?_, fun j hj => ?_, fun j j1 j2 => ?_⟩
        · rw [a6 s hs, w2, ev1, show xwl w (m + 1) = (w m).toInt :: xwl w m from rfl, show xdn e.toInt ((w m).toInt :: xwl w m) (xev c s nc.toNatClampNeg) = xdn e.toInt (xwl w m) (xap (w m).toInt (xev c s nc.toNatClampNeg)) from by rw [xdn, if_pos ⟨q, by omega⟩]]
        · have := xtn (x := nc) (by omega)
          rw [a7 j (by omega), xupd_o (by omega)]
        · have := xtn (x := nc) (by omega)
          by_cases y : j = nc.toNatClampNeg
          · rw [a7 j (by omega), y, xupd_s]
            exact ⟨q, m, by omega, rfl⟩
          · obtain ⟨b1, i, b2, b3⟩ := a8 j (by omega) j2
            exact ⟨b1, i, by omega, b3⟩
/-- what is piled up, the top first -/
def xpl (p : Nat → Int32) : Nat → List Bool
  | 0 => []
  | n + 1 => (!decide ((p n).toInt = 0)) :: xpl p n
theorem xpl_ext {p p' : Nat → Int32} {n : Nat} (h : ∀ j, j < n → p j = p' j) : xpl p n = xpl p' n := by
  induction n with
  | zero => rfl
  | succ n ih => rw [xpl, xpl, h n (by omega), ih (fun j hj => h j (by omega))]
theorem xpl_put {p : Nat → Int32} {n : Nat} {x : Int32} : xpl (upd p n x) (n + 1) = (!decide (x.toInt = 0)) :: xpl p n := by
  rw [xpl, xupd_s, xpl_ext (p' := p) (fun j hj => xupd_o (by omega))]
