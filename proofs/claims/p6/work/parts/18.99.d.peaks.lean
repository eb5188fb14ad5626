theorem y_max {a b : Int32} : (if a < b then b else a) = if b.toInt ≤ a.toInt then a else b := by
  have e : a < b ↔ a.toInt < b.toInt := ilt rfl rfl
  by_cases z : b.toInt ≤ a.toInt
  · rw [if_pos z, if_neg (fun y => by have := e.mp y; omega)]
  · rw [if_neg z, if_pos (e.mpr (by omega))]
theorem y_min {a b : Int32} : (if a < b then a else b) = if b.toInt ≤ a.toInt then b else a := by
  have e : a < b ↔ a.toInt < b.toInt := ilt rfl rfl
  by_cases z : b.toInt ≤ a.toInt
  · rw [if_pos z, if_neg (fun y => by have := e.mp y; omega)]
  · rw [if_neg z, if_pos (e.mpr (by omega))]
/-- the times matter at those that come up alone -/
theorem yM_k {q : Nat} {P : Nat → Bool} {pt : Nat → Int64} {w k v : Nat → Nat} (h : ∀ x, x < q → P x = true → k x = v x) : ∀ t, t ≤ 100000 → yM q P pt w k t = yM q P pt w v t := by
  intro t
  induction t with
  | zero => exact fun _ => rfl
  | succ t ih =>
    intro ht
    have i9 := ih (by omega)
    show yN q P pt w k t (yM q P pt w k t) = yN q P pt w v t (yM q P pt w v t)
    rw [i9]
    have hlt := yM_lt (q := q) (P := P) (pt := pt) (w := w) (k := v) t
    generalize yM q P pt w v t = M at hlt
    have e : yG w k M = yG w v M := funext (fun x => by
      unfold yG
      by_cases z : M x = 100000
      · rw [if_pos z, if_pos z]
      · obtain ⟨-, y1, y2⟩ := (hlt x).resolve_left z
        rw [if_neg z, if_neg z, h x y1 y2])
    unfold yN
    rw [e]
theorem yT_k {q : Nat} {pt : Nat → Int64} {d : Int32} {w k v : Nat → Nat} (h : ∀ x, x < q → (yX q pt d).testBit x = true → k x = v x) : yT q pt d w k = yT q pt d w v := yM_k h 201 (by decide)
theorem yGT_k {q : Nat} {pt : Nat → Int64} {d : Int32} {w k v : Nat → Nat} (h : ∀ x, x < q → (yX q pt d).testBit x = true → k x = v x) : yGT q pt d k w = yGT q pt d v w := by
  have e := yT_k (w := w) h
  have hlt := yM_lt (q := q) (P := fun x => (yX q pt d).testBit x) (pt := pt) (w := w) (k := v) 201
  rw [show yM q (fun x => (yX q pt d).testBit x) pt w v 201 = yT q pt d w v from rfl] at hlt
  unfold yGT
  rw [e]
  funext x
  unfold yG
  by_cases z : yT q pt d w v x = 100000
  · rw [if_pos z, if_pos z]
  · obtain ⟨-, y1, y2⟩ := (hlt x).resolve_left z
    rw [if_neg z, if_neg z, h x y1 y2]
theorem yPT_k {q : Nat} {pt : Nat → Int64} {d : Int32} {w k v : Nat → Nat} {n3 n4 : Nat → Int32} (h : ∀ x, x < q → (yX q pt d).testBit x = true → k x = v x) : yPT q pt d k n3 n4 w = yPT q pt d v n3 n4 w := by
  have e : yDr q pt d k n3 n4 w = yDr q pt d v n3 n4 w := by
    funext t
    unfold yDr
    rw [yT_k h, yGT_k h]
  unfold yPT
  rw [e]
/-- the highest, or the lowest, of the first N ways -/
def yUp (Z : Nat → Bool) (lo hi : Nat → Nat) (q : Nat) (val : (Nat → Nat) → Int32) (N : Nat) (g : Int32) : Prop := (∃ v, yBx q lo hi v ∧ yRk Z lo hi v q < N ∧ val v = g) ∧ ∀ v, yBx q lo hi v → yRk Z lo hi v q < N → (val v).toInt ≤ g.toInt
def yDn (Z : Nat → Bool) (lo hi : Nat → Nat) (q : Nat) (val : (Nat → Nat) → Int32) (N : Nat) (g : Int32) : Prop := (∃ v, yBx q lo hi v ∧ yRk Z lo hi v q < N ∧ val v = g) ∧ ∀ v, yBx q lo hi v → yRk Z lo hi v q < N → g.toInt ≤ (val v).toInt
def yTop (lo hi : Nat → Nat) (q : Nat) (val : (Nat → Nat) → Int32) (g : Int32) : Prop := (∃ v, yBx q lo hi v ∧ val v = g) ∧ ∀ v, yBx q lo hi v → (val v).toInt ≤ g.toInt
def yBot (lo hi : Nat → Nat) (q : Nat) (val : (Nat → Nat) → Int32) (g : Int32) : Prop := (∃ v, yBx q lo hi v ∧ val v = g) ∧ ∀ v, yBx q lo hi v → g.toInt ≤ (val v).toInt
section
variable {Z : Nat → Bool} {lo hi u : Nat → Nat} {q N : Nat} {val : (Nat → Nat) → Int32} {g h : Int32}
theorem yUp_0 (dep : ∀ v v' : Nat → Nat, (∀ j, j < q → Z j = true → v j = v' j) → val v = val v') (hu : yBx q lo hi u) (e : yRk Z lo hi u q = 0) : yUp Z lo hi q val 1 (val u) := ⟨⟨u, hu, by omega, rfl⟩, fun v hv l => by
  rw [dep v u (yRk_inj q hv hu (by omega))]
  exact Int.le_refl _⟩
theorem yDn_0 (dep : ∀ v v' : Nat → Nat, (∀ j, j < q → Z j = true → v j = v' j) → val v = val v') (hu : yBx q lo hi u) (e : yRk Z lo hi u q = 0) : yDn Z lo hi q val 1 (val u) := ⟨⟨u, hu, by omega, rfl⟩, fun v hv l => by
  rw [dep v u (yRk_inj q hv hu (by omega))]
  exact Int.le_refl _⟩
theorem yUp_st (dep : ∀ v v' : Nat → Nat, (∀ j, j < q → Z j = true → v j = v' j) → val v = val v') (hu : yBx q lo hi u) (e : yRk Z lo hi u q = N) (hh : yUp Z lo hi q val N g) : yUp Z lo hi q val (N + 1) (if (val u).toInt ≤ g.toInt then g else val u) := by
  obtain ⟨⟨v, v1, v2, v3⟩, a⟩ := hh
  by_cases c : (val u).toInt ≤ g.toInt
  · rw [if_pos c]
    refine ⟨⟨v, v1, by omega, v3⟩, fun x hx l => ?_⟩
    by_cases y : yRk Z lo hi x q = N
    · rw [dep x u (yRk_inj q hx hu (by omega))]
      exact c
    · exact a x hx (by omega)
  · rw [if_neg c]
    refine ⟨⟨u, hu, by omega, rfl⟩, fun x hx l => ?_⟩
    by_cases y : yRk Z lo hi x q = N
    · rw [dep x u (yRk_inj q hx hu (by omega))]
      exact Int.le_refl _
    · have := a x hx (by omega)
      omega
theorem yDn_st (dep : ∀ v v' : Nat → Nat, (∀ j, j < q → Z j = true → v j = v' j) → val v = val v') (hu : yBx q lo hi u) (e : yRk Z lo hi u q = N) (hh : yDn Z lo hi q val N g) : yDn Z lo hi q val (N + 1) (if g.toInt ≤ (val u).toInt then g else val u) := by
  obtain ⟨⟨v, v1, v2, v3⟩, a⟩ := hh
  by_cases c : g.toInt ≤ (val u).toInt
  · rw [if_pos c]
    refine ⟨⟨v, v1, by omega, v3⟩, fun x hx l => ?_⟩
    by_cases y : yRk Z lo hi x q = N
    · rw [dep x u (yRk_inj q hx hu (by omega))]
      exact c
    · exact a x hx (by omega)
  · rw [if_neg c]
    refine ⟨⟨u, hu, by omega, rfl⟩, fun x hx l => ?_⟩
    by_cases y : yRk Z lo hi x q = N
    · rw [dep x u (yRk_inj q hx hu (by omega))]
      exact Int.le_refl _
    · have := a x hx (by omega)
      omega
theorem yUp_all (hh : yUp Z lo hi q val (yPz Z lo hi q) g) : yTop lo hi q val g := by
  obtain ⟨⟨v, v1, -, v3⟩, a⟩ := hh
  exact ⟨⟨v, v1, v3⟩, fun x hx => a x hx (yRk_lt q hx)⟩
theorem yDn_all (hh : yDn Z lo hi q val (yPz Z lo hi q) g) : yBot lo hi q val g := by
  obtain ⟨⟨v, v1, -, v3⟩, a⟩ := hh
  exact ⟨⟨v, v1, v3⟩, fun x hx => a x hx (yRk_lt q hx)⟩
theorem yTop_one (a : yTop lo hi q val g) (b : yTop lo hi q val h) : g = h := by
  obtain ⟨⟨v, v1, v2⟩, a1⟩ := a
  obtain ⟨⟨x, x1, x2⟩, b1⟩ := b
  have l1 := b1 v v1
  have l2 := a1 x x1
  rw [v2] at l1
  rw [x2] at l2
  exact Int32.toInt_inj.mp (by omega)
theorem yBot_one (a : yBot lo hi q val g) (b : yBot lo hi q val h) : g = h := by
  obtain ⟨⟨v, v1, v2⟩, a1⟩ := a
  obtain ⟨⟨x, x1, x2⟩, b1⟩ := b
  have l1 := b1 v v1
  have l2 := a1 x x1
  rw [v2] at l1
  rw [x2] at l2
  exact Int32.toInt_inj.mp (by omega)
end
/-- the peak of a way -/
def yPv (q : Nat) (pt : Nat → Int64) (d : Int32) (pn Td : Nat → Int32) (u : Nat → Nat) : Int32 := (yPT q pt d u (fun x => pn (8 * x + 3)) (fun x => pn (8 * x + 4)) (yw Td)).1
theorem yPv_pos {q : Nat} {pt : Nat → Int64} {d : Int32} {pn Td : Nat → Int32} {u : Nat → Nat} (q8 : q ≤ 8) (hn : ∀ j, j < 64 → 0 ≤ (pn j).toInt ∧ (pn j).toInt ≤ 511) : 0 ≤ (yPv q pt d pn Td u).toInt := by
  have z : ∀ t, 0 ≤ (yDr q pt d u (fun x => pn (8 * x + 3)) (fun x => pn (8 * x + 4)) (yw Td) t).toInt := fun t => (yD_rng q q8 (fun y hy => by
    unfold yV
    split
    · exact hn _ (by omega)
    · split
      · exact hn _ (by omega)
      · exact ⟨by decide, by decide⟩)).1
  have a := yPk_ge (D := yDr q pt d u (fun x => pn (8 * x + 3)) (fun x => pn (8 * x + 4)) (yw Td)) 200
  have b := z 200
  unfold yPv yPT
  omega
/-- one way of the class -/
theorem t_way {pn Td Nm Tb D fw f fr fg cx : Nat → Int32} {u : Nat → Nat} {pt : Nat → Int64} {q : Nat} {d : Int32} (q8 : q ≤ 8) (hE : xE true q pn pt Td Nm Tb) (hd : xDd d D) (hn : ∀ j, j < 64 → 0 ≤ (pn j).toInt ∧ (pn j).toInt ≤ 511) (hw : ∀ j, j < q → fw j = nI (yw Td j) ∧ yw Td j ≤ 9) (hf : ∀ j, j < q → f j = nI (u j) ∧ 1 ≤ u j ∧ u j ≤ 9) (hz : ∀ j, j ≤ 144 → cx j = 0) : ∃ (L pt2 : Int32) (fr' fg' cx' : Nat → Int32), M_follow (nI q) (nI (yX q pt d)) fw f pt fr fg = (nI (yX q pt d), L, fr', fg') ∧ M_findPeak (nI q) L fg' fr' pn (nI (yX q pt d)) cx = (yPv q pt d pn Td u, pt2, cx') ∧ (∀ j, j ≤ 144 → cx' j = 0) ∧ ∀ x, x < q → (yX q pt d).testBit x = true → fg' x = nI (yGT q pt d u (yw Td) x) ∧ yGT q pt d u (yw Td) x ≤ 144 := by
  have ma := y_mayX (q := q) (pt := pt) (d := d) q8
  obtain ⟨fr', fg', F, G, p1, -, -, p4, -, p6, -⟩ := y_pair (fw := fw) (ft := f) (Fw := fun j => nI (yw Td j)) (Fb := fun j => nI (u j)) (fr := fr) (fg := fg) (Fm := fr) (Fg := fg) (w := yw Td) (k := u) q8 hE hd hn (fun j hj => ⟨(hw j hj).1, rfl, (hw j hj).2⟩) (fun j hj => ⟨(hf j hj).1, rfl, (hf j hj).2⟩) ma.1 ma.2
  obtain ⟨cx', c1, c2⟩ := p6 cx hz
  exact ⟨_, _, fr', fg', cx', p1, c1, c2, fun x hx hb9 => ⟨(p4 x hx hb9).1.trans (p4 x hx hb9).2.1, (p4 x hx hb9).2.2⟩⟩
/-- one way of the reference -/
theorem r_way {pn Td Nm Tb D Fw f Fm Fg : Nat → Int32} {u : Nat → Nat} {pt : Nat → Int64} {q : Nat} {d : Int32} (q8 : q ≤ 8) (hE : xE true q pn pt Td Nm Tb) (hd : xDd d D) (hn : ∀ j, j < 64 → 0 ≤ (pn j).toInt ∧ (pn j).toInt ≤ 511) (hw : ∀ j, j < q → Fw j = nI (yw Td j) ∧ yw Td j ≤ 9) (hf : ∀ j, j < q → f j = nI (u j) ∧ 1 ≤ u j ∧ u j ≤ 9) : ∃ (pt2 : Int32) (F G : Nat → Int32), M_m_findTimes (nI q) Fw f Tb Fm Fg D = (nI (yX q pt d), F, G) ∧ (∀ pa : Int32, M_m_peakNow (nI q) Td G F Fw pa = (yPv q pt d pn Td u, pt2)) ∧ ∀ x, x < q → (yX q pt d).testBit x = true → G x = nI (yGT q pt d u (yw Td) x) ∧ yGT q pt d u (yw Td) x ≤ 144 := by
  have ma := y_mayX (q := q) (pt := pt) (d := d) q8
  obtain ⟨fr', fg', F, G, -, p2, -, p4, -, -, p7⟩ := y_pair (fw := fun j => nI (yw Td j)) (ft := fun j => nI (u j)) (Fw := Fw) (Fb := f) (fr := Fm) (fg := Fg) (Fm := Fm) (Fg := Fg) (w := yw Td) (k := u) q8 hE hd hn (fun j hj => ⟨rfl, (hw j hj).1, (hw j hj).2⟩) (fun j hj => ⟨rfl, (hf j hj).1, (hf j hj).2⟩) ma.1 ma.2
  refine ⟨(yPT q pt d u (fun x => pn (8 * x + 3)) (fun x => pn (8 * x + 4)) (yw Td)).2, F, G, p2, fun pa => ?_, fun x hx hb9 => (p4 x hx hb9).2⟩
  rw [p7 pa]
  unfold yPv
  generalize yPT q pt d u (fun x => pn (8 * x + 3)) (fun x => pn (8 * x + 4)) (yw Td) = R
  rfl
theorem fpk_in {pn Td Nm Tb D fw : Nat → Int32} {pt : Nat → Int64} {q : Nat} {d : Int32} (q8 : q ≤ 8) (hE : xE true q pn pt Td Nm Tb) (hd : xDd d D) (hn : ∀ j, j < 64 → 0 ≤ (pn j).toInt ∧ (pn j).toInt ≤ 511) (ht : xTD Td q) (hw : ∀ j, j < q → fw j = nI (yw Td j) ∧ yw Td j ≤ 9) : ∀ (m c kk : Nat) (u : Nat → Nat) (gp lp e1 e2 e3 e4 : Int32) (fr fg cx f : Nat → Int32), c + m + 1 ≤ 20000 → yBx q (ylo Td) (yhi Td) u → (∀ j, j < q → f j = nI (u j)) → (∀ j, j ≤ 144 → cx j = 0) → yRk (fun j => (yX q pt d).testBit j) (ylo Td) (yhi Td) u q = c → c + m + 1 = yPz (fun j => (yX q pt d).testBit j) (ylo Td) (yhi Td) q → yUp (fun j => (yX q pt d).testBit j) (ylo Td) (yhi Td) q (yPv q pt d pn Td) c gp → yDn (fun j => (yX q pt d).testBit j) (ylo Td) (yhi Td) q (yPv q pt d pn Td) c lp → ∃ (gp' lp' e1' e2' e3' e4' : Int32) (f' fr' fg' cx' : Nat → Int32), K_findPeaks_L9 fw (nI q) (nI (yX q pt d)) pn pt (kk + m + 2) (nI c) 1 fr fg cx gp lp e1 e2 e3 e4 f = (1, gp', lp', e1', e2', e3', e4', fw, f', fr', fg', cx') ∧ yTop (ylo Td) (yhi Td) q (yPv q pt d pn Td) gp' ∧ yBot (ylo Td) (yhi Td) q (yPv q pt d pn Td) lp' ∧ ∀ j, j ≤ 144 → cx' j = 0 := by
  obtain ⟨gp9, g9, g1⟩ := y_lh hE ht
  have dep : ∀ v v' : Nat → Nat, (∀ j, j < q → (fun j => (yX q pt d).testBit j) j = true → v j = v' j) → yPv q pt d pn Td v = yPv q pt d pn Td v' := fun v v' h => by
    unfold yPv
    rw [yPT_k h]
  have dn : ∀ (n c : Nat) (gp lp e1 e2 e3 e4 : Int32) (fr fg cx f : Nat → Int32), c ≤ 20000 → K_findPeaks_L9 fw (nI q) (nI (yX q pt d)) pn pt (n + 1) (nI c) 0 fr fg cx gp lp e1 e2 e3 e4 f = (1, gp, lp, e1, e2, e3, e4, fw, f, fr, fg, cx) := fun n c gp lp e1 e2 e3 e4 fr fg cx f hc => by
    have ec : (nI c).toInt = (c : Int) := nI_toInt (by omega)
    simp only [K_findPeaks_L9, K_findPeaks_9, K_findPeaks_10, K_findPeaks_11, K_findPeaks_12]
    by_cases z : 20000 ≤ (nI c).toInt
    · rw [if_pos z]
    · rw [if_neg z, if_pos (by decide)]
  have st : ∀ (n c : Nat) (u : Nat → Nat) (gp lp e1 e2 e3 e4 : Int32) (fr fg cx f : Nat → Int32), c < 20000 → yBx q (ylo Td) (yhi Td) u → (∀ j, j < q → f j = nI (u j)) → (∀ j, j ≤ 144 → cx j = 0) → ∃ (u' : Nat → Nat) (g e1' e2' e3' e4' : Int32) (f' fr' fg' cx' : Nat → Int32), K_findPeaks_L9 fw (nI q) (nI (yX q pt d)) pn pt (n + 1) (nI c) 1 fr fg cx gp lp e1 e2 e3 e4 f = K_findPeaks_L9 fw (nI q) (nI (yX q pt d)) pn pt n (nI (c + 1)) g fr' fg' cx' (if (yPv q pt d pn Td u).toInt ≤ gp.toInt then gp else yPv q pt d pn Td u) (if lp.toInt ≤ (yPv q pt d pn Td u).toInt then lp else yPv q pt d pn Td u) e1' e2' e3' e4' f' ∧ (∀ j, j < q → f' j = nI (u' j)) ∧ yBx q (ylo Td) (yhi Td) u' ∧ (∀ j, j ≤ 144 → cx' j = 0) ∧ yNx (fun j => (yX q pt d).testBit j) (ylo Td) (yhi Td) q 0 u u' g := fun n c u gp lp e1 e2 e3 e4 fr fg cx f hc hu hf hz => by
    have ec : (nI c).toInt = (c : Int) := nI_toInt (by omega)
    obtain ⟨L, pt2, fr', fg', cx', a1, a2, a3, -⟩ := t_way (fr := fr) (fg := fg) (cx := cx) (f := f) (u := u) q8 hE hd hn hw (fun j hj => ⟨hf j hj, by have := g1 j hj; have := hu j hj; omega, by have := (g9 j hj).2.2.2; have := hu j hj; omega⟩) hz
    obtain ⟨u', f', g, b1, b2, b3, b4⟩ := t_nextWay (X := yX q pt d) (f := f) q8 gp9 hu hf
    refine ⟨u', g, nI (yX q pt d), L, yPv q pt d pn Td u, pt2, f', fr', fg', cx', ?_, b2, b3, a3, b4⟩
    generalize yPv q pt d pn Td u = P at a2 ⊢
    simp only [K_findPeaks_L9, K_findPeaks_9, K_findPeaks_11, K_findPeaks_13, K_findPeaks_14, K_findPeaks_15, K_findPeaks_16]
    rw [if_neg (by omega), if_neg (by decide), a1]
    dsimp only
    rw [a2]
    dsimp only
    rw [b1, y_max, y_min, nI_1]
  intro m
  induction m with
  | zero =>
    intro c kk u gp lp e1 e2 e3 e4 fr fg cx f hc hu hf hz hr hm hU hD
    obtain ⟨u', g, e1', e2', e3', e4', f', fr', fg', cx', s1, s2, s3, s4, s5⟩ := st (kk + 1) c u gp lp e1 e2 e3 e4 fr fg cx f (by omega) hu hf hz
    have nU := yUp_st dep hu hr hU
    have nD := yDn_st dep hu hr hD
    rcases yRk_next (fun j hj => (g9 j hj).2.2.1) hu s5 with ⟨g0, r0⟩ | ⟨-, r0⟩
    · rw [g0, dn kk (c + 1) _ _ _ _ _ _ _ _ _ _ (by omega)] at s1
      rw [show c + 1 = yPz (fun j => (yX q pt d).testBit j) (ylo Td) (yhi Td) q from by omega] at nU nD
      exact ⟨_, _, _, _, _, _, _, _, _, _, s1, yUp_all nU, yDn_all nD, s4⟩
    · have := yRk_lt (Z := fun j => (yX q pt d).testBit j) q s3
      omega
  | succ m ih =>
    intro c kk u gp lp e1 e2 e3 e4 fr fg cx f hc hu hf hz hr hm hU hD
    obtain ⟨u', g, e1', e2', e3', e4', f', fr', fg', cx', s1, s2, s3, s4, s5⟩ := st (kk + m + 2) c u gp lp e1 e2 e3 e4 fr fg cx f (by omega) hu hf hz
    have nU := yUp_st dep hu hr hU
    have nD := yDn_st dep hu hr hD
    rcases yRk_next (fun j hj => (g9 j hj).2.2.1) hu s5 with ⟨-, r0⟩ | ⟨g1, r0⟩
    · omega
    · rw [g1] at s1
      obtain ⟨gp', lp', x1, x2, x3, x4, y1, y2, y3, y4, z1, z2⟩ := ih (c + 1) kk u' _ _ e1' e2' e3' e4' fr' fg' cx' f' (by omega) s3 s2 s4 (by omega) (by omega) nU nD
      exact ⟨gp', lp', x1, x2, x3, x4, y1, y2, y3, y4, s1.trans z1, z2⟩
/-- the peaks of all ways: the class -/
theorem t_findPeaks {pn Td Nm Tb D fw ft fr fg cx : Nat → Int32} {pt : Nat → Int64} {q : Nat} {d s0 gp0 lp0 cup cl cpk cpt : Int32} (q8 : q ≤ 8) (hE : xE true q pn pt Td Nm Tb) (hd : xDd d D) (hn : ∀ j, j < 64 → 0 ≤ (pn j).toInt ∧ (pn j).toInt ≤ 511) (ht : xTD Td q) (hz : ∀ j, j ≤ 144 → cx j = 0) (hs : M_upAmong (nI q) s0 pt = nI (yX q pt d)) (hW : yPz (fun _ => true) (ylo Td) (yhi Td) q ≤ 20000) : ∃ (gp' lp' e1' e2' e3' e4' : Int32) (fw' ft' fr' fg' cx' : Nat → Int32), M_findPeaks 0 (nI q) pn pt cx fr fg ft fw s0 gp0 lp0 cup cl cpk cpt = (1, gp', lp', e1', e2', e3', e4', fw', ft', fr', fg', cx') ∧ yTop (ylo Td) (yhi Td) q (yPv q pt d pn Td) gp' ∧ yBot (ylo Td) (yhi Td) q (yPv q pt d pn Td) lp' ∧ ∀ j, j ≤ 144 → cx' j = 0 := by
  obtain ⟨gp9, g9, g1⟩ := y_lh hE ht
  have le := yPz_le (Z := fun j => (yX q pt d).testBit j) (lo := ylo Td) (hi := yhi Td) q
  have dep : ∀ v v' : Nat → Nat, (∀ j, j < q → (fun j => (yX q pt d).testBit j) j = true → v j = v' j) → yPv q pt d pn Td v = yPv q pt d pn Td v' := fun v v' h => by
    unfold yPv
    rw [yPT_k h]
  have hf : ∀ j, j < q → M_cSetTakes (nI q) pn 0 ft j = nI (ylo Td j) := fun j hj => by
    rw [show M_cSetTakes (nI q) pn 0 ft = _ from t_cSetT (c := 0) q8 (by decide), yF_t hj rfl]
    exact (gp9 j hj).1
  have hu : yBx q (ylo Td) (yhi Td) (ylo Td) := fun j hj => ⟨Nat.le_refl _, (g9 j hj).2.2.1⟩
  have r0 := yRk_lo (Z := fun j => (yX q pt d).testBit j) (lo := ylo Td) (hi := yhi Td) (u := ylo Td) q (fun j _ _ => rfl)
  obtain ⟨L, pt2, fr', fg', cx', a1, a2, a3, -⟩ := t_way (fw := M_cSetWaits (nI q) pn fw) (fr := fr) (fg := fg) (cx := cx) (f := M_cSetTakes (nI q) pn 0 ft) (u := ylo Td) q8 hE hd hn (fun j hj => yw_c q8 hE hj) (fun j hj => ⟨hf j hj, g1 j hj, by have := (g9 j hj).2.2; omega⟩) hz
  obtain ⟨u', f', g, b1, b2, b3, b4⟩ := t_nextWay (X := yX q pt d) (f := M_cSetTakes (nI q) pn 0 ft) q8 gp9 hu hf
  have un : M_findPeaks 0 (nI q) pn pt cx fr fg ft fw s0 gp0 lp0 cup cl cpk cpt = K_findPeaks_L9 (M_cSetWaits (nI q) pn fw) (nI q) (nI (yX q pt d)) pn pt 100000 1 g fr' fg' cx' (yPv q pt d pn Td (ylo Td)) (yPv q pt d pn Td (ylo Td)) (nI (yX q pt d)) L (yPv q pt d pn Td (ylo Td)) pt2 f' := by
    simp only [M_findPeaks, K_findPeaks_1, K_findPeaks_2, K_findPeaks_4, K_findPeaks_5, K_findPeaks_6, K_findPeaks_7, K_findPeaks_8, K_wStart_3, K_wStart_2, K_wStart_1, M_wStart]
    rw [if_pos (by decide), hs, a1]
    dsimp only
    rw [a2]
    dsimp only
    rw [b1]
  have U0 := yUp_0 dep hu r0
  have D0 := yDn_0 dep hu r0
  rcases yRk_next (fun j hj => (g9 j hj).2.2.1) hu b4 with ⟨g0, r1⟩ | ⟨g2, r1⟩
  · rw [g0] at un
    rw [r0] at r1
    have e1 : (1 : Nat) = yPz (fun j => (yX q pt d).testBit j) (ylo Td) (yhi Td) q := by omega
    rw [e1] at U0 D0
    refine ⟨_, _, nI (yX q pt d), L, yPv q pt d pn Td (ylo Td), pt2, M_cSetWaits (nI q) pn fw, f', fr', fg', cx', un.trans ?_, yUp_all U0, yDn_all D0, a3⟩
    show K_findPeaks_L9 _ _ _ pn pt (99999 + 1) 1 0 _ _ _ _ _ _ _ _ _ _ = _
    generalize (99999 : Nat) = j
    simp only [K_findPeaks_L9, K_findPeaks_9, K_findPeaks_11, K_findPeaks_12]
    rw [if_neg (by decide), if_pos (by decide)]
  · rw [g2] at un
    have lt := yRk_lt (Z := fun j => (yX q pt d).testBit j) q b3
    obtain ⟨gp', lp', x1, x2, x3, x4, y1, y2, y3, y4, z1, z2⟩ := fpk_in (fw := M_cSetWaits (nI q) pn fw) q8 hE hd hn ht (fun j hj => yw_c q8 hE hj) (yPz (fun j => (yX q pt d).testBit j) (ylo Td) (yhi Td) q - 2) 1 (99998 - (yPz (fun j => (yX q pt d).testBit j) (ylo Td) (yhi Td) q - 2)) u' _ _ (nI (yX q pt d)) L (yPv q pt d pn Td (ylo Td)) pt2 fr' fg' cx' f' (by omega) b3 b2 a3 (by omega) (by omega) U0 D0
    rw [show 99998 - (yPz (fun j => (yX q pt d).testBit j) (ylo Td) (yhi Td) q - 2) + (yPz (fun j => (yX q pt d).testBit j) (ylo Td) (yhi Td) q - 2) + 2 = 100000 from by omega] at z1
    exact ⟨gp', lp', x1, x2, x3, x4, _, y1, y2, y3, y4, un.trans z1, z2⟩
/-- the peaks of all ways: the reference -/
theorem mpk_in {pn Td Nm Tb D Fw : Nat → Int32} {pt : Nat → Int64} {q : Nat} {d a0 : Int32} (q8 : q ≤ 8) (hE : xE true q pn pt Td Nm Tb) (hd : xDd d D) (hn : ∀ j, j < 64 → 0 ≤ (pn j).toInt ∧ (pn j).toInt ≤ 511) (ht : xTD Td q) (hw : ∀ j, j < q → Fw j = nI (yw Td j) ∧ yw Td j ≤ 9) {B : Nat → Int32 → Prop} (h0 : ∀ u : Nat → Nat, yBx q (ylo Td) (yhi Td) u → yRk (fun _ => true) (ylo Td) (yhi Td) u q = 0 → B 1 (yPv q pt d pn Td u)) (hs : ∀ (N : Nat) (g : Int32) (u : Nat → Nat), yBx q (ylo Td) (yhi Td) u → yRk (fun _ => true) (ylo Td) (yhi Td) u q = N → B N g → B (N + 1) (if a0.toInt = 2 then (if (yPv q pt d pn Td u).toInt ≤ g.toInt then g else yPv q pt d pn Td u) else (if g.toInt ≤ (yPv q pt d pn Td u).toInt then g else yPv q pt d pn Td u))) (hp : ∀ N g, B N g → 0 ≤ g.toInt) : ∀ (m kk : Nat) (u : Nat → Nat) (best up pa : Int32) (Fm Fg f : Nat → Int32), yBx q (ylo Td) (yhi Td) u → (∀ j, j < q → f j = nI (u j)) → yRk (fun _ => true) (ylo Td) (yhi Td) u q + m + 1 = yPz (fun _ => true) (ylo Td) (yhi Td) q → ((best = -4 ∧ yRk (fun _ => true) (ylo Td) (yhi Td) u q = 0) ∨ B (yRk (fun _ => true) (ylo Td) (yhi Td) u q) best) → ∃ (best' up' pa' : Int32) (Fm' Fg' f' : Nat → Int32), K_m_peak_L25 Fw (nI q) Td a0 Tb D (kk + m + 2) 1 best Fm Fg up pa f = (best', up', pa', Fm', Fg', f', Fw) ∧ B (yPz (fun _ => true) (ylo Td) (yhi Td) q) best' := by
  obtain ⟨gp9, g9, g1⟩ := y_lh hE ht
  have dn : ∀ (n : Nat) (best up pa : Int32) (Fm Fg f : Nat → Int32), K_m_peak_L25 Fw (nI q) Td a0 Tb D (n + 1) 0 best Fm Fg up pa f = (best, up, pa, Fm, Fg, f, Fw) := fun n best up pa Fm Fg f => by
    simp only [K_m_peak_L25, K_m_peak_25, K_m_peak_26]
    rw [if_pos (by decide)]
  have st : ∀ (n : Nat) (u : Nat → Nat) (best up pa : Int32) (Fm Fg f : Nat → Int32), yBx q (ylo Td) (yhi Td) u → (∀ j, j < q → f j = nI (u j)) → ∃ (u' : Nat → Nat) (g up' pa' : Int32) (Fm' Fg' f' : Nat → Int32), K_m_peak_L25 Fw (nI q) Td a0 Tb D (n + 1) 1 best Fm Fg up pa f = K_m_peak_L25 Fw (nI q) Td a0 Tb D n g (if best.toInt = -4 then yPv q pt d pn Td u else if a0.toInt = 2 then (if (yPv q pt d pn Td u).toInt ≤ best.toInt then best else yPv q pt d pn Td u) else (if best.toInt ≤ (yPv q pt d pn Td u).toInt then best else yPv q pt d pn Td u)) Fm' Fg' up' pa' f' ∧ (∀ j, j < q → f' j = nI (u' j)) ∧ yBx q (ylo Td) (yhi Td) u' ∧ yNx (fun _ => true) (ylo Td) (yhi Td) q 0 u u' g := fun n u best up pa Fm Fg f hu hf => by
    obtain ⟨pt2, F, G, a1, a2, -⟩ := r_way (Fm := Fm) (Fg := Fg) (f := f) (u := u) q8 hE hd hn hw (fun j hj => ⟨hf j hj, by have := g1 j hj; have := hu j hj; omega, by have := (g9 j hj).2.2.2; have := hu j hj; omega⟩)
    obtain ⟨u', f', g, b1, b2, b3, b4⟩ := r_goesOn (f := f) q8 g9 hu hf
    refine ⟨u', g, nI (yX q pt d), pt2, F, G, f', ?_, b2, b3, b4⟩
    generalize yPv q pt d pn Td u = P at a2 ⊢
    simp only [K_m_peak_L25, K_m_peak_25, K_m_peak_27, K_m_peak_28, K_m_peak_29, K_m_peak_30, K_m_peak_31, K_m_peak_32, K_m_peak_33, K_m_peak_34, K_m_peak_35, K_m_peak_36, K_m_peak_37, K_m_peak_38, K_m_peak_39, K_m_peak_40, K_m_peak_41, K_m_peak_42]
    rw [if_neg (by decide), a1]
    dsimp only
    rw [a2 pa]
    dsimp only
    rw [b1]
    by_cases c1 : best.toInt = -4
    · rw [if_pos c1, if_pos c1]
    · rw [if_neg c1, if_neg c1]
      by_cases c2 : a0.toInt = 2
      · rw [if_pos c2, if_pos c2]
        by_cases c3 : P.toInt ≤ best.toInt
        · rw [if_pos c3, if_pos c3]
        · rw [if_neg c3, if_neg c3]
      · rw [if_neg c2, if_neg c2]
        by_cases c3 : best.toInt ≤ P.toInt
        · rw [if_pos c3, if_pos c3]
        · rw [if_neg c3, if_neg c3]
  have m4 : (-4 : Int32).toInt = -4 := by decide
  have nB : ∀ (u : Nat → Nat) (best : Int32), yBx q (ylo Td) (yhi Td) u → ((best = -4 ∧ yRk (fun _ => true) (ylo Td) (yhi Td) u q = 0) ∨ B (yRk (fun _ => true) (ylo Td) (yhi Td) u q) best) → B (yRk (fun _ => true) (ylo Td) (yhi Td) u q + 1) (if best.toInt = -4 then yPv q pt d pn Td u else if a0.toInt = 2 then (if (yPv q pt d pn Td u).toInt ≤ best.toInt then best else yPv q pt d pn Td u) else (if best.toInt ≤ (yPv q pt d pn Td u).toInt then best else yPv q pt d pn Td u)) := fun u best hu h => by
    rcases h with ⟨c1, c2⟩ | c
    · rw [if_pos (by rw [c1]; exact m4), c2]
      exact h0 u hu c2
    · have := hp _ _ c
      rw [if_neg (by omega)]
      exact hs _ _ u hu rfl c
  intro m
  induction m with
  | zero =>
    intro kk u best up pa Fm Fg f hu hf hm hI
    obtain ⟨u', g, up', pa', Fm', Fg', f', s1, s2, s3, s4⟩ := st (kk + 1) u best up pa Fm Fg f hu hf
    have b9 := nB u best hu hI
    rcases yRk_next (fun j hj => (g9 j hj).2.2.1) hu s4 with ⟨g0, r0⟩ | ⟨-, r0⟩
    · rw [g0, dn kk] at s1
      rw [r0] at b9
      exact ⟨_, _, _, _, _, _, s1, b9⟩
    · have := yRk_lt (Z := fun _ => true) q s3
      omega
  | succ m ih =>
    intro kk u best up pa Fm Fg f hu hf hm hI
    obtain ⟨u', g, up', pa', Fm', Fg', f', s1, s2, s3, s4⟩ := st (kk + m + 2) u best up pa Fm Fg f hu hf
    have b9 := nB u best hu hI
    rcases yRk_next (fun j hj => (g9 j hj).2.2.1) hu s4 with ⟨-, r0⟩ | ⟨g1, r0⟩
    · omega
    · rw [g1] at s1
      rw [← r0] at b9
      obtain ⟨best', x1, x2, y1, y2, y3, z1, z2⟩ := ih kk u' _ up' pa' Fm' Fg' f' s3 s2 (by omega) (Or.inr b9)
      exact ⟨best', x1, x2, y1, y2, y3, s1.trans z1, z2⟩
/-- what the class keeps of the peaks: nothing, or those of the plan -/
def yKp (q : Nat) (pt : Nat → Int64) (d : Int32) (pn Td : Nat → Int32) (pk gpk lpk : Int32) : Prop := pk = 0 ∨ (pk = 1 ∧ yTop (ylo Td) (yhi Td) q (yPv q pt d pn Td) gpk ∧ yBot (ylo Td) (yhi Td) q (yPv q pt d pn Td) lpk)
/-- the reference's peaks of all ways -/
theorem r_peaks {pn Td Nm Tb D Fw Fm Fg K By : Nat → Int32} {pt : Nat → Int64} {q : Nat} {d a0 up pa : Int32} (q8 : q ≤ 8) (hE : xE true q pn pt Td Nm Tb) (hd : xDd d D) (hn : ∀ j, j < 64 → 0 ≤ (pn j).toInt ∧ (pn j).toInt ≤ 511) (ht : xTD Td q) (hW : yPz (fun _ => true) (ylo Td) (yhi Td) q ≤ 20000) : ∃ (best' up' pa' : Int32) (Fm' Fg' f' : Nat → Int32), K_m_peak_L25 (M_m_setWaits (nI q) Td Fw) (nI q) Td a0 Tb D 200000000 1 (-4) Fm Fg up pa (M_m_setTimes (nI q) 1 K Td By) = (best', up', pa', Fm', Fg', f', M_m_setWaits (nI q) Td Fw) ∧ (a0.toInt = 2 → yTop (ylo Td) (yhi Td) q (yPv q pt d pn Td) best') ∧ (¬ a0.toInt = 2 → yBot (ylo Td) (yhi Td) q (yPv q pt d pn Td) best') := by
  obtain ⟨gp9, g9, g1⟩ := y_lh hE ht
  have dep : ∀ v v' : Nat → Nat, (∀ j, j < q → (fun _ : Nat => true) j = true → v j = v' j) → yPv q pt d pn Td v = yPv q pt d pn Td v' := fun v v' h => by
    unfold yPv
    rw [yPT_k (fun x hx _ => h x hx rfl)]
  have hf : ∀ j, j < q → M_m_setTimes (nI q) 1 K Td By j = nI (ylo Td j) := fun j hj => by
    rw [r_setT (c := 0) q8 (by decide) (by decide) (by decide), yF_t hj rfl]
    exact (g9 j hj).1
  have hu : yBx q (ylo Td) (yhi Td) (ylo Td) := fun j hj => ⟨Nat.le_refl _, (g9 j hj).2.2.1⟩
  have r0 := yRk_lo (Z := fun _ => true) (lo := ylo Td) (hi := yhi Td) (u := ylo Td) q (fun j _ _ => rfl)
  have ps := yPz_pos (Z := fun _ => true) (lo := ylo Td) (hi := yhi Td) q
  by_cases c : a0.toInt = 2
  · obtain ⟨best', x1, x2, y1, y2, y3, z1, z2⟩ := mpk_in (Fw := M_m_setWaits (nI q) Td Fw) (a0 := a0) (B := yUp (fun _ => true) (ylo Td) (yhi Td) q (yPv q pt d pn Td)) q8 hE hd hn ht (fun j hj => ⟨yw_m q8 hE hj, (yw_c (f := By) q8 hE hj).2⟩) (fun u hu e => yUp_0 dep hu e) (fun N g u hu e h => by
      rw [if_pos c]
      exact yUp_st dep hu e h) (fun N g h => by
      obtain ⟨⟨v, -, -, e⟩, -⟩ := h
      rw [← e]
      exact yPv_pos q8 hn) (yPz (fun _ => true) (ylo Td) (yhi Td) q - 1) (199999998 - (yPz (fun _ => true) (ylo Td) (yhi Td) q - 1)) (ylo Td) (-4) up pa Fm Fg (M_m_setTimes (nI q) 1 K Td By) hu hf (by omega) (Or.inl ⟨rfl, r0⟩)
    rw [show 199999998 - (yPz (fun _ => true) (ylo Td) (yhi Td) q - 1) + (yPz (fun _ => true) (ylo Td) (yhi Td) q - 1) + 2 = 200000000 from by omega] at z1
    exact ⟨best', x1, x2, y1, y2, y3, z1, fun _ => yUp_all z2, fun z => absurd c z⟩
  · obtain ⟨best', x1, x2, y1, y2, y3, z1, z2⟩ := mpk_in (Fw := M_m_setWaits (nI q) Td Fw) (a0 := a0) (B := yDn (fun _ => true) (ylo Td) (yhi Td) q (yPv q pt d pn Td)) q8 hE hd hn ht (fun j hj => ⟨yw_m q8 hE hj, (yw_c (f := By) q8 hE hj).2⟩) (fun u hu e => yDn_0 dep hu e) (fun N g u hu e h => by
      rw [if_neg c]
      exact yDn_st dep hu e h) (fun N g h => by
      obtain ⟨⟨v, -, -, e⟩, -⟩ := h
      rw [← e]
      exact yPv_pos q8 hn) (yPz (fun _ => true) (ylo Td) (yhi Td) q - 1) (199999998 - (yPz (fun _ => true) (ylo Td) (yhi Td) q - 1)) (ylo Td) (-4) up pa Fm Fg (M_m_setTimes (nI q) 1 K Td By) hu hf (by omega) (Or.inl ⟨rfl, r0⟩)
    rw [show 199999998 - (yPz (fun _ => true) (ylo Td) (yhi Td) q - 1) + (yPz (fun _ => true) (ylo Td) (yhi Td) q - 1) + 2 = 200000000 from by omega] at z1
    exact ⟨best', x1, x2, y1, y2, y3, z1, fun z => absurd z c, fun _ => yDn_all z2⟩
/-- peak: one on both sides -/
theorem x_peak_eq {pn Td Nm Tb fw ft Fw By fr fg cx Fm Fg D rt K : Nat → Int32} {pt : Nat → Int64} {q : Nat} {d a0 pk gpk lpk cup cl cpk cpt up pa : Int32} (q8 : q ≤ 8) (hE : xE true q pn pt Td Nm Tb) (hd : xDd d D) (hn : ∀ j, j < 64 → 0 ≤ (pn j).toInt ∧ (pn j).toInt ≤ 511) (hk : ∀ j, j < q → rt j = K j ∧ 1 ≤ (K j).toInt ∧ (K j).toInt ≤ 9) (ht : xTD Td q) (hz : ∀ j, j ≤ 144 → cx j = 0) (hc : yKp q pt d pn Td pk gpk lpk) {r pk9 gp9 lp9 cup9 cl9 cp9 ct9 v up9 pa9 : Int32} {fw9 ft9 fr9 fg9 cx9 Fm9 Fg9 By9 Fw9 : Nat → Int32} (x1 : M_x_peak a0 pk gpk lpk cup cl cpk cpt fw ft fr fg cx (nI q) pn pt d rt = (r, pk9, gp9, lp9, cup9, cl9, cp9, ct9, fw9, ft9, fr9, fg9, cx9)) (x2 : M_m_peak a0 up pa Fm Fg By Fw (nI q) Td Tb D K = (v, up9, pa9, Fm9, Fg9, By9, Fw9)) : r = v ∧ (∀ j, j ≤ 144 → cx9 j = 0) ∧ yKp q pt d pn Td pk9 gp9 lp9 := by
  have ua : M_upAmong (nI q) (xA q &&& (d ^^^ (-1))) pt = nI (yX q pt d) := (up_alive hE q8).trans (r_up2 hE q8)
  have ub : M_m_upBut (nI q) (nI (xDb q d)) Tb = nI (yX q pt d) := r_up2 hE q8
  have xl := yX_lt (pt := pt) (d := d) q8
  have ex : (nI (yX q pt d)).toInt = ((yX q pt d : Nat) : Int) := nI_toInt (by omega)
  simp only [K_x_peak_2, K_x_peak_11, K_x_peak_15, K_x_peak_14, K_x_peak_13, K_x_peak_12, K_x_peak_10, K_x_peak_9, K_x_peak_8, K_x_peak_6, K_x_peak_22, K_x_peak_26, K_x_peak_25, K_x_peak_24, K_x_peak_23, K_x_peak_21, K_x_peak_20, K_x_peak_19, K_x_peak_17, K_x_peak_18, K_x_peak_16, K_x_peak_7, K_x_peak_4, K_x_peak_5, K_x_peak_3, K_x_peak_1, M_x_peak] at x1
  simp only [K_m_peak_9, K_m_peak_15, K_m_peak_14, K_m_peak_13, K_m_peak_12, K_m_peak_11, K_m_peak_10, K_m_peak_8, K_m_peak_7, K_m_peak_6, K_m_peak_4, K_m_peak_22, K_m_peak_24, K_m_peak_23, K_m_peak_21, K_m_peak_20, K_m_peak_19, K_m_peak_17, K_m_peak_18, K_m_peak_16, K_m_peak_5, K_m_peak_2, K_m_peak_3, K_m_peak_1, M_m_peak] at x2
  by_cases a : 0 ≤ a0.toInt ∧ a0.toInt ≤ 3
  · rw [if_neg (by omega), if_pos a.2] at x1
    rw [if_pos a] at x2
    by_cases b : a0.toInt < 2
    · rw [if_pos b, t_alive, ua] at x1
      rw [if_pos (by omega), r_dead hd q8, ub] at x2
      by_cases X0 : (nI (yX q pt d)).toInt = 0
      · rw [if_pos X0] at x1 x2
        simp only [Prod.mk.injEq] at x1 x2
        obtain ⟨y1, y2, y3, y4, -, -, -, -, -, -, -, -, y13⟩ := x1
        exact ⟨by rw [← y1, ← x2.1], by rw [← y13]; exact hz, by rw [← y2, ← y3, ← y4]; exact hc⟩
      · obtain ⟨L, D3, P2, fr', fg', F, G, f1, f2, -, -, f5, f6⟩ := y_now (fw := fw) (ft := ft) (Fw := Fw) (By := By) (fr := fr) (fg := fg) (Fm := Fm) (Fg := Fg) q8 hE hd hn hk
        obtain ⟨cx', c1, c2⟩ := f5 cx hz
        rw [if_neg X0, f1] at x1
        rw [if_neg X0, f2] at x2
        dsimp only at x1 x2
        rw [c1] at x1
        rw [f6] at x2
        dsimp only at x1 x2
        by_cases z : a0.toInt = 0
        · rw [if_pos z] at x1 x2
          simp only [Prod.mk.injEq] at x1 x2
          obtain ⟨y1, y2, y3, y4, -, -, -, -, -, -, -, -, y13⟩ := x1
          exact ⟨by rw [← y1, ← x2.1], by rw [← y13]; exact c2, by rw [← y2, ← y3, ← y4]; exact hc⟩
        · rw [if_neg z] at x1 x2
          simp only [Prod.mk.injEq] at x1 x2
          obtain ⟨y1, y2, y3, y4, -, -, -, -, -, -, -, -, y13⟩ := x1
          exact ⟨by rw [← y1, ← x2.1], by rw [← y13]; exact c2, by rw [← y2, ← y3, ← y4]; exact hc⟩
    · obtain ⟨W, w1, w2, w3, w4, w5⟩ := r_ways q8 hE ht
      have eP : (nI (yPz (fun _ => true) (ylo Td) (yhi Td) q)).toInt = ((yPz (fun _ => true) (ylo Td) (yhi Td) q : Nat) : Int) := nI_toInt (by omega)
      have eW : (nI W).toInt = (W : Int) := nI_toInt (by omega)
      rw [if_neg b, w1] at x1
      rw [if_neg (by omega), w3] at x2
      rcases w5 with ⟨w5, w6⟩ | ⟨w5, w6⟩
      · rw [if_pos (by omega), t_alive, ua] at x1
        rw [if_pos (by omega), r_dead hd q8, ub] at x2
        by_cases X0 : (nI (yX q pt d)).toInt = 0
        · rw [if_pos X0] at x1 x2
          simp only [Prod.mk.injEq] at x1 x2
          obtain ⟨y1, y2, y3, y4, -, -, -, -, -, -, -, -, y13⟩ := x1
          exact ⟨by rw [← y1, ← x2.1], by rw [← y13]; exact hz, by rw [← y2, ← y3, ← y4]; exact hc⟩
        · obtain ⟨best', k1, k2, k3, k4, k5, m1, m2, m3⟩ := r_peaks (Fw := Fw) (Fm := Fm) (Fg := Fg) (K := K) (By := By) (a0 := a0) (up := up) (pa := pa) q8 hE hd hn ht (by omega)
          have fp : ∃ (gp' lp' e1' e2' e3' e4' : Int32) (fw' ft' fr' fg' cx' : Nat → Int32), M_findPeaks pk (nI q) pn pt cx fr fg ft fw (xA q &&& (d ^^^ (-1))) gpk lpk cup cl cpk cpt = (1, gp', lp', e1', e2', e3', e4', fw', ft', fr', fg', cx') ∧ yTop (ylo Td) (yhi Td) q (yPv q pt d pn Td) gp' ∧ yBot (ylo Td) (yhi Td) q (yPv q pt d pn Td) lp' ∧ ∀ j, j ≤ 144 → cx' j = 0 := by
            rcases hc with e | ⟨e, e1, e2⟩
            · rw [e]
              exact t_findPeaks q8 hE hd hn ht hz ua (by omega)
            · refine ⟨gpk, lpk, cup, cl, cpk, cpt, fw, ft, fr, fg, cx, ?_, e1, e2, hz⟩
              rw [e]
              simp only [M_findPeaks, K_findPeaks_1, K_findPeaks_3]
              rw [if_neg (by decide)]
          obtain ⟨gp', lp', e1', e2', e3', e4', fw', ft', fr', fg', cx', n1, n2, n3, n4⟩ := fp
          rw [if_neg X0, n1] at x1
          rw [if_neg X0, m1] at x2
          dsimp only at x1
          simp only [Prod.mk.injEq] at x2
          by_cases z : a0.toInt = 2
          · rw [if_pos z] at x1
            simp only [Prod.mk.injEq] at x1
            obtain ⟨y1, y2, y3, y4, -, -, -, -, -, -, -, -, y13⟩ := x1
            exact ⟨by rw [← y1, ← x2.1]; exact yTop_one n2 (m2 z), by rw [← y13]; exact n4, by rw [← y2, ← y3, ← y4]; exact Or.inr ⟨rfl, n2, n3⟩⟩
          · rw [if_neg z] at x1
            simp only [Prod.mk.injEq] at x1
            obtain ⟨y1, y2, y3, y4, -, -, -, -, -, -, -, -, y13⟩ := x1
            exact ⟨by rw [← y1, ← x2.1]; exact yBot_one n3 (m3 z), by rw [← y13]; exact n4, by rw [← y2, ← y3, ← y4]; exact Or.inr ⟨rfl, n2, n3⟩⟩
      · rw [if_neg (by omega)] at x1 x2
        simp only [Prod.mk.injEq] at x1 x2
        obtain ⟨y1, y2, y3, y4, -, -, -, -, -, -, -, -, y13⟩ := x1
        exact ⟨by rw [← y1, ← x2.1], by rw [← y13]; exact hz, by rw [← y2, ← y3, ← y4]; exact hc⟩
  · rw [if_neg a] at x2
    by_cases b : a0.toInt < 0
    · rw [if_pos b] at x1
      simp only [Prod.mk.injEq] at x1 x2
      obtain ⟨y1, y2, y3, y4, -, -, -, -, -, -, -, -, y13⟩ := x1
      exact ⟨by rw [← y1, ← x2.1], by rw [← y13]; exact hz, by rw [← y2, ← y3, ← y4]; exact hc⟩
    · rw [if_neg b, if_neg (by omega)] at x1
      simp only [Prod.mk.injEq] at x1 x2
      obtain ⟨y1, y2, y3, y4, -, -, -, -, -, -, -, -, y13⟩ := x1
      exact ⟨by rw [← y1, ← x2.1], by rw [← y13]; exact hz, by rw [← y2, ← y3, ← y4]; exact hc⟩
