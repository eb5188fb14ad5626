/-- the waits told: the class -/
theorem cw_in {pn f : Nat → Int32} {q : Nat} (q8 : q ≤ 8) : ∀ (m x k : Nat), x + m = q → K_cSetWaits_L2 (nI q) pn (k + m + 1) (nI x) (yF (fun _ => true) (fun j => pn (8 * j + 5)) f x) = yF (fun _ => true) (fun j => pn (8 * j + 5)) f q := by
  have qq : (nI q).toInt = (q : Int) := nI_toInt (by omega)
  intro m
  induction m with
  | zero =>
    intro x k hx
    have ex : (nI x).toInt = (x : Int) := nI_toInt (by omega)
    obtain rfl : x = q := by omega
    simp only [K_cSetWaits_L2, K_cSetWaits_3, K_cSetWaits_5, K_cSetWaits_4, K_cSetWaits_2, K_cSetWaits_1, M_cSetWaits]
    rw [if_pos (by omega)]
  | succ m ih =>
    intro x k hx
    have ex : (nI x).toInt = (x : Int) := nI_toInt (by omega)
    have exc : (nI x).toNatClampNeg = x := nI_clamp (by omega)
    have z := ih (x + 1) k (by omega)
    rw [← z]
    show K_cSetWaits_L2 (nI q) pn ((k + m + 1) + 1) (nI x) _ = _
    generalize k + m + 1 = j
    simp only [K_cSetWaits_L2, K_cSetWaits_3, K_cSetWaits_5, K_cSetWaits_4, K_cSetWaits_2, K_cSetWaits_1, M_cSetWaits]
    rw [if_neg (by omega), exc, nI_1, show M_number pn (nI x) 5 = pn (8 * x + 5) from t_nb (k := 5) (by omega) (by decide), show upd (yF (fun _ => true) (fun j => pn (8 * j + 5)) f x) x (pn (8 * x + 5)) = _ from yF_put (c := fun _ => true) (v := fun j => pn (8 * j + 5)) rfl]
theorem t_cSetW {pn f : Nat → Int32} {q : Nat} (q8 : q ≤ 8) : M_cSetWaits (nI q) pn f = yF (fun _ => true) (fun j => pn (8 * j + 5)) f q := by
  have z := cw_in (f := f) (pn := pn) q8 q 0 (99999 - q) (by omega)
  rw [show 99999 - q + q + 1 = 100000 from by omega, yF_0] at z
  exact z
/-- the times told: the class -/
theorem ct_in {pn f : Nat → Int32} {q c : Nat} (q8 : q ≤ 8) (c8 : c < 8) : ∀ (m x k : Nat), x + m = q → K_cSetTakes_L2 (nI q) pn (nI c) (k + m + 1) (nI x) (yF (fun _ => true) (fun j => pn (8 * j + c)) f x) = yF (fun _ => true) (fun j => pn (8 * j + c)) f q := by
  have qq : (nI q).toInt = (q : Int) := nI_toInt (by omega)
  intro m
  induction m with
  | zero =>
    intro x k hx
    have ex : (nI x).toInt = (x : Int) := nI_toInt (by omega)
    obtain rfl : x = q := by omega
    simp only [K_cSetTakes_L2, K_cSetTakes_3, K_cSetTakes_5, K_cSetTakes_4, K_cSetTakes_2, K_cSetTakes_1, M_cSetTakes]
    rw [if_pos (by omega)]
  | succ m ih =>
    intro x k hx
    have ex : (nI x).toInt = (x : Int) := nI_toInt (by omega)
    have exc : (nI x).toNatClampNeg = x := nI_clamp (by omega)
    have z := ih (x + 1) k (by omega)
    rw [← z]
    show K_cSetTakes_L2 (nI q) pn (nI c) ((k + m + 1) + 1) (nI x) _ = _
    generalize k + m + 1 = j
    simp only [K_cSetTakes_L2, K_cSetTakes_3, K_cSetTakes_5, K_cSetTakes_4, K_cSetTakes_2, K_cSetTakes_1, M_cSetTakes]
    rw [if_neg (by omega), exc, nI_1, show M_number pn (nI x) (nI c) = pn (8 * x + c) from t_nb (by omega) c8, show upd (yF (fun _ => true) (fun j => pn (8 * j + c)) f x) x (pn (8 * x + c)) = _ from yF_put (c := fun _ => true) (v := fun j => pn (8 * j + c)) rfl]
theorem t_cSetT {pn f : Nat → Int32} {q c : Nat} (q8 : q ≤ 8) (c8 : c < 8) : M_cSetTakes (nI q) pn (nI c) f = yF (fun _ => true) (fun j => pn (8 * j + c)) f q := by
  have z := ct_in (f := f) (pn := pn) q8 c8 q 0 (99999 - q) (by omega)
  rw [show 99999 - q + q + 1 = 100000 from by omega, yF_0] at z
  exact z
/-- the waits told: the reference -/
theorem mw_in {Td f : Nat → Int32} {q : Nat} (q8 : q ≤ 8) : ∀ (m x k : Nat), x + m = q → K_m_setWaits_L2 (nI q) Td (k + m + 1) (nI x) (yF (fun _ => true) (fun j => Td (7 * j + 5)) f x) = yF (fun _ => true) (fun j => Td (7 * j + 5)) f q := by
  have qq : (nI q).toInt = (q : Int) := nI_toInt (by omega)
  intro m
  induction m with
  | zero =>
    intro x k hx
    have ex : (nI x).toInt = (x : Int) := nI_toInt (by omega)
    obtain rfl : x = q := by omega
    simp only [K_m_setWaits_L2, K_m_setWaits_3, K_m_setWaits_5, K_m_setWaits_4, K_m_setWaits_2, K_m_setWaits_1, M_m_setWaits]
    rw [if_pos (by omega)]
  | succ m ih =>
    intro x k hx
    have ex : (nI x).toInt = (x : Int) := nI_toInt (by omega)
    have exc : (nI x).toNatClampNeg = x := nI_clamp (by omega)
    have z := ih (x + 1) k (by omega)
    rw [← z]
    show K_m_setWaits_L2 (nI q) Td ((k + m + 1) + 1) (nI x) _ = _
    generalize k + m + 1 = j
    simp only [K_m_setWaits_L2, K_m_setWaits_3, K_m_setWaits_5, K_m_setWaits_4, K_m_setWaits_2, K_m_setWaits_1, M_m_setWaits]
    rw [if_neg (by omega), exc, nI_1, show M_m_of Td (nI x) 5 = Td (7 * x + 5) from t_of7 (k := 5) (by omega) (by decide), show upd (yF (fun _ => true) (fun j => Td (7 * j + 5)) f x) x (Td (7 * x + 5)) = _ from yF_put (c := fun _ => true) (v := fun j => Td (7 * j + 5)) rfl]
theorem r_setW {Td f : Nat → Int32} {q : Nat} (q8 : q ≤ 8) : M_m_setWaits (nI q) Td f = yF (fun _ => true) (fun j => Td (7 * j + 5)) f q := by
  have z := mw_in (f := f) (Td := Td) q8 q 0 (99999 - q) (by omega)
  rw [show 99999 - q + q + 1 = 100000 from by omega, yF_0] at z
  exact z
/-- the times told: the reference -/
theorem mt_in {Td K f : Nat → Int32} {a0 : Int32} {q c : Nat} (q8 : q ≤ 8) (c8 : c < 8) (a1 : ¬ a0.toInt = 0) (a2 : a0 - 1 = nI c) : ∀ (m x k : Nat), x + m = q → K_m_setTimes_L2 (nI q) a0 K Td (k + m + 1) (nI x) (yF (fun _ => true) (fun j => Td (7 * j + c)) f x) = yF (fun _ => true) (fun j => Td (7 * j + c)) f q := by
  have qq : (nI q).toInt = (q : Int) := nI_toInt (by omega)
  intro m
  induction m with
  | zero =>
    intro x k hx
    have ex : (nI x).toInt = (x : Int) := nI_toInt (by omega)
    obtain rfl : x = q := by omega
    simp only [K_m_setTimes_L2, K_m_setTimes_3, K_m_setTimes_6, K_m_setTimes_7, K_m_setTimes_5, K_m_setTimes_4, K_m_setTimes_2, K_m_setTimes_1, M_m_setTimes]
    rw [if_pos (by omega)]
  | succ m ih =>
    intro x k hx
    have ex : (nI x).toInt = (x : Int) := nI_toInt (by omega)
    have exc : (nI x).toNatClampNeg = x := nI_clamp (by omega)
    have z := ih (x + 1) k (by omega)
    rw [← z]
    show K_m_setTimes_L2 (nI q) a0 K Td ((k + m + 1) + 1) (nI x) _ = _
    generalize k + m + 1 = j
    simp only [K_m_setTimes_L2, K_m_setTimes_3, K_m_setTimes_6, K_m_setTimes_7, K_m_setTimes_5, K_m_setTimes_4, K_m_setTimes_2, K_m_setTimes_1, M_m_setTimes]
    rw [if_neg (by omega), if_neg a1, a2, exc, nI_1, show M_m_of Td (nI x) (nI c) = Td (7 * x + c) from t_of7 (by omega) c8, show upd (yF (fun _ => true) (fun j => Td (7 * j + c)) f x) x (Td (7 * x + c)) = _ from yF_put (c := fun _ => true) (v := fun j => Td (7 * j + c)) rfl]
theorem r_setT {Td K f : Nat → Int32} {a0 : Int32} {q c : Nat} (q8 : q ≤ 8) (c8 : c < 8) (a1 : ¬ a0.toInt = 0) (a2 : a0 - 1 = nI c) : M_m_setTimes (nI q) a0 K Td f = yF (fun _ => true) (fun j => Td (7 * j + c)) f q := by
  have z := mt_in (f := f) (Td := Td) (K := K) q8 c8 a1 a2 q 0 (99999 - q) (by omega)
  rw [show 99999 - q + q + 1 = 100000 from by omega, yF_0] at z
  exact z
/-- who may come up: those alive, or those that can be up -/
theorem y_mayA {q : Nat} {pt : Nat → Int64} {d : Int32} (q8 : q ≤ 8) : (∀ j, j < q → (xb (xA q &&& (d ^^^ (-1))) j = true → xb (nI (xDb q d)) j = false) ∧ ((yX q pt d).testBit j = true → xb (xA q &&& (d ^^^ (-1))) j = true)) ∧ ∀ j, j < q → xb (nI (xDb q d)) j = false → xb (xA q &&& (d ^^^ (-1))) j = true ∨ (yX q pt d).testBit j = false := by
  have da : ∀ j, j < q → xb (nI (xDb q d)) j = xb d j := fun j hj => by
    rw [xDb_b (by omega)]
    simp [hj]
  have db : ∀ j, j < q → xb (xA q &&& (d ^^^ (-1))) j = !xb d j := fun j hj => by
    rw [alive_b q8 (by omega)]
    simp [hj]
  refine ⟨fun j hj => ?_, fun j hj z => ?_⟩
  · rw [da j hj, db j hj]
    refine ⟨fun z => by simpa using z, fun z => ?_⟩
    have a := (yX_alive q8 z).2
    rw [da j hj] at a
    rw [a]
    rfl
  · rw [da j hj] at z
    rw [db j hj, z]
    exact Or.inl rfl
theorem y_mayX {q : Nat} {pt : Nat → Int64} {d : Int32} (q8 : q ≤ 8) : (∀ j, j < q → (xb (nI (yX q pt d)) j = true → xb (nI (xDb q d)) j = false) ∧ ((yX q pt d).testBit j = true → xb (nI (yX q pt d)) j = true)) ∧ ∀ j, j < q → xb (nI (xDb q d)) j = false → xb (nI (yX q pt d)) j = true ∨ (yX q pt d).testBit j = false := by
  refine ⟨fun j hj => ?_, fun j hj _ => ?_⟩
  · rw [xb_nI (by omega)]
    exact ⟨fun z => (yX_alive q8 z).2, fun z => z⟩
  · rw [xb_nI (by omega)]
    cases (yX q pt d).testBit j
    · exact Or.inr rfl
    · exact Or.inl rfl
/-- both sides follow the same times -/
theorem y_pair {pn Td Nm Tb fw ft Fw Fb fr fg Fm Fg D : Nat → Int32} {w k : Nat → Nat} {pt : Nat → Int64} {wt : Bool} {q : Nat} {d s0 : Int32} (q8 : q ≤ 8) (hE : xE wt q pn pt Td Nm Tb) (hd : xDd d D) (hn : ∀ j, j < 64 → 0 ≤ (pn j).toInt ∧ (pn j).toInt ≤ 511) (hw : ∀ j, j < q → fw j = nI (w j) ∧ Fw j = nI (w j) ∧ w j ≤ 9) (hk : ∀ j, j < q → ft j = nI (k j) ∧ Fb j = nI (k j) ∧ 1 ≤ k j ∧ k j ≤ 9) (h1 : ∀ j, j < q → (xb s0 j = true → xb (nI (xDb q d)) j = false) ∧ ((yX q pt d).testBit j = true → xb s0 j = true)) (h2 : ∀ j, j < q → xb (nI (xDb q d)) j = false → xb s0 j = true ∨ (yX q pt d).testBit j = false) : ∃ fr' fg' F G : Nat → Int32, M_follow (nI q) s0 fw ft pt fr fg = (nI (yX q pt d), nI (yLT q pt d k w), fr', fg') ∧ M_m_findTimes (nI q) Fw Fb Tb Fm Fg D = (nI (yX q pt d), F, G) ∧ yLT q pt d k w ≤ 144 ∧ (∀ x, x < q → (yX q pt d).testBit x = true → fg' x = G x ∧ G x = nI (yGT q pt d k w x) ∧ yGT q pt d k w x ≤ 144) ∧ (∀ t, t ≤ 1000 → M_drawnAt (nI q) (nI t) fg' fr' pn (nI (yX q pt d)) = yDr q pt d k (fun x => pn (8 * x + 3)) (fun x => pn (8 * x + 4)) w t ∧ M_m_drawnAt (nI q) Td (nI t) G F Fw = yDr q pt d k (fun x => pn (8 * x + 3)) (fun x => pn (8 * x + 4)) w t) ∧ (∀ cx : Nat → Int32, (∀ j, j ≤ 144 → cx j = 0) → ∃ cx' : Nat → Int32, M_findPeak (nI q) (nI (yLT q pt d k w)) fg' fr' pn (nI (yX q pt d)) cx = ((yPT q pt d k (fun x => pn (8 * x + 3)) (fun x => pn (8 * x + 4)) w).1, (yPT q pt d k (fun x => pn (8 * x + 3)) (fun x => pn (8 * x + 4)) w).2, cx') ∧ ∀ j, j ≤ 144 → cx' j = 0) ∧ ∀ pa : Int32, M_m_peakNow (nI q) Td G F Fw pa = yPT q pt d k (fun x => pn (8 * x + 3)) (fun x => pn (8 * x + 4)) w := by
  have m := xE_mono hE
  obtain ⟨fr', fg', r1, r2, r3, r4⟩ := t_row (fw := fw) (fr := fr) (fg := fg) (ft := ft) (s0 := s0) (P := fun j => xb s0 j) (w := w) (k := k) (pt := pt) (q := q) (d := d) q8 m (fun j hj => ⟨(hw j hj).1, (hw j hj).2.2⟩) (fun j hj => ⟨(hk j hj).1, (hk j hj).2.2⟩) (fun j _ => rfl) h1 h2
  obtain ⟨F, G, b1, b2⟩ := r_find (Fm := Fm) (Fg := Fg) (w := w) (k9 := k) hE q8 hd (fun j hj => ⟨(hw j hj).2.1, (hw j hj).2.2⟩) (fun j hj => ⟨(hk j hj).2.1, (hk j hj).2.2⟩)
  have gn : ∀ y, yT q pt d w k y = 100000 → yGT q pt d k w y = 100000 := fun y z => if_pos z
  have b2 : ∀ j, j < 8 → F j = nI (yT q pt d w k j) ∧ G j = nI (yGT q pt d k w j) := b2
  have h3 : ∀ x, x < q → pn (8 * x + 3) = (fun x => pn (8 * x + 3)) x ∧ pn (8 * x + 4) = (fun x => pn (8 * x + 4)) x := fun x _ => ⟨rfl, rfl⟩
  have h7 : ∀ x, x < q → Td (7 * x + 3) = (fun x => pn (8 * x + 3)) x ∧ Td (7 * x + 4) = (fun x => pn (8 * x + 4)) x := fun x hx => ⟨((hE x hx).1 3 (by decide) (Or.inl (by decide))).symm, ((hE x hx).1 4 (by decide) (Or.inl (by decide))).symm⟩
  have hr : ∀ x, x < q → (0 ≤ ((fun x => pn (8 * x + 3)) x).toInt ∧ ((fun x => pn (8 * x + 3)) x).toInt ≤ 511) ∧ (0 ≤ ((fun x => pn (8 * x + 4)) x).toInt ∧ ((fun x => pn (8 * x + 4)) x).toInt ≤ 511) := fun x hx => ⟨hn _ (by omega), hn _ (by omega)⟩
  have mt : ∀ t, t ≤ 1000 → M_m_drawnAt (nI q) Td (nI t) G F Fw = yDr q pt d k (fun x => pn (8 * x + 3)) (fun x => pn (8 * x + 4)) w t := fun t ht => r_drawnAt (n3 := fun x => pn (8 * x + 3)) (n4 := fun x => pn (8 * x + 4)) (w := w) (M := yT q pt d w k) (G := yGT q pt d k w) q8 ht h7 (fun y _ z => gn y z) (fun y hy => ⟨(b2 y (by omega)).1, (b2 y (by omega)).2, (hw y hy).2.1, by
    by_cases z : yT q pt d w k y = 100000
    · omega
    · have := r3 y hy z
      omega, by
    by_cases z : yT q pt d w k y = 100000
    · exact Nat.le_of_eq (gn y z)
    · have := r3 y hy z
      omega, (hw y hy).2.2⟩)
  refine ⟨fr', fg', F, G, r1, b1, r2, fun x hx hb9 => ?_, fun t ht => ⟨?_, mt t ht⟩, fun cx hc => ?_, fun pa => ?_⟩
  · have z := (r4 x hx).mp hb9
    obtain ⟨c1, c2, c3, c4⟩ := r3 x hx z
    exact ⟨c2.trans (b2 x (by omega)).2.symm, (b2 x (by omega)).2, by omega⟩
  · exact t_drawnAt (n3 := fun x => pn (8 * x + 3)) (n4 := fun x => pn (8 * x + 4)) (w := w) (M := yT q pt d w k) (G := yGT q pt d k w) q8 ht h3 r4 (fun y _ z => gn y z) (fun x hx z => by
      obtain ⟨c1, c2, c3, c4⟩ := r3 x hx z
      exact ⟨c1, c2, c3, by omega⟩)
  · obtain ⟨cx', a1, a2⟩ := t_findPeak (n3 := fun x => pn (8 * x + 3)) (n4 := fun x => pn (8 * x + 4)) (w := w) (M := yT q pt d w k) (G := yGT q pt d k w) (X := yX q pt d) (cx := cx) q8 r2 h3 hr r4 (fun x _ h => gn x h) r3 hc
    refine ⟨cx', ?_, a2⟩
    rw [a1, yDr_end (n3 := fun x => pn (8 * x + 3)) (n4 := fun x => pn (8 * x + 4)) r2 (fun x hx h => (r3 x hx h).2.2)]
    rfl
  · exact r_peak (D := yDr q pt d k (fun x => pn (8 * x + 3)) (fun x => pn (8 * x + 4)) w) (fun t ht => mt t (by omega)) (yD_rng q q8 (fun y hy => by
      unfold yV
      split
      · exact (hr y hy).1
      · split
        · exact (hr y hy).2
        · exact ⟨by decide, by decide⟩)).1
/-- the waits told, as numbers -/
def yw (Td : Nat → Int32) (j : Nat) : Nat := (Td (7 * j + 5)).toNatClampNeg
theorem yw_c {pn Td Nm Tb f : Nat → Int32} {pt : Nat → Int64} {q : Nat} (q8 : q ≤ 8) (hE : xE true q pn pt Td Nm Tb) {j : Nat} (hj : j < q) : M_cSetWaits (nI q) pn f j = nI (yw Td j) ∧ yw Td j ≤ 9 := by
  obtain ⟨a, b, c, e, g⟩ := hE j hj
  obtain ⟨g1, g2⟩ := g rfl
  have n := xtn (x := Td (7 * j + 5)) g1
  have e5 := a 5 (by decide) (Or.inr rfl)
  refine ⟨?_, by unfold yw; omega⟩
  rw [t_cSetW q8, yF_t hj rfl, e5]
  exact (xnI g1).symm
theorem yw_m {pn Td Nm Tb f : Nat → Int32} {pt : Nat → Int64} {q : Nat} (q8 : q ≤ 8) (hE : xE true q pn pt Td Nm Tb) {j : Nat} (hj : j < q) : M_m_setWaits (nI q) Td f j = nI (yw Td j) := by
  obtain ⟨a, b, c, e, g⟩ := hE j hj
  obtain ⟨g1, g2⟩ := g rfl
  rw [r_setW q8, yF_t hj rfl]
  exact (xnI g1).symm
/-- the times now, on both sides -/
theorem y_now {pn Td Nm Tb fw ft Fw By fr fg Fm Fg D rt K : Nat → Int32} {pt : Nat → Int64} {q : Nat} {d : Int32} (q8 : q ≤ 8) (hE : xE true q pn pt Td Nm Tb) (hd : xDd d D) (hn : ∀ j, j < 64 → 0 ≤ (pn j).toInt ∧ (pn j).toInt ≤ 511) (hk : ∀ j, j < q → rt j = K j ∧ 1 ≤ (K j).toInt ∧ (K j).toInt ≤ 9) : ∃ (L : Nat) (D3 : Nat → Int32) (P2 : Int32 × Int32) (fr' fg' F G : Nat → Int32), M_followTimes (nI q) pt fr fg d rt ft pn fw = (nI (yX q pt d), nI L, M_cSetWaits (nI q) pn fw, M_copyTakes rt ft, fr', fg') ∧ M_m_findTimes (nI q) (M_m_setWaits (nI q) Td Fw) (M_m_setTimes (nI q) 0 K Td By) Tb Fm Fg D = (nI (yX q pt d), F, G) ∧ (∀ x, x < q → (yX q pt d).testBit x = true → fg' x = G x) ∧ (∀ t, t ≤ 1000 → M_drawnAt (nI q) (nI t) fg' fr' pn (nI (yX q pt d)) = D3 t ∧ M_m_drawnAt (nI q) Td (nI t) G F (M_m_setWaits (nI q) Td Fw) = D3 t ∧ 0 ≤ (D3 t).toInt ∧ (D3 t).toInt ≤ 4088) ∧ (∀ cx : Nat → Int32, (∀ j, j ≤ 144 → cx j = 0) → ∃ cx' : Nat → Int32, M_findPeak (nI q) (nI L) fg' fr' pn (nI (yX q pt d)) cx = (P2.1, P2.2, cx') ∧ ∀ j, j ≤ 144 → cx' j = 0) ∧ ∀ pa : Int32, M_m_peakNow (nI q) Td G F (M_m_setWaits (nI q) Td Fw) pa = P2 := by
  obtain ⟨By', s1, s2⟩ := t_setT0 (K := K) (Td := Td) (By := By) (q := q) q8
  have kn : ∀ j, j < q → nI (K j).toNatClampNeg = K j ∧ 1 ≤ (K j).toNatClampNeg ∧ (K j).toNatClampNeg ≤ 9 := fun j hj => by
    obtain ⟨-, a, b⟩ := hk j hj
    have n := xtn (x := K j) (by omega)
    exact ⟨xnI (by omega), by omega, by omega⟩
  have t0 : ∀ j, j < 8 → M_copyTakes rt ft j = rt j := fun j hj => y_cpy8 hj
  have ma := y_mayA (q := q) (pt := pt) (d := d) q8
  obtain ⟨fr', fg', F, G, p1, p2, -, p4, p5, p6, p7⟩ := y_pair (fw := M_cSetWaits (nI q) pn fw) (ft := M_copyTakes rt ft) (Fw := M_m_setWaits (nI q) Td Fw) (Fb := M_m_setTimes (nI q) 0 K Td By) (fr := fr) (fg := fg) (Fm := Fm) (Fg := Fg) (w := yw Td) (k := fun j => (K j).toNatClampNeg) q8 hE hd hn (fun j hj => ⟨(yw_c q8 hE hj).1, yw_m q8 hE hj, (yw_c (f := fw) q8 hE hj).2⟩) (fun j hj => ⟨by rw [t0 j (by omega), (hk j hj).1]; exact (kn j hj).1.symm, by rw [s1, s2 j hj]; exact (kn j hj).1.symm, (kn j hj).2⟩) ma.1 ma.2
  refine ⟨_, _, _, fr', fg', F, G, ?_, p2, fun x hx h => (p4 x hx h).1, fun t ht => ⟨(p5 t ht).1, (p5 t ht).2, ?_⟩, p6, p7⟩
  · simp only [K_followTimes_5, K_followTimes_4, K_followTimes_3, K_followTimes_2, K_followTimes_1, M_followTimes]
    rw [t_alive, p1]
  · have rg := yD_rng (v := yV (fun x => pn (8 * x + 3)) (fun x => pn (8 * x + 4)) (yw Td) (yT q pt d (yw Td) (fun j => (K j).toNatClampNeg)) (yGT q pt d (fun j => (K j).toNatClampNeg) (yw Td)) t) q q8 (fun y hy => by
      unfold yV
      split
      · exact hn _ (by omega)
      · split
        · exact hn _ (by omega)
        · exact ⟨by decide, by decide⟩)
    have rg1 : 0 ≤ (yDr q pt d (fun j => (K j).toNatClampNeg) (fun x => pn (8 * x + 3)) (fun x => pn (8 * x + 4)) (yw Td) t).toInt ∧ (yDr q pt d (fun j => (K j).toNatClampNeg) (fun x => pn (8 * x + 3)) (fun x => pn (8 * x + 4)) (yw Td) t).toInt ≤ 511 * (q : Int) := rg
    exact ⟨rg1.1, by omega⟩
/-- drawn: one on both sides -/
theorem x_drawn_eq {pn Td Nm Tb fw ft Fw By fr fg Fm Fg D rt K : Nat → Int32} {pt : Nat → Int64} {q : Nat} {d a0 cup cl up : Int32} (q8 : q ≤ 8) (hE : xE true q pn pt Td Nm Tb) (hd : xDd d D) (hn : ∀ j, j < 64 → 0 ≤ (pn j).toInt ∧ (pn j).toInt ≤ 511) (hk : ∀ j, j < q → rt j = K j ∧ 1 ≤ (K j).toInt ∧ (K j).toInt ≤ 9) : (M_x_drawn a0 cup cl fw ft fr fg (nI q) pn pt d rt).1 = (M_m_drawn a0 (nI q) Td Tb Fm Fg D K By Fw up).1 := by
  obtain ⟨L, D3, P2, fr', fg', F, G, f1, f2, -, f4, -, -⟩ := y_now (fw := fw) (ft := ft) (Fw := Fw) (By := By) (fr := fr) (fg := fg) (Fm := Fm) (Fg := Fg) q8 hE hd hn hk
  simp only [K_x_drawn_2, K_x_drawn_7, K_x_drawn_6, K_x_drawn_4, K_x_drawn_5, K_x_drawn_3, K_x_drawn_1, M_x_drawn, K_m_drawn_7, K_m_drawn_6, K_m_drawn_5, K_m_drawn_4, K_m_drawn_2, K_m_drawn_3, K_m_drawn_1, M_m_drawn]
  by_cases a : 0 ≤ a0.toInt ∧ a0.toInt ≤ 999
  · have an := xtn (x := a0) a.1
    have ea : nI a0.toNatClampNeg = a0 := xnI a.1
    obtain ⟨g1, g2, -⟩ := f4 a0.toNatClampNeg (by omega)
    rw [ea] at g1 g2
    rw [if_neg (by omega), if_pos a.2, if_pos a, f1, f2]
    dsimp only
    rw [g1, g2]
  · rw [if_neg a]
    by_cases b : a0.toInt < 0
    · rw [if_pos b]
    · rw [if_neg b, if_neg (by omega)]
/-- the times of a kind, on both sides -/
theorem y_kind {pn Td Nm Tb fw ft Fw By fr fg Fm Fg D K : Nat → Int32} {pt : Nat → Int64} {q c : Nat} {d a1 : Int32} (q8 : q ≤ 8) (hE : xE true q pn pt Td Nm Tb) (hd : xDd d D) (hn : ∀ j, j < 64 → 0 ≤ (pn j).toInt ∧ (pn j).toInt ≤ 511) (ht : xTD Td q) (hc : c < 2) (h1 : ¬ a1.toInt = 0) (h2 : a1 - 1 = nI c) : ∃ (L : Int32) (fr' fg' F G : Nat → Int32), M_follow (nI q) (xA q &&& (d ^^^ (-1))) (M_cSetWaits (nI q) pn fw) (M_cSetTakes (nI q) pn (nI c) ft) pt fr fg = (nI (yX q pt d), L, fr', fg') ∧ M_m_findTimes (nI q) (M_m_setWaits (nI q) Td Fw) (M_m_setTimes (nI q) a1 K Td By) Tb Fm Fg D = (nI (yX q pt d), F, G) ∧ ∀ x, x < q → (yX q pt d).testBit x = true → fg' x = G x := by
  have tk : ∀ j, j < q → 1 ≤ (Td (7 * j + c)).toInt ∧ (Td (7 * j + c)).toInt ≤ 9 := fun j hj => by
    obtain ⟨b1, b2, b3⟩ := ht j hj
    match c, hc with
    | 0, _ =>
      show 1 ≤ (Td (7 * j)).toInt ∧ (Td (7 * j)).toInt ≤ 9
      omega
    | 1, _ => omega
  have kn : ∀ j, j < q → nI (Td (7 * j + c)).toNatClampNeg = Td (7 * j + c) ∧ 1 ≤ (Td (7 * j + c)).toNatClampNeg ∧ (Td (7 * j + c)).toNatClampNeg ≤ 9 := fun j hj => by
    obtain ⟨a, b⟩ := tk j hj
    have n := xtn (x := Td (7 * j + c)) (by omega)
    exact ⟨xnI (by omega), by omega, by omega⟩
  have ma := y_mayA (q := q) (pt := pt) (d := d) q8
  obtain ⟨fr', fg', F, G, p1, p2, -, p4, -, -, -⟩ := y_pair (fw := M_cSetWaits (nI q) pn fw) (ft := M_cSetTakes (nI q) pn (nI c) ft) (Fw := M_m_setWaits (nI q) Td Fw) (Fb := M_m_setTimes (nI q) a1 K Td By) (fr := fr) (fg := fg) (Fm := Fm) (Fg := Fg) (w := yw Td) (k := fun j => (Td (7 * j + c)).toNatClampNeg) q8 hE hd hn (fun j hj => ⟨(yw_c q8 hE hj).1, yw_m q8 hE hj, (yw_c (f := fw) q8 hE hj).2⟩) (fun j hj => ⟨by rw [t_cSetT q8 (by omega), yF_t hj rfl, (hE j hj).1 c (by omega) (Or.inr rfl)]; exact (kn j hj).1.symm, by rw [r_setT q8 (by omega) h1 h2, yF_t hj rfl]; exact (kn j hj).1.symm, (kn j hj).2⟩) ma.1 ma.2
  exact ⟨_, fr', fg', F, G, p1, p2, fun x hx h => (p4 x hx h).1⟩
/-- when: one on both sides -/
theorem x_when_eq {pn Td Nm Tb fw ft Fw By fr fg Fm Fg D rt K : Nat → Int32} {pt : Nat → Int64} {q : Nat} {d a0 a1 cup cl up : Int32} (q8 : q ≤ 8) (hE : xE true q pn pt Td Nm Tb) (hd : xDd d D) (hn : ∀ j, j < 64 → 0 ≤ (pn j).toInt ∧ (pn j).toInt ≤ 511) (hk : ∀ j, j < q → rt j = K j ∧ 1 ≤ (K j).toInt ∧ (K j).toInt ≤ 9) (ht : xTD Td q) : (M_x_when a0 (nI q) a1 cup cl fw ft fr fg pt d rt pn).1 = (M_m_when a0 (nI q) a1 Tb Fm Fg D K Td By Fw up).1 := by
  have qq : (nI q).toInt = (q : Int) := nI_toInt (by omega)
  simp only [K_x_when_4, K_x_when_27, K_x_when_28, K_x_when_26, K_x_when_25, K_x_when_9, K_x_when_23, K_x_when_24, K_x_when_22, K_x_when_21, K_x_when_20, K_x_when_19, K_x_when_12, K_x_when_17, K_x_when_18, K_x_when_16, K_x_when_15, K_x_when_14, K_x_when_13, K_x_when_11, K_x_when_10, K_x_when_8, K_x_when_6, K_x_when_7, K_x_when_5, K_x_when_3, K_x_when_2, K_x_when_1, M_x_when, K_m_when_10, K_m_when_9, K_m_when_8, K_m_when_7, K_m_when_6, K_m_when_4, K_m_when_5, K_m_when_3, K_m_when_2, K_m_when_1, M_m_when]
  by_cases a : 0 ≤ a0.toInt ∧ a0.toInt < (nI q).toInt
  · rw [if_pos a, if_pos a]
    have an := xtn (x := a0) a.1
    have ea : nI a0.toNatClampNeg = a0 := xnI a.1
    have bt : ((nI (yX q pt d) >>> (a0 &&& 31)) &&& (1 : Int32)).toInt = 1 ↔ (yX q pt d).testBit a0.toNatClampNeg = true := by
      have z := xsr_1 (nI (yX q pt d)) (r := a0.toNatClampNeg) (by omega)
      rw [ea, xb_nI (by omega)] at z
      exact z
    by_cases b : 0 ≤ a1.toInt ∧ a1.toInt ≤ 2
    · rw [if_neg (by omega), if_pos b.2, if_pos b]
      by_cases c0 : a1.toInt = 0
      · obtain ⟨L, D3, P2, fr', fg', F, G, f1, f2, f3, -, -, -⟩ := y_now (fw := fw) (ft := ft) (Fw := Fw) (By := By) (fr := fr) (fg := fg) (Fm := Fm) (Fg := Fg) q8 hE hd hn hk
        have e1 : a1 = 0 := Int32.toInt_inj.mp (by rw [c0]; decide)
        rw [if_pos c0, f1, e1, f2]
        dsimp only
        rw [t_isUp]
        by_cases u : (yX q pt d).testBit a0.toNatClampNeg = true
        · rw [if_pos (bt.mpr u), if_pos (bt.mpr u), if_neg (by decide), f3 _ (by omega) u]
        · rw [if_neg (fun z => u (bt.mp z)), if_neg (fun z => u (bt.mp z)), if_pos (by decide)]
      · rw [if_neg c0]
        by_cases c1 : a1.toInt = 1
        · have e1 : a1 = 1 := Int32.toInt_inj.mp (by rw [c1]; decide)
          obtain ⟨L, fr', fg', F, G, f1, f2, f3⟩ := y_kind (fw := fw) (ft := ft) (Fw := Fw) (By := By) (fr := fr) (fg := fg) (Fm := Fm) (Fg := Fg) (K := K) (c := 0) (a1 := a1) q8 hE hd hn ht (by decide) c0 (by rw [e1]; decide)
          have f1 : M_follow (nI q) (xA q &&& (d ^^^ (-1))) (M_cSetWaits (nI q) pn fw) (M_cSetTakes (nI q) pn 0 ft) pt fr fg = (nI (yX q pt d), L, fr', fg') := f1
          rw [if_pos c1, t_alive, f1, f2]
          dsimp only
          rw [t_isUp]
          by_cases u : (yX q pt d).testBit a0.toNatClampNeg = true
          · rw [if_pos (bt.mpr u), if_pos (bt.mpr u), if_neg (by decide), f3 _ (by omega) u]
          · rw [if_neg (fun z => u (bt.mp z)), if_neg (fun z => u (bt.mp z)), if_pos (by decide)]
        · have c2 : a1.toInt = 2 := by omega
          have e1 : a1 = 2 := Int32.toInt_inj.mp (by rw [c2]; decide)
          obtain ⟨L, fr', fg', F, G, f1, f2, f3⟩ := y_kind (fw := fw) (ft := ft) (Fw := Fw) (By := By) (fr := fr) (fg := fg) (Fm := Fm) (Fg := Fg) (K := K) (c := 1) (a1 := a1) q8 hE hd hn ht (by decide) c0 (by rw [e1]; decide)
          have f1 : M_follow (nI q) (xA q &&& (d ^^^ (-1))) (M_cSetWaits (nI q) pn fw) (M_cSetTakes (nI q) pn 1 ft) pt fr fg = (nI (yX q pt d), L, fr', fg') := f1
          rw [if_neg c1, t_alive, f1, f2]
          dsimp only
          rw [t_isUp]
          by_cases u : (yX q pt d).testBit a0.toNatClampNeg = true
          · rw [if_pos (bt.mpr u), if_pos (bt.mpr u), if_neg (by decide), f3 _ (by omega) u]
          · rw [if_neg (fun z => u (bt.mp z)), if_neg (fun z => u (bt.mp z)), if_pos (by decide)]
    · rw [if_neg b]
      by_cases c : a1.toInt < 0
      · rw [if_pos c]
      · rw [if_neg c, if_neg (by omega)]
  · rw [if_neg a, if_neg a]
