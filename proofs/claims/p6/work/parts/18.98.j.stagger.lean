theorem y_cpy8 {f g : Nat → Int32} {j : Nat} (hj : j < 8) : va_cpy f g (0 : Int32).toNatClampNeg (0 : Int32).toNatClampNeg (8 : Int32).toNatClampNeg j = f j := by
  have e0 : (0 : Int32).toNatClampNeg = 0 := by decide
  have e8 : (8 : Int32).toNatClampNeg = 8 := by decide
  unfold va_cpy
  rw [e0, e8, if_pos (by omega)]
  congr 1
  omega
/-- what is kept, as the machine has it -/
def yBest (q : Nat) (S : Option (Nat × (Nat → Nat))) (sl : Int32) (srow : Nat → Int32) : Prop := (S = none ∧ sl = -4) ∨ ∃ s b, S = some (s, b) ∧ s ≤ 144 ∧ sl = nI s ∧ (∀ j, j < q → srow j = nI (b j)) ∧ ∀ j, j < q → b j < 4
theorem t_keepIf {fr fg fw pn n3 n4 cx srow : Nat → Int32} {w k : Nat → Nat} {pt : Nat → Int64} {q : Nat} {d lim sl : Int32} (q8 : q ≤ 8) (h3 : ∀ x, x < q → pn (8 * x + 3) = n3 x ∧ pn (8 * x + 4) = n4 x) (hr : ∀ x, x < q → (0 ≤ (n3 x).toInt ∧ (n3 x).toInt ≤ 511) ∧ (0 ≤ (n4 x).toInt ∧ (n4 x).toInt ≤ 511)) (hX : ∀ x, x < q → ((yX q pt d).testBit x = true ↔ yT q pt d w k x ≠ 100000)) (hL : yLT q pt d k w ≤ 144) (hf : ∀ x, x < q → yT q pt d w k x ≠ 100000 → fr x = nI (yT q pt d w k x + w x) ∧ fg x = nI (yGT q pt d k w x) ∧ yT q pt d w k x + w x ≤ yGT q pt d k w x ∧ yGT q pt d k w x ≤ yLT q pt d k w) (hc : ∀ j, j ≤ 144 → cx j = 0) : ∃ (a b : Int32) (cx' : Nat → Int32), M_keepIf lim sl srow (nI (yLT q pt d k w)) fw (nI q) fg fr pn (nI (yX q pt d)) cx = (if lim.toInt < (yPT q pt d k n3 n4 w).1.toInt then sl else nI (yLT q pt d k w), if lim.toInt < (yPT q pt d k n3 n4 w).1.toInt then srow else va_cpy fw srow (0 : Int32).toNatClampNeg (0 : Int32).toNatClampNeg (8 : Int32).toNatClampNeg, a, b, cx') ∧ ∀ j, j ≤ 144 → cx' j = 0 := by
  obtain ⟨cx', a1, a2⟩ := t_findPeak (n3 := n3) (n4 := n4) (w := w) (M := yT q pt d w k) (G := yGT q pt d k w) (X := yX q pt d) (cx := cx) q8 hL h3 hr hX (fun x _ h => if_pos h) hf hc
  have e := yDr_end (n3 := n3) (n4 := n4) hL (fun x hx h => (hf x hx h).2.2)
  refine ⟨(yPT q pt d k n3 n4 w).1, (yPT q pt d k n3 n4 w).2, cx', ?_, a2⟩
  have a1 : M_findPeak (nI q) (nI (yLT q pt d k w)) fg fr pn (nI (yX q pt d)) cx = ((yPT q pt d k n3 n4 w).1, (yPT q pt d k n3 n4 w).2, cx') := by
    rw [a1, e]
    rfl
  simp only [K_keepIf_3, K_keepIf_4, K_keepIf_2, K_keepIf_1, M_keepIf]
  rw [a1]
  by_cases z : lim.toInt < (yPT q pt d k n3 n4 w).1.toInt
  · rw [if_pos z, if_pos z, if_pos z]
  · rw [if_neg z, if_neg z, if_neg z]
/-- one row kept or not: the machine's way and the fold's -/
theorem yBest_step {q : Nat} {S : Option (Nat × (Nat → Nat))} {sl lim : Int32} {srow fw : Nat → Int32} {L : (Nat → Nat) → Nat} {p : (Nat → Nat) → Int} {w v : Nat → Nat} (q8 : q ≤ 8) (h : yBest q S sl srow) (hL : L v = L w) (hp : p v = p w) (hL4 : L w ≤ 144) (hw : ∀ j, j < q → fw j = nI (w j) ∧ w j < 4 ∧ v j = w j) : yBest q (yStep lim.toInt L p v S) (if sl.toInt = -4 then (if lim.toInt < p w then sl else nI (L w)) else if sl.toInt ≤ (nI (L w)).toInt then sl else (if lim.toInt < p w then sl else nI (L w))) (if sl.toInt = -4 then (if lim.toInt < p w then srow else va_cpy fw srow (0 : Int32).toNatClampNeg (0 : Int32).toNatClampNeg (8 : Int32).toNatClampNeg) else if sl.toInt ≤ (nI (L w)).toInt then srow else (if lim.toInt < p w then srow else va_cpy fw srow (0 : Int32).toNatClampNeg (0 : Int32).toNatClampNeg (8 : Int32).toNatClampNeg)) := by
  have m4 : (-4 : Int32).toInt = -4 := by decide
  have el : (nI (L w)).toInt = ((L w : Nat) : Int) := nI_toInt (by omega)
  have new : yBest q (some (L v, v)) (nI (L w)) (va_cpy fw srow (0 : Int32).toNatClampNeg (0 : Int32).toNatClampNeg (8 : Int32).toNatClampNeg) := Or.inr ⟨L v, v, rfl, by omega, by rw [hL], fun j hj => by
    rw [y_cpy8 (by omega), (hw j hj).1, (hw j hj).2.2], fun j hj => by
    rw [(hw j hj).2.2]
    exact (hw j hj).2.1⟩
  rcases h with ⟨h1, h2⟩ | ⟨s, b, h1, h2, h3, h4, h5⟩
  · rw [h1, yStep, hp, if_pos (show sl.toInt = -4 by rw [h2]; exact m4), if_pos (show sl.toInt = -4 by rw [h2]; exact m4)]
    by_cases z : lim.toInt < p w
    · rw [if_pos z, if_pos z, if_pos z]
      exact Or.inl ⟨rfl, h2⟩
    · rw [if_neg z, if_neg z, if_neg z]
      exact new
  · have es : sl.toInt = (s : Int) := by rw [h3]; exact nI_toInt (by omega)
    rw [h1, yStep, hp, if_neg (show ¬ sl.toInt = -4 by omega), if_neg (show ¬ sl.toInt = -4 by omega)]
    by_cases z : s ≤ L v
    · rw [if_pos z, if_pos (show sl.toInt ≤ (nI (L w)).toInt by omega), if_pos (show sl.toInt ≤ (nI (L w)).toInt by omega)]
      exact Or.inr ⟨s, b, rfl, h2, h3, h4, h5⟩
    · rw [if_neg z, if_neg (show ¬ sl.toInt ≤ (nI (L w)).toInt by omega), if_neg (show ¬ sl.toInt ≤ (nI (L w)).toInt by omega)]
      by_cases z2 : lim.toInt < p w
      · rw [if_pos z2, if_pos z2, if_pos z2]
        exact Or.inr ⟨s, b, rfl, h2, h3, h4, h5⟩
      · rw [if_neg z2, if_neg z2, if_neg z2]
        exact new
theorem cl_in {ft pn n3 n4 : Nat → Int32} {k : Nat → Nat} {pt : Nat → Int64} {q : Nat} {d lim : Int32} (q6 : q ≤ 6) (m : yMono q pt) (hk : ∀ j, j < q → ft j = nI (k j) ∧ 1 ≤ k j ∧ k j ≤ 9) (h3 : ∀ x, x < q → pn (8 * x + 3) = n3 x ∧ pn (8 * x + 4) = n4 x) (hr : ∀ x, x < q → (0 ≤ (n3 x).toInt ∧ (n3 x).toInt ≤ 511) ∧ (0 ≤ (n4 x).toInt ∧ (n4 x).toInt ≤ 511)) (X0 : ∀ w : Nat → Nat, (∀ j, w j < 4) → yLT q pt d k (fun _ => 0) ≤ yLT q pt d k w) : ∀ (n c kk : Nat) (g sl c1 c2 c3 c4 : Int32) (cx srow fw fr fg : Nat → Int32) (w : Nat → Nat), c + n = 4096 → (∀ j, j ≤ 144 → cx j = 0) → (∀ j, j < 8 → fw j = nI (w j)) → (∀ j, w j < 4) → ((g = 1 ∧ yCan q (yX q pt d) w ∧ yKa (yX q pt d) w q = c ∧ yBest q (yR lim.toInt (yLT q pt d k) (fun v => (yPT q pt d k n3 n4 v).1.toInt) q (yNo w q)) sl srow) ∨ (g = 0 ∧ yBest q (yR lim.toInt (yLT q pt d k) (fun v => (yPT q pt d k n3 n4 v).1.toInt) q (4 ^ q)) sl srow)) → ∃ (sl' e1 e2 e3 e4 : Int32) (srow' fw' fr' fg' cx' : Nat → Int32), K_findRow_L10 ft (nI (yLT q pt d k (fun _ => 0))) (nI (yX q pt d)) lim (nI q) pn pt (kk + n + 1) (nI c) g sl cx srow c1 c2 c3 c4 fw fr fg = (1, sl', srow', e1, e2, e3, e4, fw', ft, fr', fg', cx') ∧ yBest q (yR lim.toInt (yLT q pt d k) (fun v => (yPT q pt d k n3 n4 v).1.toInt) q (4 ^ q)) sl' srow' ∧ ∀ j, j ≤ 144 → cx' j = 0 := by
  have q46 : 4 ^ q ≤ 4 ^ 6 := Nat.pow_le_pow_right (by decide) q6
  have q4 : 4 ^ q ≤ 4096 := q46
  have hX : ∀ j, (yX q pt d).testBit j = true → j < q := fun j hj => (yX_alive (by omega) hj).1
  have dep : ∀ w v : Nat → Nat, (∀ j, j < q → (yX q pt d).testBit j = true → w j = v j) → yLT q pt d k w = yLT q pt d k v ∧ (yPT q pt d k n3 n4 w).1.toInt = (yPT q pt d k n3 n4 v).1.toInt := fun w v h => ⟨by unfold yLT; rw [yGT_w h], by unfold yPT; rw [yDr_w h]⟩
  intro n
  induction n with
  | zero =>
    intro c kk g sl c1 c2 c3 c4 cx srow fw fr fg w hc hz hw h4 hI
    obtain rfl : c = 4096 := by omega
    rcases hI with ⟨g1, ca, ka, -⟩ | ⟨g0, hb9⟩
    · have := yKa_lt (X := yX q pt d) h4 q
      omega
    · refine ⟨sl, c1, c2, c3, c4, srow, fw, fr, fg, cx, ?_, hb9, hz⟩
      simp only [K_findRow_L10, K_findRow_9, K_findRow_11, K_findRow_13, K_findRow_15, K_findRow_21, K_findRow_20, K_findRow_18, K_findRow_24, K_findRow_22, K_findRow_26, K_findRow_25, K_findRow_23, K_findRow_19, K_findRow_17, K_findRow_16, K_findRow_14, K_findRow_12, K_findRow_10, K_findRow_8, K_findRow_7, K_findRow_6, K_findRow_5, K_findRow_4, K_findRow_2, K_findRow_3, K_findRow_1, M_findRow]
      rw [if_pos (by decide)]
  | succ n ih =>
    intro c kk g sl c1 c2 c3 c4 cx srow fw fr fg w hc hz hw h4 hI
    have ec : (nI c).toInt = (c : Int) := nI_toInt (by omega)
    rcases hI with ⟨g1, ca, ka, hb9⟩ | ⟨g0, hb9⟩
    · subst g1
      by_cases st : sl.toInt = (nI (yLT q pt d k (fun _ => 0))).toInt
      · refine ⟨sl, c1, c2, c3, c4, srow, fw, fr, fg, cx, ?_, ?_, hz⟩
        · simp only [K_findRow_L10, K_findRow_9, K_findRow_11, K_findRow_13, K_findRow_15, K_findRow_21, K_findRow_20, K_findRow_18, K_findRow_24, K_findRow_22, K_findRow_26, K_findRow_25, K_findRow_23, K_findRow_19, K_findRow_17, K_findRow_16, K_findRow_14, K_findRow_12, K_findRow_10, K_findRow_8, K_findRow_7, K_findRow_6, K_findRow_5, K_findRow_4, K_findRow_2, K_findRow_3, K_findRow_1, M_findRow]
          rw [if_neg (by omega), if_neg (by decide), if_pos st]
        · have lt := yNo_lt h4 q
          have fin : yR lim.toInt (yLT q pt d k) (fun v => (yPT q pt d k n3 n4 v).1.toInt) q (4 ^ q) = yR lim.toInt (yLT q pt d k) (fun v => (yPT q pt d k n3 n4 v).1.toInt) q (yNo w q) := by
            rcases hb9 with ⟨-, b2⟩ | ⟨s, b, b1, b2, b3, -, -⟩
            · exfalso
              rw [b2] at st
              have m4 : (-4 : Int32).toInt = -4 := by decide
              have := Int32.toInt_inj.mp st
              have nn : 0 ≤ (nI (yLT q pt d k (fun _ => 0))).toInt := by
                obtain ⟨-, -, -, a, -⟩ := t_row (fw := fun _ => 0) (fr := fr) (fg := fg) (ft := ft) (s0 := nI (yX q pt d)) (P := fun j => (yX q pt d).testBit j) (w := fun _ => 0) (k := k) (pt := pt) (q := q) (d := d) (by omega) m (fun j _ => ⟨rfl, by decide⟩) hk (fun j hj => (xb_nI (by omega)).symm) (fun j hj => ⟨fun z => (yX_alive (by omega) z).2, fun z => z⟩) (fun j hj _ => by cases (yX q pt d).testBit j <;> simp)
                rw [show (nI (yLT q pt d k (fun _ => 0))).toInt = ((yLT q pt d k (fun _ => 0) : Nat) : Int) from nI_toInt (by omega)]
                omega
              omega
            · have es : sl.toInt = (s : Int) := by rw [b3]; exact nI_toInt (by omega)
              have l0 : yLT q pt d k (fun _ => 0) ≤ 144 := by
                obtain ⟨-, -, -, a, -⟩ := t_row (fw := fun _ => 0) (fr := fr) (fg := fg) (ft := ft) (s0 := nI (yX q pt d)) (P := fun j => (yX q pt d).testBit j) (w := fun _ => 0) (k := k) (pt := pt) (q := q) (d := d) (by omega) m (fun j _ => ⟨rfl, by decide⟩) hk (fun j hj => (xb_nI (by omega)).symm) (fun j hj => ⟨fun z => (yX_alive (by omega) z).2, fun z => z⟩) (fun j hj _ => by cases (yX q pt d).testBit j <;> simp)
                exact a
              have el : (nI (yLT q pt d k (fun _ => 0))).toInt = ((yLT q pt d k (fun _ => 0) : Nat) : Int) := nI_toInt (by omega)
              have s0 : s = yLT q pt d k (fun _ => 0) := by omega
              have z := yR_end (lim := lim.toInt) (L := yLT q pt d k) (p := fun v => (yPT q pt d k n3 n4 v).1.toInt) (q := q) (n := yNo w q) (s := s) (b := b) (fun v => by rw [s0]; exact X0 _ (fun j => yW_lt)) b1 (4 ^ q - yNo w q)
              rw [show yNo w q + (4 ^ q - yNo w q) = 4 ^ q from by omega] at z
              rw [z, b1]
          rw [fin]
          exact hb9
      · obtain ⟨fr', fg', r1, r2, r3, r4⟩ := t_row (fw := fw) (fr := fr) (fg := fg) (ft := ft) (s0 := nI (yX q pt d)) (P := fun j => (yX q pt d).testBit j) (w := w) (k := k) (pt := pt) (q := q) (d := d) (by omega) m (fun j hj => ⟨hw j (by omega), by have := h4 j; omega⟩) hk (fun j hj => (xb_nI (by omega)).symm) (fun j hj => ⟨fun z => (yX_alive (by omega) z).2, fun z => z⟩) (fun j hj _ => by cases (yX q pt d).testBit j <;> simp)
        obtain ⟨pa, pb, cx', k1, k2⟩ := t_keepIf (fw := fw) (cx := cx) (srow := srow) (sl := sl) (lim := lim) (fr := fr') (fg := fg') (pn := pn) (n3 := n3) (n4 := n4) (w := w) (k := k) (pt := pt) (q := q) (d := d) (by omega) h3 hr r4 r2 r3 hz
        obtain ⟨w', fw', g', x1, x2, x3, x4, x5⟩ := t_nextRow (X := yX q pt d) hw h4
        have lt := yNo_lt h4 q
        have agW := yW_No (q := q) h4
        have d9 := dep (yW q (yNo w q)) w (fun j hj _ => agW j hj)
        have bs := yBest_step (lim := lim) (fw := fw) (L := yLT q pt d k) (p := fun v => (yPT q pt d k n3 n4 v).1.toInt) (w := w) (v := yW q (yNo w q)) (by omega) hb9 d9.1 d9.2 r2 (fun j hj => ⟨hw j (by omega), h4 j, agW j hj⟩)
        rw [show yStep lim.toInt (yLT q pt d k) (fun v => (yPT q pt d k n3 n4 v).1.toInt) (yW q (yNo w q)) (yR lim.toInt (yLT q pt d k) (fun v => (yPT q pt d k n3 n4 v).1.toInt) q (yNo w q)) = yR lim.toInt (yLT q pt d k) (fun v => (yPT q pt d k n3 n4 v).1.toInt) q (yNo w q + 1) from rfl] at bs
        -- what the next row is to what is kept
        have nxt : (g' = 1 ∧ yCan q (yX q pt d) w' ∧ yKa (yX q pt d) w' q = c + 1 ∧ yR lim.toInt (yLT q pt d k) (fun v => (yPT q pt d k n3 n4 v).1.toInt) q (yNo w' q) = yR lim.toInt (yLT q pt d k) (fun v => (yPT q pt d k n3 n4 v).1.toInt) q (yNo w q + 1)) ∨ (g' = 0 ∧ yR lim.toInt (yLT q pt d k) (fun v => (yPT q pt d k n3 n4 v).1.toInt) q (4 ^ q) = yR lim.toInt (yLT q pt d k) (fun v => (yPT q pt d k n3 n4 v).1.toInt) q (yNo w q + 1)) := by
          have e8 := yKa_8 (X := yX q pt d) (q := q) (w := w) hX (8 - q)
          have e8' := yKa_8 (X := yX q pt d) (q := q) (w := w') hX (8 - q)
          rw [show q + (8 - q) = 8 from by omega] at e8 e8'
          have ca' : yCan q (yX q pt d) w' := ⟨x3, fun j hj => by
            by_cases y : (yX q pt d).testBit j = true
            · exact absurd ⟨hX j y, y⟩ hj
            · rw [x4 j y]
              exact ca.2 j hj⟩
          rcases x5 with ⟨y1, y2⟩ | ⟨y1, y2⟩
          · refine Or.inl ⟨y1, ca', by omega, ?_⟩
            have o := (y_order ca.1 ca'.1 (fun j hj => ca.2 j (fun a => hj a.2)) (fun j hj => ca'.2 j (fun a => hj a.2)) q).1
            have l1 : yNo w q < yNo w' q := o.mpr (by omega)
            have l2 := yNo_lt ca'.1 q
            have z := yR_skips (lim := lim.toInt) (L := yLT q pt d k) (p := fun v => (yPT q pt d k n3 n4 v).1.toInt) (q := q) (X := yX q pt d) (n := yNo w q + 1) dep (yNo w' q - (yNo w q + 1)) (by omega) (fun y a b => y_between hX ca (by omega) (by omega) (fun u cu lu eu => by
              have o2 := (y_order ca'.1 cu.1 (fun j hj => ca'.2 j (fun a => hj a.2)) (fun j hj => cu.2 j (fun a => hj a.2)) q)
              rcases Nat.lt_or_ge (yKa (yX q pt d) w' q) (yKa (yX q pt d) u q) with c9 | c9
              · have := o2.1.mpr c9
                omega
              · have := o2.2.mpr (by omega)
                omega))
            rw [show yNo w q + 1 + (yNo w' q - (yNo w q + 1)) = yNo w' q from by omega] at z
            exact z
          · refine Or.inr ⟨y1, ?_⟩
            have z := yR_skips (lim := lim.toInt) (L := yLT q pt d k) (p := fun v => (yPT q pt d k n3 n4 v).1.toInt) (q := q) (X := yX q pt d) (n := yNo w q + 1) dep (4 ^ q - (yNo w q + 1)) (by omega) (fun y a b => y_between hX ca (by omega) (by omega) (fun u cu lu eu => by
              have := yKa_le (X := yX q pt d) (v := u) (w := w) q (fun j hj hb8 => by
                rw [y2 j (by omega) hb8]
                have := cu.1 j
                omega)
              omega))
            rw [show yNo w q + 1 + (4 ^ q - (yNo w q + 1)) = 4 ^ q from by omega] at z
            exact z
        have un : ∃ (c5 c6 : Int32) (cx9 : Nat → Int32), (∀ j, j ≤ 144 → cx9 j = 0) ∧ K_findRow_L10 ft (nI (yLT q pt d k (fun _ => 0))) (nI (yX q pt d)) lim (nI q) pn pt ((kk + n + 1) + 1) (nI c) 1 sl cx srow c1 c2 c3 c4 fw fr fg = K_findRow_L10 ft (nI (yLT q pt d k (fun _ => 0))) (nI (yX q pt d)) lim (nI q) pn pt (kk + n + 1) (nI (c + 1)) g' (if sl.toInt = -4 then (if lim.toInt < (yPT q pt d k n3 n4 w).1.toInt then sl else nI (yLT q pt d k w)) else if sl.toInt ≤ (nI (yLT q pt d k w)).toInt then sl else (if lim.toInt < (yPT q pt d k n3 n4 w).1.toInt then sl else nI (yLT q pt d k w))) cx9 (if sl.toInt = -4 then (if lim.toInt < (yPT q pt d k n3 n4 w).1.toInt then srow else va_cpy fw srow (0 : Int32).toNatClampNeg (0 : Int32).toNatClampNeg (8 : Int32).toNatClampNeg) else if sl.toInt ≤ (nI (yLT q pt d k w)).toInt then srow else (if lim.toInt < (yPT q pt d k n3 n4 w).1.toInt then srow else va_cpy fw srow (0 : Int32).toNatClampNeg (0 : Int32).toNatClampNeg (8 : Int32).toNatClampNeg)) (nI (yX q pt d)) (nI (yLT q pt d k w)) c5 c6 fw' fr' fg' := by
          generalize kk + n + 1 = j9
          by_cases a : sl.toInt = -4
          · refine ⟨pa, pb, cx', k2, ?_⟩
            simp only [K_findRow_L10, K_findRow_9, K_findRow_11, K_findRow_13, K_findRow_15, K_findRow_21, K_findRow_20, K_findRow_18, K_findRow_24, K_findRow_22, K_findRow_26, K_findRow_25, K_findRow_23, K_findRow_19, K_findRow_17, K_findRow_16, K_findRow_14, K_findRow_12, K_findRow_10, K_findRow_8, K_findRow_7, K_findRow_6, K_findRow_5, K_findRow_4, K_findRow_2, K_findRow_3, K_findRow_1, M_findRow]
            rw [if_neg (by omega), if_neg (by decide), if_neg st, r1]
            dsimp only
            rw [if_pos a, if_pos a, if_pos a, k1]
            dsimp only
            rw [x1, nI_1]
          · by_cases b : sl.toInt ≤ (nI (yLT q pt d k w)).toInt
            · refine ⟨c3, c4, cx, hz, ?_⟩
              simp only [K_findRow_L10, K_findRow_9, K_findRow_11, K_findRow_13, K_findRow_15, K_findRow_21, K_findRow_20, K_findRow_18, K_findRow_24, K_findRow_22, K_findRow_26, K_findRow_25, K_findRow_23, K_findRow_19, K_findRow_17, K_findRow_16, K_findRow_14, K_findRow_12, K_findRow_10, K_findRow_8, K_findRow_7, K_findRow_6, K_findRow_5, K_findRow_4, K_findRow_2, K_findRow_3, K_findRow_1, M_findRow]
              rw [if_neg (by omega), if_neg (by decide), if_neg st, r1]
              dsimp only
              rw [if_neg a, if_neg a, if_neg a, if_pos b, if_pos b, if_pos b, x1, nI_1]
            · refine ⟨pa, pb, cx', k2, ?_⟩
              simp only [K_findRow_L10, K_findRow_9, K_findRow_11, K_findRow_13, K_findRow_15, K_findRow_21, K_findRow_20, K_findRow_18, K_findRow_24, K_findRow_22, K_findRow_26, K_findRow_25, K_findRow_23, K_findRow_19, K_findRow_17, K_findRow_16, K_findRow_14, K_findRow_12, K_findRow_10, K_findRow_8, K_findRow_7, K_findRow_6, K_findRow_5, K_findRow_4, K_findRow_2, K_findRow_3, K_findRow_1, M_findRow]
              rw [if_neg (by omega), if_neg (by decide), if_neg st, r1]
              dsimp only
              rw [if_neg a, if_neg a, if_neg a, if_neg b, if_neg b, if_neg b, k1]
              dsimp only
              rw [x1, nI_1]
        obtain ⟨c5, c6, cx9, u1, u2⟩ := un
        have bs' := fun (Z : Option (Nat × (Nat → Nat))) (e : Z = yR lim.toInt (yLT q pt d k) (fun v => (yPT q pt d k n3 n4 v).1.toInt) q (yNo w q + 1)) => Eq.mpr (congrArg (fun S => yBest q S _ _) e) bs
        obtain ⟨sl', e1, e2, e3, e4, srow', fw2, fr2, fg2, cx2, y1, y2, y3⟩ := ih (c + 1) kk g' _ (nI (yX q pt d)) (nI (yLT q pt d k w)) c5 c6 cx9 _ fw' fr' fg' w' (by omega) u1 x2 x3 (Or.elim nxt (fun z => Or.inl ⟨z.1, z.2.1, z.2.2.1, bs' _ z.2.2.2⟩) (fun z => Or.inr ⟨z.1, bs' _ z.2⟩))
        exact ⟨sl', e1, e2, e3, e4, srow', fw2, fr2, fg2, cx2, u2.trans y1, y2, y3⟩
    · subst g0
      refine ⟨sl, c1, c2, c3, c4, srow, fw, fr, fg, cx, ?_, hb9, hz⟩
      simp only [K_findRow_L10, K_findRow_9, K_findRow_11, K_findRow_13, K_findRow_15, K_findRow_21, K_findRow_20, K_findRow_18, K_findRow_24, K_findRow_22, K_findRow_26, K_findRow_25, K_findRow_23, K_findRow_19, K_findRow_17, K_findRow_16, K_findRow_14, K_findRow_12, K_findRow_10, K_findRow_8, K_findRow_7, K_findRow_6, K_findRow_5, K_findRow_4, K_findRow_2, K_findRow_3, K_findRow_1, M_findRow]
      rw [if_neg (by omega), if_pos (by decide)]
