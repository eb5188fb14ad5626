/-- what the class keeps of a stagger: nothing, or the plan's -/
def yKn (q : Nat) (pt : Nat → Int64) (d : Int32) (k : Nat → Nat) (n3 n4 : Nat → Int32) (lim kn sl : Int32) (srow : Nat → Int32) : Prop := kn = 0 ∨ (kn = 1 ∧ q ≤ 6 ∧ yB q pt d k n3 n4 lim (4 ^ q) sl srow)
theorem t_findK {pn rt ft fw srow fr fg cx n3 n4 : Nat → Int32} {k : Nat → Nat} {pt : Nat → Int64} {q : Nat} {d lim kn sl cup cl c1 c2 : Int32} (q6 : q ≤ 6) (m : yMono q pt) (hk : ∀ j, j < q → rt j = nI (k j) ∧ 1 ≤ k j ∧ k j ≤ 9) (h3 : ∀ x, x < q → pn (8 * x + 3) = n3 x ∧ pn (8 * x + 4) = n4 x) (hr : ∀ x, x < q → (0 ≤ (n3 x).toInt ∧ (n3 x).toInt ≤ 511) ∧ (0 ≤ (n4 x).toInt ∧ (n4 x).toInt ≤ 511)) (hz : ∀ j, j ≤ 144 → cx j = 0) (hc : yKn q pt d k n3 n4 lim kn sl srow) : ∃ (sl' e1 e2 e3 e4 : Int32) (srow' fw' ft' fr' fg' cx' : Nat → Int32), M_findRow kn c1 c2 cx lim (nI q) pn pt (xA q &&& (d ^^^ (-1))) fr fg rt ft fw srow sl cup cl = (1, sl', srow', e1, e2, e3, e4, fw', ft', fr', fg', cx') ∧ yB q pt d k n3 n4 lim (4 ^ q) sl' srow' ∧ ∀ j, j ≤ 144 → cx' j = 0 := by
  rcases hc with e | ⟨e, -, hb9⟩
  · rw [e]
    exact r_cstag q6 m hk h3 hr hz
  · rw [e]
    refine ⟨sl, cup, cl, c1, c2, srow, fw, ft, fr, fg, cx, ?_, hb9, hz⟩
    simp only [M_findRow, K_findRow_1, K_findRow_3]
    rw [if_neg (by decide)]
/-- one on both sides -/
theorem yB_one {q : Nat} {pt : Nat → Int64} {d : Int32} {k : Nat → Nat} {n3 n4 : Nat → Int32} {lim s s' : Int32} {x : Nat} {f f' : Nat → Int32} (h : yB q pt d k n3 n4 lim x s f) (h' : yB q pt d k n3 n4 lim x s' f') : s = s' ∧ (s.toInt = -4 ∨ ∀ j, j < q → f j = f' j ∧ 0 ≤ (f j).toInt ∧ (f j).toInt ≤ 9) := by
  have m4 : (-4 : Int32).toInt = -4 := by decide
  rcases h with ⟨a, b⟩ | ⟨a, b⟩
  · rcases h' with ⟨-, b'⟩ | ⟨a', -⟩
    · exact ⟨b.trans b'.symm, Or.inl (by rw [b]; exact m4)⟩
    · exact absurd a a'
  · rcases h' with ⟨a', -⟩ | ⟨-, b'⟩
    · exact absurd a' a
    · rcases b with ⟨c1, c2⟩ | ⟨t, u, c1, c2, c3, c4, c5⟩
      · rcases b' with ⟨-, c2'⟩ | ⟨t', u', c1', -, -, -, -⟩
        · exact ⟨c2.trans c2'.symm, Or.inl (by rw [c2]; exact m4)⟩
        · rw [c1] at c1'
          exact absurd c1' (by simp)
      · rcases b' with ⟨c1', -⟩ | ⟨t', u', c1', -, c3', c4', -⟩
        · rw [c1] at c1'
          exact absurd c1' (by simp)
        · rw [c1] at c1'
          have z := Option.some.inj c1'
          rw [Prod.mk.injEq] at z
          refine ⟨by rw [c3, c3', z.1], Or.inr (fun j hj => ?_)⟩
          have u4 := c5 j hj
          have e : (nI (u j)).toInt = ((u j : Nat) : Int) := nI_toInt (by omega)
          refine ⟨by rw [c4 j hj, c4' j hj, z.2], ?_⟩
          rw [c4 j hj, e]
          exact ⟨by omega, by omega⟩
/-- stagger: one on both sides -/
theorem x_stagger_eq {pn rt ft fw srow fr fg cx Td Nm Tb K By D Fm Fg Fw Bw : Nat → Int32} {pt : Nat → Int64} {k : Nat → Nat} {q : Nat} {d lim kn sl cup cl c1 c2 up pa so a0 : Int32} (q8 : q ≤ 8) (hE : xE true q pn pt Td Nm Tb) (hd : xDd d D) (hk : ∀ j, j < q → rt j = nI (k j) ∧ K j = nI (k j) ∧ 1 ≤ k j ∧ k j ≤ 9) (hn : ∀ j, j < 64 → 0 ≤ (pn j).toInt ∧ (pn j).toInt ≤ 511) (hz : ∀ j, j ≤ 144 → cx j = 0) (hc : yKn q pt d k (fun x => pn (8 * x + 3)) (fun x => pn (8 * x + 4)) lim kn sl srow) {r kn9 sl9 cup9 cl9 cp9 ct9 v up9 pa9 so9 : Int32} {sr9 fw9 ft9 fr9 fg9 cx9 Fm9 Fg9 By9 Fw9 Bw9 : Nat → Int32} (x1 : M_x_stagger a0 (nI q) kn c1 c2 cx lim pn pt fr fg rt ft fw srow sl cup cl d = (r, kn9, sl9, sr9, cup9, cl9, cp9, ct9, fw9, ft9, fr9, fg9, cx9)) (x2 : M_m_stagger a0 (nI q) lim Td Tb D Fm Fg Fw Bw up pa K By so = (v, up9, pa9, so9, Fm9, Fg9, By9, Fw9, Bw9)) : r = v ∧ (∀ j, j ≤ 144 → cx9 j = 0) ∧ yKn q pt d k (fun x => pn (8 * x + 3)) (fun x => pn (8 * x + 4)) lim kn9 sl9 sr9 := by
  have qq : (nI q).toInt = (q : Int) := nI_toInt (by omega)
  have m := xE_mono hE
  have m4 : (-4 : Int32).toInt = -4 := by decide
  have h3 : ∀ x, x < q → Td (7 * x + 3) = pn (8 * x + 3) ∧ Td (7 * x + 4) = pn (8 * x + 4) := fun x hx => ⟨((hE x hx).1 3 (by decide) (Or.inl (by decide))).symm, ((hE x hx).1 4 (by decide) (Or.inl (by decide))).symm⟩
  have hr : ∀ x, x < q → (0 ≤ (pn (8 * x + 3)).toInt ∧ (pn (8 * x + 3)).toInt ≤ 511) ∧ (0 ≤ (pn (8 * x + 4)).toInt ∧ (pn (8 * x + 4)).toInt ≤ 511) := fun x hx => ⟨hn _ (by omega), hn _ (by omega)⟩
  simp only [K_x_stagger_7, K_x_stagger_6, K_x_stagger_4, K_x_stagger_5, K_x_stagger_2, K_x_stagger_8, K_x_stagger_17, K_x_stagger_16, K_x_stagger_15, K_x_stagger_14, K_x_stagger_12, K_x_stagger_13, K_x_stagger_10, K_x_stagger_11, K_x_stagger_9, K_x_stagger_3, K_x_stagger_1, M_x_stagger] at x1
  simp only [K_m_stagger_8, K_m_stagger_7, K_m_stagger_6, K_m_stagger_4, K_m_stagger_5, K_m_stagger_2, K_m_stagger_15, K_m_stagger_14, K_m_stagger_13, K_m_stagger_11, K_m_stagger_12, K_m_stagger_9, K_m_stagger_10, K_m_stagger_3, K_m_stagger_1, M_m_stagger] at x2
  by_cases q6 : q ≤ 6
  · obtain ⟨sl', e1, e2, e3, e4, srow', fw', ft', fr', fg', cx', f1, f2, f3⟩ := t_findK (pn := pn) (rt := rt) (ft := ft) (fw := fw) (fr := fr) (fg := fg) (cup := cup) (cl := cl) (c1 := c1) (c2 := c2) q6 m (fun j hj => ⟨(hk j hj).1, (hk j hj).2.2⟩) (fun x _ => ⟨rfl, rfl⟩) hr hz hc
    obtain ⟨a', b', s', g1', g2', By', g3', g4', g1, g2⟩ := r_mstag (Fm := Fm) (Fg := Fg) (Fw := Fw) (Bw := Bw) (By := By) (up := up) (pa := pa) (lim := lim) q6 hE hd (fun j hj => ⟨(hk j hj).2.1, (hk j hj).2.2⟩) h3 hr
    obtain ⟨o1, o2⟩ := yB_one f2 g2
    subst o1
    by_cases a : a0.toInt = 0
    · rw [if_pos a, if_pos (by omega), t_alive, f1] at x1
      rw [if_pos a, if_pos (by omega), g1] at x2
      simp only [Prod.mk.injEq] at x1
      obtain ⟨y1, y2, y3, y4, -, -, -, -, -, -, -, -, y13⟩ := x1
      refine ⟨?_, by rw [← y13]; exact f3, by rw [← y2, ← y3, ← y4]; exact Or.inr ⟨rfl, q6, f2⟩⟩
      dsimp only at x2
      by_cases z : sl'.toInt = -4
      · rw [if_pos z] at x2
        simp only [Prod.mk.injEq] at x2
        rw [← y1, ← x2.1]
        exact Int32.toInt_inj.mp (by omega)
      · rw [if_neg z] at x2
        simp only [Prod.mk.injEq] at x2
        rw [← y1, ← x2.1]
    · rw [if_neg a] at x1 x2
      by_cases b : a0.toInt < 10
      · rw [if_pos b] at x1
        rw [if_neg (by omega)] at x2
        simp only [Prod.mk.injEq] at x1 x2
        obtain ⟨y1, y2, y3, y4, -, -, -, -, -, -, -, -, y13⟩ := x1
        exact ⟨by rw [← y1, ← x2.1], by rw [← y13]; exact hz, by rw [← y2, ← y3, ← y4]; exact hc⟩
      · rw [if_neg b] at x1
        by_cases c : a0.toInt < 10 + (q : Int)
        · rw [if_pos (by omega), if_pos (by omega), t_alive, f1] at x1
          rw [if_pos (by omega), if_pos (by omega), g1] at x2
          dsimp only at x1 x2
          by_cases z : sl'.toInt = -4
          · rw [if_pos z] at x1 x2
            simp only [Prod.mk.injEq] at x1 x2
            obtain ⟨y1, y2, y3, y4, -, -, -, -, -, -, -, -, y13⟩ := x1
            exact ⟨by rw [← y1, ← x2.1]; exact Int32.toInt_inj.mp (by omega), by rw [← y13]; exact f3, by rw [← y2, ← y3, ← y4]; exact Or.inr ⟨rfl, q6, f2⟩⟩
          · rw [if_neg z] at x1 x2
            simp only [Prod.mk.injEq] at x1 x2
            obtain ⟨y1, y2, y3, y4, -, -, -, -, -, -, -, -, y13⟩ := x1
            have t10 : (10 : Int32).toInt = 10 := by decide
            have e9 : (a0 - 10).toInt = a0.toInt - 10 := xsub rfl t10 (by omega) (by omega)
            have k9 := xtn (x := a0 - 10) (by omega)
            exact ⟨by rw [← y1, ← x2.1]; exact ((o2.resolve_left z) _ (by omega)).1, by rw [← y13]; exact f3, by rw [← y2, ← y3, ← y4]; exact Or.inr ⟨rfl, q6, f2⟩⟩
        · rw [if_neg (by omega)] at x1 x2
          simp only [Prod.mk.injEq] at x1 x2
          obtain ⟨y1, y2, y3, y4, -, -, -, -, -, -, -, -, y13⟩ := x1
          exact ⟨by rw [← y1, ← x2.1], by rw [← y13]; exact hz, by rw [← y2, ← y3, ← y4]; exact hc⟩
  · by_cases a : a0.toInt = 0
    · rw [if_pos a, if_neg (by omega)] at x1 x2
      simp only [Prod.mk.injEq] at x1 x2
      obtain ⟨y1, y2, y3, y4, -, -, -, -, -, -, -, -, y13⟩ := x1
      exact ⟨by rw [← y1, ← x2.1], by rw [← y13]; exact hz, by rw [← y2, ← y3, ← y4]; exact hc⟩
    · rw [if_neg a] at x1 x2
      by_cases b : a0.toInt < 10
      · rw [if_pos b] at x1
        rw [if_neg (by omega)] at x2
        simp only [Prod.mk.injEq] at x1 x2
        obtain ⟨y1, y2, y3, y4, -, -, -, -, -, -, -, -, y13⟩ := x1
        exact ⟨by rw [← y1, ← x2.1], by rw [← y13]; exact hz, by rw [← y2, ← y3, ← y4]; exact hc⟩
      · rw [if_neg b] at x1
        by_cases c : a0.toInt < 10 + (q : Int)
        · rw [if_pos (by omega), if_neg (by omega)] at x1 x2
          simp only [Prod.mk.injEq] at x1 x2
          obtain ⟨y1, y2, y3, y4, -, -, -, -, -, -, -, -, y13⟩ := x1
          exact ⟨by rw [← y1, ← x2.1], by rw [← y13]; exact hz, by rw [← y2, ← y3, ← y4]; exact hc⟩
        · rw [if_neg (by omega)] at x1 x2
          simp only [Prod.mk.injEq] at x1 x2
          obtain ⟨y1, y2, y3, y4, -, -, -, -, -, -, -, -, y13⟩ := x1
          exact ⟨by rw [← y1, ← x2.1], by rw [← y13]; exact hz, by rw [← y2, ← y3, ← y4]; exact hc⟩
theorem t_pSet {srow pn : Nat → Int32} {q : Nat} (q8 : q ≤ 8) : ∃ pn' : Nat → Int32, M_pSetWaits (nI q) srow pn = pn' ∧ (∀ j, (∀ r, r < q → j ≠ 8 * r + 5) → pn' j = pn j) ∧ ∀ r, r < q → pn' (8 * r + 5) = srow r := by
  obtain ⟨f', a1, a2, a3, -⟩ := sw_in (srow := srow) q8 q 0 (99999 - q) pn (by omega)
  rw [show 99999 - q + q + 1 = 100000 from by omega] at a1
  exact ⟨f', a1, a2, fun r hr => a3 r (by omega) hr⟩
/-- adopt: one on both sides -/
theorem x_adopt_eq {pn rt ft fw srow fr fg cx wk Td Nm Tb K By D Fm Fg Fw Bw : Nat → Int32} {pt : Nat → Int64} {k : Nat → Nat} {q : Nat} {d lim kn pk sl cup cl c1 c2 up pa so : Int32} (q8 : q ≤ 8) (hE : xE true q pn pt Td Nm Tb) (hd : xDd d D) (hk : ∀ j, j < q → rt j = nI (k j) ∧ K j = nI (k j) ∧ 1 ≤ k j ∧ k j ≤ 9) (hn : ∀ j, j < 64 → 0 ≤ (pn j).toInt ∧ (pn j).toInt ≤ 511) (hz : ∀ j, j ≤ 144 → cx j = 0) (hc : yKn q pt d k (fun x => pn (8 * x + 3)) (fun x => pn (8 * x + 4)) lim kn sl srow) {r kn9 sl9 cup9 cl9 cp9 ct9 pk9 v up9 pa9 so9 : Int32} {sr9 fw9 ft9 fr9 fg9 cx9 pn9 wk9 Fm9 Fg9 By9 Fw9 Td9 Bw9 : Nat → Int32} (x1 : M_x_adopt (nI q) pn pk wk kn c1 c2 cx lim pt fr fg rt ft fw srow sl cup cl d = (r, kn9, sl9, sr9, cup9, cl9, cp9, ct9, fw9, ft9, fr9, fg9, cx9, pn9, pk9, wk9)) (x2 : M_m_adopt (nI q) Td lim Tb D Fm Fg Fw Bw up pa K By so = (v, up9, pa9, so9, Fm9, Fg9, By9, Fw9, Td9, Bw9)) : r = v ∧ xE true q pn9 pt Td9 Nm Tb ∧ (∀ j, j ≤ 144 → cx9 j = 0) ∧ yKn q pt d k (fun x => pn9 (8 * x + 3)) (fun x => pn9 (8 * x + 4)) lim kn9 sl9 sr9 ∧ ((pn9 = pn ∧ pk9 = pk ∧ wk9 = wk ∧ Td9 = Td) ∨ (pk9 = 0 ∧ ∀ j, j < 64 → wk9 j = 0)) := by
  have qq : (nI q).toInt = (q : Int) := nI_toInt (by omega)
  have m := xE_mono hE
  have m4 : (-4 : Int32).toInt = -4 := by decide
  have h3 : ∀ x, x < q → Td (7 * x + 3) = pn (8 * x + 3) ∧ Td (7 * x + 4) = pn (8 * x + 4) := fun x hx => ⟨((hE x hx).1 3 (by decide) (Or.inl (by decide))).symm, ((hE x hx).1 4 (by decide) (Or.inl (by decide))).symm⟩
  have hr : ∀ x, x < q → (0 ≤ (pn (8 * x + 3)).toInt ∧ (pn (8 * x + 3)).toInt ≤ 511) ∧ (0 ≤ (pn (8 * x + 4)).toInt ∧ (pn (8 * x + 4)).toInt ≤ 511) := fun x hx => ⟨hn _ (by omega), hn _ (by omega)⟩
  simp only [K_x_adopt_6, K_x_adopt_9, K_x_adopt_8, K_x_adopt_7, K_x_adopt_5, K_x_adopt_4, K_x_adopt_2, K_x_adopt_3, K_x_adopt_1, M_x_adopt] at x1
  by_cases q6 : q ≤ 6
  · obtain ⟨sl', e1, e2, e3, e4, srow', fw', ft', fr', fg', cx', f1, f2, f3⟩ := t_findK (pn := pn) (rt := rt) (ft := ft) (fw := fw) (fr := fr) (fg := fg) (cup := cup) (cl := cl) (c1 := c1) (c2 := c2) q6 m (fun j hj => ⟨(hk j hj).1, (hk j hj).2.2⟩) (fun x _ => ⟨rfl, rfl⟩) hr hz hc
    obtain ⟨a', b', s', g1', g2', By', g3', g4', g1, g2⟩ := r_mstag (Fm := Fm) (Fg := Fg) (Fw := Fw) (Bw := Bw) (By := By) (up := up) (pa := pa) (lim := lim) q6 hE hd (fun j hj => ⟨(hk j hj).2.1, (hk j hj).2.2⟩) h3 hr
    obtain ⟨o1, o2⟩ := yB_one f2 g2
    subst o1
    obtain ⟨Td', b1, b2, b3, -⟩ := aw_in (B := g4') (u1 := g1') (u2 := g2') (u3 := By') (u4 := g3') (s := sl') (a := a') (b := b') q8 q 0 (99999 - q) Td (by omega)
    rw [show 99999 - q + q + 1 = 100000 from by omega] at b1
    have x2 : K_m_adopt_L5 (nI q) sl' a' b' g1' g2' By' g3' g4' 100000 0 Td = (v, up9, pa9, so9, Fm9, Fg9, By9, Fw9, Td9, Bw9) := by
      rw [← x2]
      simp only [M_m_adopt, K_m_adopt_1, K_m_adopt_2, K_m_adopt_4]
      rw [if_pos (by omega), g1]
    have x2 := b1.symm.trans x2
    simp only [Prod.mk.injEq] at x2
    obtain ⟨v1, -, -, -, -, -, -, -, v9, -⟩ := x2
    rw [if_pos (by omega), t_alive, f1] at x1
    dsimp only at x1
    by_cases z : sl'.toInt = -4
    · rw [if_pos z] at x1
      simp only [Prod.mk.injEq] at x1
      obtain ⟨y1, y2, y3, y4, -, -, -, -, -, -, -, -, y13, y14, y15, y16⟩ := x1
      have eT : Td' = Td := by
        funext j
        by_cases w : ∃ r, r < q ∧ j = 7 * r + 5
        · obtain ⟨r, w1, w2⟩ := w
          rw [w2, b3 r (by omega) w1, if_pos z]
        · exact b2 j (fun r w1 w2 => w ⟨r, w1, w2⟩)
      refine ⟨by rw [← y1, ← v1], ?_, by rw [← y13]; exact f3, by rw [← y2, ← y3, ← y4, ← y14]; exact Or.inr ⟨rfl, q6, f2⟩, Or.inl ⟨y14.symm, y15.symm, y16.symm, by rw [← v9]; exact eT⟩⟩
      rw [← y14, ← v9, eT]
      exact hE
    · obtain ⟨pn', p1, p2, p3⟩ := t_pSet (srow := srow') (pn := pn) q8
      have fo := r_forget wk
      rw [if_neg z, p1] at x1
      simp only [Prod.mk.injEq] at x1
      obtain ⟨y1, y2, y3, y4, -, -, -, -, -, -, -, -, y13, y14, y15, y16⟩ := x1
      refine ⟨by rw [← y1, ← v1], ?_, by rw [← y13]; exact f3, Or.inl y2.symm, Or.inr ⟨y15.symm, by rw [← y16]; exact fo⟩⟩
      rw [← y14, ← v9]
      intro r hr9
      obtain ⟨a, b, c, e, -⟩ := hE r hr9
      have o := (o2.resolve_left z) r hr9
      refine ⟨fun j hj hw => ?_, ?_, c, e, fun _ => ?_⟩
      · by_cases j5 : j = 5
        · rw [j5, p3 r hr9, b3 r (by omega) hr9, if_neg z]
          exact o.1
        · rw [p2 _ (fun r' _ => by omega), b2 _ (fun r' _ => by omega)]
          exact a j hj (Or.inl j5)
      · rw [p2 _ (fun r' _ => by omega)]
        exact b
      · rw [b3 r (by omega) hr9, if_neg z, ← o.1]
        exact o.2
  · rw [if_neg (by omega)] at x1
    simp only [K_m_adopt_6, K_m_adopt_8, K_m_adopt_9, K_m_adopt_7, K_m_adopt_5, K_m_adopt_4, K_m_adopt_2, K_m_adopt_3, K_m_adopt_1, M_m_adopt] at x2
    rw [if_neg (by omega)] at x2
    simp only [Prod.mk.injEq] at x1 x2
    obtain ⟨y1, y2, y3, y4, -, -, -, -, -, -, -, -, y13, y14, y15, y16⟩ := x1
    obtain ⟨v1, -, -, -, -, -, -, -, v9, -⟩ := x2
    exact ⟨by rw [← y1, ← v1], by rw [← y14, ← v9]; exact hE, by rw [← y13]; exact hz, by rw [← y2, ← y3, ← y4, ← y14]; exact hc, Or.inl ⟨y14.symm, y15.symm, y16.symm, v9.symm⟩⟩
