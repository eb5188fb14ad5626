/-- more GOOD, no less that may -/
def yMono (q : Nat) (pt : Nat → Int64) : Prop := ∀ r, r < q → ∀ s t, s < 512 → t < 512 → (∀ k, k < 9 → s.testBit k = true → t.testBit k = true) → hb pt r s = true → hb pt r t = true
theorem xE_mono {wt : Bool} {q : Nat} {pn Td Nm Tb : Nat → Int32} {pt : Nat → Int64} (h : xE wt q pn pt Td Nm Tb) : yMono q pt := fun r hr s t hs ht hst hv => (h r hr).2.2.2.1 s t hs ht (fun k hk _ z => hst k hk z) hv
theorem y_mono {q g h r : Nat} {pt : Nat → Int64} (m : yMono q pt) (hg : g < 256) (hh : h < 256) (hr : r < q) (s : ∀ j, g.testBit j = true → h.testBit j = true) (a : hb pt r (g + 256) = true) : hb pt r (h + 256) = true := m r hr (g + 256) (h + 256) (by omega) (by omega) (fun k hk z => by
  rw [y_bit256 ⟨g, hg⟩ ⟨k, hk⟩, Bool.or_eq_true] at z
  rw [y_bit256 ⟨h, hh⟩ ⟨k, hk⟩, Bool.or_eq_true]
  exact z.elim Or.inl (fun y => Or.inr (s k y))) a
theorem xit_fix {C : Nat → Nat → Bool} {q : Nat} (q8 : q ≤ 8) : ∀ k g, g < 256 → 9 ≤ xpc g + k → xup (C (xit C q k g)) q (xit C q k g) = xit C q k g := by
  intro k
  induction k with
  | zero =>
    intro g _ h
    have := xpc_le g
    omega
  | succ k ih =>
    intro g hg h
    by_cases z : xup (C g) q g = g
    · rw [show xit C q (k + 1) g = g from by unfold xit; exact if_pos z]
      exact z
    · rw [show xit C q (k + 1) g = xit C q k (xup (C g) q g) from by conv => lhs; unfold xit; rw [if_neg z]]
      have := xup_pc hg q8 z
      exact ih _ (xup_lt hg q q8) (by omega)
theorem xit_sub {C : Nat → Nat → Bool} {q Z : Nat} (q8 : q ≤ 8) (hZ : ∀ g r, g < 256 → r < q → (∀ j, g.testBit j = true → Z.testBit j = true) → C g r = true → Z.testBit r = true) : ∀ k g, g < 256 → (∀ j, g.testBit j = true → Z.testBit j = true) → ∀ j, (xit C q k g).testBit j = true → Z.testBit j = true := by
  intro k
  induction k with
  | zero => exact fun g _ h => h
  | succ k ih =>
    intro g hg h
    unfold xit
    split
    · exact h
    · refine ih _ (xup_lt hg q q8) (fun j hj => ?_)
      rw [xup_bit, Bool.or_eq_true, Bool.and_eq_true, decide_eq_true_iff] at hj
      rcases hj with y | ⟨y1, y2⟩
      · exact h j y
      · exact hZ g j hg y1 h y2
/-- what can be up is closed -/
theorem yX_closed {q : Nat} {pt : Nat → Int64} {d : Int32} (q8 : q ≤ 8) {r : Nat} (hr : r < q) (a : xb (nI (xDb q d)) r = false) (b : hb pt r (yX q pt d + 256) = true) : (yX q pt d).testBit r = true := by
  have z := xit_fix (C := xCm pt (nI (xDb q d))) q8 9 0 (by decide) (by decide)
  rw [show xit (xCm pt (nI (xDb q d))) q 9 0 = yX q pt d from rfl] at z
  rw [← z, xup_bit]
  have e : xCm pt (nI (xDb q d)) (yX q pt d) r = true := by unfold xCm; rw [a, b]; rfl
  simp [e, hr]
theorem yX_alive {q : Nat} {pt : Nat → Int64} {d : Int32} (q8 : q ≤ 8) {r : Nat} (h : (yX q pt d).testBit r = true) : r < q ∧ xb (nI (xDb q d)) r = false := by
  have a : ∀ k g : Nat, (∀ j, g.testBit j = true → j < q ∧ xb (nI (xDb q d)) j = false) → ∀ j, (xit (xCm pt (nI (xDb q d))) q k g).testBit j = true → j < q ∧ xb (nI (xDb q d)) j = false := by
    intro k
    induction k with
    | zero => exact fun g h => h
    | succ k ih =>
      intro g h
      unfold xit
      split
      · exact h
      · refine ih _ (fun j hj => ?_)
        rw [xup_bit, Bool.or_eq_true, Bool.and_eq_true, decide_eq_true_iff] at hj
        rcases hj with y | ⟨y1, y2⟩
        · exact h j y
        · unfold xCm at y2
          rw [Bool.and_eq_true] at y2
          refine ⟨y1, ?_⟩
          cases e : xb (nI (xDb q d)) j with
          | false => rfl
          | true => rw [e] at y2; exact absurd y2.1 (by decide)
  exact a 9 0 (fun j hj => by rw [Nat.zero_testBit] at hj; exact absurd hj (by decide)) r h
/-- who may be raised at all does not matter beyond what can be up -/
theorem yM_P {q : Nat} {P : Nat → Bool} {pt : Nat → Int64} {w k9 : Nat → Nat} {d : Int32} (q8 : q ≤ 8) (m : yMono q pt) (hP : ∀ j, j < q → (P j = true → xb (nI (xDb q d)) j = false) ∧ ((yX q pt d).testBit j = true → P j = true)) : ∀ t, t ≤ 100000 → yM q P pt w k9 t = yM q (fun x => (yX q pt d).testBit x) pt w k9 t := by
  intro t
  induction t with
  | zero => exact fun _ => rfl
  | succ t ih =>
    intro ht
    have i9 := ih (by omega)
    show yN q P pt w k9 t (yM q P pt w k9 t) = yN q (fun x => (yX q pt d).testBit x) pt w k9 t (yM q (fun x => (yX q pt d).testBit x) pt w k9 t)
    rw [i9]
    have hlt := yM_lt (q := q) (P := fun x => (yX q pt d).testBit x) (pt := pt) (w := w) (k := k9) t
    generalize yM q (fun x => (yX q pt d).testBit x) pt w k9 t = M at hlt
    have sub : ∀ j, (yS q (yG w k9 M) t).testBit j = true → (yX q pt d).testBit j = true := fun j hj => by
      rw [yS_bit, Bool.and_eq_true, decide_eq_true_iff, decide_eq_true_iff] at hj
      rcases hlt j with y | y
      · have e : yG w k9 M j = 100000 := if_pos y
        omega
      · exact y.2.2
    funext x
    unfold yN
    by_cases z : x < q ∧ M x = 100000 ∧ P x = true ∧ hb pt x (yS q (yG w k9 M) t + 256) = true
    · rw [if_pos z, if_pos ⟨z.1, z.2.1, yX_closed q8 z.1 ((hP x z.1).1 z.2.2.1) (y_mono m (yS_lt q8) (yX_lt q8) z.1 sub z.2.2.2), z.2.2.2⟩]
    · rw [if_neg z, if_neg (fun y => z ⟨y.1, y.2.1, (hP x y.1).2 y.2.2.1, y.2.2.2⟩)]
/-- all that can be up come up, in the end -/
theorem yE_all {q : Nat} {P : Nat → Bool} {pt : Nat → Int64} {w k9 : Nat → Nat} {d : Int32} {R : Int32 × Int32 × (Nat → Int32) × (Nat → Int32)} (q8 : q ≤ 8) (m : yMono q pt) (hP : ∀ j, j < q → (P j = true → xb (nI (xDb q d)) j = false) ∧ ((yX q pt d).testBit j = true → P j = true)) (hX : ∀ j, j < q → xb (nI (xDb q d)) j = false → P j = true ∨ (yX q pt d).testBit j = false) (h : yPost q P pt w k9 R) : yE q (yT q pt d w k9) = yX q pt d := by
  obtain ⟨-, -, -, h4⟩ := h
  rw [yM_P q8 m hP 201 (by decide)] at h4
  have eb : ∀ j, (yE q (yT q pt d w k9)).testBit j = true ↔ (j < q ∧ yT q pt d w k9 j ≠ 100000) := fun j => by
    unfold yE
    rw [xup_bit, Nat.zero_testBit, Bool.false_or, Bool.and_eq_true, decide_eq_true_iff, decide_eq_true_iff]
  have el : yE q (yT q pt d w k9) < 256 := xup_lt (by decide) q q8
  have hlt := yM_lt (q := q) (P := fun x => (yX q pt d).testBit x) (pt := pt) (w := w) (k := k9) 201
  refine Nat.eq_of_testBit_eq (fun j => Bool.eq_iff_iff.mpr ⟨fun z => ?_, fun z => ?_⟩)
  · obtain ⟨z1, z2⟩ := (eb j).mp z
    rcases hlt j with y | y
    · exact absurd y z2
    · exact y.2.2
  · refine xit_sub (C := xCm pt (nI (xDb q d))) q8 (fun g r hg hr hs hc => ?_) 9 0 (by decide) (fun j hj => by rw [Nat.zero_testBit] at hj; exact absurd hj (by decide)) j z
    unfold xCm at hc
    rw [Bool.and_eq_true] at hc
    have a : xb (nI (xDb q d)) r = false := by
      cases e : xb (nI (xDb q d)) r with
      | false => rfl
      | true => rw [e] at hc; exact absurd hc.1 (by decide)
    have b := y_mono m hg el hr hs hc.2
    refine (eb r).mpr ⟨hr, ?_⟩
    rcases hX r hr a with y | y
    · exact h4 r hr y b
    · exfalso
      have sub : ∀ j, (yE q (yT q pt d w k9)).testBit j = true → (yX q pt d).testBit j = true := fun j hj => by
        obtain ⟨z1, z2⟩ := (eb j).mp hj
        rcases hlt j with y | y
        · exact absurd y z2
        · exact y.2.2
      have c := yX_closed q8 hr a (y_mono m el (yX_lt q8) hr sub b)
      rw [c] at y
      exact absurd y (by decide)
