/-- one row of waits tried -/
def yStep (lim : Int) (L : (Nat → Nat) → Nat) (p : (Nat → Nat) → Int) (w : Nat → Nat) : Option (Nat × (Nat → Nat)) → Option (Nat × (Nat → Nat))
  | none => if lim < p w then none else some (L w, w)
  | some (s, b) => if s ≤ L w then some (s, b) else if lim < p w then some (s, b) else some (L w, w)
/-- the first x rows tried, in the reference's order -/
def yR (lim : Int) (L : (Nat → Nat) → Nat) (p : (Nat → Nat) → Int) (q : Nat) : Nat → Option (Nat × (Nat → Nat))
  | 0 => none
  | x + 1 => yStep lim L p (yW q x) (yR lim L p q x)
/-- what was tried is no better than what is kept -/
theorem yR_dom {lim : Int} {L : (Nat → Nat) → Nat} {p : (Nat → Nat) → Int} {q : Nat} : ∀ x y, y < x → lim < p (yW q y) ∨ ∃ s b, yR lim L p q x = some (s, b) ∧ s ≤ L (yW q y) := by
  intro x
  induction x with
  | zero => exact fun y hy => absurd hy (by omega)
  | succ x ih =>
    intro y hy
    rw [yR]
    cases e : yR lim L p q x with
    | none =>
      by_cases z : lim < p (yW q x)
      · rw [yStep, if_pos z]
        by_cases e2 : y = x
        · rw [e2]; exact Or.inl z
        · rcases ih y (by omega) with a | ⟨s, b, a, -⟩
          · exact Or.inl a
          · rw [e] at a; exact absurd a (by simp)
      · rw [yStep, if_neg z]
        by_cases e2 : y = x
        · rw [e2]; exact Or.inr ⟨_, _, rfl, Nat.le_refl _⟩
        · rcases ih y (by omega) with a | ⟨s, b, a, -⟩
          · exact Or.inl a
          · rw [e] at a; exact absurd a (by simp)
    | some S =>
      obtain ⟨s, b⟩ := S
      rw [yStep]
      have old : y ≠ x → lim < p (yW q y) ∨ s ≤ L (yW q y) := fun e2 => by
        rcases ih y (by omega) with a | ⟨s', b', a, a2⟩
        · exact Or.inl a
        · rw [e] at a
          have a3 := Option.some.inj a
          rw [Prod.mk.injEq] at a3
          rw [← a3.1] at a2
          exact Or.inr a2
      by_cases z : s ≤ L (yW q x)
      · rw [if_pos z]
        by_cases e2 : y = x
        · rw [e2]; exact Or.inr ⟨_, _, rfl, z⟩
        · exact (old e2).elim Or.inl (fun a => Or.inr ⟨_, _, rfl, a⟩)
      · rw [if_neg z]
        by_cases z2 : lim < p (yW q x)
        · rw [if_pos z2]
          by_cases e2 : y = x
          · rw [e2]; exact Or.inl z2
          · exact (old e2).elim Or.inl (fun a => Or.inr ⟨_, _, rfl, a⟩)
        · rw [if_neg z2]
          by_cases e2 : y = x
          · rw [e2]; exact Or.inr ⟨_, _, rfl, Nat.le_refl _⟩
          · exact (old e2).elim Or.inl (fun a => Or.inr ⟨_, _, rfl, by omega⟩)
theorem yNo_le {v w : Nat → Nat} : ∀ n, (∀ j, j < n → v j ≤ w j) → yNo v n ≤ yNo w n ∧ ((∃ j, j < n ∧ v j < w j) → yNo v n < yNo w n) := by
  intro n
  induction n with
  | zero => exact fun _ => ⟨Nat.le_refl _, fun ⟨j, hj, _⟩ => absurd hj (by omega)⟩
  | succ n ih =>
    intro h
    obtain ⟨a, b⟩ := ih (fun j hj => h j (by omega))
    have c := h n (by omega)
    rw [yNo, yNo]
    refine ⟨by omega, fun ⟨j, hj, hl⟩ => ?_⟩
    by_cases e : j = n
    · rw [e] at hl
      omega
    · have := b ⟨j, by omega, hl⟩
      omega
theorem yKa_le {X : Nat} {v w : Nat → Nat} : ∀ n, (∀ j, j < n → X.testBit j = true → v j ≤ w j) → yKa X v n ≤ yKa X w n := by
  intro n
  induction n with
  | zero => exact fun _ => Nat.le_refl _
  | succ n ih =>
    intro h
    have a := ih (fun j hj => h j (by omega))
    rw [yKa, yKa]
    by_cases z : X.testBit n = true
    · have := h n (by omega) z
      rw [if_pos z, if_pos z]
      omega
    · rw [if_neg z, if_neg z]
      exact a
/-- a row that waits elsewhere too changes nothing -/
theorem yR_skip {lim : Int} {L : (Nat → Nat) → Nat} {p : (Nat → Nat) → Int} {q X x : Nat} (dep : ∀ w v : Nat → Nat, (∀ j, j < q → X.testBit j = true → w j = v j) → L w = L v ∧ p w = p v) (hx : x < 4 ^ q) (hn : ∃ j, j < q ∧ ¬ X.testBit j = true ∧ yW q x j ≠ 0) : yR lim L p q (x + 1) = yR lim L p q x := by
  obtain ⟨j0, j1, j2, j3⟩ := hn
  have v4 : ∀ j, (fun j => if X.testBit j = true then yW q x j else 0) j < 4 := fun j => by
    show (if X.testBit j = true then yW q x j else 0) < 4
    split
    · exact yW_lt
    · decide
  have le : ∀ j, j < q → (fun j => if X.testBit j = true then yW q x j else 0) j ≤ yW q x j := fun j _ => by
    show (if X.testBit j = true then yW q x j else 0) ≤ yW q x j
    split
    · exact Nat.le_refl _
    · exact Nat.zero_le _
  have ex : yNo (yW q x) q = x := by rw [yNo_W q (Nat.le_refl _), Nat.sub_self, Nat.pow_zero, Nat.div_one, Nat.mod_eq_of_lt hx]
  have lt : yNo (fun j => if X.testBit j = true then yW q x j else 0) q < x := by
    have a := (yNo_le q le).2 ⟨j0, j1, by
      show (if X.testBit j0 = true then yW q x j0 else 0) < yW q x j0
      rw [if_neg j2]
      omega⟩
    rw [ex] at a
    exact a
  have ag := yW_No (q := q) v4
  obtain ⟨d1, d2⟩ := dep (yW q x) (yW q (yNo (fun j => if X.testBit j = true then yW q x j else 0) q)) (fun j hj hb9 => by
    rw [ag j hj]
    exact (if_pos hb9).symm)
  have dm := yR_dom (lim := lim) (L := L) (p := p) (q := q) x _ lt
  rw [← d1, ← d2] at dm
  rw [yR]
  cases e : yR lim L p q x with
  | none =>
    rcases dm with a | ⟨s, b, a, -⟩
    · rw [yStep, if_pos a]
    · rw [e] at a; exact absurd a (by simp)
  | some S =>
    obtain ⟨s, b⟩ := S
    rw [yStep]
    by_cases z : s ≤ L (yW q x)
    · rw [if_pos z]
    · rw [if_neg z]
      rcases dm with a | ⟨s', b', a, a2⟩
      · rw [if_pos a]
      · rw [e] at a
        have a3 := Option.some.inj a
        rw [Prod.mk.injEq] at a3
        rw [← a3.1] at a2
        exact absurd a2 z
theorem yR_skips {lim : Int} {L : (Nat → Nat) → Nat} {p : (Nat → Nat) → Int} {q X n : Nat} (dep : ∀ w v : Nat → Nat, (∀ j, j < q → X.testBit j = true → w j = v j) → L w = L v ∧ p w = p v) : ∀ d, n + d ≤ 4 ^ q → (∀ y, n ≤ y → y < n + d → ∃ j, j < q ∧ ¬ X.testBit j = true ∧ yW q y j ≠ 0) → yR lim L p q (n + d) = yR lim L p q n := by
  intro d
  induction d with
  | zero => exact fun _ _ => rfl
  | succ d ih =>
    intro h1 h2
    rw [show n + (d + 1) = (n + d) + 1 from by omega, yR_skip dep (by omega) (h2 (n + d) (by omega) (by omega))]
    exact ih (by omega) (fun y a b => h2 y a (by omega))
/-- nothing is sooner than what cannot be sooner -/
theorem yR_end {lim : Int} {L : (Nat → Nat) → Nat} {p : (Nat → Nat) → Int} {q n s : Nat} {b : Nat → Nat} (hs : ∀ x, s ≤ L (yW q x)) (h : yR lim L p q n = some (s, b)) : ∀ d, yR lim L p q (n + d) = some (s, b) := by
  intro d
  induction d with
  | zero => exact h
  | succ d ih => rw [show n + (d + 1) = (n + d) + 1 from by omega, yR, ih, yStep, if_pos (hs _)]
/-- rows by the RAILS of X alone -/
def yCan (q X : Nat) (w : Nat → Nat) : Prop := (∀ j, w j < 4) ∧ ∀ j, ¬ (j < q ∧ X.testBit j = true) → w j = 0
theorem y_between {q X y : Nat} {w : Nat → Nat} (hX : ∀ j, X.testBit j = true → j < q) (hw : yCan q X w) (h1 : yNo w q < y) (h2 : y < 4 ^ q) (h : ∀ u : Nat → Nat, yCan q X u → yKa X w q < yKa X u q → yNo u q ≠ y) : ∃ j, j < q ∧ ¬ X.testBit j = true ∧ yW q y j ≠ 0 := by
  by_cases z : ∃ j, j < q ∧ ¬ X.testBit j = true ∧ yW q y j ≠ 0
  · exact z
  · exfalso
    have c : ∀ j, ¬ X.testBit j = true → (fun j => if j < q then yW q y j else 0) j = 0 := fun j hj => by
      show (if j < q then yW q y j else 0) = 0
      by_cases a : j < q
      · rw [if_pos a]
        by_cases b : yW q y j = 0
        · exact b
        · exact absurd ⟨j, a, hj, b⟩ z
      · exact if_neg a
    have u4 : ∀ j, (fun j => if j < q then yW q y j else 0) j < 4 := fun j => by
      show (if j < q then yW q y j else 0) < 4
      split
      · exact yW_lt
      · decide
    have eu : yNo (fun j => if j < q then yW q y j else 0) q = y := by
      rw [yNo_ext (v := yW q y) q (fun j hj => if_pos hj), yNo_W q (Nat.le_refl _), Nat.sub_self, Nat.pow_zero, Nat.div_one, Nat.mod_eq_of_lt h2]
    refine h _ ⟨u4, fun j hj => ?_⟩ ?_ eu
    · by_cases a : j < q
      · exact c j (fun b => hj ⟨a, b⟩)
      · exact if_neg a
    · rw [← (y_order hw.1 u4 (fun j hj => hw.2 j (fun a => hj a.2)) c q).1, eu]
      exact h1
