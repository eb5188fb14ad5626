/-- the latest of the first n, naught if there is none -/
def yMx (G : Nat → Nat) : Nat → Nat
  | 0 => 0
  | n + 1 => if G n = 100000 then yMx G n else max (yMx G n) (G n)
theorem yMx_ge {G : Nat → Nat} : ∀ n x, x < n → G x ≠ 100000 → G x ≤ yMx G n := by
  intro n
  induction n with
  | zero => exact fun x hx => absurd hx (by omega)
  | succ n ih =>
    intro x hx h
    unfold yMx
    by_cases e : x = n
    · subst e
      rw [if_neg h]
      exact Nat.le_max_right _ _
    · have a := ih x (by omega) h
      split
      · exact a
      · exact Nat.le_trans a (Nat.le_max_left _ _)
theorem yMx_at {G : Nat → Nat} : ∀ n, (yMx G n = 0 ∧ ∀ x, x < n → G x = 100000) ∨ ∃ x, x < n ∧ G x ≠ 100000 ∧ G x = yMx G n := by
  intro n
  induction n with
  | zero => exact Or.inl ⟨rfl, fun x hx => absurd hx (by omega)⟩
  | succ n ih =>
    unfold yMx
    by_cases e : G n = 100000
    · rw [if_pos e]
      rcases ih with ⟨a, b⟩ | ⟨x, a, b, c⟩
      · exact Or.inl ⟨a, fun x hx => by
          by_cases y : x = n
          · rw [y]; exact e
          · exact b x (by omega)⟩
      · exact Or.inr ⟨x, by omega, b, c⟩
    · rw [if_neg e]
      rcases ih with ⟨a, b⟩ | ⟨x, a, b, c⟩
      · exact Or.inr ⟨n, by omega, e, by rw [a]; exact (Nat.max_eq_right (Nat.zero_le _)).symm⟩
      · by_cases y : yMx G n ≤ G n
        · exact Or.inr ⟨n, by omega, e, (Nat.max_eq_right y).symm⟩
        · exact Or.inr ⟨x, by omega, b, by rw [c]; exact (Nat.max_eq_left (by omega)).symm⟩
theorem yMx_eq {G : Nat → Nat} {n T : Nat} (h1 : ∀ x, x < n → G x ≠ 100000 → G x ≤ T) (h2 : (T = 0 ∧ ∀ x, x < n → G x = 100000) ∨ ∃ x, x < n ∧ G x ≠ 100000 ∧ G x = T) : yMx G n = T := by
  rcases yMx_at (G := G) n with ⟨a, b⟩ | ⟨x, a, b, c⟩
  · rcases h2 with ⟨y, -⟩ | ⟨x, c1, c2, -⟩
    · omega
    · exact absurd (b x c1) c2
  · have l1 := h1 x a b
    rcases h2 with ⟨-, y⟩ | ⟨z, c1, c2, c3⟩
    · exact absurd (y x a) b
    · have l2 := yMx_ge n z c1 c2
      omega
/-- a row of waits in the reference's order -/
def yW (q x j : Nat) : Nat := x / 4 ^ (q - 1 - j) % 4
theorem yW_lt {q x j : Nat} : yW q x j < 4 := Nat.mod_lt _ (by decide)
/-- its number -/
def yNo (w : Nat → Nat) : Nat → Nat
  | 0 => 0
  | n + 1 => 4 * yNo w n + w n
/-- its number among those that wait at none but the RAILS of X -/
def yKa (X : Nat) (w : Nat → Nat) : Nat → Nat
  | 0 => 0
  | n + 1 => if X.testBit n = true then 4 * yKa X w n + w n else yKa X w n
theorem yNo_W {q x : Nat} : ∀ n, n ≤ q → yNo (yW q x) n = x / 4 ^ (q - n) % 4 ^ n := by
  intro n
  induction n with
  | zero => intro _; rw [yNo, Nat.pow_zero, Nat.mod_one]
  | succ n ih =>
    intro hn
    have e1 : q - n = (q - (n + 1)) + 1 := by omega
    have e2 : q - 1 - n = q - (n + 1) := by omega
    rw [yNo, ih (by omega), e1]
    unfold yW
    rw [e2, Nat.pow_succ, ← Nat.div_div_eq_div_mul]
    generalize x / 4 ^ (q - (n + 1)) = y
    rw [Nat.pow_succ, Nat.mul_comm (4 ^ n) 4, Nat.mod_mul]
    omega
theorem yNo_lt {w : Nat → Nat} (h : ∀ j, w j < 4) : ∀ n, yNo w n < 4 ^ n := by
  intro n
  induction n with
  | zero => exact Nat.zero_lt_one
  | succ n ih =>
    have := h n
    rw [yNo, Nat.pow_succ]
    omega
theorem yKa_lt {X : Nat} {w : Nat → Nat} (h : ∀ j, w j < 4) : ∀ n, yKa X w n < 4 ^ n := by
  intro n
  induction n with
  | zero => exact Nat.zero_lt_one
  | succ n ih =>
    have := h n
    rw [yKa, Nat.pow_succ]
    split <;> omega
/-- rows that wait at none but the RAILS of X: one order by both numbers -/
theorem y_order {X : Nat} {w v : Nat → Nat} (hw : ∀ j, w j < 4) (hv : ∀ j, v j < 4) (cw : ∀ j, ¬ X.testBit j = true → w j = 0) (cv : ∀ j, ¬ X.testBit j = true → v j = 0) : ∀ n, (yNo w n < yNo v n ↔ yKa X w n < yKa X v n) ∧ (yNo w n = yNo v n ↔ yKa X w n = yKa X v n) := by
  intro n
  induction n with
  | zero => exact ⟨Iff.rfl, Iff.rfl⟩
  | succ n ih =>
    have a := hw n
    have b := hv n
    rw [yNo, yNo, yKa, yKa]
    by_cases z : X.testBit n = true
    · rw [if_pos z, if_pos z]
      constructor <;> constructor <;> intro h <;> omega
    · rw [if_neg z, if_neg z, cw n z, cv n z]
      constructor <;> constructor <;> intro h <;> omega
theorem yNo_ext {w v : Nat → Nat} : ∀ n, (∀ j, j < n → w j = v j) → yNo w n = yNo v n := by
  intro n
  induction n with
  | zero => exact fun _ => rfl
  | succ n ih => intro h; rw [yNo, yNo, ih (fun j hj => h j (by omega)), h n (by omega)]
theorem yKa_ext {X : Nat} {w v : Nat → Nat} : ∀ n, (∀ j, j < n → w j = v j) → yKa X w n = yKa X v n := by
  intro n
  induction n with
  | zero => exact fun _ => rfl
  | succ n ih => intro h; rw [yKa, yKa, ih (fun j hj => h j (by omega)), h n (by omega)]
theorem yNo_inj {w v : Nat → Nat} (hw : ∀ j, w j < 4) (hv : ∀ j, v j < 4) : ∀ n, yNo w n = yNo v n → ∀ j, j < n → w j = v j := by
  intro n
  induction n with
  | zero => exact fun _ j hj => absurd hj (by omega)
  | succ n ih =>
    intro h j hj
    have a := hw n
    have b := hv n
    rw [yNo, yNo] at h
    by_cases e : j = n
    · rw [e]
      omega
    · exact ih (by omega) j (by omega)
/-- a row is the one of its number -/
theorem yW_No {q : Nat} {w : Nat → Nat} (hw : ∀ j, w j < 4) : ∀ j, j < q → yW q (yNo w q) j = w j := by
  refine yNo_inj (fun j => yW_lt) hw q ?_
  rw [yNo_W q (Nat.le_refl _), Nat.sub_self, Nat.pow_zero, Nat.div_one, Nat.mod_eq_of_lt (yNo_lt hw q)]
/-- the waits matter at those that come up alone -/
theorem yM_w {q : Nat} {P : Nat → Bool} {pt : Nat → Int64} {w v k : Nat → Nat} (h : ∀ x, x < q → P x = true → w x = v x) : ∀ t, t ≤ 100000 → yM q P pt w k t = yM q P pt v k t := by
  intro t
  induction t with
  | zero => exact fun _ => rfl
  | succ t ih =>
    intro ht
    have i9 := ih (by omega)
    show yN q P pt w k t (yM q P pt w k t) = yN q P pt v k t (yM q P pt v k t)
    rw [i9]
    have hlt := yM_lt (q := q) (P := P) (pt := pt) (w := v) (k := k) t
    generalize yM q P pt v k t = M at hlt
    have e : yG w k M = yG v k M := funext (fun x => by
      unfold yG
      by_cases z : M x = 100000
      · rw [if_pos z, if_pos z]
      · obtain ⟨-, y1, y2⟩ := (hlt x).resolve_left z
        rw [if_neg z, if_neg z, h x y1 y2])
    unfold yN
    rw [e]
/-- when each is GOOD, the last of them, what is drawn and its peak: for a row of waits -/
def yGT (q : Nat) (pt : Nat → Int64) (d : Int32) (k w : Nat → Nat) : Nat → Nat := yG w k (yT q pt d w k)
def yLT (q : Nat) (pt : Nat → Int64) (d : Int32) (k w : Nat → Nat) : Nat := yMx (yGT q pt d k w) q
theorem yT_w {q : Nat} {pt : Nat → Int64} {d : Int32} {w v k : Nat → Nat} (h : ∀ x, x < q → (yX q pt d).testBit x = true → w x = v x) : yT q pt d w k = yT q pt d v k := yM_w h 201 (by decide)
theorem yGT_w {q : Nat} {pt : Nat → Int64} {d : Int32} {w v k : Nat → Nat} (h : ∀ x, x < q → (yX q pt d).testBit x = true → w x = v x) : yGT q pt d k w = yGT q pt d k v := by
  have e := yT_w (k := k) h
  have hlt := yM_lt (q := q) (P := fun x => (yX q pt d).testBit x) (pt := pt) (w := v) (k := k) 201
  rw [show yM q (fun x => (yX q pt d).testBit x) pt v k 201 = yT q pt d v k from rfl] at hlt
  unfold yGT
  rw [e]
  funext x
  unfold yG
  by_cases z : yT q pt d v k x = 100000
  · rw [if_pos z, if_pos z]
  · obtain ⟨-, y1, y2⟩ := (hlt x).resolve_left z
    rw [if_neg z, if_neg z, h x y1 y2]
/-- what is drawn, tick by tick -/
def yDr (q : Nat) (pt : Nat → Int64) (d : Int32) (k : Nat → Nat) (n3 n4 : Nat → Int32) (w : Nat → Nat) (t : Nat) : Int32 := yD (yV n3 n4 w (yT q pt d w k) (yGT q pt d k w) t) q
theorem yDr_w {q : Nat} {pt : Nat → Int64} {d : Int32} {w v k : Nat → Nat} {n3 n4 : Nat → Int32} (h : ∀ x, x < q → (yX q pt d).testBit x = true → w x = v x) : yDr q pt d k n3 n4 w = yDr q pt d k n3 n4 v := by
  have hlt := yM_lt (q := q) (P := fun x => (yX q pt d).testBit x) (pt := pt) (w := v) (k := k) 201
  rw [show yM q (fun x => (yX q pt d).testBit x) pt v k 201 = yT q pt d v k from rfl] at hlt
  funext t
  unfold yDr
  rw [yT_w (k := k) h, yGT_w (k := k) h]
  refine yD_ext q (fun x hx => ?_)
  unfold yV
  by_cases z : yT q pt d v k x = 100000
  · rw [if_neg (fun y => y.1 z : ¬ (yT q pt d v k x ≠ 100000 ∧ yT q pt d v k x + w x ≤ t)), if_neg (fun y => y.1 z : ¬ (yT q pt d v k x ≠ 100000 ∧ yT q pt d v k x + v x ≤ t))]
  · obtain ⟨-, y1, y2⟩ := (hlt x).resolve_left z
    rw [h x y1 y2]
/-- no RAIL comes sooner for waiting -/
theorem yM_slow {q : Nat} {P : Nat → Bool} {pt : Nat → Int64} {w k : Nat → Nat} (q8 : q ≤ 8) (m : yMono q pt) : ∀ t, t ≤ 100000 → ∀ x, yM q P pt w k t x ≠ 100000 → yM q P pt (fun _ => 0) k t x ≠ 100000 ∧ yM q P pt (fun _ => 0) k t x ≤ yM q P pt w k t x := by
  intro t
  induction t with
  | zero => exact fun _ x h => absurd rfl h
  | succ t ih =>
    intro ht x
    have i9 := ih (by omega)
    show yN q P pt w k t (yM q P pt w k t) x ≠ 100000 → yN q P pt (fun _ => 0) k t (yM q P pt (fun _ => 0) k t) x ≠ 100000 ∧ yN q P pt (fun _ => 0) k t (yM q P pt (fun _ => 0) k t) x ≤ yN q P pt w k t (yM q P pt w k t) x
    have h1 := yM_lt (q := q) (P := P) (pt := pt) (w := w) (k := k) t
    have h2 := yM_lt (q := q) (P := P) (pt := pt) (w := fun _ => 0) (k := k) t
    generalize yM q P pt w k t = M at i9 h1
    generalize yM q P pt (fun _ => 0) k t = N at i9 h2
    have sub : ∀ j, (yS q (yG w k M) t).testBit j = true → (yS q (yG (fun _ => 0) k N) t).testBit j = true := fun j hj => by
      rw [yS_bit, Bool.and_eq_true, decide_eq_true_iff, decide_eq_true_iff] at hj ⊢
      refine ⟨hj.1, ?_⟩
      by_cases z : M j = 100000
      · have e : yG w k M j = 100000 := if_pos z
        omega
      · obtain ⟨a, b⟩ := i9 j z
        have e1 : yG w k M j = M j + w j + k j := if_neg z
        have e2 : yG (fun _ => 0) k N j = N j + 0 + k j := if_neg a
        omega
    unfold yN
    by_cases c1 : x < q ∧ N x = 100000 ∧ P x = true ∧ hb pt x (yS q (yG (fun _ => 0) k N) t + 256) = true
    · rw [if_pos c1]
      intro h
      refine ⟨by omega, ?_⟩
      by_cases c2 : x < q ∧ M x = 100000 ∧ P x = true ∧ hb pt x (yS q (yG w k M) t + 256) = true
      · rw [if_pos c2]
        exact Nat.le_refl _
      · rw [if_neg c2] at h
        exact absurd c1.2.1 (i9 x h).1
    · rw [if_neg c1]
      by_cases c2 : x < q ∧ M x = 100000 ∧ P x = true ∧ hb pt x (yS q (yG w k M) t + 256) = true
      · rw [if_pos c2]
        intro _
        have n1 : N x ≠ 100000 := fun z => c1 ⟨c2.1, z, c2.2.2.1, y_mono m (yS_lt q8) (yS_lt q8) c2.1 sub c2.2.2.2⟩
        have := (h2 x).resolve_left n1
        exact ⟨n1, by omega⟩
      · rw [if_neg c2]
        exact i9 x
