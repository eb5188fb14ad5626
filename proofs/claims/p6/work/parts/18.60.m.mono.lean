/-- more sets, no less reckoned -/
def xle : List Bool → List Bool → Prop
  | [], [] => True
  | a :: l, b :: m => (a = true → b = true) ∧ xle l m
  | _, _ => False
theorem xap_le {x : Int} : ∀ {l m : List Bool}, xle l m → xle (xap x l) (xap x m)
  | [], [], _ => trivial
  | [], _ :: _, h => h.elim
  | _ :: _, [], h => h.elim
  | [_], [_], h => h
  | [_], _ :: _ :: _, h => h.2.elim
  | _ :: _ :: _, [_], h => h.2.elim
  | a :: b :: l, c :: d :: m, h => by
    obtain ⟨h1, h2, h3⟩ := h
    show (((if x = 10 then b && a else b || a) = true → (if x = 10 then d && c else d || c) = true) ∧ xle l m)
    refine ⟨fun z => ?_, h3⟩
    by_cases q : x = 10
    · rw [if_pos q, Bool.and_eq_true] at z ⊢
      exact ⟨h2 z.1, h1 z.2⟩
    · rw [if_neg q, Bool.or_eq_true] at z ⊢
      exact z.elim (fun y => Or.inl (h2 y)) (fun y => Or.inr (h1 y))
theorem xev_mono {c : Nat → Int32} {s t : Nat} : ∀ n : Nat, (∀ j, j < n → (c j).toInt < 9 → s.testBit (c j).toInt.toNat = true → t.testBit (c j).toInt.toNat = true) → xle (xev c s n) (xev c t n) := by
  intro n
  induction n with
  | zero => exact fun _ => trivial
  | succ n ih =>
    intro h
    have i9 := ih (fun j hj => h j (by omega))
    rw [xev, xev]
    by_cases q : (c n).toInt < 9
    · rw [if_pos q, if_pos q]
      exact ⟨h n (by omega) q, i9⟩
    · rw [if_neg q, if_neg q]
      exact xap_le i9
theorem xev_mono1 {c : Nat → Int32} {s t n : Nat} {a b : Bool} (h : ∀ j, j < n → (c j).toInt < 9 → s.testBit (c j).toInt.toNat = true → t.testBit (c j).toInt.toNat = true) (h1 : xev c s n = [a]) (h2 : xev c t n = [b]) (ha : a = true) : b = true := by
  have z := xev_mono n h
  rw [h1, h2] at z
  exact z.1 ha
