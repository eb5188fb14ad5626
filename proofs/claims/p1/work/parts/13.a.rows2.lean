theorem xif {P Q : Prop} [Decidable P] [Decidable Q] (h : P ↔ Q) : (if P then (1 : Int32) else 0) = if Q then 1 else 0 := by
  by_cases hp : P
  · rw [if_pos hp, if_pos (h.mp hp)]
  · rw [if_neg hp, if_neg (fun q => hp (h.mpr q))]
theorem xnz {P : Prop} [Decidable P] {r : Int32} (h : r = if P then 1 else 0) : narrow .boolean (.int r) = .int r := by
  by_cases hp : P
  · rw [if_pos hp] at h
    subst h
    decide
  · rw [if_neg hp] at h
    subst h
    decide
