theorem xif {P Q : Prop} [Decidable P] [Decidable Q] (h : P ↔ Q) : (if P then (1 : Int32) else 0) = if Q then 1 else 0 := by
  by_cases hp : P
  · rw [if_pos hp, if_pos (h.mp hp)]
  · rw [if_neg hp, if_neg (fun q => hp (h.mpr q))]
theorem xnz {P : Prop} [Decidable P] {r : Int32} (h : r = if P then 1 else 0) : narrow .boolean (.int r) = .int r := by
  by_cases hp : P
  · rw [if_pos hp] at h
    subst h
    decide
  · rw [if_neg hp] at h
    subst h
    decide
/-! one list of words for all contracts: a callee's words among the caller's -/
abbrev wt (y : MethodName) (c : ByteArray) (n : Nat) (r : Option FieldType) : List Cond := Cond.code y c n r :: tbW
theorem xGW {Ts : List Cond} (hT : ∀ w ∈ tbW, w ∈ Ts) {y : MethodName} {c : ByteArray} {n : Nat} {r : Option FieldType} (h : Cond.code y c n r ∈ tbW) : GoodIn Ts (wt y c n r) := fun w hw => by
  have key : w ∈ tbW := by
    rcases List.mem_cons.mp hw with e | e
    · rw [e]; exact h
    · exact e
  exact ⟨hT w key, (tb_ok w key).2⟩
theorem xGV {Ts : List Cond} (hT : ∀ w ∈ tbW, w ∈ Ts) {own C : String} {idx : Nat} {y : MethodName} {c : ByteArray} {n : Nat} {r : Option FieldType} (h1 : Cond.methodLink own idx y ∈ tbW) (h2 : Cond.instanceMethod y ∈ tbW) (h3 : Cond.selects C y y ∈ tbW) (h4 : Cond.initialized C ∈ tbW) (h : Cond.code y c n r ∈ tbW) : GoodIn Ts (wsV own idx C y (wt y c n r)) := fun w hw => by
  unfold wsV at hw
  rcases List.mem_append.mp hw with e | e
  · have key : w ∈ tbW := by
      simp only [List.mem_cons, List.not_mem_nil, or_false] at e
      rcases e with e | e | e | e <;> (rw [e]; assumption)
    exact ⟨hT w key, (tb_ok w key).2⟩
  · exact xGW hT h w e
theorem xGS {Ts : List Cond} (hT : ∀ w ∈ tbW, w ∈ Ts) {own : String} {idx : Nat} {y : MethodName} {c : ByteArray} {n : Nat} {r : Option FieldType} (h1 : Cond.methodLink own idx y ∈ tbW) (h2 : Cond.static y ∈ tbW) (h4 : Cond.initialized y.cls ∈ tbW) (h : Cond.code y c n r ∈ tbW) : GoodIn Ts (va_wsS own idx y (wt y c n r)) := fun w hw => by
  unfold va_wsS at hw
  rcases List.mem_append.mp hw with e | e
  · have key : w ∈ tbW := by
      simp only [List.mem_cons, List.not_mem_nil, or_false] at e
      rcases e with e | e | e <;> (rw [e]; assumption)
    exact ⟨hT w key, (tb_ok w key).2⟩
  · exact xGW hT h w e
theorem tbC {y : MethodName} {c : ByteArray} {n : Nat} {r : Option FieldType} : ∀ w ∈ tbW, w ∈ wt y c n r := fun _ h => List.mem_cons_of_mem _ h
