/-- THE DEAD BY HAND: the class's bits are the reference's row -/
def xDd (d : Int32) (F : Nat → Int32) : Prop := ∀ j : Nat, j < 8 → (F j = 0 ∧ d.toBitVec.getLsbD j = false) ∨ (F j = 1 ∧ d.toBitVec.getLsbD j = true)
theorem xdd_0 {F : Nat → Int32} (h : ∀ j : Nat, j < 8 → F j = 0) : xDd 0 F := fun j hj => Or.inl ⟨h j hj, by simp⟩
theorem xdb1 : ∀ j : Fin 8, ((1 : Int32) <<< (nI j.val &&& 31)).toBitVec = BitVec.twoPow 32 j.val := by decide
theorem xdb2 : ∀ j k : Fin 8, (BitVec.twoPow 32 j.val).getLsbD k.val = decide (k = j) := by decide
theorem xdb3 : ∀ k : Fin 8, (-1 : Int32).toBitVec.getLsbD k.val = true := by decide
theorem xdb4 : ∀ j : Fin 8, (BitVec.twoPow 32 j.val).toInt ≠ 0 := by decide
theorem xdb_f {d : Int32} {j : Nat} (hj : j < 8) (h : d.toBitVec.getLsbD j = false) : (d &&& ((1 : Int32) <<< (nI j &&& 31))).toInt = 0 := by
  have e : (d &&& ((1 : Int32) <<< (nI j &&& 31))).toBitVec = 0#32 := by
    rw [Int32.toBitVec_and, xdb1 ⟨j, hj⟩, BitVec.and_twoPow, h]
    rfl
  show (d &&& ((1 : Int32) <<< (nI j &&& 31))).toBitVec.toInt = 0
  rw [e]
  decide
theorem xdb_t {d : Int32} {j : Nat} (hj : j < 8) (h : d.toBitVec.getLsbD j = true) : ¬ (d &&& ((1 : Int32) <<< (nI j &&& 31))).toInt = 0 := by
  have e : (d &&& ((1 : Int32) <<< (nI j &&& 31))).toBitVec = BitVec.twoPow 32 j := by
    rw [Int32.toBitVec_and, xdb1 ⟨j, hj⟩, BitVec.and_twoPow, h]
    rfl
  show ¬ (d &&& ((1 : Int32) <<< (nI j &&& 31))).toBitVec.toInt = 0
  rw [e]
  exact xdb4 ⟨j, hj⟩
theorem xdd_set {d : Int32} {F : Nat → Int32} {j : Nat} (hj : j < 8) (h : xDd d F) : xDd (d ||| ((1 : Int32) <<< (nI j &&& 31))) (upd F j 1) := by
  intro k hk
  have e : (d ||| ((1 : Int32) <<< (nI j &&& 31))).toBitVec.getLsbD k = (d.toBitVec.getLsbD k || decide ((⟨k, hk⟩ : Fin 8) = ⟨j, hj⟩)) := by
    rw [Int32.toBitVec_or, BitVec.getLsbD_or, xdb1 ⟨j, hj⟩, xdb2 ⟨j, hj⟩ ⟨k, hk⟩]
  rw [e]
  by_cases q : k = j
  · subst q
    rw [xupd_s]
    exact Or.inr ⟨rfl, by simp⟩
  · have z : decide ((⟨k, hk⟩ : Fin 8) = ⟨j, hj⟩) = false := decide_eq_false (fun y => q (congrArg Fin.val y))
    rw [xupd_o q, z, Bool.or_false]
    exact h k hk
theorem xdd_clr {d : Int32} {F : Nat → Int32} {j : Nat} (hj : j < 8) (h : xDd d F) : xDd (d &&& (((1 : Int32) <<< (nI j &&& 31)) ^^^ (-1 : Int32))) (upd F j 0) := by
  intro k hk
  have e : (d &&& (((1 : Int32) <<< (nI j &&& 31)) ^^^ (-1 : Int32))).toBitVec.getLsbD k = (d.toBitVec.getLsbD k && (decide ((⟨k, hk⟩ : Fin 8) = ⟨j, hj⟩) ^^ true)) := by
    rw [Int32.toBitVec_and, BitVec.getLsbD_and, Int32.toBitVec_xor, BitVec.getLsbD_xor, xdb1 ⟨j, hj⟩, xdb2 ⟨j, hj⟩ ⟨k, hk⟩, xdb3 ⟨k, hk⟩]
  rw [e]
  by_cases q : k = j
  · subst q
    rw [xupd_s]
    exact Or.inl ⟨rfl, by simp⟩
  · have z : decide ((⟨k, hk⟩ : Fin 8) = ⟨j, hj⟩) = false := decide_eq_false (fun y => q (congrArg Fin.val y))
    rw [xupd_o q, z, Bool.false_xor, Bool.and_true]
    exact h k hk
theorem xdd_dead {d a0 a1 ra mra r r9 d9 : Int32} {F F9 : Nat → Int32} (h : xDd d F) (hra : ra = mra) (hr : 0 ≤ ra.toInt ∧ ra.toInt ≤ 8) (ha : a1 = 0 ∨ a1 = 1) (e1 : M_x_dead a0 ra d a1 = (r, d9)) (e2 : M_m_dead a0 mra F a1 = (r9, F9)) : r = r9 ∧ xDd d9 F9 := by
  subst hra
  unfold M_x_dead K_x_dead_1 at e1
  unfold M_m_dead K_m_dead_1 at e2
  by_cases q : 0 ≤ a0.toInt ∧ a0.toInt < ra.toInt
  · rw [if_pos q] at e1 e2
    have k9 := xtn (x := a0) q.1
    obtain ⟨j, hj, ej⟩ : ∃ j : Nat, j < 8 ∧ a0 = nI j := ⟨a0.toNatClampNeg, by omega, (xnI q.1).symm⟩
    subst ej
    unfold K_m_dead_2 at e2
    rw [nI_clamp (by omega)] at e2
    unfold K_x_dead_2 at e1
    have n0 : vp_nar .boolean (0 : Int32) = 0 := by decide
    have n1 : vp_nar .boolean (1 : Int32) = 1 := by decide
    have s0 : sp_b 0 = 0 := by decide
    have s1 : sp_b 1 = 1 := by decide
    rcases h j hj with ⟨f0, b0⟩ | ⟨f1, b1⟩
    · rw [if_pos (xdb_f hj b0)] at e1
      unfold K_x_dead_4 at e1
      rw [f0] at e2
      rcases ha with y | y
      · subst y
        rw [if_pos (by decide)] at e1
        rw [n0] at e2
        exact ⟨(congrArg Prod.fst e1).symm.trans (congrArg Prod.fst e2), by have y1 : d9 = d &&& (((1 : Int32) <<< (nI j &&& 31)) ^^^ (-1 : Int32)) := (congrArg Prod.snd e1).symm; have y2 : F9 = upd F j 0 := (congrArg Prod.snd e2).symm; rw [y1, y2]; exact xdd_clr hj h⟩
      · subst y
        rw [if_neg (by decide)] at e1
        rw [n1] at e2
        exact ⟨(congrArg Prod.fst e1).symm.trans (congrArg Prod.fst e2), by have y1 : d9 = d ||| ((1 : Int32) <<< (nI j &&& 31)) := (congrArg Prod.snd e1).symm; have y2 : F9 = upd F j 1 := (congrArg Prod.snd e2).symm; rw [y1, y2]; exact xdd_set hj h⟩
    · rw [if_neg (xdb_t hj b1)] at e1
      unfold K_x_dead_5 at e1
      rw [f1] at e2
      rcases ha with y | y
      · subst y
        rw [if_pos (by decide)] at e1
        rw [n0] at e2
        exact ⟨(congrArg Prod.fst e1).symm.trans (congrArg Prod.fst e2), by have y1 : d9 = d &&& (((1 : Int32) <<< (nI j &&& 31)) ^^^ (-1 : Int32)) := (congrArg Prod.snd e1).symm; have y2 : F9 = upd F j 0 := (congrArg Prod.snd e2).symm; rw [y1, y2]; exact xdd_clr hj h⟩
      · subst y
        rw [if_neg (by decide)] at e1
        rw [n1] at e2
        exact ⟨(congrArg Prod.fst e1).symm.trans (congrArg Prod.fst e2), by have y1 : d9 = d ||| ((1 : Int32) <<< (nI j &&& 31)) := (congrArg Prod.snd e1).symm; have y2 : F9 = upd F j 1 := (congrArg Prod.snd e2).symm; rw [y1, y2]; exact xdd_set hj h⟩
  · rw [if_neg q] at e1 e2
    exact ⟨(congrArg Prod.fst e1).symm.trans (congrArg Prod.fst e2), by have y1 : d9 = d := (congrArg Prod.snd e1).symm; have y2 : F9 = F := (congrArg Prod.snd e2).symm; rw [y1, y2]; exact h⟩
theorem xdd_text {d d9 l9 m9 r r9 ra9 mra9 ke9 mon9 : Int32} {Z9 : Prop} {F F9 : Nat → Int32} (h : xDd d F) (e : r = r9 ∧ l9 = m9 ∧ ra9 = mra9 ∧ ke9 = mon9 ∧ Z9 ∧ ((l9.toInt = 0 ∧ d9 = 0) ∨ (l9.toInt ≠ 0 ∧ d9 = d))) (k : (m9.toInt = 0 ∧ ∀ j : Nat, j < 8 → F9 j = 0) ∨ (m9.toInt ≠ 0 ∧ F9 = F)) : xDd d9 F9 := by
  obtain ⟨-, q, -, -, -, z⟩ := e
  subst q
  rcases z with ⟨z1, z2⟩ | ⟨z1, z2⟩
  · rcases k with ⟨k1, k2⟩ | ⟨k1, k2⟩
    · rw [z2]
      exact xdd_0 k2
    · exact absurd z1 k1
  · rcases k with ⟨k1, k2⟩ | ⟨k1, k2⟩
    · exact absurd k1 z1
    · rw [z2, k2]
      exact h
