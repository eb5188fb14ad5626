theorem xsw_in {srow : Nat → Int32} {q : Int32} (q8 : 0 ≤ q.toInt ∧ q.toInt ≤ 8) : ∀ (m k : Nat) (x : Int32) (f : Nat → Int32), 0 ≤ x.toInt → q.toInt - x.toInt ≤ (m : Int) → ∀ j : Nat, (∀ r : Nat, r < 8 → j ≠ 8 * r + 5) → K_pSetWaits_L2 q srow (k + m + 1) x f j = f j := by
  intro m
  induction m with
  | zero =>
    intro k x f hx hm j hj
    simp only [K_pSetWaits_L2, K_pSetWaits_3, K_pSetWaits_5, K_pSetWaits_4, K_pSetWaits_2, K_pSetWaits_1, M_pSetWaits]
    rw [if_pos (by omega)]
  | succ m ih =>
    intro k x f hx hm j hj
    show K_pSetWaits_L2 q srow ((k + m + 1) + 1) x f j = f j
    by_cases z : q.toInt ≤ x.toInt
    · simp only [K_pSetWaits_L2, K_pSetWaits_3, K_pSetWaits_5, K_pSetWaits_4, K_pSetWaits_2, K_pSetWaits_1, M_pSetWaits]
      rw [if_pos z]
    · have e1 : (x + 1).toInt = x.toInt + 1 := xadd (a := x.toInt) (b := 1) rfl (by decide) (by omega) (by omega)
      have k9 : ((x.toNatClampNeg : Nat) : Int) = x.toInt := by
        show ((x.toInt.toNat : Nat) : Int) = x.toInt
        omega
      have m8 : (x * (8 : Int32)).toInt = x.toInt * 8 := xmul (a := x.toInt) (b := 8) rfl (by decide) (by omega) (by omega)
      have a5 : (x * (8 : Int32) + 5).toInt = x.toInt * 8 + 5 := xadd (a := x.toInt * 8) (b := 5) m8 (by decide) (by omega) (by omega)
      have c5 : (x * (8 : Int32) + 5).toNatClampNeg = 8 * x.toNatClampNeg + 5 := xclamp (j := 8 * x.toNatClampNeg + 5) (by omega)
      have h := ih k (x + 1) (M_setNumber f x 5 (srow x.toNatClampNeg)) (by omega) (by omega) j hj
      have g : K_pSetWaits_L2 q srow ((k + m + 1) + 1) x f j = K_pSetWaits_L2 q srow (k + m + 1) (x + 1) (M_setNumber f x 5 (srow x.toNatClampNeg)) j := by
        generalize k + m + 1 = n
        simp only [K_pSetWaits_L2, K_pSetWaits_3, K_pSetWaits_5, K_pSetWaits_4, K_pSetWaits_2, K_pSetWaits_1, M_pSetWaits]
        rw [if_neg z]
      rw [g, h]
      simp only [M_setNumber, K_setNumber_1, M_setNumber]
      show (if j = (x * (8 : Int32) + 5).toNatClampNeg then _ else f j) = f j
      exact if_neg (by rw [c5]; exact hj x.toNatClampNeg (by omega))
theorem xsw_keep {rails : Int32} {srow pn pn9 : Nat → Int32} (h : 0 ≤ rails.toInt ∧ rails.toInt ≤ 8) (e : M_pSetWaits rails srow pn = pn9) : ∀ j : Nat, (∀ r : Nat, r < 8 → j ≠ 8 * r + 5) → pn9 j = pn j := fun j hj => by
  rw [← e]
  exact xsw_in (q8 := h) 8 99991 0 pn (by decide) (by have z : (0 : Int32).toInt = 0 := (by decide); omega) j hj
