theorem sw_in {srow : Nat → Int32} {q : Nat} (q8 : q ≤ 8) : ∀ (m x k : Nat) (f : Nat → Int32), x + m = q → ∃ f' : Nat → Int32, K_pSetWaits_L2 (nI q) srow (k + m + 1) (nI x) f = f' ∧ (∀ j, (∀ r, r < q → j ≠ 8 * r + 5) → f' j = f j) ∧ (∀ r, x ≤ r → r < q → f' (8 * r + 5) = srow r) ∧ (∀ r, r < x → f' (8 * r + 5) = f (8 * r + 5)) := by
  have qq : (nI q).toInt = (q : Int) := nI_toInt (by omega)
  intro m
  induction m with
  | zero =>
    intro x k f hx
    have ex : (nI x).toInt = (x : Int) := nI_toInt (by omega)
    refine ⟨f, ?_, fun j _ => rfl, fun r a b => absurd a (by omega), fun r _ => rfl⟩
    simp only [K_pSetWaits_L2, K_pSetWaits_3, K_pSetWaits_5, K_pSetWaits_4, K_pSetWaits_2, K_pSetWaits_1, M_pSetWaits]
    rw [if_pos (by omega)]
  | succ m ih =>
    intro x k f hx
    have ex : (nI x).toInt = (x : Int) := nI_toInt (by omega)
    have exc : (nI x).toNatClampNeg = x := nI_clamp (by omega)
    obtain ⟨f', a1, a2, a3, a4⟩ := ih (x + 1) k (upd f (8 * x + 5) (srow x)) (by omega)
    refine ⟨f', ?_, fun j hj => ?_, fun r r1 r2 => ?_, fun r hr => ?_⟩
    · rw [← a1]
      show K_pSetWaits_L2 (nI q) srow ((k + m + 1) + 1) (nI x) f = _
      generalize k + m + 1 = j
      simp only [K_pSetWaits_L2, K_pSetWaits_3, K_pSetWaits_5, K_pSetWaits_4, K_pSetWaits_2, K_pSetWaits_1, M_pSetWaits]
      rw [if_neg (by omega), exc, nI_1, show M_setNumber f (nI x) 5 (srow x) = _ from t_setN (k := 5) (by omega) (by decide)]
    · rw [a2 j hj, xupd_o (hj x (by omega))]
    · by_cases e : r = x
      · rw [e, a4 x (by omega), xupd_s]
      · exact a3 r (by omega) r2
    · rw [a4 r (by omega), xupd_o (by omega)]
theorem aw_in {B u1 u2 u3 u4 : Nat → Int32} {s a b : Int32} {q : Nat} (q8 : q ≤ 8) : ∀ (m x k : Nat) (f : Nat → Int32), x + m = q → ∃ f' : Nat → Int32, K_m_adopt_L5 (nI q) s a b u1 u2 u3 u4 B (k + m + 1) (nI x) f = (s, a, b, s, u1, u2, u3, u4, f', B) ∧ (∀ j, (∀ r, r < q → j ≠ 7 * r + 5) → f' j = f j) ∧ (∀ r, x ≤ r → r < q → f' (7 * r + 5) = if s.toInt = -4 then f (7 * r + 5) else B r) ∧ (∀ r, r < x → f' (7 * r + 5) = f (7 * r + 5)) := by
  have qq : (nI q).toInt = (q : Int) := nI_toInt (by omega)
  intro m
  induction m with
  | zero =>
    intro x k f hx
    have ex : (nI x).toInt = (x : Int) := nI_toInt (by omega)
    refine ⟨f, ?_, fun j _ => rfl, fun r a b => absurd a (by omega), fun r _ => rfl⟩
    simp only [K_m_adopt_L5, K_m_adopt_6, K_m_adopt_8, K_m_adopt_9, K_m_adopt_7, K_m_adopt_5, K_m_adopt_4, K_m_adopt_2, K_m_adopt_3, K_m_adopt_1, M_m_adopt]
    rw [if_pos (by omega)]
  | succ m ih =>
    intro x k f hx
    have ex : (nI x).toInt = (x : Int) := nI_toInt (by omega)
    have exc : (nI x).toNatClampNeg = x := nI_clamp (by omega)
    have e7 : (((7 : Int32) * nI x) + 5).toNatClampNeg = 7 * x + 5 := xi7 (k := 5) (by omega) (by decide)
    by_cases z : s.toInt = -4
    · refine ⟨f, ?_, fun j _ => rfl, fun r a b => by rw [if_pos z], fun r _ => rfl⟩
      show K_m_adopt_L5 (nI q) s a b u1 u2 u3 u4 B ((k + m + 1) + 1) (nI x) f = _
      generalize k + m + 1 = j
      simp only [K_m_adopt_L5, K_m_adopt_6, K_m_adopt_8, K_m_adopt_9, K_m_adopt_7, K_m_adopt_5, K_m_adopt_4, K_m_adopt_2, K_m_adopt_3, K_m_adopt_1, M_m_adopt]
      rw [if_neg (by omega), if_pos z]
    · obtain ⟨f', a1, a2, a3, a4⟩ := ih (x + 1) k (upd f (7 * x + 5) (B x)) (by omega)
      refine ⟨f', ?_, fun j hj => ?_, fun r r1 r2 => ?_, fun r hr => ?_⟩
      · rw [← a1]
        show K_m_adopt_L5 (nI q) s a b u1 u2 u3 u4 B ((k + m + 1) + 1) (nI x) f = _
        generalize k + m + 1 = j
        simp only [K_m_adopt_L5, K_m_adopt_6, K_m_adopt_8, K_m_adopt_9, K_m_adopt_7, K_m_adopt_5, K_m_adopt_4, K_m_adopt_2, K_m_adopt_3, K_m_adopt_1, M_m_adopt]
        rw [if_neg (by omega), if_neg z, exc, nI_1, e7]
      · rw [a2 j hj, xupd_o (hj x (by omega))]
      · by_cases e : r = x
        · rw [e, a4 x (by omega), xupd_s, if_neg z]
        · rw [a3 r (by omega) r2, if_neg z, if_neg z]
      · rw [a4 r (by omega), xupd_o (by omega)]
