theorem x_time_eq {wt : Bool} {a0 a1 rails limit retry behind mra mli mre mpa r pk pk9 kn kn9 v : Int32} {pn Td Nm Tb rt K wk rt9 wk9 K9 : Nat → Int32} {pt : Nat → Int64} (h : xPl wt rails limit retry behind pn pt mra mli mre mpa Td Nm Tb) (hk : xTk rails rt K) (x1 : M_x_time a0 rails a1 rt pk wk kn pn = (r, rt9, pk9, wk9, kn9)) (x2 : M_m_time a0 mra a1 K Td = (v, K9)) : r = v ∧ xTk rails rt9 K9 := by
  obtain ⟨e, -, -, -, r8, hE⟩ := h
  subst e
  have rn := xtn r8.1
  simp only [K_x_time_5, K_x_time_10, K_x_time_8, K_x_time_9, K_x_time_7, K_x_time_6, K_x_time_4, K_x_time_3, K_x_time_2, K_x_time_1, M_x_time] at x1
  simp only [K_m_time_6, K_m_time_7, K_m_time_5, K_m_time_4, K_m_time_3, K_m_time_2, K_m_time_1, M_m_time] at x2
  by_cases q : 0 ≤ a0.toInt ∧ a0.toInt < rails.toInt
  · rw [if_pos q] at x1 x2
    have an := xtn (x := a0) q.1
    have ea : nI a0.toNatClampNeg = a0 := xnI q.1
    obtain ⟨hr, -, -⟩ := hE a0.toNatClampNeg (by omega)
    have i80 := t_nb (q := a0.toNatClampNeg) (k := 0) (pn := pn) (by omega) (by decide)
    have i81 := t_nb (q := a0.toNatClampNeg) (k := 1) (pn := pn) (by omega) (by decide)
    have i70 := t_of7 (q := a0.toNatClampNeg) (k := 0) (Td := Td) (by omega) (by decide)
    have i71 := t_of7 (q := a0.toNatClampNeg) (k := 1) (Td := Td) (by omega) (by decide)
    rw [ea] at i80 i81 i70 i71
    have j80 : M_number pn a0 0 = pn (8 * a0.toNatClampNeg + 0) := i80
    have j81 : M_number pn a0 1 = pn (8 * a0.toNatClampNeg + 1) := i81
    have j70 : M_m_of Td a0 0 = Td (7 * a0.toNatClampNeg + 0) := i70
    have j71 : M_m_of Td a0 1 = Td (7 * a0.toNatClampNeg + 1) := i71
    rw [j80, j81, hr 0 (by decide) (Or.inl (by decide)), hr 1 (by decide) (Or.inl (by decide))] at x1
    rw [j70, j71] at x2
    have k0 := hk a0.toNatClampNeg (by omega)
    by_cases z : (Td (7 * a0.toNatClampNeg + 0)).toInt ≤ a1.toInt ∧ a1.toInt ≤ (Td (7 * a0.toNatClampNeg + 1)).toInt
    · rw [if_neg (by omega), if_pos z.2] at x1
      rw [if_pos z] at x2
      simp only [Prod.mk.injEq] at x1 x2
      obtain ⟨c0, c1, -⟩ := x1
      obtain ⟨d0, d1⟩ := x2
      refine ⟨by rw [← c0, ← d0, k0], fun j hj => ?_⟩
      rw [← c1, ← d1]
      by_cases w : j = a0.toNatClampNeg
      · rw [w, xupd_s, xupd_s]
      · rw [xupd_o w, xupd_o w]
        exact hk j hj
    · rw [if_neg z] at x2
      simp only [Prod.mk.injEq] at x2
      obtain ⟨d0, d1⟩ := x2
      by_cases w : a1.toInt < (Td (7 * a0.toNatClampNeg + 0)).toInt
      · rw [if_pos w] at x1
        simp only [Prod.mk.injEq] at x1
        obtain ⟨c0, c1, -⟩ := x1
        exact ⟨by rw [← c0, ← d0], fun j hj => by rw [← c1, ← d1]; exact hk j hj⟩
      · rw [if_neg w, if_neg (by omega)] at x1
        simp only [Prod.mk.injEq] at x1
        obtain ⟨c0, c1, -⟩ := x1
        exact ⟨by rw [← c0, ← d0], fun j hj => by rw [← c1, ← d1]; exact hk j hj⟩
  · rw [if_neg q] at x1 x2
    simp only [Prod.mk.injEq] at x1 x2
    obtain ⟨c0, c1, -⟩ := x1
    obtain ⟨d0, d1⟩ := x2
    exact ⟨by rw [← c0, ← d0], fun j hj => by rw [← c1, ← d1]; exact hk j hj⟩
/-- adopt changes waits alone -/
theorem xPl_waits {rails limit retry behind mra mli mre mpa : Int32} {pn pn9 Td Td9 Nm Tb : Nat → Int32} {pt : Nat → Int64} (h : xPl false rails limit retry behind pn pt mra mli mre mpa Td Nm Tb) (h1 : ∀ j, (∀ r, r < 8 → j ≠ 8 * r + 5) → pn9 j = pn j) (h2 : ∀ j, (∀ r, r < 8 → j ≠ 7 * r + 5) → Td9 j = Td j) : xPl false rails limit retry behind pn9 pt mra mli mre mpa Td9 Nm Tb := by
  obtain ⟨e1, e2, e3, e4, r8, hE⟩ := h
  have rn := xtn r8.1
  refine ⟨e1, e2, e3, e4, r8, fun r hr => ?_⟩
  obtain ⟨a, b, c⟩ := hE r hr
  refine ⟨fun k hk hw => ?_, ?_, c.1, c.2.1, fun z => absurd z (by decide)⟩
  · have k5 : k ≠ 5 := by
      rcases hw with w | w
      · exact w
      · exact absurd w (by decide)
    rw [h1 _ (fun r' _ => by omega), h2 _ (fun r' _ => by omega)]
    exact a k hk (Or.inl k5)
  · rw [h1 _ (fun r' _ => by omega)]
    exact b
