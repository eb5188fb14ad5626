/-- what is fed: eight bytes, the same on both sides -/
theorem r_feed (n : Int32) (f : Nat → Int32) (v : Int64) : M_x_feed n f v = M_m_feed n f v := by
  unfold M_x_feed K_x_feed_1 M_m_feed K_m_feed_1 M_push K_push_1
  have z1 : ¬ (1 : Int32).toInt = 0 := by decide
  have z0 : (0 : Int32).toInt = 0 := by decide
  by_cases q : n.toInt + 8 ≤ 400
  · rw [if_pos q, if_pos q]
    unfold K_push_2
    show K_x_feed_2 _ _ _ = _
    unfold K_x_feed_2
    rw [if_neg z1]
    unfold K_x_feed_4 K_m_feed_2
    rw [tb56, tb48, tb40, tb32, tb24, tb16, tb8, tb0]
  · rw [if_neg q, if_neg q]
    unfold K_push_3
    show K_x_feed_2 _ _ _ = _
    unfold K_x_feed_2
    rw [if_pos z0]
    unfold K_x_feed_3 K_m_feed_3
    rfl
theorem xnn_upd {f : Nat → Int32} {k : Nat} {x : Int32} (h : ∀ j : Nat, 0 ≤ (f j).toInt) (hx : 0 ≤ x.toInt) : ∀ j : Nat, 0 ≤ (upd f k x j).toInt := by
  intro j
  unfold upd
  split
  · exact hx
  · exact h j
theorem xnn_b {x : Int32} : 0 ≤ (x &&& (255 : Int32)).toInt := (xand_rng (x := x) (y := 255) (by decide)).1
theorem r_feedn {n : Int32} {f : Nat → Int32} {v : Int64} (h : ∀ j : Nat, 0 ≤ (f j).toInt) : ∀ j : Nat, 0 ≤ ((M_x_feed n f v).2.2 j).toInt := by
  unfold M_x_feed K_x_feed_1 M_push K_push_1
  have z1 : ¬ (1 : Int32).toInt = 0 := by decide
  have z0 : (0 : Int32).toInt = 0 := by decide
  by_cases q : n.toInt + 8 ≤ 400
  · rw [if_pos q]
    unfold K_push_2
    show ∀ j : Nat, 0 ≤ ((K_x_feed_2 _ _ _).2.2 j).toInt
    unfold K_x_feed_2
    rw [if_neg z1]
    unfold K_x_feed_4
    exact xnn_upd (xnn_upd (xnn_upd (xnn_upd (xnn_upd (xnn_upd (xnn_upd (xnn_upd h xnn_b) xnn_b) xnn_b) xnn_b) xnn_b) xnn_b) xnn_b) xnn_b
  · rw [if_neg q]
    unfold K_push_3
    show ∀ j : Nat, 0 ≤ ((K_x_feed_2 _ _ _).2.2 j).toInt
    unfold K_x_feed_2
    rw [if_pos z0]
    unfold K_x_feed_3
    exact h
theorem xtape_keep {tl mt r r9 t9 m9 : Int32} {tb Ft b9 F9 : Nat → Int32} {v : Int64} (hta : tl.toInt = mt.toInt) (htb : tb = Ft) (e1 : M_x_feed tl tb v = (r, t9, b9)) (e2 : M_m_feed mt Ft v = (r9, m9, F9)) : b9 = F9 := by
  have q := Int32.toInt_inj.mp hta
  subst q
  subst htb
  have z := e1.symm.trans ((r_feed tl tb v).trans e2)
  exact congrArg (fun t => t.2.2) z
theorem xtape_nn {tl r t9 : Int32} {tb b9 : Nat → Int32} {v : Int64} (hbn : ∀ j : Nat, 0 ≤ (tb j).toInt) (e1 : M_x_feed tl tb v = (r, t9, b9)) : ∀ j : Nat, 0 ≤ (b9 j).toInt := by
  have z := r_feedn (n := tl) (v := v) hbn
  rw [e1] at z
  exact z
