/-- the text: the class's own answer and fault are the reference's; its RAILS, its rules, its key too -/
theorem xtext_eq {tl mt : Int32} {tb Ft rf ur ua : Nat → Int32} {ra li re be de ke mra mli mre mpa mon dep kd dp mv mw mr so r r9 l9 m9 ra9 li9 re9 be9 de9 ke9 mra9 mli9 mre9 mpa9 mon9 : Int32} (hta : tl.toInt = mt.toInt) (htb : tb = Ft) (hbn : ∀ j : Nat, 0 ≤ (tb j).toInt) (h : 0 ≤ tl.toInt ∧ tl.toInt ≤ 400) (hra : ra = mra) (hru : li = mli ∧ re = mre ∧ be = mpa) (hke : ke = mon) (e1 : M_x_text ra li re be de ke tl tb dep kd rf = (r, l9, ra9, li9, re9, be9, de9, ke9)) (e2 : M_m_text mra mli mre mpa mon mt Ft ur ua dp mv mw mr so = (r9, mra9, mli9, mre9, mpa9, m9, mon9)) : r = r9 ∧ l9 = m9 ∧ ra9 = mra9 ∧ ke9 = mon9 ∧ (li9 = mli9 ∧ re9 = mre9 ∧ be9 = mpa9) ∧ ((l9.toInt = 0 ∧ de9 = 0) ∨ (l9.toInt ≠ 0 ∧ de9 = de)) := by
  have q := Int32.toInt_inj.mp hta
  obtain ⟨y1, y2, y3⟩ := hru
  subst q
  subst htb
  subst hra
  subst hke
  subst y1
  subst y2
  subst y3
  have e3 : M_m_text ra li re be ke tl tb ur ua dp mv mw mr so = (fun V => K_m_text_L13 ra li re be ke tl tb 100000 0 ur ua 0 999 0 5 0 0 0 dp V.1 V.2.1 V.2.2.1 V.2.2.2.1 V.2.2.2.2.1 V.2.2.2.2.2) (M_m_next 0 mv mw tl tb 0 mr so) := rfl
  have e4 := e2.symm.trans (e3.trans (r_text (rf := rf) (dep := dep) (kd := kd) hbn h.1 h.2))
  unfold M_x_text K_x_text_1 at e1
  generalize M_readText tl tb dep kd rf = t at e1 e4
  have e1 : K_x_text_2 t.2.2.2.2.2.2.2.1 t.1 t.2.2.2.2.2.2.2.2.2.2.1 t.2.2.2.2.2.2.2.2.2.2.2.1 t.2.2.2.2.2.2.2.2.2.2.2.2.1 t.2.2.2.2.2.2.2.2.2.2.2.2.2 t.2.2.2.2.2.2.2.2.1 ra li re be de ke = (r, l9, ra9, li9, re9, be9, de9, ke9) := e1
  unfold K_x_text_2 K_x_text_3 K_x_text_4 at e1
  dsimp only at e4
  by_cases q : t.2.2.2.2.2.2.2.1.toInt = 0
  · rw [if_pos q] at e1
    rw [if_pos q, if_pos q, if_pos q, if_pos q, if_pos q, if_pos q] at e4
    have a0 : t.1 = r := congrArg (fun z => z.1) e1
    have a1 : t.2.2.2.2.2.2.2.1 = l9 := congrArg (fun z => z.2.1) e1
    have a2 : t.2.2.2.2.2.2.2.2.2.2.1 = ra9 := congrArg (fun z => z.2.2.1) e1
    have a3 : t.2.2.2.2.2.2.2.2.2.2.2.1 = li9 := congrArg (fun z => z.2.2.2.1) e1
    have a4 : t.2.2.2.2.2.2.2.2.2.2.2.2.1 = re9 := congrArg (fun z => z.2.2.2.2.1) e1
    have a5 : t.2.2.2.2.2.2.2.2.2.2.2.2.2 = be9 := congrArg (fun z => z.2.2.2.2.2.1) e1
    have a6 : (0 : Int32) = de9 := congrArg (fun z => z.2.2.2.2.2.2.1) e1
    have a7 : (0 : Int32) = ke9 := congrArg (fun z => z.2.2.2.2.2.2.2) e1
    have b0 : r9 = t.1 := congrArg (fun z => z.1) e4
    have b1 : mra9 = t.2.2.2.2.2.2.2.2.2.2.1 := congrArg (fun z => z.2.1) e4
    have b2 : mli9 = t.2.2.2.2.2.2.2.2.2.2.2.1 := congrArg (fun z => z.2.2.1) e4
    have b3 : mre9 = t.2.2.2.2.2.2.2.2.2.2.2.2.1 := congrArg (fun z => z.2.2.2.1) e4
    have b4 : mpa9 = t.2.2.2.2.2.2.2.2.2.2.2.2.2 := congrArg (fun z => z.2.2.2.2.1) e4
    have b5 : m9 = t.2.2.2.2.2.2.2.1 := congrArg (fun z => z.2.2.2.2.2.1) e4
    have b6 : mon9 = (0 : Int32) := congrArg (fun z => z.2.2.2.2.2.2) e4
    exact ⟨(b0.trans a0).symm, (b5.trans a1).symm, (b1.trans a2).symm, (b6.trans a7).symm, ⟨(b2.trans a3).symm, (b3.trans a4).symm, (b4.trans a5).symm⟩, Or.inl ⟨by rw [← a1]; exact q, a6.symm⟩⟩
  · rw [if_neg q] at e1
    rw [if_neg q, if_neg q, if_neg q, if_neg q, if_neg q, if_neg q] at e4
    have a0 : -10 - t.2.2.2.2.2.2.2.2.1 = r := congrArg (fun z => z.1) e1
    have a1 : t.2.2.2.2.2.2.2.1 = l9 := congrArg (fun z => z.2.1) e1
    have a2 : ra = ra9 := congrArg (fun z => z.2.2.1) e1
    have a3 : li = li9 := congrArg (fun z => z.2.2.2.1) e1
    have a4 : re = re9 := congrArg (fun z => z.2.2.2.2.1) e1
    have a5 : be = be9 := congrArg (fun z => z.2.2.2.2.2.1) e1
    have a6 : de = de9 := congrArg (fun z => z.2.2.2.2.2.2.1) e1
    have a7 : ke = ke9 := congrArg (fun z => z.2.2.2.2.2.2.2) e1
    have b0 : r9 = -10 - t.2.2.2.2.2.2.2.2.1 := congrArg (fun z => z.1) e4
    have b1 : mra9 = ra := congrArg (fun z => z.2.1) e4
    have b2 : mli9 = li := congrArg (fun z => z.2.2.1) e4
    have b3 : mre9 = re := congrArg (fun z => z.2.2.2.1) e4
    have b4 : mpa9 = be := congrArg (fun z => z.2.2.2.2.1) e4
    have b5 : m9 = t.2.2.2.2.2.2.2.1 := congrArg (fun z => z.2.2.2.2.2.1) e4
    have b6 : mon9 = ke := congrArg (fun z => z.2.2.2.2.2.2) e4
    exact ⟨(b0.trans a0).symm, (b5.trans a1).symm, (b1.trans a2).symm, (b6.trans a7).symm, ⟨(b2.trans a3).symm, (b3.trans a4).symm, (b4.trans a5).symm⟩, Or.inr ⟨by rw [← a1]; exact q, a6.symm⟩⟩
/-- what is fed: eight bytes, the same on both sides -/
theorem r_feed (n : Int32) (f : Nat → Int32) (v : Int64) : M_x_feed n f v = M_m_feed n f v := by
  unfold M_x_feed K_x_feed_1 M_m_feed K_m_feed_1 M_push K_push_1
  have z1 : ¬ (1 : Int32).toInt = 0 := by decide
  have z0 : (0 : Int32).toInt = 0 := by decide
  by_cases q : n.toInt + 8 ≤ 400
  · rw [if_pos q, if_pos q]
    unfold K_push_2
    show K_x_feed_2 _ _ _ = _
    unfold K_x_feed_2
    rw [if_neg z1]
    unfold K_x_feed_4 K_m_feed_2
    rw [tb56, tb48, tb40, tb32, tb24, tb16, tb8, tb0]
  · rw [if_neg q, if_neg q]
    unfold K_push_3
    show K_x_feed_2 _ _ _ = _
    unfold K_x_feed_2
    rw [if_pos z0]
    unfold K_x_feed_3 K_m_feed_3
    rfl
theorem xnn_upd {f : Nat → Int32} {k : Nat} {x : Int32} (h : ∀ j : Nat, 0 ≤ (f j).toInt) (hx : 0 ≤ x.toInt) : ∀ j : Nat, 0 ≤ (upd f k x j).toInt := by
  intro j
  unfold upd
  split
  · exact hx
  · exact h j
theorem xnn_b {x : Int32} : 0 ≤ (x &&& (255 : Int32)).toInt := (xand_rng (x := x) (y := 255) (by decide)).1
theorem r_feedn {n : Int32} {f : Nat → Int32} {v : Int64} (h : ∀ j : Nat, 0 ≤ (f j).toInt) : ∀ j : Nat, 0 ≤ ((M_x_feed n f v).2.2 j).toInt := by
  unfold M_x_feed K_x_feed_1 M_push K_push_1
  have z1 : ¬ (1 : Int32).toInt = 0 := by decide
  have z0 : (0 : Int32).toInt = 0 := by decide
  by_cases q : n.toInt + 8 ≤ 400
  · rw [if_pos q]
    unfold K_push_2
    show ∀ j : Nat, 0 ≤ ((K_x_feed_2 _ _ _).2.2 j).toInt
    unfold K_x_feed_2
    rw [if_neg z1]
    unfold K_x_feed_4
    exact xnn_upd (xnn_upd (xnn_upd (xnn_upd (xnn_upd (xnn_upd (xnn_upd (xnn_upd h xnn_b) xnn_b) xnn_b) xnn_b) xnn_b) xnn_b) xnn_b) xnn_b
  · rw [if_neg q]
    unfold K_push_3
    show ∀ j : Nat, 0 ≤ ((K_x_feed_2 _ _ _).2.2 j).toInt
    unfold K_x_feed_2
    rw [if_pos z0]
    unfold K_x_feed_3
    exact h
theorem xtape_keep {tl mt r r9 t9 m9 : Int32} {tb Ft b9 F9 : Nat → Int32} {v : Int64} (hta : tl.toInt = mt.toInt) (htb : tb = Ft) (e1 : M_x_feed tl tb v = (r, t9, b9)) (e2 : M_m_feed mt Ft v = (r9, m9, F9)) : b9 = F9 := by
  have q := Int32.toInt_inj.mp hta
  subst q
  subst htb
  have z := e1.symm.trans ((r_feed tl tb v).trans e2)
  exact congrArg (fun t => t.2.2) z
theorem xtape_nn {tl r t9 : Int32} {tb b9 : Nat → Int32} {v : Int64} (hbn : ∀ j : Nat, 0 ≤ (tb j).toInt) (e1 : M_x_feed tl tb v = (r, t9, b9)) : ∀ j : Nat, 0 ≤ (b9 j).toInt := by
  have z := r_feedn (n := tl) (v := v) hbn
  rw [e1] at z
  exact z
