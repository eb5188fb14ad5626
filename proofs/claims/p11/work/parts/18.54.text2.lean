/-- the whole text: one answer and one fault on both sides -/
theorem r_text {f rf ur ua : Nat → Int32} {n dep kd dp mv mw mr so mra mli mre mpa mon : Int32} (hf : ∀ j, 0 ≤ (f j).toInt) (h0 : 0 ≤ n.toInt) (hn : n.toInt ≤ 400) : (fun V => K_m_text_L13 mra mli mre mpa mon n f 100000 0 ur ua 0 999 0 5 0 0 0 dp V.1 V.2.1 V.2.2.1 V.2.2.2.1 V.2.2.2.2.1 V.2.2.2.2.2) (M_m_next 0 mv mw n f 0 mr so) = (fun t => (if t.2.2.2.2.2.2.2.1.toInt = 0 then t.1 else -10 - t.2.2.2.2.2.2.2.2.1, if t.2.2.2.2.2.2.2.1.toInt = 0 then t.2.2.2.2.2.2.2.2.2.2.1 else mra, if t.2.2.2.2.2.2.2.1.toInt = 0 then t.2.2.2.2.2.2.2.2.2.2.2.1 else mli, if t.2.2.2.2.2.2.2.1.toInt = 0 then t.2.2.2.2.2.2.2.2.2.2.2.2.1 else mre, if t.2.2.2.2.2.2.2.1.toInt = 0 then t.2.2.2.2.2.2.2.2.2.2.2.2.2 else mpa, t.2.2.2.2.2.2.2.1, if t.2.2.2.2.2.2.2.1.toInt = 0 then 0 else mon)) (M_readText n f dep kd rf) := by
  have z0 : (0 : Int32).toInt = 0 := by decide
  have rt := r_tok (fl := 0) (mf := 0) (x := 0) (fp := 0) (kd := kd) (mv := mv) (mw := mw) (mr := mr) (so := so) hf hn (by decide) (by omega) rfl (by decide)
  have e : M_readText n f dep kd rf = (fun S => K_readText_L4 n f 100000 0 0 0 999 0 5 (M_fillI 8 (-4) rf) S.1 S.2.1 S.2.2.1 S.2.2.2.1 0 dep S.2.2.2.2.1 S.2.2.2.2.2) (M_step n f 0 0 kd 0) := by
    simp only [K_readText_7, K_readText_5, K_readText_13, K_readText_11, K_readText_18, K_readText_17, K_readText_15, K_readText_20, K_readText_19, K_readText_16, K_readText_14, K_readText_12, K_readText_9, K_readText_10, K_readText_8, K_readText_6, K_readText_4, K_readText_3, K_readText_2, K_readText_1, M_readText]
  rw [e]
  dsimp only
  generalize M_step n f 0 0 kd 0 = S at rt ⊢
  generalize M_m_next 0 mv mw n f 0 mr so = V at rt ⊢
  obtain ⟨lines', pl', kd', fr', vl', told', dep', rails', fl', fp', us', dr', mf', mw', li', re', be', dL', dR', dP', rf', ur', ua', y1, y2, y3, y4, y5, y6, y7⟩ := r_lines (mra := mra) (mli := mli) (mre := mre) (mpa := mpa) (mon := mon) hf hn 401 (M_fillI 8 (-4) rf) ur ua 0 0 0 S.1 S.2.1 S.2.2.1 S.2.2.2.1 0 dep S.2.2.2.2.1 S.2.2.2.2.2 0 0 0 0 dp V.1 V.2.1 V.2.2.1 V.2.2.2.1 V.2.2.2.2.1 V.2.2.2.2.2 999 0 5 999 0 5 rt.1 (by decide) (fun z => by
    have g := (rt.1.2.2.2 z).2.2.1
    refine ⟨by omega, by omega, by omega, rfl, by decide, by decide, ⟨by decide, fun j hj => absurd hj (by omega), fun i j _ hj => absurd hj (by omega), fun r hr => Or.inl ⟨?_, fun j hj => absurd hj (by omega)⟩⟩, by omega, by decide, by decide, by decide, rfl, rfl, rfl⟩
    unfold M_fillI
    rw [if_pos hr]
    decide)
  rw [y1 100000 (by decide), y2 100000 (by decide), r_told y4 y5 y6 y3 y7]
