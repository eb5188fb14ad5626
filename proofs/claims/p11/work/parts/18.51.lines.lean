section
variable {f rf ur ua : Nat → Int32} {n i lines rails pl kd fr vl told dep fl fp dr hl hr us dp ps mr so mv mf mw li re be dL dR dP mra mli mre mpa mon : Int32}
theorem T_end (h : ¬ fl.toInt = 0 ∨ kd.toInt = 0) (k : Nat) : K_readText_L4 n f (k + 1) i lines rails li re be rf pl kd fr vl told dep fl fp = (lines, pl, kd, fr, vl, told, dep, (M_findNotTold fl fp rf rails).1, (M_findNotTold fl fp rf rails).2, rf, rails, li, re, be) := by
  simp only [K_readText_L4, K_readText_7, K_readText_5, K_readText_13, K_readText_11, K_readText_18, K_readText_17, K_readText_15, K_readText_20, K_readText_19, K_readText_16, K_readText_14, K_readText_12, K_readText_9, K_readText_10, K_readText_8, K_readText_6, K_readText_4, K_readText_3, K_readText_2, K_readText_1, M_readText]
  by_cases a : 400 ≤ i.toInt
  · simp only [if_pos a]
  · by_cases q : fl.toInt = 0
    · have c : kd.toInt = 0 := by
        rcases h with h | h
        · exact absurd q h
        · exact h
      simp only [if_neg a, if_pos q, if_pos c]
    · simp only [if_neg a, if_neg q]
theorem T_go (a : i.toInt < 400) (q : fl.toInt = 0) (c : ¬ kd.toInt = 0) (k : Nat) : K_readText_L4 n f (k + 1) i lines rails li re be rf pl kd fr vl told dep fl fp = (fun t => K_readText_L4 n f k (i + 1) (lines + 1) t.1 t.2.2.2.2.2.2.2.2.2.2.1 t.2.2.2.2.2.2.2.2.2.2.2.1 t.2.2.2.2.2.2.2.2.2.2.2.2 t.2.1 t.2.2.1 t.2.2.2.1 t.2.2.2.2.1 t.2.2.2.2.2.1 t.2.2.2.2.2.2.1 t.2.2.2.2.2.2.2.1 t.2.2.2.2.2.2.2.2.1 t.2.2.2.2.2.2.2.2.2.1) (cLine n f rails rf pl kd fr vl told dep fl fp li re be) := by
  unfold cLine
  simp only [K_readText_L4, K_readText_7, K_readText_5, K_readText_13, K_readText_11, K_readText_18, K_readText_17, K_readText_15, K_readText_20, K_readText_19, K_readText_16, K_readText_14, K_readText_12, K_readText_9, K_readText_10, K_readText_8, K_readText_6, K_readText_4, K_readText_3, K_readText_2, K_readText_1, M_readText]
  simp only [if_neg (by omega : ¬ 400 ≤ i.toInt), if_pos q, if_neg c]
  by_cases w : (M_isWord kd pl fr 4 f 0).toInt = 0
  · simp only [if_pos w]
  · simp only [if_neg w]
theorem X_end (h : ¬ mf.toInt = 0 ∨ so.toInt = 0) (k : Nat) : K_m_text_L13 mra mli mre mpa mon n f (k + 1) lines ur ua dr dL dR dP hl hr us dp ps mr so mv mf mw = K_m_text_L3 us lines dr dL dR dP mra mli mre mpa mon ur ua 100000 0 mf mw := by
  simp only [K_m_text_L13, K_m_text_6, K_m_text_7, K_m_text_4, K_m_text_10, K_m_text_11, K_m_text_9, K_m_text_8, K_m_text_5, K_m_text_3, K_m_text_2, K_m_text_16, K_m_text_18, K_m_text_17, K_m_text_15, K_m_text_14, K_m_text_13, K_m_text_12, K_m_text_1, M_m_text]
  by_cases q : mf.toInt = 0
  · have c : so.toInt = 0 := by
      rcases h with h | h
      · exact absurd q h
      · exact h
    simp only [if_pos q, if_pos c]
  · simp only [if_neg q]
theorem X_go (q : mf.toInt = 0) (c : ¬ so.toInt = 0) (k : Nat) : K_m_text_L13 mra mli mre mpa mon n f (k + 1) lines ur ua dr dL dR dP hl hr us dp ps mr so mv mf mw = (fun t => K_m_text_L13 mra mli mre mpa mon n f k (lines + 1) t.2.2.2.2.2.2.2.2.2.2.2.2.2.2.1 t.2.2.2.2.2.2.2.2.2.2.2.2.2.2.2 t.1 t.2.1 t.2.2.1 t.2.2.2.1 t.2.2.2.2.1 t.2.2.2.2.2.1 t.2.2.2.2.2.2.1 t.2.2.2.2.2.2.2.1 t.2.2.2.2.2.2.2.2.1 t.2.2.2.2.2.2.2.2.2.1 t.2.2.2.2.2.2.2.2.2.2.1 t.2.2.2.2.2.2.2.2.2.2.2.1 t.2.2.2.2.2.2.2.2.2.2.2.2.1 t.2.2.2.2.2.2.2.2.2.2.2.2.2.1) (M_m_readLine so dL dR dP hl hr n f dr us ur ua dp mv ps mr mf mw) := by
  simp only [K_m_text_L13, K_m_text_6, K_m_text_7, K_m_text_4, K_m_text_10, K_m_text_11, K_m_text_9, K_m_text_8, K_m_text_5, K_m_text_3, K_m_text_2, K_m_text_16, K_m_text_18, K_m_text_17, K_m_text_15, K_m_text_14, K_m_text_13, K_m_text_12, K_m_text_1, M_m_text]
  simp only [if_pos q, if_neg c]
end
/-- all lines, on both sides -/
theorem r_lines {f : Nat → Int32} {n mra mli mre mpa mon : Int32} (hf : ∀ j, 0 ≤ (f j).toInt) (hn : n.toInt ≤ 400) : ∀ (m : Nat) (rf ur ua : Nat → Int32) (i lines rails pl kd fr vl told dep fl fp dr hl hr us dp ps mr so mv mf mw li re be dL dR dP : Int32), xR n pl kd fr vl fl fp ps mr so mv mf mw → (0 ≤ rails.toInt ∧ rails.toInt ≤ 8) → (fl.toInt = 0 → n.toInt - fr.toInt < (m : Int) ∧ 0 ≤ i.toInt ∧ i.toInt ≤ fr.toInt ∧ rails = dr ∧ 0 ≤ rails.toInt ∧ rails.toInt ≤ 8 ∧ xUs rf us ur ua fr.toInt ∧ us.toInt ≤ fr.toInt ∧ (0 ≤ told.toInt ∧ told.toInt < 64) ∧ ((told &&& 1).toInt = 0 ↔ hl.toInt = 0) ∧ ((told &&& 2).toInt = 0 ↔ hr.toInt = 0) ∧ li = dL ∧ re = dR ∧ be = dP) →
    ∃ (lines' pl' kd' fr' vl' told' dep' rails' fl' fp' us' dr' mf' mw' li' re' be' dL' dR' dP' : Int32) (rf' ur' ua' : Nat → Int32), (∀ kc : Nat, m + 1 ≤ kc → K_readText_L4 n f kc i lines rails li re be rf pl kd fr vl told dep fl fp = (lines', pl', kd', fr', vl', told', dep', (M_findNotTold fl' fp' rf' rails').1, (M_findNotTold fl' fp' rf' rails').2, rf', rails', li', re', be')) ∧ (∀ km : Nat, m + 1 ≤ km → K_m_text_L13 mra mli mre mpa mon n f km lines ur ua dr dL dR dP hl hr us dp ps mr so mv mf mw = K_m_text_L3 us' lines' dr' dL' dR' dP' mra mli mre mpa mon ur' ua' 100000 0 mf' mw') ∧ (0 ≤ rails'.toInt ∧ rails'.toInt ≤ 8) ∧ fl' = mf' ∧ 0 ≤ fl'.toInt ∧ (fl'.toInt ≠ 0 → fp' = mw') ∧ (fl'.toInt = 0 → rails' = dr' ∧ 0 ≤ rails'.toInt ∧ rails'.toInt ≤ 8 ∧ xUs rf' us' ur' ua' 400 ∧ us'.toInt ≤ 400 ∧ li' = dL' ∧ re' = dR' ∧ be' = dP') := by
  intro m
  induction m with
  | zero =>
    intro rf ur ua i lines rails pl kd fr vl told dep fl fp dr hl hr us dp ps mr so mv mf mw li re be dL dR dP h hrl g
    have q : ¬ fl.toInt = 0 := fun z => by
      have b := g z
      have c := h.2.2.2 z
      omega
    have q2 : ¬ mf.toInt = 0 := by rw [← h.1]; exact q
    refine ⟨lines, pl, kd, fr, vl, told, dep, rails, fl, fp, us, dr, mf, mw, li, re, be, dL, dR, dP, rf, ur, ua, fun kc hc => ?_, fun km hc => ?_, hrl, h.1, h.2.1, h.2.2.1, fun z => absurd z q⟩
    · obtain ⟨kc, rfl⟩ : ∃ j, kc = j + 1 := ⟨kc - 1, by omega⟩
      exact T_end (Or.inl q) kc
    · obtain ⟨km, rfl⟩ : ∃ j, km = j + 1 := ⟨km - 1, by omega⟩
      exact X_end (Or.inl q2) km
  | succ m ih =>
    intro rf ur ua i lines rails pl kd fr vl told dep fl fp dr hl hr us dp ps mr so mv mf mw li re be dL dR dP h hrl g
    by_cases q : fl.toInt = 0
    · obtain ⟨g1, g2, g3, g4, g5, g6, g7, g8, g9, g10, g11, g12⟩ := g q
      have hx := h.2.2.2 q
      have q2 : mf.toInt = 0 := by rw [← h.1]; exact q
      by_cases c : kd.toInt = 0
      · have s0 : so.toInt = 0 := (xK1 hx.2.2.2.2.2.2).2.mp c
        refine ⟨lines, pl, kd, fr, vl, told, dep, rails, fl, fp, us, dr, mf, mw, li, re, be, dL, dR, dP, rf, ur, ua, fun kc hc => ?_, fun km hc => ?_, hrl, h.1, h.2.1, h.2.2.1, fun z => ⟨g4, g5, g6, xUs_up g7 (by omega), by omega, g12⟩⟩
        · obtain ⟨kc, rfl⟩ : ∃ j, kc = j + 1 := ⟨kc - 1, by omega⟩
          exact T_end (Or.inr c) kc
        · obtain ⟨km, rfl⟩ : ∃ j, km = j + 1 := ⟨km - 1, by omega⟩
          exact X_end (Or.inr s0) km
      · have s0 : ¬ so.toInt = 0 := fun z => c ((xK1 hx.2.2.2.2.2.2).2.mpr z)
        have lt := hx.2.2.2.2.2.1 c
        have ii : (i + 1).toInt = i.toInt + 1 := xadd rfl (by decide) (by omega) (by omega)
        obtain ⟨rails1, pl1, kd1, fr1, vl1, td1, dep1, fl1, fp1, dr1, hl1, hr1, us1, dp1, ps1, mr1, so1, mv1, mf1, mw1, li1, re1, be1, dL1, dR1, dP1, rf1, ur1, ua1, x1, x2, x9, x3, x4⟩ := r_line (rf := rf) (ur := ur) (ua := ua) (dep := dep) (dp := dp) hf hn h q c g4 g5 g6 g7 g8 g9 g10 g11 g12
        obtain ⟨lines', pl', kd', fr', vl', told', dep', rails', fl', fp', us', dr', mf', mw', li', re', be', dL', dR', dP', rf', ur', ua', y1, y2, y3⟩ := ih rf1 ur1 ua1 (i + 1) (lines + 1) rails1 pl1 kd1 fr1 vl1 td1 dep1 fl1 fp1 dr1 hl1 hr1 us1 dp1 ps1 mr1 so1 mv1 mf1 mw1 li1 re1 be1 dL1 dR1 dP1 x3 x9 (fun z => by
          obtain ⟨a1, a2, a3, a4, a5, a6, a7, a8, a9, a10⟩ := x4 z
          exact ⟨by omega, by omega, by omega, a1, a2, a3, a4, a5, a7, a8, a9, a10⟩)
        refine ⟨lines', pl', kd', fr', vl', told', dep', rails', fl', fp', us', dr', mf', mw', li', re', be', dL', dR', dP', rf', ur', ua', fun kc hc => ?_, fun km hc => ?_, y3⟩
        · obtain ⟨kc, rfl⟩ : ∃ j, kc = j + 1 := ⟨kc - 1, by omega⟩
          rw [T_go (by omega) q c, x1]
          exact y1 kc (by omega)
        · obtain ⟨km, rfl⟩ : ∃ j, km = j + 1 := ⟨km - 1, by omega⟩
          rw [X_go q2 s0, x2]
          exact y2 km (by omega)
    · have q2 : ¬ mf.toInt = 0 := by rw [← h.1]; exact q
      refine ⟨lines, pl, kd, fr, vl, told, dep, rails, fl, fp, us, dr, mf, mw, li, re, be, dL, dR, dP, rf, ur, ua, fun kc hc => ?_, fun km hc => ?_, hrl, h.1, h.2.1, h.2.2.1, fun z => absurd z q⟩
      · obtain ⟨kc, rfl⟩ : ∃ j, kc = j + 1 := ⟨kc - 1, by omega⟩
        exact T_end (Or.inl q) kc
      · obtain ⟨km, rfl⟩ : ∃ j, km = j + 1 := ⟨km - 1, by omega⟩
        exact X_end (Or.inl q2) km
