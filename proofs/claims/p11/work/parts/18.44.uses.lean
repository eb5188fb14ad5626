def xUs (rf : Nat → Int32) (us : Int32) (ur ua : Nat → Int32) (b : Int) : Prop := 0 ≤ us.toInt ∧ (∀ j : Nat, (j : Int) < us.toInt → 0 ≤ (ur j).toInt ∧ (ur j).toInt ≤ 7 ∧ 0 ≤ (ua j).toInt ∧ (ua j).toInt < b) ∧ (∀ i j : Nat, i < j → (j : Int) < us.toInt → (ua i).toInt < (ua j).toInt) ∧ (∀ r : Nat, r < 8 → ((rf r).toInt = -4 ∧ ∀ j : Nat, (j : Int) < us.toInt → (ur j).toInt ≠ (r : Int)) ∨ (∃ j : Nat, (j : Int) < us.toInt ∧ (ur j).toInt = (r : Int) ∧ rf r = ua j ∧ ∀ i : Nat, i < j → (ur i).toInt ≠ (r : Int)))
theorem xUs_up {rf ur ua : Nat → Int32} {us : Int32} {b c : Int} (h : xUs rf us ur ua b) (hb : b ≤ c) : xUs rf us ur ua c := ⟨h.1, fun j hj => ⟨(h.2.1 j hj).1, (h.2.1 j hj).2.1, (h.2.1 j hj).2.2.1, Int.lt_of_lt_of_le (h.2.1 j hj).2.2.2 hb⟩, h.2.2⟩
theorem use_add {rf ur ua : Nat → Int32} {us r fr : Int32} (h : xUs rf us ur ua fr.toInt) (hu : us.toInt ≤ 400) (h0 : 0 ≤ r.toInt) (h7 : r.toInt ≤ 7) (hf : 0 ≤ fr.toInt) : xUs (M_noteUse rf r fr) (us + 1) (upd ur us.toNatClampNeg r) (upd ua us.toNatClampNeg fr) (fr.toInt + 1) := by
  obtain ⟨g0, g1, g2, g3⟩ := h
  have e : (us + 1).toInt = us.toInt + 1 := xadd rfl (by decide) (by omega) (by omega)
  have u := xtn (x := us) g0
  have v := xtn (x := r) h0
  refine ⟨by omega, fun j hj => ?_, fun i j hij hj => ?_, fun r2 hr2 => ?_⟩
  · by_cases q : j = us.toNatClampNeg
    · rw [q, xupd_s, xupd_s]
      exact ⟨h0, h7, hf, by omega⟩
    · rw [xupd_o q, xupd_o q]
      have w := g1 j (by omega)
      exact ⟨w.1, w.2.1, w.2.2.1, by omega⟩
  · have qi : i ≠ us.toNatClampNeg := by omega
    rw [xupd_o qi]
    by_cases q : j = us.toNatClampNeg
    · rw [q, xupd_s]
      exact (g1 i (by omega)).2.2.2
    · rw [xupd_o q]
      exact g2 i j hij (by omega)
  · simp only [K_noteUse_3, K_noteUse_2, K_noteUse_1, M_noteUse]
    by_cases rr : r2 = r.toNatClampNeg
    · rcases g3 r2 hr2 with ⟨a, b⟩ | ⟨j, a, b, c, d⟩
      · right
        refine ⟨us.toNatClampNeg, by omega, by rw [xupd_s]; omega, ?_, fun i hi => ?_⟩
        · rw [rr] at a
          rw [if_pos a, xupd_s, rr, xupd_s]
        · rw [xupd_o (by omega)]
          exact b i (by omega)
      · right
        have ne : ¬ (rf r.toNatClampNeg).toInt = -4 := by
          rw [← rr, c]
          have w := (g1 j a).2.2.1
          omega
        refine ⟨j, by omega, by rw [xupd_o (by omega)]; exact b, ?_, fun i hi => by rw [xupd_o (by omega)]; exact d i hi⟩
        rw [if_neg ne, xupd_o (by omega)]
        exact c
    · have same : (if (rf r.toNatClampNeg).toInt = -4 then upd rf r.toNatClampNeg fr else rf) r2 = rf r2 := by
        by_cases z : (rf r.toNatClampNeg).toInt = -4
        · rw [if_pos z, xupd_o rr]
        · rw [if_neg z]
      rcases g3 r2 hr2 with ⟨a, b⟩ | ⟨j, a, b, c, d⟩
      · left
        refine ⟨?_, fun j hj => ?_⟩
        · first | (rw [same]; exact a) | skip
        · by_cases q : j = us.toNatClampNeg
          · rw [q, xupd_s]; omega
          · rw [xupd_o q]; exact b j (by omega)
      · right
        refine ⟨j, by omega, by rw [xupd_o (by omega)]; exact b, ?_, fun i hi => by rw [xupd_o (by omega)]; exact d i hi⟩
        rw [xupd_o (by omega)]
        first | (rw [same]; exact c) | skip
section
variable {f rf ur ua : Nat → Int32} {n pl kd fr vl dep fl fp us mv mw so : Int32}
theorem U_letter (c1 : kd.toInt = 1) (w : ¬ xW6 f fr pl) (r : 0 ≤ (M_railNamed pl fr f).toInt) : M_takeUnit kd pl fr vl dep rf fl fp n f = (fun t => (0, t.1, t.2.1, t.2.2.1, t.2.2.2.1, dep, t.2.2.2.2.1, t.2.2.2.2.2, M_noteUse rf (M_railNamed pl fr f) fr)) (M_step n f fl fp kd pl) := by
  have e : (M_isSign kd vl 40).toInt = 0 := by rw [t_isSign, if_neg (by omega)]; decide
  have i6 : (M_isWord kd pl fr 3 f 6).toInt = 0 := by rw [w_key, if_neg (fun z => w z.2)]; decide
  simp only [K_takeUnit_17, K_takeUnit_12, K_takeUnit_16, K_takeUnit_15, K_takeUnit_14, K_takeUnit_13, K_takeUnit_11, K_takeUnit_10, K_takeUnit_8, K_takeUnit_18, K_takeUnit_9, K_takeUnit_7, K_takeUnit_5, K_takeUnit_19, K_takeUnit_6, K_takeUnit_3, K_takeUnit_22, K_takeUnit_20, K_takeUnit_23, K_takeUnit_21, K_takeUnit_4, K_takeUnit_2, K_takeUnit_1, M_takeUnit]
  simp only [if_pos e, if_pos c1, if_pos i6, if_neg (by omega : ¬ (M_railNamed pl fr f).toInt = -4)]
theorem U_bad (q : fl.toInt = 0) (c1 : kd.toInt = 1) (w : ¬ xW6 f fr pl) (r : (M_railNamed pl fr f).toInt = -4) : M_takeUnit kd pl fr vl dep rf fl fp n f = (0, pl, kd, fr, vl, dep, 3, fr, rf) := by
  have e : (M_isSign kd vl 40).toInt = 0 := by rw [t_isSign, if_neg (by omega)]; decide
  have i6 : (M_isWord kd pl fr 3 f 6).toInt = 0 := by rw [w_key, if_neg (fun z => w z.2)]; decide
  simp only [K_takeUnit_17, K_takeUnit_12, K_takeUnit_16, K_takeUnit_15, K_takeUnit_14, K_takeUnit_13, K_takeUnit_11, K_takeUnit_10, K_takeUnit_8, K_takeUnit_18, K_takeUnit_9, K_takeUnit_7, K_takeUnit_5, K_takeUnit_19, K_takeUnit_6, K_takeUnit_3, K_takeUnit_22, K_takeUnit_20, K_takeUnit_23, K_takeUnit_21, K_takeUnit_4, K_takeUnit_2, K_takeUnit_1, M_takeUnit, t_refuse q]
  simp only [if_pos e, if_pos c1, if_pos i6, if_pos r]
theorem L_letter (q : fl.toInt = 0) (r : 0 ≤ (M_m_nameNow pl fr n f).toInt ∧ (M_m_nameNow pl fr n f).toInt ≤ 7) : M_m_readLetter us ur ua fr mv n f pl so fl mw = (fun t => (us + 1, t.1, t.2.1, t.2.2.1, t.2.2.2.1, t.2.2.2.2.1, t.2.2.2.2.2, upd ur us.toNatClampNeg (M_m_nameNow pl fr n f), upd ua us.toNatClampNeg fr)) (M_m_next fl mv mw n f pl fr so) := by
  simp only [K_m_readLetter_9, K_m_readLetter_7, K_m_readLetter_8, K_m_readLetter_6, K_m_readLetter_5, K_m_readLetter_3, K_m_readLetter_21, K_m_readLetter_19, K_m_readLetter_20, K_m_readLetter_18, K_m_readLetter_17, K_m_readLetter_11, K_m_readLetter_16, K_m_readLetter_14, K_m_readLetter_15, K_m_readLetter_13, K_m_readLetter_12, K_m_readLetter_10, K_m_readLetter_4, K_m_readLetter_2, K_m_readLetter_1, M_m_readLetter]
  simp only [if_pos r, t_wants1, if_pos q]
theorem L_key (q : fl.toInt = 0) (r : (M_m_nameNow pl fr n f).toInt = 28) : M_m_readLetter us ur ua fr mv n f pl so fl mw = (fun t => (us, t.1, t.2.1, t.2.2.1, t.2.2.2.1, t.2.2.2.2.1, t.2.2.2.2.2, ur, ua)) (M_m_next fl mv mw n f pl fr so) := by
  simp only [K_m_readLetter_9, K_m_readLetter_7, K_m_readLetter_8, K_m_readLetter_6, K_m_readLetter_5, K_m_readLetter_3, K_m_readLetter_21, K_m_readLetter_19, K_m_readLetter_20, K_m_readLetter_18, K_m_readLetter_17, K_m_readLetter_11, K_m_readLetter_16, K_m_readLetter_14, K_m_readLetter_15, K_m_readLetter_13, K_m_readLetter_12, K_m_readLetter_10, K_m_readLetter_4, K_m_readLetter_2, K_m_readLetter_1, M_m_readLetter]
  simp only [if_neg (by omega : ¬ (0 ≤ (M_m_nameNow pl fr n f).toInt ∧ (M_m_nameNow pl fr n f).toInt ≤ 7)), if_pos r, t_wants1, if_pos q]
theorem L_bad (q : fl.toInt = 0) (r : ¬ (0 ≤ (M_m_nameNow pl fr n f).toInt ∧ (M_m_nameNow pl fr n f).toInt ≤ 7)) (r2 : ¬ (M_m_nameNow pl fr n f).toInt = 28) : M_m_readLetter us ur ua fr mv n f pl so fl mw = (us, pl, fr, so, mv, 3, fr, ur, ua) := by
  simp only [K_m_readLetter_9, K_m_readLetter_7, K_m_readLetter_8, K_m_readLetter_6, K_m_readLetter_5, K_m_readLetter_3, K_m_readLetter_21, K_m_readLetter_19, K_m_readLetter_20, K_m_readLetter_18, K_m_readLetter_17, K_m_readLetter_11, K_m_readLetter_16, K_m_readLetter_14, K_m_readLetter_15, K_m_readLetter_13, K_m_readLetter_12, K_m_readLetter_10, K_m_readLetter_4, K_m_readLetter_2, K_m_readLetter_1, M_m_readLetter]
  simp only [if_neg r, if_neg r2, t_wantsF q, if_neg (show ¬ (3 : Int32).toInt = 0 from by decide), t_next_id (show 0 < (3 : Int32).toInt from by decide)]
end
