def xUs (rf : Nat → Int32) (us : Int32) (ur ua : Nat → Int32) (b : Int) : Prop := 0 ≤ us.toInt ∧ (∀ j : Nat, (j : Int) < us.toInt → 0 ≤ (ur j).toInt ∧ (ur j).toInt ≤ 7 ∧ 0 ≤ (ua j).toInt ∧ (ua j).toInt < b) ∧ (∀ i j : Nat, i < j → (j : Int) < us.toInt → (ua i).toInt < (ua j).toInt) ∧ (∀ r : Nat, r < 8 → ((rf r).toInt = -4 ∧ ∀ j : Nat, (j : Int) < us.toInt → (ur j).toInt ≠ (r : Int)) ∨ (∃ j : Nat, (j : Int) < us.toInt ∧ (ur j).toInt = (r : Int) ∧ rf r = ua j ∧ ∀ i : Nat, i < j → (ur i).toInt ≠ (r : Int)))
theorem xUs_up {rf ur ua : Nat → Int32} {us : Int32} {b c : Int} (h : xUs rf us ur ua b) (hb : b ≤ c) : xUs rf us ur ua c := ⟨h.1, fun j hj => ⟨(h.2.1 j hj).1, (h.2.1 j hj).2.1, (h.2.1 j hj).2.2.1, Int.lt_of_lt_of_le (h.2.1 j hj).2.2.2 hb⟩, h.2.2⟩
theorem use_add {rf ur ua : Nat → Int32} {us r fr : Int32} (h : xUs rf us ur ua fr.toInt) (hu : us.toInt ≤ 400) (h0 : 0 ≤ r.toInt) (h7 : r.toInt ≤ 7) (hf : 0 ≤ fr.toInt) : xUs (M_noteUse rf r fr) (us + 1) (upd ur us.toNatClampNeg r) (upd ua us.toNatClampNeg fr) (fr.toInt + 1) := by
  obtain ⟨g0, g1, g2, g3⟩ := h
  have e : (us + 1).toInt = us.toInt + 1 := xadd rfl (by decide) (by omega) (by omega)
  have u := xtn (x := us) g0
  have v := xtn (x := r) h0
  refine ⟨by omega, fun j hj => ?_, fun i j hij hj => ?_, fun r2 hr2 => ?_⟩
  · by_cases q : j = us.toNatClampNeg
    · rw [q, xupd_s, xupd_s]
      exact ⟨h0, h7, hf, by omega⟩
    · rw [xupd_o q, xupd_o q]
      have w := g1 j (by omega)
      exact ⟨w.1, w.2.1, w.2.2.1, by omega⟩
  · have qi : i ≠ us.toNatClampNeg := by omega
    rw [xupd_o qi]
    by_cases q : j = us.toNatClampNeg
    · rw [q, xupd_s]
      exact (g1 i (by omega)).2.2.2
    · rw [xupd_o q]
      exact g2 i j hij (by omega)
  · simp only [K_noteUse_3, K_noteUse_2, K_noteUse_1, M_noteUse]
    by_cases rr : r2 = r.toNatClampNeg
    · rcases g3 r2 hr2 with ⟨a, b⟩ | ⟨j, a, b, c, d⟩
      · right
        refine ⟨us.toNatClampNeg, by omega, by rw [xupd_s]; omega, ?_, fun i hi => ?_⟩
        · rw [rr] at a
          rw [if_pos a, xupd_s, rr, xupd_s]
        · rw [xupd_o (by omega)]
          exact b i (by omega)
      · right
        have ne : ¬ (rf r.toNatClampNeg).toInt = -4 := by
          rw [← rr, c]
          have w := (g1 j a).2.2.1
          omega
        refine ⟨j, by omega, by rw [xupd_o (by omega)]; exact b, ?_, fun i hi => by rw [xupd_o (by omega)]; exact d i hi⟩
        rw [if_neg ne, xupd_o (by omega)]
        exact c
    · have same : (if (rf r.toNatClampNeg).toInt = -4 then upd rf r.toNatClampNeg fr else rf) r2 = rf r2 := by
        by_cases z : (rf r.toNatClampNeg).toInt = -4
        · rw [if_pos z, xupd_o rr]
        · rw [if_neg z]
      rcases g3 r2 hr2 with ⟨a, b⟩ | ⟨j, a, b, c, d⟩
      · left
        refine ⟨?_, fun j hj => ?_⟩
        · first | (rw [same]; exact a) | skip
        · by_cases q : j = us.toNatClampNeg
          · rw [q, xupd_s]; omega
          · rw [xupd_o q]; exact b j (by omega)
      · right
        refine ⟨j, by omega, by rw [xupd_o (by omega)]; exact b, ?_, fun i hi => by rw [xupd_o (by omega)]; exact d i hi⟩
        rw [xupd_o (by omega)]
        first | (rw [same]; exact c) | skip
theorem t_railN {f : Nat → Int32} {pl fr : Int32} : M_railNamed pl fr f = if pl.toInt - fr.toInt = 1 then (if 0 ≤ (f fr.toNatClampNeg - 97).toInt ∧ (f fr.toNatClampNeg - 97).toInt ≤ 7 then f fr.toNatClampNeg - 97 else -4) else -4 := by
  simp only [K_railNamed_4, K_railNamed_6, K_railNamed_7, K_railNamed_5, K_railNamed_2, K_railNamed_3, K_railNamed_1, M_railNamed]
  by_cases q : pl.toInt - fr.toInt = 1
  · simp only [if_pos q]
    by_cases a : 0 ≤ (f fr.toNatClampNeg - 97).toInt ∧ (f fr.toNatClampNeg - 97).toInt ≤ 7
    · rw [if_pos a]
      split <;> (try split) <;> first | rfl | omega
    · rw [if_neg a]
      split <;> (try split) <;> first | rfl | omega
  · simp only [if_neg q]
theorem nr {f : Nat → Int32} {n pl fr : Int32} (h0 : 0 ≤ fr.toInt) (h2 : pl.toInt ≤ n.toInt) (hn : n.toInt ≤ 400) : (0 ≤ (M_railNamed pl fr f).toInt ∧ (M_railNamed pl fr f).toInt ≤ 7 ∧ M_m_nameNow pl fr n f = M_railNamed pl fr f) ∨ ((M_railNamed pl fr f).toInt = -4 ∧ ¬ (0 ≤ (M_m_nameNow pl fr n f).toInt ∧ (M_m_nameNow pl fr n f).toInt ≤ 7)) := by
  rw [t_railN, nm h0 h2 hn]
  by_cases q : pl.toInt - fr.toInt = 1
  · rw [if_pos q, if_pos q]
    by_cases g : 0 ≤ (f fr.toNatClampNeg - 97).toInt ∧ (f fr.toNatClampNeg - 97).toInt ≤ 7
    · rw [if_pos g]
      exact Or.inl ⟨g.1, g.2, rfl⟩
    · rw [if_neg g]
      exact Or.inr ⟨by decide, by decide⟩
  · rw [if_neg q, if_neg q]
    refine Or.inr ⟨by decide, ?_⟩
    split
    · decide
    split
    · decide
    split
    · decide
    split
    · decide
    split
    · decide
    split
    · decide
    split
    · decide
    split
    · decide
    split
    · decide
    decide
