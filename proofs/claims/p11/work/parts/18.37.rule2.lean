theorem nm {f : Nat → Int32} {n ps fr : Int32} (h0 : 0 ≤ fr.toInt) (h2 : ps.toInt ≤ n.toInt) (hn : n.toInt ≤ 400) : M_m_nameNow ps fr n f = if ps.toInt - fr.toInt = 1 then (if 0 ≤ (f fr.toNatClampNeg - 97).toInt ∧ (f fr.toNatClampNeg - 97).toInt ≤ 7 then f fr.toNatClampNeg - 97 else -4) else @ite _ (xW0 f fr ps) (Classical.propDecidable _) 20 (@ite _ (xW7 f fr ps) (Classical.propDecidable _) 21 (@ite _ (xW8 f fr ps) (Classical.propDecidable _) 22 (@ite _ (xW2 f fr ps) (Classical.propDecidable _) 23 (@ite _ (xW3 f fr ps) (Classical.propDecidable _) 24 (@ite _ (xW4 f fr ps) (Classical.propDecidable _) 25 (@ite _ (xW5 f fr ps) (Classical.propDecidable _) 26 (@ite _ (xW1 f fr ps) (Classical.propDecidable _) 27 (@ite _ (xW6 f fr ps) (Classical.propDecidable _) 28 (-4))))))))) := by
  rw [t_name, b_retry, b_fall, b_when]
  by_cases q : ps.toInt - fr.toInt = 1
  · rw [if_pos q, if_pos q, sp_look_in (by omega)]
  · rw [if_neg q, if_neg q, propext (vw0 (f := f) (ps := ps) h0 h2 hn), propext (vw1 (f := f) (ps := ps) h0 h2 hn), propext (vw2 (f := f) (ps := ps) h0 h2 hn), propext (vw3 (f := f) (ps := ps) h0 h2 hn), propext (vw4 (f := f) (ps := ps) h0 h2 hn), propext (vw5 (f := f) (ps := ps) h0 h2 hn), propext (vw6 (f := f) (ps := ps) h0 h2 hn), propext (vw7 (f := f) (ps := ps) h0 h2 hn), propext (vw8 (f := f) (ps := ps) h0 h2 hn)]
/-- what a name is, with the word that it is -/
theorem nm_some {f : Nat → Int32} {n ps fr : Int32} (h0 : 0 ≤ fr.toInt) (h2 : ps.toInt ≤ n.toInt) (hn : n.toInt ≤ 400) : ((M_m_nameNow ps fr n f).toInt = 20 ↔ xW0 f fr ps) ∧ ((M_m_nameNow ps fr n f).toInt = 21 ↔ xW7 f fr ps) ∧ ((M_m_nameNow ps fr n f).toInt = 22 ↔ xW8 f fr ps) ∧ ((M_m_nameNow ps fr n f).toInt = 23 ↔ xW2 f fr ps) ∧ ((M_m_nameNow ps fr n f).toInt = 24 ↔ xW3 f fr ps) ∧ ((M_m_nameNow ps fr n f).toInt = 25 ↔ xW4 f fr ps) ∧ ((M_m_nameNow ps fr n f).toInt = 26 ↔ xW5 f fr ps) ∧ ((M_m_nameNow ps fr n f).toInt = 27 ↔ xW1 f fr ps) ∧ ((M_m_nameNow ps fr n f).toInt = 28 ↔ xW6 f fr ps) ∧ (M_m_nameNow ps fr n f).toInt ≤ 28 := by
  rw [nm h0 h2 hn]
  have z4 : (-4 : Int32).toInt = -4 := by decide
  by_cases q : ps.toInt - fr.toInt = 1
  · rw [if_pos q]
    have nw : ¬ xW0 f fr ps ∧ ¬ xW1 f fr ps ∧ ¬ xW2 f fr ps ∧ ¬ xW3 f fr ps ∧ ¬ xW4 f fr ps ∧ ¬ xW5 f fr ps ∧ ¬ xW6 f fr ps ∧ ¬ xW7 f fr ps ∧ ¬ xW8 f fr ps := by
      unfold xW0 xW1 xW2 xW3 xW4 xW5 xW6 xW7 xW8
      omega
    obtain ⟨n0, n1, n2, n3, n4, n5, n6, n7, n8⟩ := nw
    have le : (if 0 ≤ (f fr.toNatClampNeg - 97).toInt ∧ (f fr.toNatClampNeg - 97).toInt ≤ 7 then f fr.toNatClampNeg - 97 else -4).toInt ≤ 7 := by
      by_cases g : 0 ≤ (f fr.toNatClampNeg - 97).toInt ∧ (f fr.toNatClampNeg - 97).toInt ≤ 7
      · rw [if_pos g]; exact g.2
      · rw [if_neg g]; omega
    refine ⟨⟨fun z => absurd z (by omega), fun z => absurd z n0⟩, ⟨fun z => absurd z (by omega), fun z => absurd z n7⟩, ⟨fun z => absurd z (by omega), fun z => absurd z n8⟩, ⟨fun z => absurd z (by omega), fun z => absurd z n2⟩, ⟨fun z => absurd z (by omega), fun z => absurd z n3⟩, ⟨fun z => absurd z (by omega), fun z => absurd z n4⟩, ⟨fun z => absurd z (by omega), fun z => absurd z n5⟩, ⟨fun z => absurd z (by omega), fun z => absurd z n1⟩, ⟨fun z => absurd z (by omega), fun z => absurd z n6⟩, by omega⟩
  · rw [if_neg q]
    by_cases w0 : xW0 f fr ps
    · have no : ¬ xW7 f fr ps ∧ ¬ xW8 f fr ps ∧ ¬ xW2 f fr ps ∧ ¬ xW3 f fr ps ∧ ¬ xW4 f fr ps ∧ ¬ xW5 f fr ps ∧ ¬ xW1 f fr ps ∧ ¬ xW6 f fr ps := by
        unfold xW0 at w0
        unfold xW7 xW8 xW2 xW3 xW4 xW5 xW1 xW6
        omega
      rw [if_pos w0]
      have zc : (20 : Int32).toInt = 20 := by decide
      exact ⟨⟨fun _ => w0, fun _ => zc⟩, ⟨fun z => absurd z (by omega), fun z => absurd z no.1⟩, ⟨fun z => absurd z (by omega), fun z => absurd z no.2.1⟩, ⟨fun z => absurd z (by omega), fun z => absurd z no.2.2.1⟩, ⟨fun z => absurd z (by omega), fun z => absurd z no.2.2.2.1⟩, ⟨fun z => absurd z (by omega), fun z => absurd z no.2.2.2.2.1⟩, ⟨fun z => absurd z (by omega), fun z => absurd z no.2.2.2.2.2.1⟩, ⟨fun z => absurd z (by omega), fun z => absurd z no.2.2.2.2.2.2.1⟩, ⟨fun z => absurd z (by omega), fun z => absurd z no.2.2.2.2.2.2.2⟩, by omega⟩
    rw [if_neg w0]
    by_cases w7 : xW7 f fr ps
    · have no : ¬ xW0 f fr ps ∧ ¬ xW8 f fr ps ∧ ¬ xW2 f fr ps ∧ ¬ xW3 f fr ps ∧ ¬ xW4 f fr ps ∧ ¬ xW5 f fr ps ∧ ¬ xW1 f fr ps ∧ ¬ xW6 f fr ps := by
        unfold xW7 at w7
        unfold xW0 xW8 xW2 xW3 xW4 xW5 xW1 xW6
        omega
      rw [if_pos w7]
      have zc : (21 : Int32).toInt = 21 := by decide
      exact ⟨⟨fun z => absurd z (by omega), fun z => absurd z no.1⟩, ⟨fun _ => w7, fun _ => zc⟩, ⟨fun z => absurd z (by omega), fun z => absurd z no.2.1⟩, ⟨fun z => absurd z (by omega), fun z => absurd z no.2.2.1⟩, ⟨fun z => absurd z (by omega), fun z => absurd z no.2.2.2.1⟩, ⟨fun z => absurd z (by omega), fun z => absurd z no.2.2.2.2.1⟩, ⟨fun z => absurd z (by omega), fun z => absurd z no.2.2.2.2.2.1⟩, ⟨fun z => absurd z (by omega), fun z => absurd z no.2.2.2.2.2.2.1⟩, ⟨fun z => absurd z (by omega), fun z => absurd z no.2.2.2.2.2.2.2⟩, by omega⟩
    rw [if_neg w7]
    by_cases w8 : xW8 f fr ps
    · have no : ¬ xW0 f fr ps ∧ ¬ xW7 f fr ps ∧ ¬ xW2 f fr ps ∧ ¬ xW3 f fr ps ∧ ¬ xW4 f fr ps ∧ ¬ xW5 f fr ps ∧ ¬ xW1 f fr ps ∧ ¬ xW6 f fr ps := by
        unfold xW8 at w8
        unfold xW0 xW7 xW2 xW3 xW4 xW5 xW1 xW6
        omega
      rw [if_pos w8]
      have zc : (22 : Int32).toInt = 22 := by decide
      exact ⟨⟨fun z => absurd z (by omega), fun z => absurd z no.1⟩, ⟨fun z => absurd z (by omega), fun z => absurd z no.2.1⟩, ⟨fun _ => w8, fun _ => zc⟩, ⟨fun z => absurd z (by omega), fun z => absurd z no.2.2.1⟩, ⟨fun z => absurd z (by omega), fun z => absurd z no.2.2.2.1⟩, ⟨fun z => absurd z (by omega), fun z => absurd z no.2.2.2.2.1⟩, ⟨fun z => absurd z (by omega), fun z => absurd z no.2.2.2.2.2.1⟩, ⟨fun z => absurd z (by omega), fun z => absurd z no.2.2.2.2.2.2.1⟩, ⟨fun z => absurd z (by omega), fun z => absurd z no.2.2.2.2.2.2.2⟩, by omega⟩
    rw [if_neg w8]
    by_cases w2 : xW2 f fr ps
    · have no : ¬ xW0 f fr ps ∧ ¬ xW7 f fr ps ∧ ¬ xW8 f fr ps ∧ ¬ xW3 f fr ps ∧ ¬ xW4 f fr ps ∧ ¬ xW5 f fr ps ∧ ¬ xW1 f fr ps ∧ ¬ xW6 f fr ps := by
        unfold xW2 at w2
        unfold xW0 xW7 xW8 xW3 xW4 xW5 xW1 xW6
        omega
      rw [if_pos w2]
      have zc : (23 : Int32).toInt = 23 := by decide
      exact ⟨⟨fun z => absurd z (by omega), fun z => absurd z no.1⟩, ⟨fun z => absurd z (by omega), fun z => absurd z no.2.1⟩, ⟨fun z => absurd z (by omega), fun z => absurd z no.2.2.1⟩, ⟨fun _ => w2, fun _ => zc⟩, ⟨fun z => absurd z (by omega), fun z => absurd z no.2.2.2.1⟩, ⟨fun z => absurd z (by omega), fun z => absurd z no.2.2.2.2.1⟩, ⟨fun z => absurd z (by omega), fun z => absurd z no.2.2.2.2.2.1⟩, ⟨fun z => absurd z (by omega), fun z => absurd z no.2.2.2.2.2.2.1⟩, ⟨fun z => absurd z (by omega), fun z => absurd z no.2.2.2.2.2.2.2⟩, by omega⟩
    rw [if_neg w2]
    by_cases w3 : xW3 f fr ps
    · have no : ¬ xW0 f fr ps ∧ ¬ xW7 f fr ps ∧ ¬ xW8 f fr ps ∧ ¬ xW2 f fr ps ∧ ¬ xW4 f fr ps ∧ ¬ xW5 f fr ps ∧ ¬ xW1 f fr ps ∧ ¬ xW6 f fr ps := by
        unfold xW3 at w3
        unfold xW0 xW7 xW8 xW2 xW4 xW5 xW1 xW6
        omega
      rw [if_pos w3]
      have zc : (24 : Int32).toInt = 24 := by decide
      exact ⟨⟨fun z => absurd z (by omega), fun z => absurd z no.1⟩, ⟨fun z => absurd z (by omega), fun z => absurd z no.2.1⟩, ⟨fun z => absurd z (by omega), fun z => absurd z no.2.2.1⟩, ⟨fun z => absurd z (by omega), fun z => absurd z no.2.2.2.1⟩, ⟨fun _ => w3, fun _ => zc⟩, ⟨fun z => absurd z (by omega), fun z => absurd z no.2.2.2.2.1⟩, ⟨fun z => absurd z (by omega), fun z => absurd z no.2.2.2.2.2.1⟩, ⟨fun z => absurd z (by omega), fun z => absurd z no.2.2.2.2.2.2.1⟩, ⟨fun z => absurd z (by omega), fun z => absurd z no.2.2.2.2.2.2.2⟩, by omega⟩
    rw [if_neg w3]
    by_cases w4 : xW4 f fr ps
    · have no : ¬ xW0 f fr ps ∧ ¬ xW7 f fr ps ∧ ¬ xW8 f fr ps ∧ ¬ xW2 f fr ps ∧ ¬ xW3 f fr ps ∧ ¬ xW5 f fr ps ∧ ¬ xW1 f fr ps ∧ ¬ xW6 f fr ps := by
        unfold xW4 at w4
        unfold xW0 xW7 xW8 xW2 xW3 xW5 xW1 xW6
        omega
      rw [if_pos w4]
      have zc : (25 : Int32).toInt = 25 := by decide
      exact ⟨⟨fun z => absurd z (by omega), fun z => absurd z no.1⟩, ⟨fun z => absurd z (by omega), fun z => absurd z no.2.1⟩, ⟨fun z => absurd z (by omega), fun z => absurd z no.2.2.1⟩, ⟨fun z => absurd z (by omega), fun z => absurd z no.2.2.2.1⟩, ⟨fun z => absurd z (by omega), fun z => absurd z no.2.2.2.2.1⟩, ⟨fun _ => w4, fun _ => zc⟩, ⟨fun z => absurd z (by omega), fun z => absurd z no.2.2.2.2.2.1⟩, ⟨fun z => absurd z (by omega), fun z => absurd z no.2.2.2.2.2.2.1⟩, ⟨fun z => absurd z (by omega), fun z => absurd z no.2.2.2.2.2.2.2⟩, by omega⟩
    rw [if_neg w4]
    by_cases w5 : xW5 f fr ps
    · have no : ¬ xW0 f fr ps ∧ ¬ xW7 f fr ps ∧ ¬ xW8 f fr ps ∧ ¬ xW2 f fr ps ∧ ¬ xW3 f fr ps ∧ ¬ xW4 f fr ps ∧ ¬ xW1 f fr ps ∧ ¬ xW6 f fr ps := by
        unfold xW5 at w5
        unfold xW0 xW7 xW8 xW2 xW3 xW4 xW1 xW6
        omega
      rw [if_pos w5]
      have zc : (26 : Int32).toInt = 26 := by decide
      exact ⟨⟨fun z => absurd z (by omega), fun z => absurd z no.1⟩, ⟨fun z => absurd z (by omega), fun z => absurd z no.2.1⟩, ⟨fun z => absurd z (by omega), fun z => absurd z no.2.2.1⟩, ⟨fun z => absurd z (by omega), fun z => absurd z no.2.2.2.1⟩, ⟨fun z => absurd z (by omega), fun z => absurd z no.2.2.2.2.1⟩, ⟨fun z => absurd z (by omega), fun z => absurd z no.2.2.2.2.2.1⟩, ⟨fun _ => w5, fun _ => zc⟩, ⟨fun z => absurd z (by omega), fun z => absurd z no.2.2.2.2.2.2.1⟩, ⟨fun z => absurd z (by omega), fun z => absurd z no.2.2.2.2.2.2.2⟩, by omega⟩
    rw [if_neg w5]
    by_cases w1 : xW1 f fr ps
    · have no : ¬ xW0 f fr ps ∧ ¬ xW7 f fr ps ∧ ¬ xW8 f fr ps ∧ ¬ xW2 f fr ps ∧ ¬ xW3 f fr ps ∧ ¬ xW4 f fr ps ∧ ¬ xW5 f fr ps ∧ ¬ xW6 f fr ps := by
        unfold xW1 at w1
        unfold xW0 xW7 xW8 xW2 xW3 xW4 xW5 xW6
        omega
      rw [if_pos w1]
      have zc : (27 : Int32).toInt = 27 := by decide
      exact ⟨⟨fun z => absurd z (by omega), fun z => absurd z no.1⟩, ⟨fun z => absurd z (by omega), fun z => absurd z no.2.1⟩, ⟨fun z => absurd z (by omega), fun z => absurd z no.2.2.1⟩, ⟨fun z => absurd z (by omega), fun z => absurd z no.2.2.2.1⟩, ⟨fun z => absurd z (by omega), fun z => absurd z no.2.2.2.2.1⟩, ⟨fun z => absurd z (by omega), fun z => absurd z no.2.2.2.2.2.1⟩, ⟨fun z => absurd z (by omega), fun z => absurd z no.2.2.2.2.2.2.1⟩, ⟨fun _ => w1, fun _ => zc⟩, ⟨fun z => absurd z (by omega), fun z => absurd z no.2.2.2.2.2.2.2⟩, by omega⟩
    rw [if_neg w1]
    by_cases w6 : xW6 f fr ps
    · have no : ¬ xW0 f fr ps ∧ ¬ xW7 f fr ps ∧ ¬ xW8 f fr ps ∧ ¬ xW2 f fr ps ∧ ¬ xW3 f fr ps ∧ ¬ xW4 f fr ps ∧ ¬ xW5 f fr ps ∧ ¬ xW1 f fr ps := by
        unfold xW6 at w6
        unfold xW0 xW7 xW8 xW2 xW3 xW4 xW5 xW1
        omega
      rw [if_pos w6]
      have zc : (28 : Int32).toInt = 28 := by decide
      exact ⟨⟨fun z => absurd z (by omega), fun z => absurd z no.1⟩, ⟨fun z => absurd z (by omega), fun z => absurd z no.2.1⟩, ⟨fun z => absurd z (by omega), fun z => absurd z no.2.2.1⟩, ⟨fun z => absurd z (by omega), fun z => absurd z no.2.2.2.1⟩, ⟨fun z => absurd z (by omega), fun z => absurd z no.2.2.2.2.1⟩, ⟨fun z => absurd z (by omega), fun z => absurd z no.2.2.2.2.2.1⟩, ⟨fun z => absurd z (by omega), fun z => absurd z no.2.2.2.2.2.2.1⟩, ⟨fun z => absurd z (by omega), fun z => absurd z no.2.2.2.2.2.2.2⟩, ⟨fun _ => w6, fun _ => zc⟩, by omega⟩
    rw [if_neg w6]
    exact ⟨⟨fun z => absurd z (by omega), fun z => absurd z w0⟩, ⟨fun z => absurd z (by omega), fun z => absurd z w7⟩, ⟨fun z => absurd z (by omega), fun z => absurd z w8⟩, ⟨fun z => absurd z (by omega), fun z => absurd z w2⟩, ⟨fun z => absurd z (by omega), fun z => absurd z w3⟩, ⟨fun z => absurd z (by omega), fun z => absurd z w4⟩, ⟨fun z => absurd z (by omega), fun z => absurd z w5⟩, ⟨fun z => absurd z (by omega), fun z => absurd z w1⟩, ⟨fun z => absurd z (by omega), fun z => absurd z w6⟩, by omega⟩
