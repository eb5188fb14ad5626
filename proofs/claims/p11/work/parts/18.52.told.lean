/-- the class: the first use of what is not told -/
theorem fnt_L {rf : Nat → Int32} {fl fp : Int32} : ∀ (m : Nat) (x a : Int32) (k : Nat), m ≤ 8 → x.toInt = 8 - (m : Int) → ∃ v : Int32, K_findNotTold_L2 fl fp rf (k + m + 1) x a = (if 400 ≤ v.toInt then (fl, fp) else M_refuse fl 6 v fp) ∧ v.toInt ≤ a.toInt ∧ (∀ r : Nat, x.toInt ≤ (r : Int) → r < 8 → (rf r).toInt ≠ -4 → v.toInt ≤ (rf r).toInt) ∧ (v = a ∨ ∃ r : Nat, x.toInt ≤ (r : Int) ∧ r < 8 ∧ (rf r).toInt ≠ -4 ∧ v = rf r) := by
  intro m
  induction m with
  | zero =>
    intro x a k hm hx
    refine ⟨a, ?_, Int.le_refl _, fun r h1 h2 => absurd h1 (by omega), Or.inl rfl⟩
    simp only [K_findNotTold_L2, K_findNotTold_5, K_findNotTold_7, K_findNotTold_6, K_findNotTold_3, K_findNotTold_8, K_findNotTold_9, K_findNotTold_4, K_findNotTold_2, K_findNotTold_1, M_findNotTold]
    rw [if_pos (by omega)]
  | succ m ih =>
    intro x a k hm hx
    have e : (x + 1).toInt = x.toInt + 1 := xadd rfl (by decide) (by omega) (by omega)
    have w := xtn (x := x) (by omega)
    have go : K_findNotTold_L2 fl fp rf (k + (m + 1) + 1) x a = if (rf x.toNatClampNeg).toInt = -4 then K_findNotTold_L2 fl fp rf (k + m + 1) (x + 1) a else K_findNotTold_L2 fl fp rf (k + m + 1) (x + 1) (if rf x.toNatClampNeg < a then rf x.toNatClampNeg else a) := by
      show K_findNotTold_L2 fl fp rf ((k + m + 1) + 1) x a = _
      generalize k + m + 1 = j
      simp only [K_findNotTold_L2, K_findNotTold_5, K_findNotTold_7, K_findNotTold_6, K_findNotTold_3, K_findNotTold_8, K_findNotTold_9, K_findNotTold_4, K_findNotTold_2, K_findNotTold_1, M_findNotTold]
      rw [if_neg (by omega)]
    by_cases q : (rf x.toNatClampNeg).toInt = -4
    · obtain ⟨v, v1, v2, v3, v4⟩ := ih (x + 1) a k (by omega) (by omega)
      refine ⟨v, ?_, v2, fun r h1 h2 h3 => ?_, ?_⟩
      · rw [go, if_pos q]; exact v1
      · by_cases z : r = x.toNatClampNeg
        · rw [z] at h3; exact absurd q h3
        · exact v3 r (by omega) h2 h3
      · rcases v4 with v4 | ⟨r, a1, a2, a3, a4⟩
        · exact Or.inl v4
        · exact Or.inr ⟨r, by omega, a2, a3, a4⟩
    · obtain ⟨v, v1, v2, v3, v4⟩ := ih (x + 1) (if rf x.toNatClampNeg < a then rf x.toNatClampNeg else a) k (by omega) (by omega)
      have mn : (if rf x.toNatClampNeg < a then rf x.toNatClampNeg else a).toInt ≤ a.toInt ∧ (if rf x.toNatClampNeg < a then rf x.toNatClampNeg else a).toInt ≤ (rf x.toNatClampNeg).toInt ∧ ((if rf x.toNatClampNeg < a then rf x.toNatClampNeg else a) = a ∨ (if rf x.toNatClampNeg < a then rf x.toNatClampNeg else a) = rf x.toNatClampNeg) := by
        by_cases z : rf x.toNatClampNeg < a
        · rw [if_pos z]
          have := Int32.lt_iff_toInt_lt.mp z
          exact ⟨by omega, Int.le_refl _, Or.inr rfl⟩
        · rw [if_neg z]
          have : ¬ (rf x.toNatClampNeg).toInt < a.toInt := fun y => z (Int32.lt_iff_toInt_lt.mpr y)
          exact ⟨Int.le_refl _, by omega, Or.inl rfl⟩
      refine ⟨v, ?_, by omega, fun r h1 h2 h3 => ?_, ?_⟩
      · rw [go, if_neg q]; exact v1
      · by_cases z : r = x.toNatClampNeg
        · rw [z]; omega
        · exact v3 r (by omega) h2 h3
      · rcases v4 with v4 | ⟨r, a1, a2, a3, a4⟩
        · rcases mn.2.2 with y | y
          · exact Or.inl (v4.trans y)
          · exact Or.inr ⟨x.toNatClampNeg, by omega, by omega, q, v4.trans y⟩
        · exact Or.inr ⟨r, by omega, a2, a3, a4⟩
theorem fnt {rf : Nat → Int32} {fl fp rails : Int32} (h0 : 0 ≤ rails.toInt) (h8 : rails.toInt ≤ 8) : ∃ v : Int32, M_findNotTold fl fp rf rails = (if 400 ≤ v.toInt then (fl, fp) else M_refuse fl 6 v fp) ∧ v.toInt ≤ 400 ∧ (∀ r : Nat, rails.toInt ≤ (r : Int) → r < 8 → (rf r).toInt ≠ -4 → v.toInt ≤ (rf r).toInt) ∧ (v = 400 ∨ ∃ r : Nat, rails.toInt ≤ (r : Int) ∧ r < 8 ∧ (rf r).toInt ≠ -4 ∧ v = rf r) := by
  have z : (400 : Int32).toInt = 400 := by decide
  obtain ⟨v, v1, v2, v3, v4⟩ := fnt_L (rf := rf) (fl := fl) (fp := fp) (8 - rails.toInt).toNat rails 400 (99999 - (8 - rails.toInt).toNat) (by omega) (by omega)
  refine ⟨v, ?_, by omega, v3, v4⟩
  rw [← v1]
  show K_findNotTold_L2 fl fp rf 100000 rails 400 = _
  rw [show (99999 - (8 - rails.toInt).toNat + (8 - rails.toInt).toNat + 1) = 100000 from by omega]
/-- the reference: the first use of what is not told -/
theorem mnt_L {ur ua : Nat → Int32} {us many dr dL dR dP mw mra mli mre mpa mon : Int32} (hu : us.toInt ≤ 400) : ∀ (m : Nat) (x : Int32) (k : Nat), 0 ≤ x.toInt → us.toInt - x.toInt ≤ (m : Int) → m ≤ 500 → ((∀ j : Nat, x.toInt ≤ (j : Int) → (j : Int) < us.toInt → (ur j).toInt < dr.toInt) ∧ K_m_text_L3 us many dr dL dR dP mra mli mre mpa mon ur ua (k + m + 2) x 0 mw = (many, dr, dL, dR, dP, 0, 0)) ∨ (∃ J : Nat, x.toInt ≤ (J : Int) ∧ (J : Int) < us.toInt ∧ dr.toInt ≤ (ur J).toInt ∧ (∀ j : Nat, x.toInt ≤ (j : Int) → j < J → (ur j).toInt < dr.toInt) ∧ K_m_text_L3 us many dr dL dR dP mra mli mre mpa mon ur ua (k + m + 2) x 0 mw = (-10 - ua J, mra, mli, mre, mpa, 6, mon)) := by
  intro m
  induction m with
  | zero =>
    intro x k h0 h hm
    left
    refine ⟨fun j h1 h2 => absurd h2 (by omega), ?_⟩
    simp only [K_m_text_L3, K_m_text_6, K_m_text_7, K_m_text_4, K_m_text_10, K_m_text_11, K_m_text_9, K_m_text_8, K_m_text_5, K_m_text_3, K_m_text_2, K_m_text_16, K_m_text_18, K_m_text_17, K_m_text_15, K_m_text_14, K_m_text_13, K_m_text_12, K_m_text_1, M_m_text]
    rw [if_pos (by omega), if_pos (by decide)]
  | succ m ih =>
    intro x k h0 h hm
    by_cases q : us.toInt ≤ x.toInt
    · left
      refine ⟨fun j h1 h2 => absurd h2 (by omega), ?_⟩
      simp only [K_m_text_L3, K_m_text_6, K_m_text_7, K_m_text_4, K_m_text_10, K_m_text_11, K_m_text_9, K_m_text_8, K_m_text_5, K_m_text_3, K_m_text_2, K_m_text_16, K_m_text_18, K_m_text_17, K_m_text_15, K_m_text_14, K_m_text_13, K_m_text_12, K_m_text_1, M_m_text]
      rw [if_pos q, if_pos (by decide)]
    · have e : (x + 1).toInt = x.toInt + 1 := xadd rfl (by decide) (by omega) (by omega)
      have w := xtn (x := x) h0
      have go : K_m_text_L3 us many dr dL dR dP mra mli mre mpa mon ur ua (k + (m + 1) + 2) x 0 mw = if (ur x.toNatClampNeg).toInt < dr.toInt then K_m_text_L3 us many dr dL dR dP mra mli mre mpa mon ur ua (k + m + 2) (x + 1) 0 mw else K_m_text_L3 us many dr dL dR dP mra mli mre mpa mon ur ua (k + m + 2) (x + 1) 6 (ua x.toNatClampNeg) := by
        show K_m_text_L3 us many dr dL dR dP mra mli mre mpa mon ur ua ((k + m + 2) + 1) x 0 mw = _
        generalize k + m + 2 = j
        simp only [K_m_text_L3, K_m_text_6, K_m_text_7, K_m_text_4, K_m_text_10, K_m_text_11, K_m_text_9, K_m_text_8, K_m_text_5, K_m_text_3, K_m_text_2, K_m_text_16, K_m_text_18, K_m_text_17, K_m_text_15, K_m_text_14, K_m_text_13, K_m_text_12, K_m_text_1, M_m_text]
        rw [if_neg q, if_pos (by decide)]
      by_cases z : (ur x.toNatClampNeg).toInt < dr.toInt
      · rcases ih (x + 1) k (by omega) (by omega) (by omega) with ⟨a1, a2⟩ | ⟨J, a1, a2, a3, a4, a5⟩
        · left
          refine ⟨fun j h1 h2 => ?_, by rw [go, if_pos z]; exact a2⟩
          by_cases y : j = x.toNatClampNeg
          · rw [y]; exact z
          · exact a1 j (by omega) h2
        · right
          refine ⟨J, by omega, a2, a3, fun j h1 h2 => ?_, by rw [go, if_pos z]; exact a5⟩
          by_cases y : j = x.toNatClampNeg
          · rw [y]; exact z
          · exact a4 j (by omega) h2
      · right
        refine ⟨x.toNatClampNeg, by omega, by omega, by omega, fun j h1 h2 => absurd h2 (by omega), ?_⟩
        rw [go, if_neg z]
        have g : K_m_text_L3 us many dr dL dR dP mra mli mre mpa mon ur ua (k + m + 1 + 1) (x + 1) 6 (ua x.toNatClampNeg) = (-10 - ua x.toNatClampNeg, mra, mli, mre, mpa, 6, mon) := by
          generalize k + m + 1 = j
          simp only [K_m_text_L3, K_m_text_6, K_m_text_7, K_m_text_4, K_m_text_10, K_m_text_11, K_m_text_9, K_m_text_8, K_m_text_5, K_m_text_3, K_m_text_2, K_m_text_16, K_m_text_18, K_m_text_17, K_m_text_15, K_m_text_14, K_m_text_13, K_m_text_12, K_m_text_1, M_m_text]
          by_cases y : us.toInt ≤ (x + 1).toInt
          · rw [if_pos y, if_neg (by decide)]
          · rw [if_neg y, if_neg (by decide)]
        exact g
