/-- what is not told: the same answer on both sides -/
theorem r_told {rf ur ua : Nat → Int32} {fl fp rails us dr mf mw many li re be dL dR dP mra mli mre mpa mon : Int32} (e : fl = mf) (p : 0 ≤ fl.toInt) (ew : fl.toInt ≠ 0 → fp = mw) (hr : 0 ≤ rails.toInt ∧ rails.toInt ≤ 8) (h : fl.toInt = 0 → rails = dr ∧ 0 ≤ rails.toInt ∧ rails.toInt ≤ 8 ∧ xUs rf us ur ua 400 ∧ us.toInt ≤ 400 ∧ li = dL ∧ re = dR ∧ be = dP) : K_m_text_L3 us many dr dL dR dP mra mli mre mpa mon ur ua 100000 0 mf mw = (if (M_findNotTold fl fp rf rails).1.toInt = 0 then many else -10 - (M_findNotTold fl fp rf rails).2, if (M_findNotTold fl fp rf rails).1.toInt = 0 then rails else mra, if (M_findNotTold fl fp rf rails).1.toInt = 0 then li else mli, if (M_findNotTold fl fp rf rails).1.toInt = 0 then re else mre, if (M_findNotTold fl fp rf rails).1.toInt = 0 then be else mpa, (M_findNotTold fl fp rf rails).1, if (M_findNotTold fl fp rf rails).1.toInt = 0 then 0 else mon) := by
  subst e
  obtain ⟨v, v1, v2, v3, v4⟩ := fnt (rf := rf) (fl := fl) (fp := fp) hr.1 hr.2
  by_cases q : fl.toInt = 0
  · obtain ⟨hd, -, -, hu, hus, y1, y2, y3⟩ := h q
    subst hd
    subst y1
    subst y2
    subst y3
    have ez : fl = 0 := xi0 q
    obtain ⟨g0, g1, g2, g3⟩ := hu
    have z0 : (0 : Int32).toInt = 0 := by decide
    rcases mnt_L (ur := ur) (ua := ua) (us := us) (many := many) (dr := rails) (mw := mw) (dL := li) (dR := re) (dP := be) (mra := mra) (mli := mli) (mre := mre) (mpa := mpa) (mon := mon) hus 400 0 99598 (by decide) (by omega) (by decide) with ⟨a1, a2⟩ | ⟨J, a1, a2, a3, a4, a5⟩
    · have v4' : v = 400 := by
        rcases v4 with y | ⟨r, b1, b2, b3, b4⟩
        · exact y
        · rcases g3 r b2 with ⟨c1, -⟩ | ⟨j, c1, c2, c3, c4⟩
          · exact absurd c1 b3
          · have := a1 j (by omega) c1
            omega
      have f1 : M_findNotTold fl fp rf rails = (fl, fp) := by rw [v1, if_pos (by rw [v4']; decide)]
      rw [f1]
      dsimp only
      rw [if_pos q, if_pos q, if_pos q, if_pos q, if_pos q, if_pos q, ez]
      exact a2
    · have b0 := g1 J a2
      have rJ : rf (ur J).toInt.toNat = ua J := by
        rcases g3 (ur J).toInt.toNat (by omega) with ⟨c1, c2⟩ | ⟨j, c1, c2, c3, c4⟩
        · exact absurd (by omega) (c2 J a2)
        · have jJ : j = J := by
            rcases Nat.lt_trichotomy j J with y | y | y
            · have := a4 j (by omega) y
              omega
            · exact y
            · exact absurd (by omega) (c4 J y)
          rw [c3, jJ]
      have vl : v.toInt ≤ (ua J).toInt := by
        have := v3 (ur J).toInt.toNat (by omega) (by omega) (by rw [rJ]; omega)
        rw [rJ] at this
        exact this
      have vJ : v = ua J := by
        rcases v4 with y | ⟨r, b1, b2, b3, b4⟩
        · have : (400 : Int32).toInt = 400 := by decide
          rw [y] at vl
          omega
        · rcases g3 r b2 with ⟨c1, -⟩ | ⟨j, c1, c2, c3, c4⟩
          · exact absurd c1 b3
          · rcases Nat.lt_trichotomy j J with y | y | y
            · have := a4 j (by omega) y
              omega
            · rw [b4, c3, y]
            · have := g2 J j y c1
              rw [b4, c3] at vl
              omega
      have f1 : M_findNotTold fl fp rf rails = (6, ua J) := by rw [v1, if_neg (by rw [vJ]; omega), t_refuse q, vJ]
      rw [f1]
      dsimp only
      rw [if_neg (by decide), if_neg (by decide), if_neg (by decide), if_neg (by decide), if_neg (by decide), if_neg (by decide), ez]
      exact a5
  · have f1 : M_findNotTold fl fp rf rails = (fl, fp) := by
      rw [v1]
      by_cases z : 400 ≤ v.toInt
      · rw [if_pos z]
      · rw [if_neg z]
        simp only [K_refuse_3, K_refuse_2, K_refuse_1, M_refuse]
        rw [if_neg q]
    rw [f1]
    dsimp only
    rw [if_neg q, if_neg q, if_neg q, if_neg q, if_neg q, if_neg q, ew q]
    have g : ∀ j : Nat, K_m_text_L3 us many dr dL dR dP mra mli mre mpa mon ur ua (j + 1) 0 fl mw = (-10 - mw, mra, mli, mre, mpa, fl, mon) := by
      intro j
      simp only [K_m_text_L3, K_m_text_6, K_m_text_7, K_m_text_4, K_m_text_10, K_m_text_11, K_m_text_9, K_m_text_8, K_m_text_5, K_m_text_3, K_m_text_2, K_m_text_16, K_m_text_18, K_m_text_17, K_m_text_15, K_m_text_14, K_m_text_13, K_m_text_12, K_m_text_1, M_m_text]
      by_cases y : us.toInt ≤ (0 : Int32).toInt
      · rw [if_pos y, if_neg (by omega)]
      · rw [if_neg y, if_neg q]
    exact g 99999
