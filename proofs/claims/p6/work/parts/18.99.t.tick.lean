theorem xsub0 (x : Int32) : x - 0 = x := by
  apply Int32.toBitVec_inj.mp
  rw [Int32.toBitVec_sub]
  exact BitVec.sub_zero _
/-- what is drawn now: the class -/
theorem sd_in {rs S pn n3 n4 : Nat → Int32} {q : Nat} (q8 : q ≤ 8) (hs : ∀ j, j < q → rs j = S j) (h3 : ∀ x, x < q → pn (8 * x + 3) = n3 x ∧ pn (8 * x + 4) = n4 x) : ∀ (m x k : Nat), x + m = q → K_sumDraw_L2 (nI q) rs pn (k + m + 1) (nI x) (yD (fun x => if (S x).toInt = 3 then n3 x else if (S x).toInt = 2 then n4 x else 0) x) = yD (fun x => if (S x).toInt = 3 then n3 x else if (S x).toInt = 2 then n4 x else 0) q := by
  have qq : (nI q).toInt = (q : Int) := nI_toInt (by omega)
  intro m
  induction m with
  | zero =>
    intro x k hx
    have ex : (nI x).toInt = (x : Int) := nI_toInt (by omega)
    obtain rfl : x = q := by omega
    simp only [K_sumDraw_L2, K_sumDraw_3, K_sumDraw_10, K_sumDraw_6, K_sumDraw_9, K_sumDraw_8, K_sumDraw_7, K_sumDraw_5, K_sumDraw_4, K_sumDraw_2, K_sumDraw_1, M_sumDraw]
    rw [if_pos (by omega)]
  | succ m ih =>
    intro x k hx
    have ex : (nI x).toInt = (x : Int) := nI_toInt (by omega)
    have exc : (nI x).toNatClampNeg = x := nI_clamp (by omega)
    obtain ⟨p3, p4⟩ := h3 x (by omega)
    have z := ih (x + 1) k (by omega)
    rw [← z]
    show K_sumDraw_L2 (nI q) rs pn ((k + m + 1) + 1) (nI x) _ = _
    generalize k + m + 1 = j
    simp only [K_sumDraw_L2, K_sumDraw_3, K_sumDraw_10, K_sumDraw_6, K_sumDraw_9, K_sumDraw_8, K_sumDraw_7, K_sumDraw_5, K_sumDraw_4, K_sumDraw_2, K_sumDraw_1, M_sumDraw]
    rw [if_neg (by omega), exc, hs x (by omega), nI_1, show M_number pn (nI x) 4 = n4 x from (t_nb (k := 4) (by omega) (by decide)).trans p4, show M_number pn (nI x) 3 = n3 x from (t_nb (k := 3) (by omega) (by decide)).trans p3, show yD (fun x => if (S x).toInt = 3 then n3 x else if (S x).toInt = 2 then n4 x else 0) (x + 1) = yD (fun x => if (S x).toInt = 3 then n3 x else if (S x).toInt = 2 then n4 x else 0) x + (if (S x).toInt = 3 then n3 x else if (S x).toInt = 2 then n4 x else 0) from rfl]
    by_cases a : (S x).toInt = 3
    · rw [if_pos a, if_pos a]
    · rw [if_neg a, if_neg a]
      by_cases b : (S x).toInt = 2
      · rw [if_pos b, if_pos b]
      · rw [if_neg b, if_neg b, xadd0]
/-- what is drawn now: one on both sides -/
theorem r_draw {rs ri ra rg S I U G pn Td n3 n4 : Nat → Int32} {q : Nat} (q8 : q ≤ 8) (h : xR4 q rs ri ra rg S I U G) (h3 : ∀ x, x < q → pn (8 * x + 3) = n3 x ∧ pn (8 * x + 4) = n4 x) (h7 : ∀ x, x < q → Td (7 * x + 3) = n3 x ∧ Td (7 * x + 4) = n4 x) : M_sumDraw (nI q) rs pn = M_m_drawnOf (nI q) (M_m_allIn (nI q) S 3) Td (M_m_allIn (nI q) S 2) := by
  have z := sd_in (rs := rs) (S := S) q8 (fun j hj => (h.1 j hj).1) h3 q 0 (99999 - q) (by omega)
  rw [show 99999 - q + q + 1 = 100000 from by omega] at z
  have y := md_of (Td := Td) (n3 := n3) (n4 := n4) (a := xup (fun j => decide ((S j).toInt = (3 : Int32).toInt)) q 0) (b := xup (fun j => decide ((S j).toInt = (2 : Int32).toInt)) q 0) q8 h7 q 0 (99999 - q) (by omega)
  rw [show 99999 - q + q + 1 = 100000 from by omega] at y
  rw [r_allIn q8, r_allIn q8]
  refine Eq.trans (show M_sumDraw (nI q) rs pn = _ from z) (Eq.trans (yD_ext q (fun x hx => ?_)) (show _ = M_m_drawnOf (nI q) _ Td _ from y.symm))
  have e3 : (3 : Int32).toInt = 3 := by decide
  have e2 : (2 : Int32).toInt = 2 := by decide
  rw [xup_bit, xup_bit, Nat.zero_testBit, Bool.false_or, Bool.false_or, e3, e2]
  by_cases a : (S x).toInt = 3
  · rw [if_pos a, if_pos (by simp [hx, a])]
  · rw [if_neg a, if_neg (show ¬ (decide (x < q) && decide ((S x).toInt = 3)) = true by simp [a])]
    by_cases b : (S x).toInt = 2
    · rw [if_pos b, if_pos (show (decide (x < q) && decide ((S x).toInt = 2)) = true by simp [hx, b])]
    · rw [if_neg b, if_neg (show ¬ (decide (x < q) && decide ((S x).toInt = 2)) = true by simp [b])]
/-- a RAIL that comes too late -/
def yLate (S U n6 : Nat → Int32) (x : Nat) : Prop := 0 < (n6 x).toInt ∧ ((S x).toInt = 1 ∨ (S x).toInt = 2) ∧ (n6 x).toInt ≤ (U x).toInt
theorem wt_in {rs ra S U pn n6 : Nat → Int32} {q : Nat} (q8 : q ≤ 8) (hs : ∀ j, j < q → rs j = S j ∧ ra j = U j) (h6 : ∀ x, x < q → pn (8 * x + 6) = n6 x) : ∀ (m x k : Nat), x + m = q → ((∀ j, x ≤ j → j < q → ¬ yLate S U n6 j) ∧ K_whyTrip_L4 (nI q) rs ra pn (k + m + 1) (nI x) = 0) ∨ ((∃ j, x ≤ j ∧ j < q ∧ yLate S U n6 j) ∧ K_whyTrip_L4 (nI q) rs ra pn (k + m + 1) (nI x) = 2) := by
  have qq : (nI q).toInt = (q : Int) := nI_toInt (by omega)
  intro m
  induction m with
  | zero =>
    intro x k hx
    have ex : (nI x).toInt = (x : Int) := nI_toInt (by omega)
    refine Or.inl ⟨fun j a b => absurd a (by omega), ?_⟩
    simp only [K_whyTrip_L4, K_whyTrip_5, K_whyTrip_10, K_whyTrip_12, K_whyTrip_13, K_whyTrip_11, K_whyTrip_8, K_whyTrip_18, K_whyTrip_20, K_whyTrip_21, K_whyTrip_19, K_whyTrip_15, K_whyTrip_16, K_whyTrip_17, K_whyTrip_14, K_whyTrip_9, K_whyTrip_7, K_whyTrip_6, K_whyTrip_4, K_whyTrip_2, K_whyTrip_3, K_whyTrip_1, M_whyTrip]
    rw [if_pos (by omega)]
  | succ m ih =>
    intro x k hx
    have ex : (nI x).toInt = (x : Int) := nI_toInt (by omega)
    have exc : (nI x).toNatClampNeg = x := nI_clamp (by omega)
    obtain ⟨s1, s2⟩ := hs x (by omega)
    have go : K_whyTrip_L4 (nI q) rs ra pn ((k + m + 1) + 1) (nI x) = if 0 < (n6 x).toInt ∧ ((S x).toInt = 1 ∨ (S x).toInt = 2) ∧ (n6 x).toInt ≤ (U x).toInt then 2 else K_whyTrip_L4 (nI q) rs ra pn (k + m + 1) (nI (x + 1)) := by
      generalize k + m + 1 = j
      simp only [K_whyTrip_L4, K_whyTrip_5, K_whyTrip_10, K_whyTrip_12, K_whyTrip_13, K_whyTrip_11, K_whyTrip_8, K_whyTrip_18, K_whyTrip_20, K_whyTrip_21, K_whyTrip_19, K_whyTrip_15, K_whyTrip_16, K_whyTrip_17, K_whyTrip_14, K_whyTrip_9, K_whyTrip_7, K_whyTrip_6, K_whyTrip_4, K_whyTrip_2, K_whyTrip_3, K_whyTrip_1, M_whyTrip]
      rw [if_neg (by omega), exc, s1, s2, nI_1, show M_number pn (nI x) 6 = n6 x from (t_nb (k := 6) (by omega) (by decide)).trans (h6 x (by omega))]
      by_cases a : (S x).toInt = 1
      · rw [if_pos a]
        by_cases b : (n6 x).toInt ≤ 0
        · rw [if_pos b, if_neg (by omega)]
        · rw [if_neg b]
          by_cases c : (U x).toInt < (n6 x).toInt
          · rw [if_pos c, if_neg (by omega)]
          · rw [if_neg c, if_pos (by omega)]
      · rw [if_neg a]
        by_cases a2 : (S x).toInt = 2
        · rw [if_pos a2]
          by_cases b : (n6 x).toInt ≤ 0
          · rw [if_pos b, if_neg (by omega)]
          · rw [if_neg b]
            by_cases c : (U x).toInt < (n6 x).toInt
            · rw [if_pos c, if_neg (by omega)]
            · rw [if_neg c, if_pos (by omega)]
        · rw [if_neg a2]
          by_cases b : (n6 x).toInt ≤ 0
          · rw [if_pos b, if_neg (by omega)]
          · rw [if_neg b, if_neg (by omega)]
    show (_ ∧ K_whyTrip_L4 (nI q) rs ra pn ((k + m + 1) + 1) (nI x) = 0) ∨ (_ ∧ K_whyTrip_L4 (nI q) rs ra pn ((k + m + 1) + 1) (nI x) = 2)
    rw [go]
    by_cases L : yLate S U n6 x
    · exact Or.inr ⟨⟨x, Nat.le_refl _, by omega, L⟩, if_pos L⟩
    · rw [if_neg (show ¬ (0 < (n6 x).toInt ∧ ((S x).toInt = 1 ∨ (S x).toInt = 2) ∧ (n6 x).toInt ≤ (U x).toInt) from L)]
      rcases ih (x + 1) k (by omega) with ⟨a, b⟩ | ⟨⟨j, a1, a2, a3⟩, b⟩
      · refine Or.inl ⟨fun j j1 j2 => ?_, b⟩
        by_cases e : j = x
        · rw [e]; exact L
        · exact a j (by omega) j2
      · exact Or.inr ⟨⟨j, by omega, a2, a3⟩, b⟩
theorem tn1_in {S U Td : Nat → Int32} {dn lim : Int32} {q : Nat} (q8 : q ≤ 8) : ∀ (m x k : Nat), x + m = q → K_m_tripNow_L2 (nI q) dn lim S U Td (k + m + 1) (nI x) 1 = if dn.toInt ≤ lim.toInt then 2 else 1 := by
  have qq : (nI q).toInt = (q : Int) := nI_toInt (by omega)
  intro m
  induction m with
  | zero =>
    intro x k hx
    have ex : (nI x).toInt = (x : Int) := nI_toInt (by omega)
    simp only [K_m_tripNow_L2, K_m_tripNow_7, K_m_tripNow_8, K_m_tripNow_5, K_m_tripNow_6, K_m_tripNow_3, K_m_tripNow_12, K_m_tripNow_17, K_m_tripNow_18, K_m_tripNow_16, K_m_tripNow_14, K_m_tripNow_22, K_m_tripNow_23, K_m_tripNow_21, K_m_tripNow_20, K_m_tripNow_19, K_m_tripNow_15, K_m_tripNow_13, K_m_tripNow_11, K_m_tripNow_10, K_m_tripNow_9, K_m_tripNow_4, K_m_tripNow_2, K_m_tripNow_1, M_m_tripNow]
    rw [if_pos (by omega)]
    by_cases c : dn.toInt ≤ lim.toInt
    · rw [if_pos c, if_pos c, if_neg (by decide)]
    · rw [if_neg c, if_neg c]
  | succ m ih =>
    intro x k hx
    have ex : (nI x).toInt = (x : Int) := nI_toInt (by omega)
    have z := ih (x + 1) k (by omega)
    show K_m_tripNow_L2 (nI q) dn lim S U Td ((k + m + 1) + 1) (nI x) 1 = _
    generalize k + m + 1 = j at z ⊢
    rw [← z]
    simp only [K_m_tripNow_L2, K_m_tripNow_7, K_m_tripNow_8, K_m_tripNow_5, K_m_tripNow_6, K_m_tripNow_3, K_m_tripNow_12, K_m_tripNow_17, K_m_tripNow_18, K_m_tripNow_16, K_m_tripNow_14, K_m_tripNow_22, K_m_tripNow_23, K_m_tripNow_21, K_m_tripNow_20, K_m_tripNow_19, K_m_tripNow_15, K_m_tripNow_13, K_m_tripNow_11, K_m_tripNow_10, K_m_tripNow_9, K_m_tripNow_4, K_m_tripNow_2, K_m_tripNow_1, M_m_tripNow]
    rw [if_neg (by omega), if_neg (by decide), nI_1]
theorem tn0_in {S U Td n6 : Nat → Int32} {dn lim : Int32} {q : Nat} (q8 : q ≤ 8) (h6 : ∀ x, x < q → Td (7 * x + 6) = n6 x) : ∀ (m x k : Nat), x + m = q → ((∀ j, x ≤ j → j < q → ¬ yLate S U n6 j) ∧ K_m_tripNow_L2 (nI q) dn lim S U Td (k + m + 1) (nI x) 0 = if dn.toInt ≤ lim.toInt then 0 else 1) ∨ ((∃ j, x ≤ j ∧ j < q ∧ yLate S U n6 j) ∧ K_m_tripNow_L2 (nI q) dn lim S U Td (k + m + 1) (nI x) 0 = if dn.toInt ≤ lim.toInt then 2 else 1) := by
  have qq : (nI q).toInt = (q : Int) := nI_toInt (by omega)
  intro m
  induction m with
  | zero =>
    intro x k hx
    have ex : (nI x).toInt = (x : Int) := nI_toInt (by omega)
    refine Or.inl ⟨fun j a b => absurd a (by omega), ?_⟩
    simp only [K_m_tripNow_L2, K_m_tripNow_7, K_m_tripNow_8, K_m_tripNow_5, K_m_tripNow_6, K_m_tripNow_3, K_m_tripNow_12, K_m_tripNow_17, K_m_tripNow_18, K_m_tripNow_16, K_m_tripNow_14, K_m_tripNow_22, K_m_tripNow_23, K_m_tripNow_21, K_m_tripNow_20, K_m_tripNow_19, K_m_tripNow_15, K_m_tripNow_13, K_m_tripNow_11, K_m_tripNow_10, K_m_tripNow_9, K_m_tripNow_4, K_m_tripNow_2, K_m_tripNow_1, M_m_tripNow]
    rw [if_pos (by omega)]
    by_cases c : dn.toInt ≤ lim.toInt
    · rw [if_pos c, if_pos c, if_pos (by decide)]
    · rw [if_neg c, if_neg c]
  | succ m ih =>
    intro x k hx
    have ex : (nI x).toInt = (x : Int) := nI_toInt (by omega)
    have exc : (nI x).toNatClampNeg = x := nI_clamp (by omega)
    have go : K_m_tripNow_L2 (nI q) dn lim S U Td ((k + m + 1) + 1) (nI x) 0 = if 0 < (n6 x).toInt ∧ ((S x).toInt = 1 ∨ (S x).toInt = 2) ∧ (n6 x).toInt ≤ (U x).toInt then K_m_tripNow_L2 (nI q) dn lim S U Td (k + m + 1) (nI (x + 1)) 1 else K_m_tripNow_L2 (nI q) dn lim S U Td (k + m + 1) (nI (x + 1)) 0 := by
      generalize k + m + 1 = j
      simp only [K_m_tripNow_L2, K_m_tripNow_7, K_m_tripNow_8, K_m_tripNow_5, K_m_tripNow_6, K_m_tripNow_3, K_m_tripNow_12, K_m_tripNow_17, K_m_tripNow_18, K_m_tripNow_16, K_m_tripNow_14, K_m_tripNow_22, K_m_tripNow_23, K_m_tripNow_21, K_m_tripNow_20, K_m_tripNow_19, K_m_tripNow_15, K_m_tripNow_13, K_m_tripNow_11, K_m_tripNow_10, K_m_tripNow_9, K_m_tripNow_4, K_m_tripNow_2, K_m_tripNow_1, M_m_tripNow]
      rw [if_neg (by omega), if_pos (by decide), exc, nI_1, show M_m_of Td (nI x) 6 = n6 x from (t_of7 (k := 6) (by omega) (by decide)).trans (h6 x (by omega))]
      by_cases b : (n6 x).toInt ≤ 0
      · rw [if_pos b, if_neg (by omega)]
      · rw [if_neg b]
        by_cases a : (S x).toInt = 1
        · rw [if_pos a]
          by_cases c : (U x).toInt < (n6 x).toInt
          · rw [if_pos c, if_neg (by omega)]
          · rw [if_neg c, if_pos (by omega)]
        · rw [if_neg a]
          by_cases a2 : (S x).toInt = 2
          · rw [if_pos a2]
            by_cases c : (U x).toInt < (n6 x).toInt
            · rw [if_pos c, if_neg (by omega)]
            · rw [if_neg c, if_pos (by omega)]
          · rw [if_neg a2, if_neg (by omega)]
    show (_ ∧ K_m_tripNow_L2 (nI q) dn lim S U Td ((k + m + 1) + 1) (nI x) 0 = _) ∨ (_ ∧ K_m_tripNow_L2 (nI q) dn lim S U Td ((k + m + 1) + 1) (nI x) 0 = _)
    rw [go]
    by_cases L : yLate S U n6 x
    · refine Or.inr ⟨⟨x, Nat.le_refl _, by omega, L⟩, ?_⟩
      rw [if_pos (show 0 < (n6 x).toInt ∧ ((S x).toInt = 1 ∨ (S x).toInt = 2) ∧ (n6 x).toInt ≤ (U x).toInt from L)]
      exact tn1_in q8 m (x + 1) k (by omega)
    · rw [if_neg (show ¬ (0 < (n6 x).toInt ∧ ((S x).toInt = 1 ∨ (S x).toInt = 2) ∧ (n6 x).toInt ≤ (U x).toInt) from L)]
      rcases ih (x + 1) k (by omega) with ⟨a, b⟩ | ⟨⟨j, a1, a2, a3⟩, b⟩
      · refine Or.inl ⟨fun j j1 j2 => ?_, b⟩
        by_cases e : j = x
        · rw [e]; exact L
        · exact a j (by omega) j2
      · exact Or.inr ⟨⟨j, by omega, a2, a3⟩, b⟩
/-- why a trip: one on both sides -/
theorem r_why {rs ri ra rg S I U G pn Td n6 : Nat → Int32} {ld lim : Int32} {q : Nat} (q8 : q ≤ 8) (h : xR4 q rs ri ra rg S I U G) (h6 : ∀ x, x < q → pn (8 * x + 6) = n6 x) (h7 : ∀ x, x < q → Td (7 * x + 6) = n6 x) : M_whyTrip ld lim (nI q) rs ra pn = M_m_tripNow (nI q) ld lim S U Td ∧ 0 ≤ (M_m_tripNow (nI q) ld lim S U Td).toInt := by
  have z := wt_in (rs := rs) (ra := ra) (S := S) (U := U) q8 (fun j hj => ⟨(h.1 j hj).1, (h.1 j hj).2.2.1⟩) h6 q 0 (99999 - q) (by omega)
  have y := tn0_in (S := S) (U := U) (dn := ld) (lim := lim) q8 h7 q 0 (99999 - q) (by omega)
  rw [show 99999 - q + q + 1 = 100000 from by omega] at z y
  have e : M_m_tripNow (nI q) ld lim S U Td = K_m_tripNow_L2 (nI q) ld lim S U Td 100000 (nI 0) 0 := rfl
  have c : M_whyTrip ld lim (nI q) rs ra pn = if ld.toInt ≤ lim.toInt then K_whyTrip_L4 (nI q) rs ra pn 100000 (nI 0) else 1 := by
    simp only [K_whyTrip_5, K_whyTrip_10, K_whyTrip_12, K_whyTrip_13, K_whyTrip_11, K_whyTrip_8, K_whyTrip_18, K_whyTrip_20, K_whyTrip_21, K_whyTrip_19, K_whyTrip_15, K_whyTrip_16, K_whyTrip_17, K_whyTrip_14, K_whyTrip_9, K_whyTrip_7, K_whyTrip_6, K_whyTrip_2, K_whyTrip_3, K_whyTrip_1, M_whyTrip]
    rfl
  rw [e, c]
  by_cases l : ld.toInt ≤ lim.toInt
  · rw [if_pos l]
    rw [if_pos l, if_pos l] at y
    rcases z with ⟨a, b⟩ | ⟨⟨j, a1, a2, a3⟩, b⟩
    · rcases y with ⟨a', b'⟩ | ⟨⟨j, c1, c2, c3⟩, b'⟩
      · rw [b, b']
        exact ⟨rfl, by decide⟩
      · exact absurd c3 (a j c1 c2)
    · rcases y with ⟨a', b'⟩ | ⟨-, b'⟩
      · exact absurd a3 (a' j a1 a2)
      · rw [b, b']
        exact ⟨rfl, by decide⟩
  · rw [if_neg l]
    rw [if_neg l, if_neg l] at y
    have b' : K_m_tripNow_L2 (nI q) ld lim S U Td 100000 (nI 0) 0 = 1 := y.elim (fun z => z.2) (fun z => z.2)
    rw [b']
    exact ⟨rfl, by decide⟩
theorem t_trip {tries trips behind ysz tk w : Int32} {ya yb yc : Nat → Int32} : M_trip tries trips behind ysz ya tk yb yc w = (if tries.toInt ≤ 0 then -4 else behind, if tries.toInt ≤ 0 then tries else tries - 1, trips + 1, (M_note ysz ya tk yb (-4) yc (5 + w)).1, (M_note ysz ya tk yb (-4) yc (5 + w)).2.1, (M_note ysz ya tk yb (-4) yc (5 + w)).2.2.1, (M_note ysz ya tk yb (-4) yc (5 + w)).2.2.2) := by
  simp only [K_trip_3, K_trip_4, K_trip_2, K_trip_1, M_trip]
  by_cases a : tries.toInt ≤ 0
  · rw [if_pos a, if_pos a, if_pos a]
  · rw [if_neg a, if_neg a, if_neg a]
/-- all grows older: the class -/
theorem gr_in {held tk : Int32} {q : Nat} (q8 : q ≤ 8) : ∀ (m x k : Nat) (f g : Nat → Int32), x + m = q → ∃ f' g' : Nat → Int32, K_growOlder_L2 (nI q) held tk (k + m + 1) (nI x) f g = (tk + 1, if held.toInt ≤ 0 then held else held - 1, f', g') ∧ (∀ j, x ≤ j → j < q → f' j = f j + 1 ∧ g' j = g j + 1) ∧ ∀ j, j < x → f' j = f j ∧ g' j = g j := by
  have qq : (nI q).toInt = (q : Int) := nI_toInt (by omega)
  intro m
  induction m with
  | zero =>
    intro x k f g hx
    have ex : (nI x).toInt = (x : Int) := nI_toInt (by omega)
    refine ⟨f, g, ?_, fun j a b => absurd a (by omega), fun j _ => ⟨rfl, rfl⟩⟩
    simp only [K_growOlder_L2, K_growOlder_5, K_growOlder_6, K_growOlder_3, K_growOlder_4, K_growOlder_2, K_growOlder_1, M_growOlder]
    rw [if_pos (by omega)]
    by_cases c : held.toInt ≤ 0
    · rw [if_pos c, if_pos c]
    · rw [if_neg c, if_neg c]
  | succ m ih =>
    intro x k f g hx
    have ex : (nI x).toInt = (x : Int) := nI_toInt (by omega)
    have exc : (nI x).toNatClampNeg = x := nI_clamp (by omega)
    obtain ⟨f', g', a1, a2, a3⟩ := ih (x + 1) k (upd f x (f x + 1)) (upd g x (g x + 1)) (by omega)
    refine ⟨f', g', ?_, fun j h1 h2 => ?_, fun j hj => ?_⟩
    · rw [← a1]
      show K_growOlder_L2 (nI q) held tk ((k + m + 1) + 1) (nI x) f g = _
      generalize k + m + 1 = j
      simp only [K_growOlder_L2, K_growOlder_5, K_growOlder_6, K_growOlder_3, K_growOlder_4, K_growOlder_2, K_growOlder_1, M_growOlder]
      rw [if_neg (by omega), exc, nI_1]
    · by_cases y : j = x
      · rw [y, (a3 x (by omega)).1, (a3 x (by omega)).2, xupd_s, xupd_s]
        exact ⟨rfl, rfl⟩
      · have b := a2 j (by omega) h2
        rw [xupd_o y, xupd_o y] at b
        exact b
    · rw [(a3 j (by omega)).1, (a3 j (by omega)).2, xupd_o (by omega), xupd_o (by omega)]
      exact ⟨rfl, rfl⟩
/-- all grows older: the reference -/
theorem gm_in {held tk tr ld gd tp mh : Int32} {S G H : Nat → Int32} {q : Nat} (q8 : q ≤ 8) : ∀ (m x k : Nat) (f g : Nat → Int32), x + m = q → ∃ f' g' : Nat → Int32, K_m_aTick_L9 (nI q) held tk tr ld gd tp mh S G H (k + m + 1) (nI x) f g = (tk + 1, if held.toInt ≤ 0 then held else held - 1, tr, ld, gd, tp, mh, S, f', g', G, H) ∧ (∀ j, x ≤ j → j < q → f' j = f j + 1 ∧ g' j = g j + 1) ∧ ∀ j, j < x → f' j = f j ∧ g' j = g j := by
  have qq : (nI q).toInt = (q : Int) := nI_toInt (by omega)
  intro m
  induction m with
  | zero =>
    intro x k f g hx
    have ex : (nI x).toInt = (x : Int) := nI_toInt (by omega)
    refine ⟨f, g, ?_, fun j a b => absurd a (by omega), fun j _ => ⟨rfl, rfl⟩⟩
    simp only [K_m_aTick_L9, K_m_aTick_9, K_m_aTick_10, K_m_aTick_13, K_m_aTick_14, K_m_aTick_12, xsub0]
    rw [if_pos (by omega)]
    by_cases c : held.toInt ≤ 0
    · rw [if_pos c, if_pos c]
    · rw [if_neg c, if_neg c]
  | succ m ih =>
    intro x k f g hx
    have ex : (nI x).toInt = (x : Int) := nI_toInt (by omega)
    have exc : (nI x).toNatClampNeg = x := nI_clamp (by omega)
    obtain ⟨f', g', a1, a2, a3⟩ := ih (x + 1) k (upd f x (f x + 1)) (upd g x (g x + 1)) (by omega)
    refine ⟨f', g', ?_, fun j h1 h2 => ?_, fun j hj => ?_⟩
    · rw [← a1]
      show K_m_aTick_L9 (nI q) held tk tr ld gd tp mh S G H ((k + m + 1) + 1) (nI x) f g = _
      generalize k + m + 1 = j
      simp only [K_m_aTick_L9, K_m_aTick_9, K_m_aTick_11]
      rw [if_neg (by omega), exc, nI_1]
    · by_cases y : j = x
      · rw [y, (a3 x (by omega)).1, (a3 x (by omega)).2, xupd_s, xupd_s]
        exact ⟨rfl, rfl⟩
      · have b := a2 j (by omega) h2
        rw [xupd_o y, xupd_o y] at b
        exact b
    · rw [(a3 j (by omega)).1, (a3 j (by omega)).2, xupd_o (by omega), xupd_o (by omega)]
      exact ⟨rfl, rfl⟩
theorem r_grow {held tk tr ld gd tp mh : Int32} {rs ri ra rg S I U G H : Nat → Int32} {q : Nat} (q8 : q ≤ 8) (h : xR4 q rs ri ra rg S I U G) : ∃ ri' ra' I' U' : Nat → Int32, M_growOlder (nI q) held tk ri ra = (tk + 1, if held.toInt ≤ 0 then held else held - 1, ri', ra') ∧ K_m_aTick_8 (nI q) held tk tr ld gd tp mh S G H I U = (tk + 1, if held.toInt ≤ 0 then held else held - 1, tr, ld, gd, tp, mh, S, I', U', G, H) ∧ xR4 q rs ri' ra' rg S I' U' G := by
  obtain ⟨ri', ra', a1, a2, -⟩ := gr_in (held := held) (tk := tk) q8 q 0 (99999 - q) ri ra (by omega)
  obtain ⟨I', U', b1, b2, -⟩ := gm_in (held := held) (tk := tk) (tr := tr) (ld := ld) (gd := gd) (tp := tp) (mh := mh) (S := S) (G := G) (H := H) q8 q 0 (99999 - q) I U (by omega)
  rw [show 99999 - q + q + 1 = 100000 from by omega] at a1 b1
  refine ⟨ri', ra', I', U', a1, b1, fun j hj => ?_, h.2⟩
  obtain ⟨h1, h2, h3, h4, h5⟩ := h.1 j hj
  refine ⟨h1, ?_, ?_, h4, h5⟩
  · rw [(a2 j (by omega) hj).1, (b2 j (by omega) hj).1, h2]
  · rw [(a2 j (by omega) hj).2, (b2 j (by omega) hj).2, h3]
/-- a tick: one on both sides -/
theorem r_tick {tk dead held key ysz mh tries trips ld0 gd behind limit : Int32} {pn rt Td D K Tb Nm rs ri ra rg ya yb yc I U G H S : Nat → Int32} {pt : Nat → Int64} {q : Nat} (hE : xE true q pn pt Td Nm Tb) (q8 : q ≤ 8) (hd : xDd dead D) (hrt : ∀ j, j < q → rt j = K j ∧ 1 ≤ (K j).toInt) (h4 : xR4 q rs ri ra rg S I U G) (hh : xHi ysz ya yb yc mh H) (hy : 0 ≤ ysz.toInt ∧ ysz.toInt ≤ 64) :
    ∃ (tk' held' tries' trips' ld' gd' ysz' mh' : Int32) (rs' ri' ra' rg' ya' yb' yc' I' U' G' H' S' : Nat → Int32), M_passTick tries trips gd (nI q) held tk dead pn rt key pt behind limit rs ri ra rg ysz ya yb yc = (tk', held', tries', trips', ld', gd', rs', ri', ra', rg', ysz', ya', yb', yc') ∧ M_m_aTick gd (nI q) held tk tries trips key Td D K Tb behind limit mh S I U G H = (tk', held', tries', ld', gd', trips', mh', S', I', U', G', H') ∧ xR4 q rs' ri' ra' rg' S' I' U' G' ∧ xHi ysz' ya' yb' yc' mh' H' ∧ (0 ≤ ysz'.toInt ∧ ysz'.toInt ≤ 64) := by
  obtain ⟨y1, m1, rs1, ri1, ra1, rg1, ya1, yb1, yc1, I1, U1, G1, H1, S1, s1, s2, s3, s4, s5⟩ := r_settle (tk := tk) (held := held) (key := key) hE q8 hd hrt h4 hh hy
  have dr := r_draw (pn := pn) (Td := Td) (n3 := fun x => pn (8 * x + 3)) (n4 := fun x => pn (8 * x + 4)) q8 s3 (fun x _ => ⟨rfl, rfl⟩) (fun x hx => ⟨((hE x hx).1 3 (by decide) (Or.inr rfl)).symm, ((hE x hx).1 4 (by decide) (Or.inr rfl)).symm⟩)
  obtain ⟨ld, hld⟩ : ∃ ld, M_sumDraw (nI q) rs1 pn = ld := ⟨_, rfl⟩
  rw [hld] at dr
  obtain ⟨w1, w2⟩ := r_why (pn := pn) (Td := Td) (n6 := fun x => pn (8 * x + 6)) (ld := ld) (lim := limit) q8 s3 (fun x _ => rfl) (fun x hx => ((hE x hx).1 6 (by decide) (Or.inr rfl)).symm)
  obtain ⟨why, hwhy⟩ : ∃ why, M_m_tripNow (nI q) ld limit S1 U1 Td = why := ⟨_, rfl⟩
  rw [hwhy] at w1 w2
  obtain ⟨gm, hgm⟩ : ∃ gm : Int32, (if ld.toInt ≤ gd.toInt then gd else ld) = gm := ⟨_, rfl⟩
  have mu : M_m_aTick gd (nI q) held tk tries trips key Td D K Tb behind limit mh S I U G H = K_m_aTick_7 why (nI q) held tk tries ld gm trips m1 S1 G1 H1 I1 U1 key Td D K Tb behind := by
    simp only [M_m_aTick, K_m_aTick_1, K_m_aTick_2, K_m_aTick_3, K_m_aTick_4, K_m_aTick_5, K_m_aTick_22, K_m_aTick_23, K_m_aTick_6]
    rw [s2]
    dsimp only
    rw [← dr, hwhy, ← hgm]
    by_cases c : ld.toInt ≤ gd.toInt
    · rw [if_pos c, if_pos c]
    · rw [if_neg c, if_neg c]
  rw [mu]
  have cu : M_passTick tries trips gd (nI q) held tk dead pn rt key pt behind limit rs ri ra rg ysz ya yb yc = K_passTick_4 why tries trips ld gm rs1 rg1 y1 ya1 yb1 yc1 (nI q) held tk ri1 ra1 dead pn rt key pt behind := by
    simp only [M_passTick, K_passTick_1, K_passTick_2, K_passTick_3]
    rw [s1]
    dsimp only
    rw [hld, w1, y_max, hgm]
  rw [cu]
  by_cases z : why.toInt = 0
  · obtain ⟨ri', ra', I', U', g1, g2, g3⟩ := r_grow (held := held) (tk := tk) (tr := tries) (ld := ld) (gd := gm) (tp := trips) (mh := m1) (H := H1) q8 s3
    refine ⟨tk + 1, if held.toInt ≤ 0 then held else held - 1, tries, trips, ld, gm, y1, m1, rs1, ri', ra', rg1, ya1, yb1, yc1, I', U', G1, H1, S1, ?_, ?_, g3, s4, s5⟩
    · simp only [K_passTick_4, K_passTick_5, K_passTick_7]
      rw [if_pos z, g1]
    · simp only [K_m_aTick_7, K_m_aTick_15]
      rw [if_pos (by omega), g2]
  · have nt := r_note (t := tk) (r := -4) (w := 5 + why) s4 s5
    obtain ⟨h2, hh2⟩ : ∃ h2 : Int32, (if tries.toInt ≤ 0 then (-4 : Int32) else behind) = h2 := ⟨_, rfl⟩
    obtain ⟨t2, ht2⟩ : ∃ t2 : Int32, (if tries.toInt ≤ 0 then tries else tries - 1) = t2 := ⟨_, rfl⟩
    obtain ⟨y3, m3, rs3, ri3, ra3, rg3, ya3, yb3, yc3, I3, U3, G3, H3, S3, u1, u2, u3, u4, u5⟩ := r_settle (tk := tk) (held := h2) (key := key) hE q8 hd hrt s3 nt.1 nt.2
    obtain ⟨ri', ra', I', U', g1, g2, g3⟩ := r_grow (held := h2) (tk := tk) (tr := t2) (ld := ld) (gd := gm) (tp := trips + 1) (mh := m3) (H := H3) q8 u3
    refine ⟨tk + 1, if h2.toInt ≤ 0 then h2 else h2 - 1, t2, trips + 1, ld, gm, y3, m3, rs3, ri', ra', rg3, ya3, yb3, yc3, I', U', G3, H3, S3, ?_, ?_, g3, u4, u5⟩
    · simp only [K_passTick_4, K_passTick_6, K_passTick_8, K_passTick_9, K_passTick_10]
      rw [if_neg z, t_trip, hh2, ht2]
      dsimp only
      rw [u1]
      dsimp only
      rw [g1]
    · simp only [K_m_aTick_7, K_m_aTick_16, K_m_aTick_17, K_m_aTick_18, K_m_aTick_19, K_m_aTick_20, K_m_aTick_21, xsub0]
      rw [if_neg (by omega)]
      by_cases c : tries.toInt ≤ 0
      · rw [if_pos c] at hh2 ht2
        subst hh2
        subst ht2
        rw [if_pos c, u2]
        dsimp only
        rw [g2]
      · rw [if_neg c] at hh2 ht2
        subst hh2
        subst ht2
        rw [if_neg c, u2]
        dsimp only
        rw [g2]
