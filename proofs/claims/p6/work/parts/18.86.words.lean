/-- s without k -/
def xcl (s k : Nat) : Nat := if s.testBit k = true then s - 2 ^ k else s
theorem xcl_eq : ∀ (s : Fin 512) (k : Fin 9), (nI s.val &&& (((1 : Int32) <<< (nI k.val &&& 31)) ^^^ (-1 : Int32))) = nI (xcl s.val k.val) := by decide +kernel
theorem xcl_lt {s k : Nat} (h : s < 512) : xcl s k < 512 := by
  unfold xcl
  split
  · exact Nat.lt_of_le_of_lt (Nat.sub_le _ _) h
  · exact h
/-- the last m of the nine are no part that can be left out -/
def xlm (h : Nat → Bool) (s : Nat) : Nat → Bool
  | 0 => true
  | m + 1 => (!(s.testBit (8 - m)) || !(h (xcl s (8 - m)))) && xlm h s m
section
variable {pn : Nat → Int32} {pt : Nat → Int64} {Td Nm Tb : Nat → Int32} {q r s : Nat}
theorem l_in (hr : r < 8) (hs : s < 512) : ∀ (m k : Nat), m ≤ 9 → K_isLeastSet_L5 (nI s) pt (nI r) (k + m + 1) (nI (9 - m)) = if xlm (hb pt r) s m = true then 1 else 0 := by
  intro m
  induction m with
  | zero =>
    intro k _
    simp only [K_isLeastSet_L5, K_isLeastSet_4, K_isLeastSet_6, K_isLeastSet_11, K_isLeastSet_12, K_isLeastSet_10, K_isLeastSet_9, K_isLeastSet_8, K_isLeastSet_7, K_isLeastSet_5, K_isLeastSet_3, K_isLeastSet_2, K_isLeastSet_1, M_isLeastSet]
    rw [if_pos (by decide)]
    rfl
  | succ m ih =>
    intro k hm
    have z := ih k (by omega)
    have e8 : 9 - (m + 1) = 8 - m := by omega
    have e9 : 8 - m + 1 = 9 - m := by omega
    have rr : (nI (8 - m)).toInt = ((8 - m : Nat) : Int) := nI_toInt (by omega)
    have xc := xcl_eq ⟨s, hs⟩ ⟨8 - m, by omega⟩
    dsimp only at xc
    rw [e8]
    show K_isLeastSet_L5 (nI s) pt (nI r) ((k + m + 1) + 1) (nI (8 - m)) = _
    have go : K_isLeastSet_L5 (nI s) pt (nI r) ((k + m + 1) + 1) (nI (8 - m)) = if s.testBit (8 - m) = true then (if hb pt r (xcl s (8 - m)) = true then 0 else K_isLeastSet_L5 (nI s) pt (nI r) (k + m + 1) (nI (9 - m))) else K_isLeastSet_L5 (nI s) pt (nI r) (k + m + 1) (nI (9 - m)) := by
      generalize k + m + 1 = j
      simp only [K_isLeastSet_L5, K_isLeastSet_4, K_isLeastSet_6, K_isLeastSet_11, K_isLeastSet_12, K_isLeastSet_10, K_isLeastSet_9, K_isLeastSet_8, K_isLeastSet_7, K_isLeastSet_5, K_isLeastSet_3, K_isLeastSet_2, K_isLeastSet_1, M_isLeastSet]
      rw [if_neg (by omega), xc, t_holds hr (xcl_lt hs), nI_1, e9]
      by_cases b : s.testBit (8 - m) = true
      · rw [if_pos ((xsr_1 _ (by omega)).mpr (by rw [xb_nI (by omega)]; exact b)), if_pos b]
        by_cases c : hb pt r (xcl s (8 - m)) = true
        · rw [if_pos c, if_pos c, if_neg (by decide)]
        · rw [if_neg c, if_neg c, if_pos (by decide)]
      · rw [if_neg (fun z => b (by have := (xsr_1 _ (by omega)).mp z; rw [xb_nI (by omega)] at this; exact this)), if_neg b]
    rw [go, z, show xlm (hb pt r) s (m + 1) = ((!(s.testBit (8 - m)) || !(hb pt r (xcl s (8 - m)))) && xlm (hb pt r) s m) from rfl]
    cases s.testBit (8 - m) <;> cases hb pt r (xcl s (8 - m)) <;> simp
theorem t_least (hr : r < 8) (hs : s < 512) : M_isLeastSet (nI s) pt (nI r) = if (hb pt r s && xlm (hb pt r) s 9) = true then 1 else 0 := by
  have z := l_in (pt := pt) hr hs 9 99990 (by decide)
  have go : M_isLeastSet (nI s) pt (nI r) = if (M_holdsWith pt (nI r) (nI s)).toInt = 0 then 0 else K_isLeastSet_L5 (nI s) pt (nI r) 100000 (nI 0) := by
    simp only [K_isLeastSet_4, K_isLeastSet_6, K_isLeastSet_11, K_isLeastSet_12, K_isLeastSet_10, K_isLeastSet_9, K_isLeastSet_8, K_isLeastSet_7, K_isLeastSet_5, K_isLeastSet_3, K_isLeastSet_2, K_isLeastSet_1, M_isLeastSet]
    rfl
  rw [go, t_holds hr hs, show K_isLeastSet_L5 (nI s) pt (nI r) 100000 (nI 0) = _ from z]
  cases hb pt r s <;> simp
theorem w_in {wt : Bool} (h : xE wt q pn pt Td Nm Tb) (q8 : q ≤ 8) (hr : r < q) (hs : s < 512) : ∀ (m k : Nat) (b : Bool), m ≤ 9 → K_m_isLeast_L3 (nI s) Tb (nI r) (k + m + 1) (nI (9 - m)) (if b = true then 1 else 0) = if (b && xlm (hb pt r) s m) = true then 1 else 0 := by
  intro m
  induction m with
  | zero =>
    intro k b _
    simp only [K_m_isLeast_L3, K_m_isLeast_4, K_m_isLeast_6, K_m_isLeast_8, K_m_isLeast_12, K_m_isLeast_11, K_m_isLeast_10, K_m_isLeast_9, K_m_isLeast_7, K_m_isLeast_5, K_m_isLeast_3, K_m_isLeast_2, K_m_isLeast_1, M_m_isLeast]
    rw [if_pos (by decide)]
    cases b <;> rfl
  | succ m ih =>
    intro k b hm
    have e8 : 9 - (m + 1) = 8 - m := by omega
    have e9 : 8 - m + 1 = 9 - m := by omega
    have rr : (nI (8 - m)).toInt = ((8 - m : Nat) : Int) := nI_toInt (by omega)
    have xc := xcl_eq ⟨s, hs⟩ ⟨8 - m, by omega⟩
    dsimp only at xc
    have go : K_m_isLeast_L3 (nI s) Tb (nI r) ((k + m + 1) + 1) (nI (8 - m)) (if b = true then 1 else 0) = K_m_isLeast_L3 (nI s) Tb (nI r) (k + m + 1) (nI (9 - m)) (if (b && (!(s.testBit (8 - m)) || !(hb pt r (xcl s (8 - m))))) = true then 1 else 0) := by
      generalize k + m + 1 = j
      simp only [K_m_isLeast_L3, K_m_isLeast_4, K_m_isLeast_6, K_m_isLeast_8, K_m_isLeast_12, K_m_isLeast_11, K_m_isLeast_10, K_m_isLeast_9, K_m_isLeast_7, K_m_isLeast_5, K_m_isLeast_3, K_m_isLeast_2, K_m_isLeast_1, M_m_isLeast]
      rw [if_neg (by omega), xc, t_so h q8 hr (xcl_lt hs), nI_1, e9]
      cases b
      · rw [if_neg (show ¬ false = true by decide), if_pos (by decide)]
        rfl
      · rw [if_pos (show true = true by rfl), if_neg (by decide)]
        by_cases b : s.testBit (8 - m) = true
        · rw [if_neg (fun z => by have := (xsr_0 _ (by omega)).mp z; rw [xb_nI (by omega), b] at this; exact absurd this (by decide)), b]
          by_cases c : hb pt r (xcl s (8 - m)) = true
          · rw [if_pos c, if_neg (by decide), c]
            rfl
          · have c0 : hb pt r (xcl s (8 - m)) = false := by simpa using c
            rw [if_neg c, if_pos (by decide), c0]
            rfl
        · have b0 : s.testBit (8 - m) = false := by simpa using b
          rw [if_pos ((xsr_0 _ (by omega)).mpr (by rw [xb_nI (by omega)]; exact b0)), b0]
          rfl
    rw [e8, show k + (m + 1) + 1 = (k + m + 1) + 1 from by omega, go, ih k _ (by omega)]
    show _ = if (b && ((!(s.testBit (8 - m)) || !(hb pt r (xcl s (8 - m)))) && xlm (hb pt r) s m)) = true then (1 : Int32) else 0
    rw [Bool.and_assoc]
theorem t_least2 {wt : Bool} (h : xE wt q pn pt Td Nm Tb) (q8 : q ≤ 8) (hr : r < q) (hs : s < 512) : M_m_isLeast (nI s) Tb (nI r) = if (hb pt r s && xlm (hb pt r) s 9) = true then 1 else 0 := by
  have z := w_in h q8 hr hs 9 99990 (hb pt r s) (by decide)
  have go : M_m_isLeast (nI s) Tb (nI r) = K_m_isLeast_L3 (nI s) Tb (nI r) 100000 (nI 0) (M_m_isSo Tb (nI r) (nI s)) := by
    simp only [K_m_isLeast_4, K_m_isLeast_6, K_m_isLeast_8, K_m_isLeast_12, K_m_isLeast_11, K_m_isLeast_10, K_m_isLeast_9, K_m_isLeast_7, K_m_isLeast_5, K_m_isLeast_3, K_m_isLeast_2, K_m_isLeast_1, M_m_isLeast]
    rfl
  rw [go, t_so h q8 hr hs, show K_m_isLeast_L3 (nI s) Tb (nI r) 100000 (nI 0) (if hb pt r s = true then 1 else 0) = _ from z]
theorem w_cnt {wt : Bool} (h : xE wt q pn pt Td Nm Tb) (q8 : q ≤ 8) (hr : r < q) {a1 : Int32} (ha : a1.toInt = 0) : ∀ (m k s : Nat) (n : Nat), s + m = 512 → n ≤ s → K_countLeastSets_L2 pt (nI r) (k + m + 1) (nI s) (nI n) = K_m_words_L6 a1 Tb (nI r) (k + m + 1) (nI s) (nI n) := by
  intro m
  induction m with
  | zero =>
    intro k s n hs hn
    have ss : (nI s).toInt = (s : Int) := nI_toInt (by omega)
    simp only [K_countLeastSets_L2, K_m_words_L6, K_countLeastSets_3, K_countLeastSets_6, K_countLeastSets_7, K_countLeastSets_5, K_countLeastSets_4, K_countLeastSets_2, K_countLeastSets_1, M_countLeastSets, K_m_words_7, K_m_words_10, K_m_words_13, K_m_words_12, K_m_words_11, K_m_words_9, K_m_words_8, K_m_words_6, K_m_words_4, K_m_words_17, K_m_words_20, K_m_words_23, K_m_words_22, K_m_words_21, K_m_words_19, K_m_words_18, K_m_words_16, K_m_words_14, K_m_words_15, K_m_words_5, K_m_words_3, K_m_words_2, K_m_words_1, M_m_words]
    rw [if_pos (by omega), if_pos (by omega)]
  | succ m ih =>
    intro k s n hs hn
    have ss : (nI s).toInt = (s : Int) := nI_toInt (by omega)
    have nn : (nI n).toInt = (n : Int) := nI_toInt (by omega)
    have tn : ((10 : Int32) + nI n).toInt = 10 + (n : Int) := by
      exact xadd (show (10 : Int32).toInt = 10 by decide) nn (by omega) (by omega)
    have z1 := ih k (s + 1) n (by omega) (by omega)
    have z2 := ih k (s + 1) (n + 1) (by omega) (by omega)
    show K_countLeastSets_L2 pt (nI r) ((k + m + 1) + 1) (nI s) (nI n) = K_m_words_L6 a1 Tb (nI r) ((k + m + 1) + 1) (nI s) (nI n)
    generalize k + m + 1 = j at z1 z2 ⊢
    simp only [K_countLeastSets_L2, K_m_words_L6, K_countLeastSets_3, K_countLeastSets_6, K_countLeastSets_7, K_countLeastSets_5, K_countLeastSets_4, K_countLeastSets_2, K_countLeastSets_1, M_countLeastSets, K_m_words_7, K_m_words_10, K_m_words_13, K_m_words_12, K_m_words_11, K_m_words_9, K_m_words_8, K_m_words_6, K_m_words_4, K_m_words_17, K_m_words_20, K_m_words_23, K_m_words_22, K_m_words_21, K_m_words_19, K_m_words_18, K_m_words_16, K_m_words_14, K_m_words_15, K_m_words_5, K_m_words_3, K_m_words_2, K_m_words_1, M_m_words]
    rw [if_neg (show ¬ 512 ≤ (nI s).toInt by omega), if_neg (show ¬ 512 ≤ (nI s).toInt by omega), t_least (by omega) (by omega), t_least2 h q8 hr (by omega), nI_1, nI_1, z1, z2, if_neg (by omega : ¬ a1.toInt = ((10 : Int32) + nI n).toInt)]
theorem w_set {wt : Bool} (h : xE wt q pn pt Td Nm Tb) (q8 : q ≤ 8) (hr : r < q) {a1 : Int32} (ha : 10 ≤ a1.toInt) : ∀ (m k s : Nat) (n : Nat), s + m = 512 → n ≤ s → K_leastSet_L2 (a1 - 10) pt (nI r) (k + m + 1) (nI s) (nI n) = K_m_words_L16 a1 Tb (nI r) (k + m + 1) (nI s) (nI n) := by
  have ea : (a1 - 10).toInt = a1.toInt - 10 := xsub rfl (by decide) (by have := a1.toInt_lt; have := a1.le_toInt; omega) (by have := a1.toInt_lt; omega)
  intro m
  induction m with
  | zero =>
    intro k s n hs hn
    have ss : (nI s).toInt = (s : Int) := nI_toInt (by omega)
    simp only [K_leastSet_L2, K_m_words_L16, K_leastSet_3, K_leastSet_6, K_leastSet_9, K_leastSet_8, K_leastSet_7, K_leastSet_5, K_leastSet_4, K_leastSet_2, K_leastSet_1, M_leastSet, K_m_words_7, K_m_words_10, K_m_words_13, K_m_words_12, K_m_words_11, K_m_words_9, K_m_words_8, K_m_words_6, K_m_words_4, K_m_words_17, K_m_words_20, K_m_words_23, K_m_words_22, K_m_words_21, K_m_words_19, K_m_words_18, K_m_words_16, K_m_words_14, K_m_words_15, K_m_words_5, K_m_words_3, K_m_words_2, K_m_words_1, M_m_words]
    rw [if_pos (by omega), if_pos (by omega)]
  | succ m ih =>
    intro k s n hs hn
    have ss : (nI s).toInt = (s : Int) := nI_toInt (by omega)
    have nn : (nI n).toInt = (n : Int) := nI_toInt (by omega)
    have tn : ((10 : Int32) + nI n).toInt = 10 + (n : Int) := by
      exact xadd (show (10 : Int32).toInt = 10 by decide) nn (by omega) (by omega)
    have z1 := ih k (s + 1) n (by omega) (by omega)
    have z2 := ih k (s + 1) (n + 1) (by omega) (by omega)
    show K_leastSet_L2 (a1 - 10) pt (nI r) ((k + m + 1) + 1) (nI s) (nI n) = K_m_words_L16 a1 Tb (nI r) ((k + m + 1) + 1) (nI s) (nI n)
    generalize k + m + 1 = j at z1 z2 ⊢
    simp only [K_leastSet_L2, K_m_words_L16, K_leastSet_3, K_leastSet_6, K_leastSet_9, K_leastSet_8, K_leastSet_7, K_leastSet_5, K_leastSet_4, K_leastSet_2, K_leastSet_1, M_leastSet, K_m_words_7, K_m_words_10, K_m_words_13, K_m_words_12, K_m_words_11, K_m_words_9, K_m_words_8, K_m_words_6, K_m_words_4, K_m_words_17, K_m_words_20, K_m_words_23, K_m_words_22, K_m_words_21, K_m_words_19, K_m_words_18, K_m_words_16, K_m_words_14, K_m_words_15, K_m_words_5, K_m_words_3, K_m_words_2, K_m_words_1, M_m_words]
    rw [if_neg (show ¬ 512 ≤ (nI s).toInt by omega), if_neg (show ¬ 512 ≤ (nI s).toInt by omega), t_least (by omega) (by omega), t_least2 h q8 hr (by omega), nI_1, nI_1, z1, z2]
    by_cases e : a1.toInt = ((10 : Int32) + nI n).toInt
    · rw [if_pos e, if_pos (by omega : (nI n).toInt = (a1 - 10).toInt)]
    · rw [if_neg e, if_neg (by omega : ¬ (nI n).toInt = (a1 - 10).toInt)]
end
/-- words: one answer on both sides -/
theorem x_words_eq {wt : Bool} {a0 a1 rails limit retry behind mra mli mre mpa : Int32} {pn Td Nm Tb : Nat → Int32} {pt : Nat → Int64} (h : xPl wt rails limit retry behind pn pt mra mli mre mpa Td Nm Tb) : M_x_words a0 rails a1 pt = M_m_words a0 mra a1 Tb := by
  obtain ⟨e, -, -, -, r8, hE⟩ := h
  subst e
  have rn := xtn r8.1
  simp only [K_x_words_6, K_x_words_4, K_x_words_9, K_x_words_7, K_x_words_8, K_x_words_5, K_x_words_3, K_x_words_2, K_x_words_1, M_x_words, K_m_words_7, K_m_words_10, K_m_words_13, K_m_words_12, K_m_words_11, K_m_words_9, K_m_words_8, K_m_words_6, K_m_words_4, K_m_words_17, K_m_words_20, K_m_words_23, K_m_words_22, K_m_words_21, K_m_words_19, K_m_words_18, K_m_words_16, K_m_words_14, K_m_words_15, K_m_words_5, K_m_words_3, K_m_words_2, K_m_words_1, M_m_words]
  by_cases q : 0 ≤ a0.toInt ∧ a0.toInt < rails.toInt
  · rw [if_pos q, if_pos q]
    have an := xtn (x := a0) q.1
    have ea : nI a0.toNatClampNeg = a0 := xnI q.1
    by_cases z : a1.toInt = 0
    · rw [if_pos z, if_pos z]
      have w := w_cnt hE (by omega) (show a0.toNatClampNeg < rails.toNatClampNeg by omega) z 512 99487 0 0 (by omega) (by omega)
      rw [ea] at w
      exact w
    · rw [if_neg z, if_neg z]
      by_cases t : 10 ≤ a1.toInt
      · rw [if_pos t, if_pos t]
        have w := w_set hE (by omega) (show a0.toNatClampNeg < rails.toNatClampNeg by omega) t 512 99487 0 0 (by omega) (by omega)
        rw [ea] at w
        exact w
      · rw [if_neg t, if_neg t]
  · rw [if_neg q, if_neg q]
/-- rail: one answer on both sides -/
theorem x_rail_eq {a0 a1 rails limit retry behind mra mli mre mpa : Int32} {pn Td Nm Tb : Nat → Int32} {pt : Nat → Int64} (h : xPl true rails limit retry behind pn pt mra mli mre mpa Td Nm Tb) : M_x_rail a0 rails a1 pn = M_m_rail a0 mra a1 Nm Td := by
  obtain ⟨e, -, -, -, r8, hE⟩ := h
  subst e
  have rn := xtn r8.1
  simp only [K_x_rail_4, K_x_rail_8, K_x_rail_6, K_x_rail_7, K_x_rail_5, K_x_rail_3, K_x_rail_2, K_x_rail_1, M_x_rail, K_m_rail_6, K_m_rail_8, K_m_rail_7, K_m_rail_4, K_m_rail_5, K_m_rail_3, K_m_rail_2, K_m_rail_1, M_m_rail, K_number_1, M_number, K_m_of_1, M_m_of]
  by_cases q : 0 ≤ a0.toInt ∧ a0.toInt < rails.toInt
  · rw [if_pos q, if_pos q]
    have an := xtn (x := a0) q.1
    have ea : nI a0.toNatClampNeg = a0 := xnI q.1
    obtain ⟨hr1, hr2, -⟩ := hE a0.toNatClampNeg (by omega)
    by_cases z : 0 ≤ a1.toInt ∧ a1.toInt ≤ 7
    · rw [if_neg (by omega), if_pos z.2, if_pos z]
      have a1n := xtn (x := a1) z.1
      have ea1 : nI a1.toNatClampNeg = a1 := xnI z.1
      have i8 := xi8 (q := a0.toNatClampNeg) (k := a1.toNatClampNeg) (by omega) (by omega)
      have i7 := xi7 (q := a0.toNatClampNeg) (k := a1.toNatClampNeg) (by omega) (by omega)
      rw [ea, ea1] at i8 i7
      rw [i8, i7]
      by_cases y : 7 ≤ a1.toInt
      · rw [if_pos y, show a1.toNatClampNeg = 7 from by omega]
        exact hr2
      · rw [if_neg y]
        exact hr1 _ (by omega) (Or.inr rfl)
    · rw [if_neg z]
      by_cases y : a1.toInt < 0
      · rw [if_pos y]
      · rw [if_neg y, if_neg (by omega)]
  · rw [if_neg q, if_neg q]
