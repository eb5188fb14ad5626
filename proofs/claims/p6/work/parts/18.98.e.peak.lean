theorem y_sub {a b c : Int32} : (a + b) + (c - b) = a + c := by
  rw [Int32.add_assoc, Int32.add_comm b (c - b), Int32.sub_add_cancel]
/-- what a RAIL draws at t -/
def yV (n3 n4 : Nat → Int32) (w M G : Nat → Nat) (t x : Nat) : Int32 := if G x ≤ t then n3 x else if M x ≠ 100000 ∧ M x + w x ≤ t then n4 x else 0
/-- the sum of the first n -/
def yD (v : Nat → Int32) : Nat → Int32
  | 0 => 0
  | n + 1 => yD v n + v n
theorem yD_ext {v u : Nat → Int32} : ∀ n, (∀ x, x < n → v x = u x) → yD v n = yD u n := by
  intro n
  induction n with
  | zero => exact fun _ => rfl
  | succ n ih =>
    intro h
    rw [yD, yD, ih (fun x hx => h x (by omega)), h n (by omega)]
theorem yD_rng {v : Nat → Int32} : ∀ n : Nat, n ≤ 8 → (∀ x, x < n → 0 ≤ (v x).toInt ∧ (v x).toInt ≤ 511) → 0 ≤ (yD v n).toInt ∧ (yD v n).toInt ≤ 511 * (n : Int) := by
  intro n
  induction n with
  | zero => exact fun _ _ => ⟨by show 0 ≤ (0 : Int32).toInt; decide, by show (0 : Int32).toInt ≤ 511 * ((0 : Nat) : Int); decide⟩
  | succ n ih =>
    intro hn h
    obtain ⟨a1, a2⟩ := ih (by omega) (fun x hx => h x (by omega))
    obtain ⟨b1, b2⟩ := h n (by omega)
    have e : (yD v n + v n).toInt = (yD v n).toInt + (v n).toInt := xadd rfl rfl (by omega) (by omega)
    rw [yD, e]
    exact ⟨by omega, by omega⟩
theorem t_isUp {X r : Int32} : M_isUp X r = if ((X >>> (r &&& 31)) &&& (1 : Int32)).toInt = 1 then 1 else 0 := by
  simp only [K_isUp_3, K_isUp_2, K_isUp_1, M_isUp]
/-- the class: what is drawn at t -/
theorem cd_in {fr fg pn n3 n4 : Nat → Int32} {w M G : Nat → Nat} {q X t : Nat} (q8 : q ≤ 8) (ht : t ≤ 1000) (h3 : ∀ x, x < q → pn (8 * x + 3) = n3 x ∧ pn (8 * x + 4) = n4 x) (hX : ∀ x, x < q → (X.testBit x = true ↔ M x ≠ 100000)) (hG : ∀ x, x < q → M x = 100000 → G x = 100000) (hf : ∀ x, x < q → M x ≠ 100000 → fr x = nI (M x + w x) ∧ fg x = nI (G x) ∧ M x + w x ≤ G x ∧ G x ≤ 1000) : ∀ (m x k : Nat), x + m = q → K_drawnAt_L2 (nI q) (nI t) fg fr pn (nI X) (k + m + 1) (nI x) (yD (yV n3 n4 w M G t) x) = yD (yV n3 n4 w M G t) q := by
  have qq : (nI q).toInt = (q : Int) := nI_toInt (by omega)
  have tt : (nI t).toInt = (t : Int) := nI_toInt (by omega)
  intro m
  induction m with
  | zero =>
    intro x k hx
    have ex : (nI x).toInt = (x : Int) := nI_toInt (by omega)
    obtain rfl : x = q := by omega
    simp only [K_drawnAt_L2, K_drawnAt_3, K_drawnAt_7, K_drawnAt_10, K_drawnAt_12, K_drawnAt_11, K_drawnAt_8, K_drawnAt_13, K_drawnAt_9, K_drawnAt_6, K_drawnAt_5, K_drawnAt_4, K_drawnAt_2, K_drawnAt_1, M_drawnAt]
    rw [if_pos (by omega)]
  | succ m ih =>
    intro x k hx
    have ex : (nI x).toInt = (x : Int) := nI_toInt (by omega)
    have exc : (nI x).toNatClampNeg = x := nI_clamp (by omega)
    obtain ⟨p3, p4⟩ := h3 x (by omega)
    have z := ih (x + 1) k (by omega)
    rw [← z]
    show K_drawnAt_L2 (nI q) (nI t) fg fr pn (nI X) ((k + m + 1) + 1) (nI x) _ = _
    generalize k + m + 1 = j
    simp only [K_drawnAt_L2, K_drawnAt_3, K_drawnAt_7, K_drawnAt_10, K_drawnAt_12, K_drawnAt_11, K_drawnAt_8, K_drawnAt_13, K_drawnAt_9, K_drawnAt_6, K_drawnAt_5, K_drawnAt_4, K_drawnAt_2, K_drawnAt_1, M_drawnAt]
    rw [if_neg (by omega), exc, nI_1, show M_number pn (nI x) 4 = n4 x from (t_nb (k := 4) (by omega) (by decide)).trans p4, show M_number pn (nI x) 3 = n3 x from (t_nb (k := 3) (by omega) (by decide)).trans p3, show yD (yV n3 n4 w M G t) (x + 1) = yD (yV n3 n4 w M G t) x + yV n3 n4 w M G t x from rfl, t_isUp]
    have bt : ((nI X >>> (nI x &&& 31)) &&& (1 : Int32)).toInt = 1 ↔ X.testBit x = true := by rw [xsr_1 (nI X) (by omega), xb_nI (by omega)]
    by_cases a : M x = 100000
    · rw [if_neg (fun y => (hX x (by omega)).mp (bt.mp y) a), if_pos (by decide)]
      have e : yV n3 n4 w M G t x = 0 := by
        unfold yV
        rw [hG x (by omega) a, if_neg (by omega), if_neg (fun y => y.1 a)]
      rw [e, xadd0]
    · obtain ⟨f1, f2, f3, f4⟩ := hf x (by omega) a
      have e1 : (nI (M x + w x)).toInt = ((M x + w x : Nat) : Int) := nI_toInt (by omega)
      have e2 : (nI (G x)).toInt = ((G x : Nat) : Int) := nI_toInt (by omega)
      rw [if_pos (bt.mpr ((hX x (by omega)).mpr a)), if_neg (by decide), f1, f2]
      unfold yV
      by_cases b : G x ≤ t
      · rw [if_neg (by omega), if_pos b]
      · rw [if_pos (by omega), if_neg b]
        by_cases c : M x + w x ≤ t
        · rw [if_neg (by omega), if_pos ⟨a, c⟩]
        · rw [if_pos (by omega), if_neg (fun y => c y.2), xadd0]
theorem t_drawnAt {fr fg pn n3 n4 : Nat → Int32} {w M G : Nat → Nat} {q X t : Nat} (q8 : q ≤ 8) (ht : t ≤ 1000) (h3 : ∀ x, x < q → pn (8 * x + 3) = n3 x ∧ pn (8 * x + 4) = n4 x) (hX : ∀ x, x < q → (X.testBit x = true ↔ M x ≠ 100000)) (hG : ∀ x, x < q → M x = 100000 → G x = 100000) (hf : ∀ x, x < q → M x ≠ 100000 → fr x = nI (M x + w x) ∧ fg x = nI (G x) ∧ M x + w x ≤ G x ∧ G x ≤ 1000) : M_drawnAt (nI q) (nI t) fg fr pn (nI X) = yD (yV n3 n4 w M G t) q := by
  have z := cd_in q8 ht h3 hX hG hf q 0 (99999 - q) (by omega)
  rw [show 99999 - q + q + 1 = 100000 from by omega] at z
  exact z
/-- the reference: what those of two sets draw -/
theorem md_of {Td n3 n4 : Nat → Int32} {q a b : Nat} (q8 : q ≤ 8) (h3 : ∀ x, x < q → Td (7 * x + 3) = n3 x ∧ Td (7 * x + 4) = n4 x) : ∀ (m x k : Nat), x + m = q → K_m_drawnOf_L2 (nI q) (nI a) Td (nI b) (k + m + 1) (nI x) (yD (fun x => if a.testBit x = true then n3 x else if b.testBit x = true then n4 x else 0) x) = yD (fun x => if a.testBit x = true then n3 x else if b.testBit x = true then n4 x else 0) q := by
  have qq : (nI q).toInt = (q : Int) := nI_toInt (by omega)
  intro m
  induction m with
  | zero =>
    intro x k hx
    have ex : (nI x).toInt = (x : Int) := nI_toInt (by omega)
    obtain rfl : x = q := by omega
    simp only [K_m_drawnOf_L2, K_m_drawnOf_3, K_m_drawnOf_10, K_m_drawnOf_6, K_m_drawnOf_9, K_m_drawnOf_8, K_m_drawnOf_7, K_m_drawnOf_5, K_m_drawnOf_4, K_m_drawnOf_2, K_m_drawnOf_1, M_m_drawnOf]
    rw [if_pos (by omega)]
  | succ m ih =>
    intro x k hx
    have ex : (nI x).toInt = (x : Int) := nI_toInt (by omega)
    obtain ⟨p3, p4⟩ := h3 x (by omega)
    have z := ih (x + 1) k (by omega)
    rw [← z]
    show K_m_drawnOf_L2 (nI q) (nI a) Td (nI b) ((k + m + 1) + 1) (nI x) _ = _
    generalize k + m + 1 = j
    simp only [K_m_drawnOf_L2, K_m_drawnOf_3, K_m_drawnOf_10, K_m_drawnOf_6, K_m_drawnOf_9, K_m_drawnOf_8, K_m_drawnOf_7, K_m_drawnOf_5, K_m_drawnOf_4, K_m_drawnOf_2, K_m_drawnOf_1, M_m_drawnOf]
    rw [if_neg (by omega), nI_1, show M_m_of Td (nI x) 4 = n4 x from (t_of7 (k := 4) (by omega) (by decide)).trans p4, show M_m_of Td (nI x) 3 = n3 x from (t_of7 (k := 3) (by omega) (by decide)).trans p3, show yD (fun x => if a.testBit x = true then n3 x else if b.testBit x = true then n4 x else 0) (x + 1) = yD (fun x => if a.testBit x = true then n3 x else if b.testBit x = true then n4 x else 0) x + (if a.testBit x = true then n3 x else if b.testBit x = true then n4 x else 0) from rfl]
    have ba : ((nI a >>> (nI x &&& 31)) &&& (1 : Int32)).toInt = 1 ↔ a.testBit x = true := by rw [xsr_1 (nI a) (by omega), xb_nI (by omega)]
    have bb : ((nI b >>> (nI x &&& 31)) &&& (1 : Int32)).toInt = 1 ↔ b.testBit x = true := by rw [xsr_1 (nI b) (by omega), xb_nI (by omega)]
    by_cases u : a.testBit x = true
    · rw [if_pos (ba.mpr u), if_pos u]
    · rw [if_neg (fun y => u (ba.mp y)), if_neg u]
      by_cases v : b.testBit x = true
      · rw [if_pos (bb.mpr v), if_pos v]
      · rw [if_neg (fun y => v (bb.mp y)), if_neg v]
theorem md_in {Fm Fg Fw Td n3 n4 : Nat → Int32} {w M G : Nat → Nat} {q t : Nat} (q8 : q ≤ 8) (ht : t ≤ 1000) (h3 : ∀ x, x < q → Td (7 * x + 3) = n3 x ∧ Td (7 * x + 4) = n4 x) (hG : ∀ x, x < q → M x = 100000 → G x = 100000) (hf : ∀ x, x < q → Fm x = nI (M x) ∧ Fg x = nI (G x) ∧ Fw x = nI (w x) ∧ M x ≤ 100000 ∧ G x ≤ 100000 ∧ w x ≤ 9) : ∀ (m x k : Nat), x + m = q → K_m_drawnAt_L2 (nI q) Td (nI t) Fg Fm Fw (k + m + 1) (nI x) (nI (xup (fun x => decide (M x ≠ 100000 ∧ M x + w x ≤ t ∧ t < G x)) x 0)) (nI (xup (fun x => decide (G x ≤ t)) x 0)) = yD (yV n3 n4 w M G t) q := by
  have qq : (nI q).toInt = (q : Int) := nI_toInt (by omega)
  have tt : (nI t).toInt = (t : Int) := nI_toInt (by omega)
  intro m
  induction m with
  | zero =>
    intro x k hx
    have ex : (nI x).toInt = (x : Int) := nI_toInt (by omega)
    obtain rfl : x = q := by omega
    simp only [K_m_drawnAt_L2, K_m_drawnAt_5, K_m_drawnAt_3, K_m_drawnAt_8, K_m_drawnAt_10, K_m_drawnAt_12, K_m_drawnAt_13, K_m_drawnAt_11, K_m_drawnAt_9, K_m_drawnAt_6, K_m_drawnAt_14, K_m_drawnAt_16, K_m_drawnAt_18, K_m_drawnAt_19, K_m_drawnAt_17, K_m_drawnAt_15, K_m_drawnAt_7, K_m_drawnAt_4, K_m_drawnAt_2, K_m_drawnAt_1, M_m_drawnAt]
    rw [if_pos (by omega)]
    have z := md_of (Td := Td) (n3 := n3) (n4 := n4) (a := xup (fun x => decide (G x ≤ t)) x 0) (b := xup (fun x => decide (M x ≠ 100000 ∧ M x + w x ≤ t ∧ t < G x)) x 0) q8 h3 x 0 (99999 - x) (by omega)
    rw [show 99999 - x + x + 1 = 100000 from by omega] at z
    refine Eq.trans (show M_m_drawnOf _ _ _ _ = _ from z) (yD_ext x (fun y hy => ?_))
    rw [xup_bit, xup_bit, Nat.zero_testBit, Bool.false_or, Bool.false_or]
    unfold yV
    by_cases a : G y ≤ t
    · rw [if_pos a, if_pos (by simp [hy, a])]
    · rw [if_neg a, if_neg (by simp [a])]
      by_cases b : M y ≠ 100000 ∧ M y + w y ≤ t
      · rw [if_pos b, if_pos (by simp only [Bool.and_eq_true, decide_eq_true_iff]; exact ⟨hy, b.1, b.2, by omega⟩)]
      · rw [if_neg b, if_neg (by simp only [Bool.and_eq_true, decide_eq_true_iff]; exact fun z => b ⟨z.2.1, z.2.2.1⟩)]
  | succ m ih =>
    intro x k hx
    have ex : (nI x).toInt = (x : Int) := nI_toInt (by omega)
    have exc : (nI x).toNatClampNeg = x := nI_clamp (by omega)
    obtain ⟨f1, f2, f3, f4, f5, f6⟩ := hf x (by omega)
    have e1 : (nI (M x)).toInt = ((M x : Nat) : Int) := nI_toInt (by omega)
    have e2 : (nI (G x)).toInt = ((G x : Nat) : Int) := nI_toInt (by omega)
    have e3 : (nI (M x + w x)).toInt = ((M x + w x : Nat) : Int) := nI_toInt (by omega)
    have l1 := xup_lt (c := fun x => decide (M x ≠ 100000 ∧ M x + w x ≤ t ∧ t < G x)) (g := 0) (by decide) x (by omega)
    have l2 := xup_lt (c := fun x => decide (G x ≤ t)) (g := 0) (by decide) x (by omega)
    have z := ih (x + 1) k (by omega)
    rw [← z]
    show K_m_drawnAt_L2 (nI q) Td (nI t) Fg Fm Fw ((k + m + 1) + 1) (nI x) _ _ = _
    generalize k + m + 1 = j
    simp only [K_m_drawnAt_L2, K_m_drawnAt_5, K_m_drawnAt_3, K_m_drawnAt_8, K_m_drawnAt_10, K_m_drawnAt_12, K_m_drawnAt_13, K_m_drawnAt_11, K_m_drawnAt_9, K_m_drawnAt_6, K_m_drawnAt_14, K_m_drawnAt_16, K_m_drawnAt_18, K_m_drawnAt_19, K_m_drawnAt_17, K_m_drawnAt_15, K_m_drawnAt_7, K_m_drawnAt_4, K_m_drawnAt_2, K_m_drawnAt_1, M_m_drawnAt]
    rw [if_neg (by omega), exc, nI_1, f1, f2, f3, nI_add, xup_st, xup_st]
    by_cases a : G x ≤ t
    · have c2 : (fun x => decide (G x ≤ t)) x = true := decide_eq_true a
      have c1 : ¬ (fun x => decide (M x ≠ 100000 ∧ M x + w x ≤ t ∧ t < G x)) x = true := fun y => by
        have := (of_decide_eq_true y).2.2
        omega
      rw [if_neg (by omega), if_pos c2, if_neg c1, x_put l2 (by omega), xor00]
      by_cases b : M x = 100000
      · rw [if_pos (by omega)]
      · rw [if_neg (by omega)]
        by_cases c : M x + w x ≤ t
        · rw [if_neg (by omega), if_pos (by omega)]
        · rw [if_pos (by omega)]
    · have c2 : ¬ (fun x => decide (G x ≤ t)) x = true := fun y => a (of_decide_eq_true y)
      rw [if_pos (by omega), if_neg c2, xor00]
      by_cases b : M x = 100000
      · have c1 : ¬ (fun x => decide (M x ≠ 100000 ∧ M x + w x ≤ t ∧ t < G x)) x = true := fun y => (of_decide_eq_true y).1 b
        rw [if_pos (by omega), if_neg c1, xor00]
      · rw [if_neg (by omega)]
        by_cases c : M x + w x ≤ t
        · have c1 : (fun x => decide (M x ≠ 100000 ∧ M x + w x ≤ t ∧ t < G x)) x = true := decide_eq_true ⟨b, c, by omega⟩
          rw [if_neg (by omega), if_neg (by omega), if_pos c1, x_put l1 (by omega), xor00]
        · have c1 : ¬ (fun x => decide (M x ≠ 100000 ∧ M x + w x ≤ t ∧ t < G x)) x = true := fun y => c (of_decide_eq_true y).2.1
          rw [if_pos (by omega), if_neg c1, xor00]
theorem r_drawnAt {Fm Fg Fw Td n3 n4 : Nat → Int32} {w M G : Nat → Nat} {q t : Nat} (q8 : q ≤ 8) (ht : t ≤ 1000) (h3 : ∀ x, x < q → Td (7 * x + 3) = n3 x ∧ Td (7 * x + 4) = n4 x) (hG : ∀ x, x < q → M x = 100000 → G x = 100000) (hf : ∀ x, x < q → Fm x = nI (M x) ∧ Fg x = nI (G x) ∧ Fw x = nI (w x) ∧ M x ≤ 100000 ∧ G x ≤ 100000 ∧ w x ≤ 9) : M_m_drawnAt (nI q) Td (nI t) Fg Fm Fw = yD (yV n3 n4 w M G t) q := by
  have z := md_in q8 ht h3 hG hf q 0 (99999 - q) (by omega)
  rw [show 99999 - q + q + 1 = 100000 from by omega] at z
  exact z
/-- the highest so far, and when it was first -/
def yPk (D : Nat → Int32) : Nat → Int32 × Int32
  | 0 => (D 0, 0)
  | t + 1 => if (D (t + 1)).toInt ≤ (yPk D t).1.toInt then yPk D t else (D (t + 1), nI (t + 1))
theorem yPk_ge {D : Nat → Int32} (t : Nat) : (D t).toInt ≤ (yPk D t).1.toInt := by
  cases t with
  | zero => exact Int.le_refl _
  | succ t =>
    rw [yPk]
    split
    · assumption
    · exact Int.le_refl _
theorem yPk_end {D : Nat → Int32} {T B : Nat} (h : ∀ t, T ≤ t → t ≤ B → D t = D T) : ∀ d, T + d ≤ B → yPk D (T + d) = yPk D T := by
  intro d
  induction d with
  | zero => exact fun _ => rfl
  | succ d ih =>
    intro hd
    show yPk D ((T + d) + 1) = yPk D T
    rw [yPk, ih (by omega), h (T + d + 1) (by omega) (by omega), if_pos (yPk_ge T)]
/-- the reference's peak -/
theorem mp_in {Td Fg Fm Fw : Nat → Int32} {D : Nat → Int32} {q : Nat} (hD : ∀ t, t ≤ 200 → M_m_drawnAt (nI q) Td (nI t) Fg Fm Fw = D t) : ∀ (m t k : Nat), t + m = 200 → K_m_peakNow_L2 (nI q) Td Fg Fm Fw (k + m + 1) (nI (t + 1)) (yPk D t).1 (yPk D t).2 = yPk D 200 := by
  intro m
  induction m with
  | zero =>
    intro t k ht
    obtain rfl : t = 200 := by omega
    simp only [K_m_peakNow_L2, K_m_peakNow_3, K_m_peakNow_8, K_m_peakNow_9, K_m_peakNow_6, K_m_peakNow_10, K_m_peakNow_11, K_m_peakNow_7, K_m_peakNow_5, K_m_peakNow_4, K_m_peakNow_2, K_m_peakNow_1, M_m_peakNow]
    rw [if_pos (by decide)]
  | succ m ih =>
    intro t k ht
    have et : (nI (t + 1)).toInt = ((t + 1 : Nat) : Int) := nI_toInt (by omega)
    have z := ih (t + 1) k (by omega)
    rw [← z]
    show K_m_peakNow_L2 (nI q) Td Fg Fm Fw ((k + m + 1) + 1) (nI (t + 1)) _ _ = _
    generalize k + m + 1 = j
    simp only [K_m_peakNow_L2, K_m_peakNow_3, K_m_peakNow_8, K_m_peakNow_9, K_m_peakNow_6, K_m_peakNow_10, K_m_peakNow_11, K_m_peakNow_7, K_m_peakNow_5, K_m_peakNow_4, K_m_peakNow_2, K_m_peakNow_1, M_m_peakNow]
    rw [if_neg (by omega), hD (t + 1) (by omega), nI_1, show yPk D (t + 1) = if (D (t + 1)).toInt ≤ (yPk D t).1.toInt then yPk D t else (D (t + 1), nI (t + 1)) from rfl]
    by_cases a : (D (t + 1)).toInt ≤ (yPk D t).1.toInt
    · rw [if_pos a, if_pos a, if_pos a]
    · rw [if_neg a, if_neg a, if_neg a]
theorem r_peak {Td Fg Fm Fw : Nat → Int32} {D : Nat → Int32} {q : Nat} {pa : Int32} (hD : ∀ t, t ≤ 200 → M_m_drawnAt (nI q) Td (nI t) Fg Fm Fw = D t) (h0 : 0 ≤ (D 0).toInt) : M_m_peakNow (nI q) Td Fg Fm Fw pa = yPk D 200 := by
  have z := mp_in hD 200 0 99798 (by decide)
  rw [← z]
  show K_m_peakNow_L2 (nI q) Td Fg Fm Fw (99999 + 1) 0 (-1) pa = _
  generalize hj : (99999 : Nat) = j
  rw [show 99798 + 200 + 1 = j from by omega]
  simp only [K_m_peakNow_L2, K_m_peakNow_3, K_m_peakNow_8, K_m_peakNow_9, K_m_peakNow_6, K_m_peakNow_10, K_m_peakNow_11, K_m_peakNow_7, K_m_peakNow_5, K_m_peakNow_4, K_m_peakNow_2, K_m_peakNow_1, M_m_peakNow]
  have m1 : (-1 : Int32).toInt = -1 := by decide
  have hz : M_m_drawnAt (nI q) Td 0 Fg Fm Fw = D 0 := hD 0 (by decide)
  rw [if_neg (by decide), hz, if_neg (by omega), if_neg (by omega)]
  rfl
