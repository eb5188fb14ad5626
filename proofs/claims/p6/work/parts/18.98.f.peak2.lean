theorem yD_upd {f : Nat → Int32} {i : Nat} {a : Int32} : ∀ n, yD (upd f i (f i + a)) n = yD f n + (if i < n then a else 0) := by
  intro n
  induction n with
  | zero => rw [if_neg (by omega), xadd0]; rfl
  | succ n ih =>
    rw [yD, yD, ih]
    by_cases e : n = i
    · subst e
      rw [if_neg (by omega), if_pos (by omega), xadd0, xupd_s, Int32.add_assoc]
    · rw [xupd_o e]
      by_cases z : i < n
      · rw [if_pos z, if_pos (by omega), Int32.add_assoc, Int32.add_comm a (f n), ← Int32.add_assoc]
      · rw [if_neg z, if_neg (by omega), xadd0, xadd0]
/-- the class: what comes and goes, tick by tick -/
theorem fp_in {fr fg pn n3 n4 : Nat → Int32} {cl : Int32} {w M G : Nat → Nat} {q X T : Nat} (q8 : q ≤ 8) (hT : T ≤ 144) (h3 : ∀ x, x < q → pn (8 * x + 3) = n3 x ∧ pn (8 * x + 4) = n4 x) (hX : ∀ x, x < q → (X.testBit x = true ↔ M x ≠ 100000)) (hG : ∀ x, x < q → M x = 100000 → G x = 100000) (hf : ∀ x, x < q → M x ≠ 100000 → fr x = nI (M x + w x) ∧ fg x = nI (G x) ∧ M x + w x ≤ G x ∧ G x ≤ T) : ∀ (m x k : Nat) (f : Nat → Int32), x + m = q → (∀ t, t ≤ 144 → yD f (t + 1) = yD (yV n3 n4 w M G t) x) → (∀ j, T < j → j ≤ 144 → f j = 0) → ∃ f' : Nat → Int32, K_findPeak_L2 (nI q) cl fg fr pn (nI X) (k + m + 1) (nI x) f = K_findPeak_L5 cl 100000 0 0 (-4) (-4) f' ∧ (∀ t, t ≤ 144 → yD f' (t + 1) = yD (yV n3 n4 w M G t) q) ∧ ∀ j, T < j → j ≤ 144 → f' j = 0 := by
  have qq : (nI q).toInt = (q : Int) := nI_toInt (by omega)
  intro m
  induction m with
  | zero =>
    intro x k f hx h1 h2
    have ex : (nI x).toInt = (x : Int) := nI_toInt (by omega)
    obtain rfl : x = q := by omega
    refine ⟨f, ?_, h1, h2⟩
    simp only [K_findPeak_L2, K_findPeak_6, K_findPeak_8, K_findPeak_9, K_findPeak_7, K_findPeak_5, K_findPeak_3, K_findPeak_11, K_findPeak_13, K_findPeak_17, K_findPeak_16, K_findPeak_15, K_findPeak_14, K_findPeak_12, K_findPeak_10, K_findPeak_4, K_findPeak_2, K_findPeak_1, M_findPeak]
    rw [if_pos (by omega)]
  | succ m ih =>
    intro x k f hx h1 h2
    have ex : (nI x).toInt = (x : Int) := nI_toInt (by omega)
    have exc : (nI x).toNatClampNeg = x := nI_clamp (by omega)
    obtain ⟨p3, p4⟩ := h3 x (by omega)
    have bt : ((nI X >>> (nI x &&& 31)) &&& (1 : Int32)).toInt = 1 ↔ X.testBit x = true := by rw [xsr_1 (nI X) (by omega), xb_nI (by omega)]
    have e3 : M_number pn (nI x) 3 = n3 x := (t_nb (k := 3) (by omega) (by decide)).trans p3
    have e4 : M_number pn (nI x) 4 = n4 x := (t_nb (k := 4) (by omega) (by decide)).trans p4
    by_cases a : M x = 100000
    · have un : K_findPeak_L2 (nI q) cl fg fr pn (nI X) ((k + m + 1) + 1) (nI x) f = K_findPeak_L2 (nI q) cl fg fr pn (nI X) (k + m + 1) (nI (x + 1)) f := by
        generalize k + m + 1 = j
        simp only [K_findPeak_L2, K_findPeak_6, K_findPeak_8, K_findPeak_9, K_findPeak_7, K_findPeak_5, K_findPeak_3, K_findPeak_11, K_findPeak_13, K_findPeak_17, K_findPeak_16, K_findPeak_15, K_findPeak_14, K_findPeak_12, K_findPeak_10, K_findPeak_4, K_findPeak_2, K_findPeak_1, M_findPeak]
        rw [if_neg (by omega), t_isUp, if_neg (fun y => (hX x (by omega)).mp (bt.mp y) a), if_pos (by decide), nI_1]
      obtain ⟨f', a1, a2, a3⟩ := ih (x + 1) k f (by omega) (fun t ht => by
        have e : yV n3 n4 w M G t x = 0 := by
          unfold yV
          rw [hG x (by omega) a, if_neg (by omega), if_neg (fun y => y.1 a)]
        rw [h1 t ht, yD, e, xadd0]) h2
      exact ⟨f', un.trans a1, a2, a3⟩
    · obtain ⟨f1, f2, f3, f4⟩ := hf x (by omega) a
      have c1 : (nI (M x + w x)).toNatClampNeg = M x + w x := nI_clamp (by omega)
      have c2 : (nI (G x)).toNatClampNeg = G x := nI_clamp (by omega)
      have eg : (nI (G x)).toInt = ((G x : Nat) : Int) := nI_toInt (by omega)
      have un : K_findPeak_L2 (nI q) cl fg fr pn (nI X) ((k + m + 1) + 1) (nI x) f = K_findPeak_L2 (nI q) cl fg fr pn (nI X) (k + m + 1) (nI (x + 1)) (upd (upd f (M x + w x) (f (M x + w x) + n4 x)) (G x) ((upd f (M x + w x) (f (M x + w x) + n4 x)) (G x) + (n3 x - n4 x))) := by
        generalize k + m + 1 = j
        simp only [K_findPeak_L2, K_findPeak_6, K_findPeak_8, K_findPeak_9, K_findPeak_7, K_findPeak_5, K_findPeak_3, K_findPeak_11, K_findPeak_13, K_findPeak_17, K_findPeak_16, K_findPeak_15, K_findPeak_14, K_findPeak_12, K_findPeak_10, K_findPeak_4, K_findPeak_2, K_findPeak_1, M_findPeak]
        rw [if_neg (by omega), t_isUp, if_pos (bt.mpr ((hX x (by omega)).mpr a)), if_neg (by decide), exc, f1, f2, if_neg (by omega), e3, e4, c1, c2, nI_1]
      obtain ⟨f', a1, a2, a3⟩ := ih (x + 1) k (upd (upd f (M x + w x) (f (M x + w x) + n4 x)) (G x) ((upd f (M x + w x) (f (M x + w x) + n4 x)) (G x) + (n3 x - n4 x))) (by omega) (fun t ht => by
        rw [yD_upd, yD_upd, h1 t ht, show yD (yV n3 n4 w M G t) (x + 1) = yD (yV n3 n4 w M G t) x + yV n3 n4 w M G t x from rfl]
        unfold yV
        by_cases b : G x ≤ t
        · rw [if_pos (show G x < t + 1 by omega), if_pos (show M x + w x < t + 1 by omega), if_pos b, y_sub]
        · rw [if_neg (show ¬ G x < t + 1 by omega), if_neg b, xadd0]
          by_cases c : M x + w x ≤ t
          · rw [if_pos (show M x + w x < t + 1 by omega), if_pos ⟨a, c⟩]
          · rw [if_neg (show ¬ M x + w x < t + 1 by omega), if_neg (fun y => c y.2)]) (fun j j1 j2 => by
        rw [xupd_o (by omega), xupd_o (by omega)]
        exact h2 j j1 j2)
      exact ⟨f', un.trans a1, a2, a3⟩
/-- the first n are naught again -/
def yZ (f : Nat → Int32) (n : Nat) : Nat → Int32 := fun j => if j < n then 0 else f j
theorem yZ_put {f : Nat → Int32} {n : Nat} : upd (yZ f n) n 0 = yZ f (n + 1) := by
  funext j
  by_cases e : j = n
  · subst e
    rw [xupd_s]
    exact (if_pos (by omega)).symm
  · rw [xupd_o e]
    unfold yZ
    by_cases z : j < n
    · rw [if_pos z, if_pos (by omega)]
    · rw [if_neg z, if_neg (by omega)]
theorem fk_in {f D : Nat → Int32} {T : Nat} (hT : T ≤ 144) (hD : ∀ t, t ≤ 144 → yD f (t + 1) = D t) : ∀ (m t k : Nat), t + m = T → K_findPeak_L5 (nI T) (k + m + 1) (nI (t + 1)) (D t) (yPk D t).1 (yPk D t).2 (yZ f (t + 1)) = ((yPk D T).1, (yPk D T).2, yZ f (T + 1)) := by
  have tt : (nI T).toInt = (T : Int) := nI_toInt (by omega)
  intro m
  induction m with
  | zero =>
    intro t k ht
    obtain rfl : t = T := by omega
    have et : (nI (t + 1)).toInt = ((t + 1 : Nat) : Int) := nI_toInt (by omega)
    simp only [K_findPeak_L5, K_findPeak_6, K_findPeak_8, K_findPeak_9, K_findPeak_7, K_findPeak_5, K_findPeak_3, K_findPeak_11, K_findPeak_13, K_findPeak_17, K_findPeak_16, K_findPeak_15, K_findPeak_14, K_findPeak_12, K_findPeak_10, K_findPeak_4, K_findPeak_2, K_findPeak_1, M_findPeak]
    rw [if_pos (by omega)]
  | succ m ih =>
    intro t k ht
    have et : (nI (t + 1)).toInt = ((t + 1 : Nat) : Int) := nI_toInt (by omega)
    have etc : (nI (t + 1)).toNatClampNeg = t + 1 := nI_clamp (by omega)
    have z := ih (t + 1) k (by omega)
    rw [← z]
    show K_findPeak_L5 (nI T) ((k + m + 1) + 1) (nI (t + 1)) _ _ _ _ = _
    generalize k + m + 1 = j
    have ev : yZ f (t + 1) (t + 1) = f (t + 1) := if_neg (by omega)
    have es : D t + f (t + 1) = D (t + 1) := by
      rw [← hD t (by omega), ← hD (t + 1) (by omega)]
      rfl
    simp only [K_findPeak_L5, K_findPeak_6, K_findPeak_8, K_findPeak_9, K_findPeak_7, K_findPeak_5, K_findPeak_3, K_findPeak_11, K_findPeak_13, K_findPeak_17, K_findPeak_16, K_findPeak_15, K_findPeak_14, K_findPeak_12, K_findPeak_10, K_findPeak_4, K_findPeak_2, K_findPeak_1, M_findPeak]
    rw [if_neg (by omega), etc, ev, es, yZ_put, nI_1, show yPk D (t + 1) = if (D (t + 1)).toInt ≤ (yPk D t).1.toInt then yPk D t else (D (t + 1), nI (t + 1)) from rfl]
    by_cases a : (D (t + 1)).toInt ≤ (yPk D t).1.toInt
    · rw [if_pos a, if_pos a]
    · rw [if_neg a, if_neg a]
theorem t_findPeak {fr fg pn n3 n4 cx : Nat → Int32} {w M G : Nat → Nat} {q X T : Nat} (q8 : q ≤ 8) (hT : T ≤ 144) (h3 : ∀ x, x < q → pn (8 * x + 3) = n3 x ∧ pn (8 * x + 4) = n4 x) (hr : ∀ x, x < q → (0 ≤ (n3 x).toInt ∧ (n3 x).toInt ≤ 511) ∧ (0 ≤ (n4 x).toInt ∧ (n4 x).toInt ≤ 511)) (hX : ∀ x, x < q → (X.testBit x = true ↔ M x ≠ 100000)) (hG : ∀ x, x < q → M x = 100000 → G x = 100000) (hf : ∀ x, x < q → M x ≠ 100000 → fr x = nI (M x + w x) ∧ fg x = nI (G x) ∧ M x + w x ≤ G x ∧ G x ≤ T) (hc : ∀ j, j ≤ 144 → cx j = 0) : ∃ cx' : Nat → Int32, M_findPeak (nI q) (nI T) fg fr pn (nI X) cx = ((yPk (fun t => yD (yV n3 n4 w M G t) q) T).1, (yPk (fun t => yD (yV n3 n4 w M G t) q) T).2, cx') ∧ ∀ j, j ≤ 144 → cx' j = 0 := by
  have z0 : ∀ n, n ≤ 145 → yD cx n = 0 := by
    intro n
    induction n with
    | zero => exact fun _ => rfl
    | succ n ih =>
      intro hn
      rw [yD, ih (by omega), hc n (by omega), xadd0]
  obtain ⟨f', a1, a2, a3⟩ := fp_in (cl := nI T) q8 hT h3 hX hG hf q 0 (99999 - q) cx (by omega) (fun t ht => z0 (t + 1) (by omega)) (fun j _ j2 => hc j j2)
  rw [show 99999 - q + q + 1 = 100000 from by omega] at a1
  have pos : 0 ≤ (yD (yV n3 n4 w M G 0) q).toInt := (yD_rng q q8 (fun x hx => by
    unfold yV
    split
    · exact (hr x hx).1
    · split
      · exact (hr x hx).2
      · exact ⟨by decide, by decide⟩)).1
  have b := fk_in (f := f') (D := fun t => yD (yV n3 n4 w M G t) q) hT a2 T 0 (99998 - T) (by omega)
  refine ⟨yZ f' (T + 1), ?_, fun j hj => ?_⟩
  · refine Eq.trans (show M_findPeak (nI q) (nI T) fg fr pn (nI X) cx = _ from a1) ?_
    rw [← b]
    show K_findPeak_L5 (nI T) (99999 + 1) 0 0 (-4) (-4) f' = _
    rw [show 99998 - T + T + 1 = 99999 from by omega]
    generalize (99999 : Nat) = j
    have tt : (nI T).toInt = (T : Int) := nI_toInt (by omega)
    have z9 : (0 : Int32).toInt = 0 := by decide
    have c9 : (0 : Int32).toNatClampNeg = 0 := by decide
    have m4 : (-4 : Int32).toInt = -4 := by decide
    have e1 : (0 : Int32) + f' 0 = yD (yV n3 n4 w M G 0) q := by rw [← a2 0 (by decide)]; rfl
    have e2 : upd f' 0 0 = yZ f' 1 := by
      rw [← yZ_put]
      congr 1
    simp only [K_findPeak_L5, K_findPeak_6, K_findPeak_8, K_findPeak_9, K_findPeak_7, K_findPeak_5, K_findPeak_3, K_findPeak_11, K_findPeak_13, K_findPeak_17, K_findPeak_16, K_findPeak_15, K_findPeak_14, K_findPeak_12, K_findPeak_10, K_findPeak_4, K_findPeak_2, K_findPeak_1, M_findPeak]
    rw [if_neg (by omega), c9, e1, if_neg (by omega), e2]
    rfl
  · unfold yZ
    by_cases y : j < T + 1
    · rw [if_pos y]
    · rw [if_neg y]
      exact a3 j (by omega) hj
/-- the last that is GOOD, the reference's side -/
theorem lg_in {Fg : Nat → Int32} {G : Nat → Nat} {q : Nat} (q8 : q ≤ 8) (hG : ∀ x, x < q → Fg x = nI (G x) ∧ G x ≤ 100000) : ∀ (m x k : Nat) (a : Int32), x + m = q → ((a = -4 ∧ ∀ y, y < x → G y = 100000) ∨ ∃ b : Nat, a = nI b ∧ b < 100000 ∧ (∃ y, y < x ∧ G y = b) ∧ ∀ y, y < x → G y ≠ 100000 → G y ≤ b) → (∀ x, x < q → G x = 100000 ∨ G x ≤ 1000) → (K_m_lastGood_L2 (nI q) Fg (k + m + 1) (nI x) a = -4 ∧ ∀ y, y < q → G y = 100000) ∨ ∃ b : Nat, K_m_lastGood_L2 (nI q) Fg (k + m + 1) (nI x) a = nI b ∧ b < 100000 ∧ (∃ y, y < q ∧ G y = b) ∧ ∀ y, y < q → G y ≠ 100000 → G y ≤ b := by
  have qq : (nI q).toInt = (q : Int) := nI_toInt (by omega)
  intro m
  induction m with
  | zero =>
    intro x k a hx h _
    have ex : (nI x).toInt = (x : Int) := nI_toInt (by omega)
    obtain rfl : x = q := by omega
    have un : K_m_lastGood_L2 (nI x) Fg (k + 0 + 1) (nI x) a = a := by
      simp only [K_m_lastGood_L2, K_m_lastGood_3, K_m_lastGood_5, K_m_lastGood_7, K_m_lastGood_8, K_m_lastGood_6, K_m_lastGood_4, K_m_lastGood_2, K_m_lastGood_1, M_m_lastGood]
      rw [if_pos (by omega)]
    rw [un]
    exact h
  | succ m ih =>
    intro x k a hx h hs
    have ex : (nI x).toInt = (x : Int) := nI_toInt (by omega)
    have exc : (nI x).toNatClampNeg = x := nI_clamp (by omega)
    obtain ⟨g1, g2⟩ := hG x (by omega)
    have eg : (nI (G x)).toInt = ((G x : Nat) : Int) := nI_toInt (by omega)
    have go : ∀ a' : Int32, K_m_lastGood_L2 (nI q) Fg ((k + m + 1) + 1) (nI x) a = K_m_lastGood_L2 (nI q) Fg (k + m + 1) (nI (x + 1)) a' → ((a' = -4 ∧ ∀ y, y < x + 1 → G y = 100000) ∨ ∃ b : Nat, a' = nI b ∧ b < 100000 ∧ (∃ y, y < x + 1 ∧ G y = b) ∧ ∀ y, y < x + 1 → G y ≠ 100000 → G y ≤ b) → (K_m_lastGood_L2 (nI q) Fg (k + (m + 1) + 1) (nI x) a = -4 ∧ ∀ y, y < q → G y = 100000) ∨ ∃ b : Nat, K_m_lastGood_L2 (nI q) Fg (k + (m + 1) + 1) (nI x) a = nI b ∧ b < 100000 ∧ (∃ y, y < q ∧ G y = b) ∧ ∀ y, y < q → G y ≠ 100000 → G y ≤ b := fun a' e h9 => by
      have z := ih (x + 1) k a' (by omega) h9 hs
      rw [← e] at z
      exact z
    have un : K_m_lastGood_L2 (nI q) Fg ((k + m + 1) + 1) (nI x) a = if 100000 ≤ (nI (G x)).toInt then K_m_lastGood_L2 (nI q) Fg (k + m + 1) (nI (x + 1)) a else if (nI (G x)).toInt ≤ a.toInt then K_m_lastGood_L2 (nI q) Fg (k + m + 1) (nI (x + 1)) a else K_m_lastGood_L2 (nI q) Fg (k + m + 1) (nI (x + 1)) (nI (G x)) := by
      generalize k + m + 1 = j
      simp only [K_m_lastGood_L2, K_m_lastGood_3, K_m_lastGood_5, K_m_lastGood_7, K_m_lastGood_8, K_m_lastGood_6, K_m_lastGood_4, K_m_lastGood_2, K_m_lastGood_1, M_m_lastGood]
      rw [if_neg (by omega), exc, nI_1, g1]
    by_cases b : G x = 100000
    · rw [if_pos (by omega)] at un
      refine go a un ?_
      rcases h with ⟨h1, h2⟩ | ⟨c, c1, c2, ⟨y, c3, c4⟩, c5⟩
      · exact Or.inl ⟨h1, fun y hy => by
          by_cases e : y = x
          · rw [e]; exact b
          · exact h2 y (by omega)⟩
      · exact Or.inr ⟨c, c1, c2, ⟨y, by omega, c4⟩, fun y hy z => by
          by_cases e : y = x
          · rw [e] at z; exact absurd b z
          · exact c5 y (by omega) z⟩
    · have g3 : G x ≤ 1000 := (hs x (by omega)).resolve_left b
      rw [if_neg (by omega)] at un
      have m4 : (-4 : Int32).toInt = -4 := by decide
      rcases h with ⟨h1, h2⟩ | ⟨c, c1, c2, ⟨y, c3, c4⟩, c5⟩
      · rw [h1] at un ⊢
        rw [h1] at go
        rw [if_neg (by omega)] at un
        exact go _ un (Or.inr ⟨G x, rfl, by omega, ⟨x, by omega, rfl⟩, fun y hy z => by
          by_cases e : y = x
          · rw [e]; exact Nat.le_refl _
          · exact absurd (h2 y (by omega)) z⟩)
      · have ec : a.toInt = (c : Int) := by rw [c1]; exact nI_toInt (by omega)
        by_cases d : G x ≤ c
        · rw [if_pos (by omega)] at un
          exact go a un (Or.inr ⟨c, c1, c2, ⟨y, by omega, c4⟩, fun y hy z => by
            by_cases e : y = x
            · rw [e]; exact d
            · exact c5 y (by omega) z⟩)
        · rw [if_neg (by omega)] at un
          exact go _ un (Or.inr ⟨G x, rfl, by omega, ⟨x, by omega, rfl⟩, fun y hy z => by
            by_cases e : y = x
            · rw [e]; exact Nat.le_refl _
            · have := c5 y (by omega) z
              omega⟩)
theorem r_last {Fg : Nat → Int32} {G : Nat → Nat} {q : Nat} (q8 : q ≤ 8) (hG : ∀ x, x < q → Fg x = nI (G x) ∧ (G x = 100000 ∨ G x ≤ 1000)) : (M_m_lastGood (nI q) Fg = -4 ∧ ∀ y, y < q → G y = 100000) ∨ ∃ b : Nat, M_m_lastGood (nI q) Fg = nI b ∧ b < 100000 ∧ (∃ y, y < q ∧ G y = b) ∧ ∀ y, y < q → G y ≠ 100000 → G y ≤ b := by
  have z := lg_in (Fg := Fg) (G := G) q8 (fun x hx => ⟨(hG x hx).1, by rcases (hG x hx).2 with y | y <;> omega⟩) q 0 (99999 - q) (-4) (by omega) (Or.inl ⟨rfl, fun y hy => absurd hy (by omega)⟩) (fun x hx => (hG x hx).2)
  rw [show 99999 - q + q + 1 = 100000 from by omega] at z
  exact z
