theorem y_sh4 : ∀ q : Fin 7, ((1 : Int32) <<< (((2 : Int32) * nI q.val) &&& 31)) = nI (4 ^ q.val) := by decide +kernel
theorem y_dig (k : Fin 6) (x : Fin 4096) : ((nI x.val >>> (((2 : Int32) * nI k.val) &&& 31)) &&& (3 : Int32)) = nI (x.val / 4 ^ k.val % 4) := by
  have e2 : (2 : Int32) * nI k.val = nI (2 * k.val) := pk_mul 2 k.val
  rw [e2]
  refine xb_ext (fun r hr => ?_)
  rw [xb_and, xb_nI hr]
  have e3 : xb (3 : Int32) r = decide (r < 2) := by
    have h : ∀ r : Fin 32, (3 : Int32).toBitVec.getLsbD r.val = decide (r.val < 2) := by decide
    exact h ⟨r, hr⟩
  have e4 : (4 : Nat) ^ k.val = 2 ^ (2 * k.val) := by rw [Nat.pow_mul]
  rw [e3, e4, show (4 : Nat) = 2 ^ 2 from rfl, Nat.testBit_mod_two_pow, Nat.testBit_div_two_pow]
  by_cases q : r < 2
  · have e5 : xb (nI x.val >>> (nI (2 * k.val) &&& 31)) r = x.val.testBit (2 * k.val + r) := by
      have z := xb_nI (n := x.val) (r := 2 * k.val + r) (by omega)
      unfold xb at z ⊢
      rw [xsr_bv _ (by omega), BitVec.getLsbD_sshiftRight, if_pos (by omega), z]
      have n : decide (32 ≤ r) = false := decide_eq_false (by omega)
      rw [n]
      rfl
    rw [e5, Bool.and_comm, Nat.add_comm]
  · simp [q]
theorem y_nsub {a b : Nat} (h : b ≤ a) (ha : a ≤ 1000) : nI a - nI b = nI (a - b) := Int32.toInt_inj.mp (by
  have e1 : (nI a).toInt = (a : Int) := nI_toInt (by omega)
  have e2 : (nI b).toInt = (b : Int) := nI_toInt (by omega)
  have e3 : (nI (a - b)).toInt = ((a - b : Nat) : Int) := nI_toInt (by omega)
  have e4 : (nI a - nI b).toInt = (a : Int) - (b : Int) := xsub e1 e2 (by omega) (by omega)
  omega)
/-- the times that a RAIL takes, the reference's row -/
theorem st_in {K Td : Nat → Int32} {q : Nat} (q8 : q ≤ 8) : ∀ (n x k : Nat) (f : Nat → Int32), x + n = q → ∃ f' : Nat → Int32, K_m_setTimes_L2 (nI q) 0 K Td (k + n + 1) (nI x) f = f' ∧ (∀ j, x ≤ j → j < q → f' j = K j) ∧ ∀ j, j < x ∨ q ≤ j → f' j = f j := by
  have qq : (nI q).toInt = (q : Int) := nI_toInt (by omega)
  intro n
  induction n with
  | zero =>
    intro x k f hx
    have ex : (nI x).toInt = (x : Int) := nI_toInt (by omega)
    refine ⟨f, ?_, fun j a b => absurd a (by omega), fun j _ => rfl⟩
    simp only [K_m_setTimes_L2, K_m_setTimes_3, K_m_setTimes_6, K_m_setTimes_7, K_m_setTimes_5, K_m_setTimes_4, K_m_setTimes_2, K_m_setTimes_1, M_m_setTimes]
    rw [if_pos (by omega)]
  | succ n ih =>
    intro x k f hx
    have ex : (nI x).toInt = (x : Int) := nI_toInt (by omega)
    have exc : (nI x).toNatClampNeg = x := nI_clamp (by omega)
    obtain ⟨f', a1, a2, a3⟩ := ih (x + 1) k (upd f x (K x)) (by omega)
    refine ⟨f', ?_, fun j h1 h2 => ?_, fun j hj => ?_⟩
    · rw [← a1]
      show K_m_setTimes_L2 (nI q) 0 K Td ((k + n + 1) + 1) (nI x) f = _
      generalize k + n + 1 = j
      simp only [K_m_setTimes_L2, K_m_setTimes_3, K_m_setTimes_6, K_m_setTimes_7, K_m_setTimes_5, K_m_setTimes_4, K_m_setTimes_2, K_m_setTimes_1, M_m_setTimes]
      rw [if_neg (by omega), if_pos (by decide), exc, nI_1]
    · by_cases y : j = x
      · rw [y, a3 x (by omega), xupd_s]
      · exact a2 j (by omega) h2
    · rw [a3 j (by omega), xupd_o (by omega)]
theorem t_setT0 {K Td By : Nat → Int32} {q : Nat} (q8 : q ≤ 8) : ∃ By' : Nat → Int32, M_m_setTimes (nI q) 0 K Td By = By' ∧ ∀ j, j < q → By' j = K j := by
  obtain ⟨f', a1, a2, -⟩ := st_in (K := K) (Td := Td) q8 q 0 (99999 - q) By (by omega)
  rw [show 99999 - q + q + 1 = 100000 from by omega] at a1
  exact ⟨f', a1, fun j hj => a2 j (by omega) hj⟩
/-- the reference: a row of waits set -/
theorem m6_in {rec : Int32 → (Nat → Int32) → (Nat → Int32) → (Nat → Int32) → (Nat → Int32) → Int32 → Int32 → Int32 → Int32 × Int32 × Int32 × (Nat → Int32) × (Nat → Int32) × (Nat → Int32) × (Nat → Int32) × (Nat → Int32)} {f4 Td By Tb f1 f2 D : Nat → Int32} {b s lim : Int32} {q x : Nat} (q6 : q ≤ 6) (hx4 : x < 4 ^ q) : ∀ (n j k : Nat) (f : Nat → Int32), j + n = q → (∀ i, i < j → f i = nI (yW q x i)) → ∃ f' : Nat → Int32, K_m_findStagger_L6 (nI q) rec (nI x) f4 b s lim Td By Tb f1 f2 D (k + n + 1) (nI j) f = K_m_findStagger_7 rec (nI x) f' f4 b s lim (nI q) Td By Tb f1 f2 D ∧ ∀ i, i < q → f' i = nI (yW q x i) := by
  have qq : (nI q).toInt = (q : Int) := nI_toInt (by omega)
  have q46 : 4 ^ q ≤ 4 ^ 6 := Nat.pow_le_pow_right (by decide) q6
  have x4 : x < 4096 := Nat.lt_of_lt_of_le hx4 q46
  intro n
  induction n with
  | zero =>
    intro j k f hj hf
    have ej : (nI j).toInt = (j : Int) := nI_toInt (by omega)
    obtain rfl : j = q := by omega
    refine ⟨f, ?_, hf⟩
    simp only [K_m_findStagger_L6, K_m_findStagger_6]
    rw [if_pos (by omega)]
  | succ n ih =>
    intro j k f hj hf
    have ej : (nI j).toInt = (j : Int) := nI_toInt (by omega)
    have ejc : (nI j).toNatClampNeg = j := nI_clamp (by omega)
    have e1 : nI q - (1 : Int32) = nI (q - 1) := y_nsub (b := 1) (by omega) (by omega)
    have e2 : nI (q - 1) - nI j = nI (q - 1 - j) := y_nsub (by omega) (by omega)
    obtain ⟨f', a1, a2⟩ := ih (j + 1) k (upd f j (nI (yW q x j))) (by omega) (fun i hi => by
      by_cases y : i = j
      · rw [y, xupd_s]
      · rw [xupd_o y]
        exact hf i (by omega))
    refine ⟨f', ?_, a2⟩
    rw [← a1]
    show K_m_findStagger_L6 (nI q) rec (nI x) f4 b s lim Td By Tb f1 f2 D ((k + n + 1) + 1) (nI j) f = _
    generalize k + n + 1 = i
    simp only [K_m_findStagger_L6, K_m_findStagger_6, K_m_findStagger_8]
    rw [if_neg (by omega), ejc, nI_1, e1, e2, y_dig ⟨q - 1 - j, by omega⟩ ⟨x, x4⟩]
    rfl
/-- the reference: the row kept -/
theorem m18_in {rec : Int32 → (Nat → Int32) → (Nat → Int32) → (Nat → Int32) → (Nat → Int32) → Int32 → Int32 → Int32 → Int32 × Int32 × Int32 × (Nat → Int32) × (Nat → Int32) × (Nat → Int32) × (Nat → Int32) × (Nat → Int32)} {F G fw : Nat → Int32} {x up pa r : Int32} {q : Nat} (q8 : q ≤ 8) : ∀ (n j k : Nat) (f : Nat → Int32), j + n = q → (∀ i, i < j → f i = fw i) → ∃ f' : Nat → Int32, (K_m_findStagger_L18 (nI q) rec x F G fw up pa r (k + n + 1) (nI j) f = rec (x + 1) F G fw f' up pa r ∧ K_m_findStagger_L26 (nI q) rec x F G fw up pa r (k + n + 1) (nI j) f = rec (x + 1) F G fw f' up pa r) ∧ ∀ i, i < q → f' i = fw i := by
  have qq : (nI q).toInt = (q : Int) := nI_toInt (by omega)
  intro n
  induction n with
  | zero =>
    intro j k f hj hf
    have ej : (nI j).toInt = (j : Int) := nI_toInt (by omega)
    obtain rfl : j = q := by omega
    refine ⟨f, ⟨?_, ?_⟩, hf⟩
    · simp only [K_m_findStagger_L18, K_m_findStagger_18, K_m_findStagger_19]
      rw [if_pos (by omega)]
    · simp only [K_m_findStagger_L26, K_m_findStagger_26, K_m_findStagger_27]
      rw [if_pos (by omega)]
  | succ n ih =>
    intro j k f hj hf
    have ej : (nI j).toInt = (j : Int) := nI_toInt (by omega)
    have ejc : (nI j).toNatClampNeg = j := nI_clamp (by omega)
    obtain ⟨f', ⟨a1, b1⟩, a2⟩ := ih (j + 1) k (upd f j (fw j)) (by omega) (fun i hi => by
      by_cases y : i = j
      · rw [y, xupd_s]
      · rw [xupd_o y]
        exact hf i (by omega))
    refine ⟨f', ⟨?_, ?_⟩, a2⟩
    · rw [← a1]
      show K_m_findStagger_L18 (nI q) rec x F G fw up pa r ((k + n + 1) + 1) (nI j) f = _
      generalize k + n + 1 = i
      simp only [K_m_findStagger_L18, K_m_findStagger_18, K_m_findStagger_20]
      rw [if_neg (by omega), ejc, nI_1]
    · rw [← b1]
      show K_m_findStagger_L26 (nI q) rec x F G fw up pa r ((k + n + 1) + 1) (nI j) f = _
      generalize k + n + 1 = i
      simp only [K_m_findStagger_L26, K_m_findStagger_26, K_m_findStagger_28]
      rw [if_neg (by omega), ejc, nI_1]
theorem yBest_ext {q : Nat} {S : Option (Nat × (Nat → Nat))} {sl : Int32} {f g : Nat → Int32} (h : yBest q S sl f) (e : ∀ j, j < q → g j = f j) : yBest q S sl g := by
  rcases h with h | ⟨s, b, h1, h2, h3, h4, h5⟩
  · exact Or.inl h
  · exact Or.inr ⟨s, b, h1, h2, h3, fun j hj => (e j hj).trans (h4 j hj), h5⟩
/-- what is kept, on both sides -/
def yB (q : Nat) (pt : Nat → Int64) (d : Int32) (k : Nat → Nat) (n3 n4 : Nat → Int32) (lim : Int32) (x : Nat) (s : Int32) (f : Nat → Int32) : Prop := (yX q pt d = 0 ∧ s = -4) ∨ (yX q pt d ≠ 0 ∧ yBest q (yR lim.toInt (yLT q pt d k) (fun v => (yPT q pt d k n3 n4 v).1.toInt) q x) s f)
theorem y_some {X : Nat} (h : X ≠ 0) : ∃ j, X.testBit j = true := by
  by_cases z : ∃ j, X.testBit j = true
  · exact z
  · exact absurd (Nat.eq_of_testBit_eq (fun j => by
      rw [Nat.zero_testBit]
      cases e : X.testBit j with
      | false => rfl
      | true => exact absurd ⟨j, e⟩ z)) h
theorem ms_in {pn Td Nm Tb By D n3 n4 : Nat → Int32} {k : Nat → Nat} {pt : Nat → Int64} {wt : Bool} {q : Nat} {d lim : Int32} (q6 : q ≤ 6) (hE : xE wt q pn pt Td Nm Tb) (hd : xDd d D) (hk : ∀ j, j < q → By j = nI (k j) ∧ 1 ≤ k j ∧ k j ≤ 9) (h3 : ∀ x, x < q → Td (7 * x + 3) = n3 x ∧ Td (7 * x + 4) = n4 x) (hr : ∀ x, x < q → (0 ≤ (n3 x).toInt ∧ (n3 x).toInt ≤ 511) ∧ (0 ≤ (n4 x).toInt ∧ (n4 x).toInt ≤ 511)) : ∀ (n x kk : Nat) (f1 f2 f3 f4 : Nat → Int32) (a b s : Int32), x + n = 4 ^ q → yB q pt d k n3 n4 lim x s f4 → ∃ (a' b' s' : Int32) (f1' f2' f3' f4' : Nat → Int32), K_m_findStagger_L3 (nI q) By lim Td Tb D (kk + n + 1) (nI x) f1 f2 f3 f4 a b s = (a', b', s', f1', f2', By, f3', f4') ∧ yB q pt d k n3 n4 lim (4 ^ q) s' f4' := by
  have m := xE_mono hE
  have q8 : q ≤ 8 := by omega
  have q46 : 4 ^ q ≤ 4 ^ 6 := Nat.pow_le_pow_right (by decide) q6
  have q4 : 4 ^ q ≤ 4096 := q46
  have e4 : (nI (4 ^ q)).toInt = ((4 ^ q : Nat) : Int) := nI_toInt (by omega)
  have m4 : (-4 : Int32).toInt = -4 := by decide
  have y4 : ((1 : Int32) <<< (((2 : Int32) * nI q) &&& 31)) = nI (4 ^ q) := y_sh4 ⟨q, by omega⟩
  intro n
  induction n with
  | zero =>
    intro x kk f1 f2 f3 f4 a b s hx h
    have ex : (nI x).toInt = (x : Int) := nI_toInt (by omega)
    have hx : x = 4 ^ q := by omega
    refine ⟨a, b, s, f1, f2, f3, f4, ?_, by rw [← hx]; exact h⟩
    simp only [K_m_findStagger_L3, K_m_findStagger_3, K_m_findStagger_4]
    rw [y4, if_pos (by omega)]
  | succ n ih =>
    intro x kk f1 f2 f3 f4 a b s hx h
    have ex : (nI x).toInt = (x : Int) := nI_toInt (by omega)
    have un : K_m_findStagger_L3 (nI q) By lim Td Tb D ((kk + n + 1) + 1) (nI x) f1 f2 f3 f4 a b s = K_m_findStagger_L6 (nI q) (K_m_findStagger_L3 (nI q) By lim Td Tb D (kk + n + 1)) (nI x) f4 b s lim Td By Tb f1 f2 D 100000 0 f3 := by
      generalize kk + n + 1 = j
      simp only [K_m_findStagger_L3, K_m_findStagger_3, K_m_findStagger_5]
      rw [y4, if_neg (by omega)]
    obtain ⟨fw, a1, a2⟩ := m6_in (rec := K_m_findStagger_L3 (nI q) By lim Td Tb D (kk + n + 1)) (f4 := f4) (Td := Td) (By := By) (Tb := Tb) (f1 := f1) (f2 := f2) (D := D) (b := b) (s := s) (lim := lim) (q := q) (x := x) q6 (by omega) q 0 (99999 - q) f3 (by omega) (fun i hi => absurd hi (by omega))
    rw [show 99999 - q + q + 1 = 100000 from by omega] at a1
    have un := un.trans a1
    have w4 : ∀ j, yW q x j < 4 := fun j => yW_lt
    obtain ⟨F, G, b1, b2⟩ := r_find (Fm := f1) (Fg := f2) (w := yW q x) hE q8 hd (fun j hj => ⟨a2 j hj, by have := w4 j; omega⟩) hk
    obtain ⟨fr0, fg0, -, l144, r3, r4⟩ := t_row (fw := fun j => nI (yW q x j)) (fr := F) (fg := G) (ft := By) (s0 := nI (yX q pt d)) (P := fun j => (yX q pt d).testBit j) (w := yW q x) (k := k) (pt := pt) (q := q) (d := d) q8 m (fun j hj => ⟨rfl, by have := w4 j; omega⟩) hk (fun j hj => (xb_nI (by omega)).symm) (fun j hj => ⟨fun z => (yX_alive q8 z).2, fun z => z⟩) (fun j hj _ => by cases (yX q pt d).testBit j <;> simp)
    have gn : ∀ y, yT q pt d (yW q x) k y = 100000 → yGT q pt d k (yW q x) y = 100000 := fun y z => if_pos z
    have b2 : ∀ j, j < 8 → F j = nI (yT q pt d (yW q x) k j) ∧ G j = nI (yGT q pt d k (yW q x) j) := b2
    have la := r_last (Fg := G) (G := yGT q pt d k (yW q x)) (q := q) q8 (fun y hy => ⟨(b2 y (by omega)).2, by
      by_cases z : yT q pt d (yW q x) k y = 100000
      · exact Or.inl (gn y z)
      · have := (r3 y hy z).2.2.2
        exact Or.inr (by omega)⟩)
    have un9 : K_m_findStagger_7 (K_m_findStagger_L3 (nI q) By lim Td Tb D (kk + n + 1)) (nI x) fw f4 b s lim (nI q) Td By Tb f1 f2 D = K_m_findStagger_10 (M_m_lastGood (nI q) G) (K_m_findStagger_L3 (nI q) By lim Td Tb D (kk + n + 1)) (nI x) F G fw f4 (nI (yX q pt d)) b s lim (nI q) Td := by
      simp only [K_m_findStagger_7, K_m_findStagger_9]
      rw [b1]
    have un := un.trans un9
    by_cases X0 : yX q pt d = 0
    · have s4 : s = -4 := by
        rcases h with h | h
        · exact h.2
        · exact absurd X0 h.1
      rcases la with ⟨l1, -⟩ | ⟨c, -, c1, ⟨y, y1, y2⟩, -⟩
      · rw [l1] at un
        have un8 : K_m_findStagger_10 (-4) (K_m_findStagger_L3 (nI q) By lim Td Tb D (kk + n + 1)) (nI x) F G fw f4 (nI (yX q pt d)) b s lim (nI q) Td = K_m_findStagger_L3 (nI q) By lim Td Tb D (kk + n + 1) (nI (x + 1)) F G fw f4 (nI (yX q pt d)) b s := by
          generalize kk + n + 1 = j
          simp only [K_m_findStagger_10, K_m_findStagger_11]
          rw [if_pos (by decide), nI_1]
        obtain ⟨a', b', s', f1', f2', f3', f4', z1, z2⟩ := ih (x + 1) kk F G fw f4 (nI (yX q pt d)) b s (by omega) (Or.inl ⟨X0, s4⟩)
        exact ⟨a', b', s', f1', f2', f3', f4', (un.trans un8).trans z1, z2⟩
      · exfalso
        have z : yT q pt d (yW q x) k y ≠ 100000 := fun z => by
          rw [gn y z] at y2
          omega
        have t := (r4 y y1).mpr z
        rw [X0, Nat.zero_testBit] at t
        exact absurd t (by decide)
    · have hB : yBest q (yR lim.toInt (yLT q pt d k) (fun v => (yPT q pt d k n3 n4 v).1.toInt) q x) s f4 := by
        rcases h with h | h
        · exact absurd h.1 X0
        · exact h.2
      have lg : M_m_lastGood (nI q) G = nI (yLT q pt d k (yW q x)) := by
        rcases la with ⟨-, l2⟩ | ⟨c, l1, c1, ⟨y, y1, y2⟩, c3⟩
        · exfalso
          obtain ⟨j, hj⟩ := y_some X0
          have jq := (yX_alive q8 hj).1
          have z := (r4 j jq).mp hj
          have := (r3 j jq z).2.2.2
          rw [l2 j jq] at this
          omega
        · rw [l1]
          congr 1
          exact (yMx_eq c3 (Or.inr ⟨y, y1, by omega, y2⟩)).symm
      have pk : ∀ pa : Int32, M_m_peakNow (nI q) Td G F fw pa = yPT q pt d k n3 n4 (yW q x) := fun pa => r_peak (D := yDr q pt d k n3 n4 (yW q x)) (fun t ht => r_drawnAt (n3 := n3) (n4 := n4) (w := yW q x) (M := yT q pt d (yW q x) k) (G := yGT q pt d k (yW q x)) q8 (by omega) h3 (fun y _ z => gn y z) (fun y hy => ⟨(b2 y (by omega)).1, (b2 y (by omega)).2, a2 y hy, by
        by_cases z : yT q pt d (yW q x) k y = 100000
        · omega
        · have := r3 y hy z
          omega, by
        by_cases z : yT q pt d (yW q x) k y = 100000
        · exact Nat.le_of_eq (gn y z)
        · have := r3 y hy z
          omega, by have := w4 y; omega⟩)) (yD_rng q q8 (fun y hy => by
        unfold yV
        split
        · exact (hr y hy).1
        · split
          · exact (hr y hy).2
          · exact ⟨by decide, by decide⟩)).1
      have bs := yBest_step (lim := lim) (fw := fw) (L := yLT q pt d k) (p := fun v => (yPT q pt d k n3 n4 v).1.toInt) (w := yW q x) (v := yW q x) q8 hB rfl rfl l144 (fun j hj => ⟨a2 j hj, w4 j, rfl⟩)
      rw [show yStep lim.toInt (yLT q pt d k) (fun v => (yPT q pt d k n3 n4 v).1.toInt) (yW q x) (yR lim.toInt (yLT q pt d k) (fun v => (yPT q pt d k n3 n4 v).1.toInt) q x) = yR lim.toInt (yLT q pt d k) (fun v => (yPT q pt d k n3 n4 v).1.toInt) q (x + 1) from rfl] at bs
      rw [lg] at un
      have el : (nI (yLT q pt d k (yW q x))).toInt = ((yLT q pt d k (yW q x) : Nat) : Int) := nI_toInt (by omega)
      obtain ⟨f9, ⟨k1, k2⟩, k3⟩ := m18_in (rec := K_m_findStagger_L3 (nI q) By lim Td Tb D (kk + n + 1)) (F := F) (G := G) (fw := fw) (x := nI x) (up := nI (yX q pt d)) (pa := (yPT q pt d k n3 n4 (yW q x)).2) (r := nI (yLT q pt d k (yW q x))) (q := q) q8 q 0 (99999 - q) f4 (by omega) (fun i hi => absurd hi (by omega))
      rw [show 99999 - q + q + 1 = 100000 from by omega] at k1 k2
      have go : ∃ (b2 s2 : Int32) (g4 : Nat → Int32), K_m_findStagger_10 (nI (yLT q pt d k (yW q x))) (K_m_findStagger_L3 (nI q) By lim Td Tb D (kk + n + 1)) (nI x) F G fw f4 (nI (yX q pt d)) b s lim (nI q) Td = K_m_findStagger_L3 (nI q) By lim Td Tb D (kk + n + 1) (nI (x + 1)) F G fw g4 (nI (yX q pt d)) b2 s2 ∧ yBest q (yR lim.toInt (yLT q pt d k) (fun v => (yPT q pt d k n3 n4 v).1.toInt) q (x + 1)) s2 g4 := by
        have cp : ∀ g : Nat → Int32, ∀ j, j < q → f9 j = va_cpy fw g (0 : Int32).toNatClampNeg (0 : Int32).toNatClampNeg (8 : Int32).toNatClampNeg j := fun g j hj => by
          rw [y_cpy8 (by omega)]
          exact k3 j hj
        by_cases c1 : s.toInt = -4
        · rw [if_pos c1, if_pos c1] at bs
          by_cases c2 : lim.toInt < (yPT q pt d k n3 n4 (yW q x)).1.toInt
          · rw [if_pos c2, if_pos c2] at bs
            refine ⟨(yPT q pt d k n3 n4 (yW q x)).2, s, f4, ?_, bs⟩
            generalize kk + n + 1 = j
            simp only [K_m_findStagger_10, K_m_findStagger_12, K_m_findStagger_13, K_m_findStagger_15, K_m_findStagger_16]
            rw [if_neg (by omega), if_pos c1, pk b, if_pos c2, nI_1]
          · rw [if_neg c2, if_neg c2] at bs
            refine ⟨(yPT q pt d k n3 n4 (yW q x)).2, nI (yLT q pt d k (yW q x)), f9, ?_, yBest_ext bs (cp f4)⟩
            rw [nI_1] at k1
            refine Eq.trans ?_ k1
            generalize kk + n + 1 = j
            simp only [K_m_findStagger_10, K_m_findStagger_12, K_m_findStagger_13, K_m_findStagger_15, K_m_findStagger_17]
            rw [if_neg (by omega), if_pos c1, pk b, if_neg c2]
            rfl
        · rw [if_neg c1, if_neg c1] at bs
          by_cases c3 : s.toInt ≤ (nI (yLT q pt d k (yW q x))).toInt
          · rw [if_pos c3, if_pos c3] at bs
            refine ⟨b, s, f4, ?_, bs⟩
            generalize kk + n + 1 = j
            simp only [K_m_findStagger_10, K_m_findStagger_12, K_m_findStagger_14, K_m_findStagger_21]
            rw [if_neg (by omega), if_neg c1, if_pos c3, nI_1]
          · rw [if_neg c3, if_neg c3] at bs
            by_cases c2 : lim.toInt < (yPT q pt d k n3 n4 (yW q x)).1.toInt
            · rw [if_pos c2, if_pos c2] at bs
              refine ⟨(yPT q pt d k n3 n4 (yW q x)).2, s, f4, ?_, bs⟩
              generalize kk + n + 1 = j
              simp only [K_m_findStagger_10, K_m_findStagger_12, K_m_findStagger_14, K_m_findStagger_22, K_m_findStagger_23, K_m_findStagger_24]
              rw [if_neg (by omega), if_neg c1, if_neg c3, pk b, if_pos c2, nI_1]
            · rw [if_neg c2, if_neg c2] at bs
              refine ⟨(yPT q pt d k n3 n4 (yW q x)).2, nI (yLT q pt d k (yW q x)), f9, ?_, yBest_ext bs (cp f4)⟩
              rw [nI_1] at k2
              refine Eq.trans ?_ k2
              generalize kk + n + 1 = j
              simp only [K_m_findStagger_10, K_m_findStagger_12, K_m_findStagger_14, K_m_findStagger_22, K_m_findStagger_23, K_m_findStagger_25]
              rw [if_neg (by omega), if_neg c1, if_neg c3, pk b, if_neg c2]
              rfl
      obtain ⟨b9, s9, g9, g1, g2⟩ := go
      obtain ⟨a', b', s', f1', f2', f3', f4', z1, z2⟩ := ih (x + 1) kk F G fw g9 (nI (yX q pt d)) b9 s9 (by omega) (Or.inr ⟨X0, g2⟩)
      exact ⟨a', b', s', f1', f2', f3', f4', (un.trans g1).trans z1, z2⟩
/-- the reference's stagger -/
theorem r_mstag {pn Td Nm Tb By K D n3 n4 Fm Fg Fw Bw : Nat → Int32} {k : Nat → Nat} {pt : Nat → Int64} {wt : Bool} {q : Nat} {d lim up pa : Int32} (q6 : q ≤ 6) (hE : xE wt q pn pt Td Nm Tb) (hd : xDd d D) (hk : ∀ j, j < q → K j = nI (k j) ∧ 1 ≤ k j ∧ k j ≤ 9) (h3 : ∀ x, x < q → Td (7 * x + 3) = n3 x ∧ Td (7 * x + 4) = n4 x) (hr : ∀ x, x < q → (0 ≤ (n3 x).toInt ∧ (n3 x).toInt ≤ 511) ∧ (0 ≤ (n4 x).toInt ∧ (n4 x).toInt ≤ 511)) : ∃ (a' b' s' : Int32) (f1' f2' By' f3' f4' : Nat → Int32), M_m_findStagger (nI q) lim Td Tb D Fm Fg Fw Bw up pa K By = (a', b', s', f1', f2', By', f3', f4') ∧ yB q pt d k n3 n4 lim (4 ^ q) s' f4' := by
  have q46 : 4 ^ q ≤ 4 ^ 6 := Nat.pow_le_pow_right (by decide) q6
  have q4 : 4 ^ q ≤ 4096 := q46
  obtain ⟨By', s1, s2⟩ := t_setT0 (K := K) (Td := Td) (By := By) (q := q) (by omega)
  have z0 : yB q pt d k n3 n4 lim 0 (-4) Bw := by
    by_cases X0 : yX q pt d = 0
    · exact Or.inl ⟨X0, rfl⟩
    · exact Or.inr ⟨X0, Or.inl ⟨rfl, rfl⟩⟩
  obtain ⟨a', b', s', f1', f2', f3', f4', z1, z2⟩ := ms_in (By := By') (lim := lim) q6 hE hd (fun j hj => ⟨(s2 j hj).trans (hk j hj).1, (hk j hj).2⟩) h3 hr (4 ^ q) 0 (99999 - 4 ^ q) Fm Fg Fw Bw up pa (-4) (by omega) z0
  rw [show 99999 - 4 ^ q + 4 ^ q + 1 = 100000 from by omega] at z1
  refine ⟨a', b', s', f1', f2', By', f3', f4', ?_, z2⟩
  rw [← z1]
  simp only [M_m_findStagger, K_m_findStagger_1, K_m_findStagger_2]
  rw [s1]
  rfl
theorem yKa_0 {X : Nat} : ∀ n, yKa X (fun _ => 0) n = 0 := by
  intro n
  induction n with
  | zero => rfl
  | succ n ih =>
    rw [yKa, ih]
    split <;> rfl
theorem yNo_0 : ∀ n, yNo (fun _ => 0) n = 0 := by
  intro n
  induction n with
  | zero => rfl
  | succ n ih => rw [yNo, ih]
/-- waiting brings nothing sooner -/
theorem y_slow {q : Nat} {pt : Nat → Int64} {d : Int32} {k w : Nat → Nat} (q8 : q ≤ 8) (m : yMono q pt) (hk : ∀ j, j < q → 1 ≤ k j ∧ k j ≤ 9) (X0 : yX q pt d ≠ 0) (hw : ∀ j, w j < 4) : yLT q pt d k (fun _ => 0) ≤ yLT q pt d k w := by
  have row : ∀ v : Nat → Nat, (∀ j, v j < 4) → yLT q pt d k v ≤ 144 ∧ (∀ x, x < q → yT q pt d v k x ≠ 100000 → yT q pt d v k x + v x ≤ yGT q pt d k v x ∧ yGT q pt d k v x ≤ yLT q pt d k v) ∧ ∀ x, x < q → ((yX q pt d).testBit x = true ↔ yT q pt d v k x ≠ 100000) := fun v hv => by
    obtain ⟨fr0, fg0, -, a, b, c⟩ := t_row (fw := fun j => nI (v j)) (fr := fun _ => 0) (fg := fun _ => 0) (ft := fun j => nI (k j)) (s0 := nI (yX q pt d)) (P := fun j => (yX q pt d).testBit j) (w := v) (k := k) (pt := pt) (q := q) (d := d) q8 m (fun j _ => ⟨rfl, by have := hv j; omega⟩) (fun j hj => ⟨rfl, hk j hj⟩) (fun j hj => (xb_nI (by omega)).symm) (fun j hj => ⟨fun z => (yX_alive q8 z).2, fun z => z⟩) (fun j hj _ => by cases (yX q pt d).testBit j <;> simp)
    exact ⟨a, fun x hx z => (b x hx z).2.2, c⟩
  obtain ⟨r2, r3, r4⟩ := row (fun _ => 0) (fun _ => by decide)
  obtain ⟨w2, w3, w4⟩ := row w hw
  obtain ⟨j, hj⟩ := y_some X0
  have jq := (yX_alive q8 hj).1
  have j0 := (r4 j jq).mp hj
  rcases yMx_at (G := yGT q pt d k (fun _ => 0)) q with ⟨-, b⟩ | ⟨x, a, b, c⟩
  · have b1 := b j jq
    have b2 := (r3 j jq j0).2
    omega
  · have x0 : yT q pt d (fun _ => 0) k x ≠ 100000 := fun z => b (if_pos z)
    have y := (w4 x a).mp ((r4 x a).mpr x0)
    have sl9 : yT q pt d (fun _ => 0) k x ≤ yT q pt d w k x := (yM_slow (P := fun x => (yX q pt d).testBit x) (w := w) (k := k) q8 m 201 (by decide) x y).2
    have g1 : yGT q pt d k (fun _ => 0) x = yT q pt d (fun _ => 0) k x + 0 + k x := if_neg x0
    have g2 : yGT q pt d k w x = yT q pt d w k x + w x + k x := if_neg y
    have w9 := (w3 x a y).2
    have ge := yMx_ge (G := yGT q pt d k w) q x a (by omega)
    show yMx _ q ≤ yMx _ q
    omega
/-- the class's stagger, found anew -/
theorem r_cstag {pn rt ft fw srow fr fg cx n3 n4 : Nat → Int32} {k : Nat → Nat} {pt : Nat → Int64} {q : Nat} {d lim sl cup cl c1 c2 : Int32} (q6 : q ≤ 6) (m : yMono q pt) (hk : ∀ j, j < q → rt j = nI (k j) ∧ 1 ≤ k j ∧ k j ≤ 9) (h3 : ∀ x, x < q → pn (8 * x + 3) = n3 x ∧ pn (8 * x + 4) = n4 x) (hr : ∀ x, x < q → (0 ≤ (n3 x).toInt ∧ (n3 x).toInt ≤ 511) ∧ (0 ≤ (n4 x).toInt ∧ (n4 x).toInt ≤ 511)) (hz : ∀ j, j ≤ 144 → cx j = 0) : ∃ (sl' e1 e2 e3 e4 : Int32) (srow' fw' ft' fr' fg' cx' : Nat → Int32), M_findRow 0 c1 c2 cx lim (nI q) pn pt (xA q &&& (d ^^^ (-1))) fr fg rt ft fw srow sl cup cl = (1, sl', srow', e1, e2, e3, e4, fw', ft', fr', fg', cx') ∧ yB q pt d k n3 n4 lim (4 ^ q) sl' srow' ∧ ∀ j, j ≤ 144 → cx' j = 0 := by
  have q8 : q ≤ 8 := by omega
  have f0 : ∀ j, j < 8 → M_fillI 8 0 fw j = nI 0 := fun j hj => if_pos hj
  have t0 : ∀ j, j < 8 → M_copyTakes rt ft j = rt j := fun j hj => y_cpy8 hj
  have da : ∀ j, j < q → xb (nI (xDb q d)) j = xb d j := fun j hj => by
    rw [xDb_b (by omega)]
    simp [hj]
  have db : ∀ j, j < q → xb (xA q &&& (d ^^^ (-1))) j = !xb d j := fun j hj => by
    rw [alive_b q8 (by omega)]
    simp [hj]
  obtain ⟨fr1, fg1, r1, r2, r3, r4⟩ := t_row (fw := M_fillI 8 0 fw) (fr := fr) (fg := fg) (ft := M_copyTakes rt ft) (s0 := xA q &&& (d ^^^ (-1))) (P := fun j => xb (xA q &&& (d ^^^ (-1))) j) (w := fun _ => 0) (k := k) (pt := pt) (q := q) (d := d) q8 m (fun j hj => ⟨f0 j (by omega), by decide⟩) (fun j hj => ⟨(t0 j (by omega)).trans (hk j hj).1, (hk j hj).2⟩) (fun j _ => rfl) (fun j hj => by
    show (xb (xA q &&& (d ^^^ (-1))) j = true → xb (nI (xDb q d)) j = false) ∧ ((yX q pt d).testBit j = true → xb (xA q &&& (d ^^^ (-1))) j = true)
    rw [da j hj, db j hj]
    refine ⟨fun z => by simpa using z, fun z => ?_⟩
    have a := (yX_alive q8 z).2
    rw [da j hj] at a
    rw [a]
    rfl) (fun j hj z => by
    show xb (xA q &&& (d ^^^ (-1))) j = true ∨ _
    rw [da j hj] at z
    rw [db j hj, z]
    exact Or.inl rfl)
  have un : M_findRow 0 c1 c2 cx lim (nI q) pn pt (xA q &&& (d ^^^ (-1))) fr fg rt ft fw srow sl cup cl = if (nI (yX q pt d)).toInt = 0 then ((1 : Int32), (-4 : Int32), M_fillI 8 0 srow, nI (yX q pt d), nI (yLT q pt d k (fun _ => 0)), c1, c2, M_fillI 8 0 fw, M_copyTakes rt ft, fr1, fg1, cx) else K_findRow_L10 (M_copyTakes rt ft) (nI (yLT q pt d k (fun _ => 0))) (nI (yX q pt d)) lim (nI q) pn pt 100000 0 1 (-4) cx (M_fillI 8 0 srow) (nI (yX q pt d)) (nI (yLT q pt d k (fun _ => 0))) c1 c2 (M_fillI 8 0 fw) fr1 fg1 := by
    simp only [K_findRow_9, K_findRow_8, K_findRow_7, K_findRow_6, K_findRow_5, K_findRow_4, K_findRow_2, K_findRow_3, K_findRow_1, M_findRow]
    rw [if_pos (by decide), r1]
  have xl := yX_lt (pt := pt) (d := d) q8
  have ex : (nI (yX q pt d)).toInt = ((yX q pt d : Nat) : Int) := nI_toInt (by omega)
  by_cases X0 : yX q pt d = 0
  · rw [if_pos (by omega)] at un
    exact ⟨_, _, _, _, _, _, _, _, _, _, _, un, Or.inl ⟨X0, rfl⟩, hz⟩
  · rw [if_neg (by omega)] at un
    obtain ⟨sl', e1, e2, e3, e4, srow', fw', fr', fg', cx', y1, y2, y3⟩ := cl_in (ft := M_copyTakes rt ft) (lim := lim) q6 m (fun j hj => ⟨(t0 j (by omega)).trans (hk j hj).1, (hk j hj).2⟩) h3 hr (fun w hw => y_slow q8 m (fun j hj => (hk j hj).2) X0 hw) 4096 0 95903 1 (-4) (nI (yX q pt d)) (nI (yLT q pt d k (fun _ => 0))) c1 c2 cx (M_fillI 8 0 srow) (M_fillI 8 0 fw) fr1 fg1 (fun _ => 0) (by decide) hz f0 (fun _ => Nat.zero_lt_succ 3) (Or.inl ⟨rfl, ⟨fun _ => Nat.zero_lt_succ 3, fun _ _ => rfl⟩, yKa_0 q, by rw [yNo_0 q]; exact Or.inl ⟨rfl, rfl⟩⟩)
    exact ⟨sl', e1, e2, e3, e4, srow', fw', M_copyTakes rt ft, fr', fg', cx', un.trans y1, Or.inr ⟨X0, y2⟩, y3⟩
