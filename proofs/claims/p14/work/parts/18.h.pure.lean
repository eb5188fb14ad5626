-- 98.k.mstagger
theorem y_sh4 : ∀ q : Fin 7, ((1 : Int32) <<< (((2 : Int32) * nI q.val) &&& 31)) = nI (4 ^ q.val) := by decide +kernel
theorem y_dig (k : Fin 6) (x : Fin 4096) : ((nI x.val >>> (((2 : Int32) * nI k.val) &&& 31)) &&& (3 : Int32)) = nI (x.val / 4 ^ k.val % 4) := by
  have e2 : (2 : Int32) * nI k.val = nI (2 * k.val) := pk_mul 2 k.val
  rw [e2]
  refine xb_ext (fun r hr => ?_)
  rw [xb_and, xb_nI hr]
  have e3 : xb (3 : Int32) r = decide (r < 2) := by
    have h : ∀ r : Fin 32, (3 : Int32).toBitVec.getLsbD r.val = decide (r.val < 2) := by decide
    exact h ⟨r, hr⟩
  have e4 : (4 : Nat) ^ k.val = 2 ^ (2 * k.val) := by rw [Nat.pow_mul]
  rw [e3, e4, show (4 : Nat) = 2 ^ 2 from rfl, Nat.testBit_mod_two_pow, Nat.testBit_div_two_pow]
  by_cases q : r < 2
  · have e5 : xb (nI x.val >>> (nI (2 * k.val) &&& 31)) r = x.val.testBit (2 * k.val + r) := by
      have z := xb_nI (n := x.val) (r := 2 * k.val + r) (by omega)
      unfold xb at z ⊢
      rw [xsr_bv _ (by omega), BitVec.getLsbD_sshiftRight, if_pos (by omega), z]
      have n : decide (32 ≤ r) = false := decide_eq_false (by omega)
      rw [n]
      rfl
    rw [e5, Bool.and_comm, Nat.add_comm]
  · simp [q]
theorem y_nsub {a b : Nat} (h : b ≤ a) (ha : a ≤ 1000) : nI a - nI b = nI (a - b) := Int32.toInt_inj.mp (by
  have e1 : (nI a).toInt = (a : Int) := nI_toInt (by omega)
  have e2 : (nI b).toInt = (b : Int) := nI_toInt (by omega)
  have e3 : (nI (a - b)).toInt = ((a - b : Nat) : Int) := nI_toInt (by omega)
  have e4 : (nI a - nI b).toInt = (a : Int) - (b : Int) := xsub e1 e2 (by omega) (by omega)
  omega)
/-- the times that a RAIL takes, the reference's row -/
theorem st_in {K Td : Nat → Int32} {q : Nat} (q8 : q ≤ 8) : ∀ (n x k : Nat) (f : Nat → Int32), x + n = q → ∃ f' : Nat → Int32, K_m_setTimes_L2 (nI q) 0 K Td (k + n + 1) (nI x) f = f' ∧ (∀ j, x ≤ j → j < q → f' j = K j) ∧ ∀ j, j < x ∨ q ≤ j → f' j = f j := by
  have qq : (nI q).toInt = (q : Int) := nI_toInt (by omega)
  intro n
  induction n with
  | zero =>
    intro x k f hx
    have ex : (nI x).toInt = (x : Int) := nI_toInt (by omega)
    refine ⟨f, ?_, fun j a b => absurd a (by omega), fun j _ => rfl⟩
    simp only [K_m_setTimes_L2, K_m_setTimes_3, K_m_setTimes_6, K_m_setTimes_7, K_m_setTimes_5, K_m_setTimes_4, K_m_setTimes_2, K_m_setTimes_1, M_m_setTimes]
    rw [if_pos (by omega)]
  | succ n ih =>
    intro x k f hx
    have ex : (nI x).toInt = (x : Int) := nI_toInt (by omega)
    have exc : (nI x).toNatClampNeg = x := nI_clamp (by omega)
    obtain ⟨f', a1, a2, a3⟩ := ih (x + 1) k (upd f x (K x)) (by omega)
    refine ⟨f', ?_, fun j h1 h2 => ?_, fun j hj => ?_⟩
    · rw [← a1]
      show K_m_setTimes_L2 (nI q) 0 K Td ((k + n + 1) + 1) (nI x) f = _
      generalize k + n + 1 = j
      simp only [K_m_setTimes_L2, K_m_setTimes_3, K_m_setTimes_6, K_m_setTimes_7, K_m_setTimes_5, K_m_setTimes_4, K_m_setTimes_2, K_m_setTimes_1, M_m_setTimes]
      rw [if_neg (by omega), if_pos (by decide), exc, nI_1]
    · by_cases y : j = x
      · rw [y, a3 x (by omega), xupd_s]
      · exact a2 j (by omega) h2
    · rw [a3 j (by omega), xupd_o (by omega)]
theorem t_setT0 {K Td By : Nat → Int32} {q : Nat} (q8 : q ≤ 8) : ∃ By' : Nat → Int32, M_m_setTimes (nI q) 0 K Td By = By' ∧ ∀ j, j < q → By' j = K j := by
  obtain ⟨f', a1, a2, -⟩ := st_in (K := K) (Td := Td) q8 q 0 (99999 - q) By (by omega)
  rw [show 99999 - q + q + 1 = 100000 from by omega] at a1
  exact ⟨f', a1, fun j hj => a2 j (by omega) hj⟩
/-- the reference: a row of waits set -/
theorem m6_in {rec : Int32 → (Nat → Int32) → (Nat → Int32) → (Nat → Int32) → (Nat → Int32) → Int32 → Int32 → Int32 → Int32 × Int32 × Int32 × (Nat → Int32) × (Nat → Int32) × (Nat → Int32) × (Nat → Int32) × (Nat → Int32)} {f4 Td By Tb f1 f2 D : Nat → Int32} {b s lim : Int32} {q x : Nat} (q6 : q ≤ 6) (hx4 : x < 4 ^ q) : ∀ (n j k : Nat) (f : Nat → Int32), j + n = q → (∀ i, i < j → f i = nI (yW q x i)) → ∃ f' : Nat → Int32, K_m_findStagger_L6 (nI q) rec (nI x) f4 b s lim Td By Tb f1 f2 D (k + n + 1) (nI j) f = K_m_findStagger_7 rec (nI x) f' f4 b s lim (nI q) Td By Tb f1 f2 D ∧ ∀ i, i < q → f' i = nI (yW q x i) := by
  have qq : (nI q).toInt = (q : Int) := nI_toInt (by omega)
  have q46 : 4 ^ q ≤ 4 ^ 6 := Nat.pow_le_pow_right (by decide) q6
  have x4 : x < 4096 := Nat.lt_of_lt_of_le hx4 q46
  intro n
  induction n with
  | zero =>
    intro j k f hj hf
    have ej : (nI j).toInt = (j : Int) := nI_toInt (by omega)
    obtain rfl : j = q := by omega
    refine ⟨f, ?_, hf⟩
    simp only [K_m_findStagger_L6, K_m_findStagger_6]
    rw [if_pos (by omega)]
  | succ n ih =>
    intro j k f hj hf
    have ej : (nI j).toInt = (j : Int) := nI_toInt (by omega)
    have ejc : (nI j).toNatClampNeg = j := nI_clamp (by omega)
    have e1 : nI q - (1 : Int32) = nI (q - 1) := y_nsub (b := 1) (by omega) (by omega)
    have e2 : nI (q - 1) - nI j = nI (q - 1 - j) := y_nsub (by omega) (by omega)
    obtain ⟨f', a1, a2⟩ := ih (j + 1) k (upd f j (nI (yW q x j))) (by omega) (fun i hi => by
      by_cases y : i = j
      · rw [y, xupd_s]
      · rw [xupd_o y]
        exact hf i (by omega))
    refine ⟨f', ?_, a2⟩
    rw [← a1]
    show K_m_findStagger_L6 (nI q) rec (nI x) f4 b s lim Td By Tb f1 f2 D ((k + n + 1) + 1) (nI j) f = _
    generalize k + n + 1 = i
    simp only [K_m_findStagger_L6, K_m_findStagger_6, K_m_findStagger_8]
    rw [if_neg (by omega), ejc, nI_1, e1, e2, y_dig ⟨q - 1 - j, by omega⟩ ⟨x, x4⟩]
    rfl
/-- the reference: the row kept -/
theorem m18_in {rec : Int32 → (Nat → Int32) → (Nat → Int32) → (Nat → Int32) → (Nat → Int32) → Int32 → Int32 → Int32 → Int32 × Int32 × Int32 × (Nat → Int32) × (Nat → Int32) × (Nat → Int32) × (Nat → Int32) × (Nat → Int32)} {F G fw : Nat → Int32} {x up pa r : Int32} {q : Nat} (q8 : q ≤ 8) : ∀ (n j k : Nat) (f : Nat → Int32), j + n = q → (∀ i, i < j → f i = fw i) → ∃ f' : Nat → Int32, (K_m_findStagger_L18 (nI q) rec x F G fw up pa r (k + n + 1) (nI j) f = rec (x + 1) F G fw f' up pa r ∧ K_m_findStagger_L26 (nI q) rec x F G fw up pa r (k + n + 1) (nI j) f = rec (x + 1) F G fw f' up pa r) ∧ ∀ i, i < q → f' i = fw i := by
  have qq : (nI q).toInt = (q : Int) := nI_toInt (by omega)
  intro n
  induction n with
  | zero =>
    intro j k f hj hf
    have ej : (nI j).toInt = (j : Int) := nI_toInt (by omega)
    obtain rfl : j = q := by omega
    refine ⟨f, ⟨?_, ?_⟩, hf⟩
    · simp only [K_m_findStagger_L18, K_m_findStagger_18, K_m_findStagger_19]
      rw [if_pos (by omega)]
    · simp only [K_m_findStagger_L26, K_m_findStagger_26, K_m_findStagger_27]
      rw [if_pos (by omega)]
  | succ n ih =>
    intro j k f hj hf
    have ej : (nI j).toInt = (j : Int) := nI_toInt (by omega)
    have ejc : (nI j).toNatClampNeg = j := nI_clamp (by omega)
    obtain ⟨f', ⟨a1, b1⟩, a2⟩ := ih (j + 1) k (upd f j (fw j)) (by omega) (fun i hi => by
      by_cases y : i = j
      · rw [y, xupd_s]
      · rw [xupd_o y]
        exact hf i (by omega))
    refine ⟨f', ⟨?_, ?_⟩, a2⟩
    · rw [← a1]
      show K_m_findStagger_L18 (nI q) rec x F G fw up pa r ((k + n + 1) + 1) (nI j) f = _
      generalize k + n + 1 = i
      simp only [K_m_findStagger_L18, K_m_findStagger_18, K_m_findStagger_20]
      rw [if_neg (by omega), ejc, nI_1]
    · rw [← b1]
      show K_m_findStagger_L26 (nI q) rec x F G fw up pa r ((k + n + 1) + 1) (nI j) f = _
      generalize k + n + 1 = i
      simp only [K_m_findStagger_L26, K_m_findStagger_26, K_m_findStagger_28]
      rw [if_neg (by omega), ejc, nI_1]
theorem yBest_ext {q : Nat} {S : Option (Nat × (Nat → Nat))} {sl : Int32} {f g : Nat → Int32} (h : yBest q S sl f) (e : ∀ j, j < q → g j = f j) : yBest q S sl g := by
  rcases h with h | ⟨s, b, h1, h2, h3, h4, h5⟩
  · exact Or.inl h
  · exact Or.inr ⟨s, b, h1, h2, h3, fun j hj => (e j hj).trans (h4 j hj), h5⟩
/-- what is kept, on both sides -/
def yB (q : Nat) (pt : Nat → Int64) (d : Int32) (k : Nat → Nat) (n3 n4 : Nat → Int32) (lim : Int32) (x : Nat) (s : Int32) (f : Nat → Int32) : Prop := (yX q pt d = 0 ∧ s = -4) ∨ (yX q pt d ≠ 0 ∧ yBest q (yR lim.toInt (yLT q pt d k) (fun v => (yPT q pt d k n3 n4 v).1.toInt) q x) s f)
theorem y_some {X : Nat} (h : X ≠ 0) : ∃ j, X.testBit j = true := by
  by_cases z : ∃ j, X.testBit j = true
  · exact z
  · exact absurd (Nat.eq_of_testBit_eq (fun j => by
      rw [Nat.zero_testBit]
      cases e : X.testBit j with
      | false => rfl
      | true => exact absurd ⟨j, e⟩ z)) h
theorem ms_in {pn Td Nm Tb By D n3 n4 : Nat → Int32} {k : Nat → Nat} {pt : Nat → Int64} {wt : Bool} {q : Nat} {d lim : Int32} (q6 : q ≤ 6) (hE : xE wt q pn pt Td Nm Tb) (hd : xDd d D) (hk : ∀ j, j < q → By j = nI (k j) ∧ 1 ≤ k j ∧ k j ≤ 9) (h3 : ∀ x, x < q → Td (7 * x + 3) = n3 x ∧ Td (7 * x + 4) = n4 x) (hr : ∀ x, x < q → (0 ≤ (n3 x).toInt ∧ (n3 x).toInt ≤ 511) ∧ (0 ≤ (n4 x).toInt ∧ (n4 x).toInt ≤ 511)) : ∀ (n x kk : Nat) (f1 f2 f3 f4 : Nat → Int32) (a b s : Int32), x + n = 4 ^ q → yB q pt d k n3 n4 lim x s f4 → ∃ (a' b' s' : Int32) (f1' f2' f3' f4' : Nat → Int32), K_m_findStagger_L3 (nI q) By lim Td Tb D (kk + n + 1) (nI x) f1 f2 f3 f4 a b s = (a', b', s', f1', f2', By, f3', f4') ∧ yB q pt d k n3 n4 lim (4 ^ q) s' f4' := by
  have m := xE_mono hE
  have q8 : q ≤ 8 := by omega
  have q46 : 4 ^ q ≤ 4 ^ 6 := Nat.pow_le_pow_right (by decide) q6
  have q4 : 4 ^ q ≤ 4096 := q46
  have e4 : (nI (4 ^ q)).toInt = ((4 ^ q : Nat) : Int) := nI_toInt (by omega)
  have m4 : (-4 : Int32).toInt = -4 := by decide
  have y4 : ((1 : Int32) <<< (((2 : Int32) * nI q) &&& 31)) = nI (4 ^ q) := y_sh4 ⟨q, by omega⟩
  intro n
  induction n with
  | zero =>
    intro x kk f1 f2 f3 f4 a b s hx h
    have ex : (nI x).toInt = (x : Int) := nI_toInt (by omega)
    have hx : x = 4 ^ q := by omega
    refine ⟨a, b, s, f1, f2, f3, f4, ?_, by rw [← hx]; exact h⟩
    simp only [K_m_findStagger_L3, K_m_findStagger_3, K_m_findStagger_4]
    rw [y4, if_pos (by omega)]
  | succ n ih =>
    intro x kk f1 f2 f3 f4 a b s hx h
    have ex : (nI x).toInt = (x : Int) := nI_toInt (by omega)
    have un : K_m_findStagger_L3 (nI q) By lim Td Tb D ((kk + n + 1) + 1) (nI x) f1 f2 f3 f4 a b s = K_m_findStagger_L6 (nI q) (K_m_findStagger_L3 (nI q) By lim Td Tb D (kk + n + 1)) (nI x) f4 b s lim Td By Tb f1 f2 D 100000 0 f3 := by
      generalize kk + n + 1 = j
      simp only [K_m_findStagger_L3, K_m_findStagger_3, K_m_findStagger_5]
      rw [y4, if_neg (by omega)]
    obtain ⟨fw, a1, a2⟩ := m6_in (rec := K_m_findStagger_L3 (nI q) By lim Td Tb D (kk + n + 1)) (f4 := f4) (Td := Td) (By := By) (Tb := Tb) (f1 := f1) (f2 := f2) (D := D) (b := b) (s := s) (lim := lim) (q := q) (x := x) q6 (by omega) q 0 (99999 - q) f3 (by omega) (fun i hi => absurd hi (by omega))
    rw [show 99999 - q + q + 1 = 100000 from by omega] at a1
    have un := un.trans a1
    have w4 : ∀ j, yW q x j < 4 := fun j => yW_lt
    obtain ⟨F, G, b1, b2⟩ := r_find (Fm := f1) (Fg := f2) (w := yW q x) hE q8 hd (fun j hj => ⟨a2 j hj, by have := w4 j; omega⟩) hk
    obtain ⟨fr0, fg0, -, l144, r3, r4⟩ := t_row (fw := fun j => nI (yW q x j)) (fr := F) (fg := G) (ft := By) (s0 := nI (yX q pt d)) (P := fun j => (yX q pt d).testBit j) (w := yW q x) (k := k) (pt := pt) (q := q) (d := d) q8 m (fun j hj => ⟨rfl, by have := w4 j; omega⟩) hk (fun j hj => (xb_nI (by omega)).symm) (fun j hj => ⟨fun z => (yX_alive q8 z).2, fun z => z⟩) (fun j hj _ => by cases (yX q pt d).testBit j <;> simp)
    have gn : ∀ y, yT q pt d (yW q x) k y = 100000 → yGT q pt d k (yW q x) y = 100000 := fun y z => if_pos z
    have b2 : ∀ j, j < 8 → F j = nI (yT q pt d (yW q x) k j) ∧ G j = nI (yGT q pt d k (yW q x) j) := b2
    have la := r_last (Fg := G) (G := yGT q pt d k (yW q x)) (q := q) q8 (fun y hy => ⟨(b2 y (by omega)).2, by
      by_cases z : yT q pt d (yW q x) k y = 100000
      · exact Or.inl (gn y z)
      · have := (r3 y hy z).2.2.2
        exact Or.inr (by omega)⟩)
    have un9 : K_m_findStagger_7 (K_m_findStagger_L3 (nI q) By lim Td Tb D (kk + n + 1)) (nI x) fw f4 b s lim (nI q) Td By Tb f1 f2 D = K_m_findStagger_10 (M_m_lastGood (nI q) G) (K_m_findStagger_L3 (nI q) By lim Td Tb D (kk + n + 1)) (nI x) F G fw f4 (nI (yX q pt d)) b s lim (nI q) Td := by
      simp only [K_m_findStagger_7, K_m_findStagger_9]
      rw [b1]
    have un := un.trans un9
    by_cases X0 : yX q pt d = 0
    · have s4 : s = -4 := by
        rcases h with h | h
        · exact h.2
        · exact absurd X0 h.1
      rcases la with ⟨l1, -⟩ | ⟨c, -, c1, ⟨y, y1, y2⟩, -⟩
      · rw [l1] at un
        have un8 : K_m_findStagger_10 (-4) (K_m_findStagger_L3 (nI q) By lim Td Tb D (kk + n + 1)) (nI x) F G fw f4 (nI (yX q pt d)) b s lim (nI q) Td = K_m_findStagger_L3 (nI q) By lim Td Tb D (kk + n + 1) (nI (x + 1)) F G fw f4 (nI (yX q pt d)) b s := by
          generalize kk + n + 1 = j
          simp only [K_m_findStagger_10, K_m_findStagger_11]
          rw [if_pos (by decide), nI_1]
        obtain ⟨a', b', s', f1', f2', f3', f4', z1, z2⟩ := ih (x + 1) kk F G fw f4 (nI (yX q pt d)) b s (by omega) (Or.inl ⟨X0, s4⟩)
        exact ⟨a', b', s', f1', f2', f3', f4', (un.trans un8).trans z1, z2⟩
      · exfalso
        have z : yT q pt d (yW q x) k y ≠ 100000 := fun z => by
          rw [gn y z] at y2
          omega
        have t := (r4 y y1).mpr z
        rw [X0, Nat.zero_testBit] at t
        exact absurd t (by decide)
    · have hB : yBest q (yR lim.toInt (yLT q pt d k) (fun v => (yPT q pt d k n3 n4 v).1.toInt) q x) s f4 := by
        rcases h with h | h
        · exact absurd h.1 X0
        · exact h.2
      have lg : M_m_lastGood (nI q) G = nI (yLT q pt d k (yW q x)) := by
        rcases la with ⟨-, l2⟩ | ⟨c, l1, c1, ⟨y, y1, y2⟩, c3⟩
        · exfalso
          obtain ⟨j, hj⟩ := y_some X0
          have jq := (yX_alive q8 hj).1
          have z := (r4 j jq).mp hj
          have := (r3 j jq z).2.2.2
          rw [l2 j jq] at this
          omega
        · rw [l1]
          congr 1
          exact (yMx_eq c3 (Or.inr ⟨y, y1, by omega, y2⟩)).symm
      have pk : ∀ pa : Int32, M_m_peakNow (nI q) Td G F fw pa = yPT q pt d k n3 n4 (yW q x) := fun pa => r_peak (D := yDr q pt d k n3 n4 (yW q x)) (fun t ht => r_drawnAt (n3 := n3) (n4 := n4) (w := yW q x) (M := yT q pt d (yW q x) k) (G := yGT q pt d k (yW q x)) q8 (by omega) h3 (fun y _ z => gn y z) (fun y hy => ⟨(b2 y (by omega)).1, (b2 y (by omega)).2, a2 y hy, by
        by_cases z : yT q pt d (yW q x) k y = 100000
        · omega
        · have := r3 y hy z
          omega, by
        by_cases z : yT q pt d (yW q x) k y = 100000
        · exact Nat.le_of_eq (gn y z)
        · have := r3 y hy z
          omega, by have := w4 y; omega⟩)) (yD_rng q q8 (fun y hy => by
        unfold yV
        split
        · exact (hr y hy).1
        · split
          · exact (hr y hy).2
          · exact ⟨by decide, by decide⟩)).1
      have bs := yBest_step (lim := lim) (fw := fw) (L := yLT q pt d k) (p := fun v => (yPT q pt d k n3 n4 v).1.toInt) (w := yW q x) (v := yW q x) q8 hB rfl rfl l144 (fun j hj => ⟨a2 j hj, w4 j, rfl⟩)
      rw [show yStep lim.toInt (yLT q pt d k) (fun v => (yPT q pt d k n3 n4 v).1.toInt) (yW q x) (yR lim.toInt (yLT q pt d k) (fun v => (yPT q pt d k n3 n4 v).1.toInt) q x) = yR lim.toInt (yLT q pt d k) (fun v => (yPT q pt d k n3 n4 v).1.toInt) q (x + 1) from rfl] at bs
      rw [lg] at un
      have el : (nI (yLT q pt d k (yW q x))).toInt = ((yLT q pt d k (yW q x) : Nat) : Int) := nI_toInt (by omega)
      obtain ⟨f9, ⟨k1, k2⟩, k3⟩ := m18_in (rec := K_m_findStagger_L3 (nI q) By lim Td Tb D (kk + n + 1)) (F := F) (G := G) (fw := fw) (x := nI x) (up := nI (yX q pt d)) (pa := (yPT q pt d k n3 n4 (yW q x)).2) (r := nI (yLT q pt d k (yW q x))) (q := q) q8 q 0 (99999 - q) f4 (by omega) (fun i hi => absurd hi (by omega))
      rw [show 99999 - q + q + 1 = 100000 from by omega] at k1 k2
      have go : ∃ (b2 s2 : Int32) (g4 : Nat → Int32), K_m_findStagger_10 (nI (yLT q pt d k (yW q x))) (K_m_findStagger_L3 (nI q) By lim Td Tb D (kk + n + 1)) (nI x) F G fw f4 (nI (yX q pt d)) b s lim (nI q) Td = K_m_findStagger_L3 (nI q) By lim Td Tb D (kk + n + 1) (nI (x + 1)) F G fw g4 (nI (yX q pt d)) b2 s2 ∧ yBest q (yR lim.toInt (yLT q pt d k) (fun v => (yPT q pt d k n3 n4 v).1.toInt) q (x + 1)) s2 g4 := by
        have cp : ∀ g : Nat → Int32, ∀ j, j < q → f9 j = va_cpy fw g (0 : Int32).toNatClampNeg (0 : Int32).toNatClampNeg (8 : Int32).toNatClampNeg j := fun g j hj => by
          rw [y_cpy8 (by omega)]
          exact k3 j hj
        by_cases c1 : s.toInt = -4
        · rw [if_pos c1, if_pos c1] at bs
          by_cases c2 : lim.toInt < (yPT q pt d k n3 n4 (yW q x)).1.toInt
          · rw [if_pos c2, if_pos c2] at bs
            refine ⟨(yPT q pt d k n3 n4 (yW q x)).2, s, f4, ?_, bs⟩
            generalize kk + n + 1 = j
            simp only [K_m_findStagger_10, K_m_findStagger_12, K_m_findStagger_13, K_m_findStagger_15, K_m_findStagger_16]
            rw [if_neg (by omega), if_pos c1, pk b, if_pos c2, nI_1]
          · rw [if_neg c2, if_neg c2] at bs
            refine ⟨(yPT q pt d k n3 n4 (yW q x)).2, nI (yLT q pt d k (yW q x)), f9, ?_, yBest_ext bs (cp f4)⟩
            rw [nI_1] at k1
            refine Eq.trans ?_ k1
            generalize kk + n + 1 = j
            simp only [K_m_findStagger_10, K_m_findStagger_12, K_m_findStagger_13, K_m_findStagger_15, K_m_findStagger_17]
            rw [if_neg (by omega), if_pos c1, pk b, if_neg c2]
            rfl
        · rw [if_neg c1, if_neg c1] at bs
          by_cases c3 : s.toInt ≤ (nI (yLT q pt d k (yW q x))).toInt
          · rw [if_pos c3, if_pos c3] at bs
            refine ⟨b, s, f4, ?_, bs⟩
            generalize kk + n + 1 = j
            simp only [K_m_findStagger_10, K_m_findStagger_12, K_m_findStagger_14, K_m_findStagger_21]
            rw [if_neg (by omega), if_neg c1, if_pos c3, nI_1]
          · rw [if_neg c3, if_neg c3] at bs
            by_cases c2 : lim.toInt < (yPT q pt d k n3 n4 (yW q x)).1.toInt
            · rw [if_pos c2, if_pos c2] at bs
              refine ⟨(yPT q pt d k n3 n4 (yW q x)).2, s, f4, ?_, bs⟩
              generalize kk + n + 1 = j
              simp only [K_m_findStagger_10, K_m_findStagger_12, K_m_findStagger_14, K_m_findStagger_22, K_m_findStagger_23, K_m_findStagger_24]
              rw [if_neg (by omega), if_neg c1, if_neg c3, pk b, if_pos c2, nI_1]
            · rw [if_neg c2, if_neg c2] at bs
              refine ⟨(yPT q pt d k n3 n4 (yW q x)).2, nI (yLT q pt d k (yW q x)), f9, ?_, yBest_ext bs (cp f4)⟩
              rw [nI_1] at k2
              refine Eq.trans ?_ k2
              generalize kk + n + 1 = j
              simp only [K_m_findStagger_10, K_m_findStagger_12, K_m_findStagger_14, K_m_findStagger_22, K_m_findStagger_23, K_m_findStagger_25]
              rw [if_neg (by omega), if_neg c1, if_neg c3, pk b, if_neg c2]
              rfl
      obtain ⟨b9, s9, g9, g1, g2⟩ := go
      obtain ⟨a', b', s', f1', f2', f3', f4', z1, z2⟩ := ih (x + 1) kk F G fw g9 (nI (yX q pt d)) b9 s9 (by omega) (Or.inr ⟨X0, g2⟩)
      exact ⟨a', b', s', f1', f2', f3', f4', (un.trans g1).trans z1, z2⟩
/-- the reference's stagger -/
theorem r_mstag {pn Td Nm Tb By K D n3 n4 Fm Fg Fw Bw : Nat → Int32} {k : Nat → Nat} {pt : Nat → Int64} {wt : Bool} {q : Nat} {d lim up pa : Int32} (q6 : q ≤ 6) (hE : xE wt q pn pt Td Nm Tb) (hd : xDd d D) (hk : ∀ j, j < q → K j = nI (k j) ∧ 1 ≤ k j ∧ k j ≤ 9) (h3 : ∀ x, x < q → Td (7 * x + 3) = n3 x ∧ Td (7 * x + 4) = n4 x) (hr : ∀ x, x < q → (0 ≤ (n3 x).toInt ∧ (n3 x).toInt ≤ 511) ∧ (0 ≤ (n4 x).toInt ∧ (n4 x).toInt ≤ 511)) : ∃ (a' b' s' : Int32) (f1' f2' By' f3' f4' : Nat → Int32), M_m_findStagger (nI q) lim Td Tb D Fm Fg Fw Bw up pa K By = (a', b', s', f1', f2', By', f3', f4') ∧ yB q pt d k n3 n4 lim (4 ^ q) s' f4' := by
  have q46 : 4 ^ q ≤ 4 ^ 6 := Nat.pow_le_pow_right (by decide) q6
  have q4 : 4 ^ q ≤ 4096 := q46
  obtain ⟨By', s1, s2⟩ := t_setT0 (K := K) (Td := Td) (By := By) (q := q) (by omega)
  have z0 : yB q pt d k n3 n4 lim 0 (-4) Bw := by
    by_cases X0 : yX q pt d = 0
    · exact Or.inl ⟨X0, rfl⟩
    · exact Or.inr ⟨X0, Or.inl ⟨rfl, rfl⟩⟩
  obtain ⟨a', b', s', f1', f2', f3', f4', z1, z2⟩ := ms_in (By := By') (lim := lim) q6 hE hd (fun j hj => ⟨(s2 j hj).trans (hk j hj).1, (hk j hj).2⟩) h3 hr (4 ^ q) 0 (99999 - 4 ^ q) Fm Fg Fw Bw up pa (-4) (by omega) z0
  rw [show 99999 - 4 ^ q + 4 ^ q + 1 = 100000 from by omega] at z1
  refine ⟨a', b', s', f1', f2', By', f3', f4', ?_, z2⟩
  rw [← z1]
  simp only [M_m_findStagger, K_m_findStagger_1, K_m_findStagger_2]
  rw [s1]
  rfl
theorem yKa_0 {X : Nat} : ∀ n, yKa X (fun _ => 0) n = 0 := by
  intro n
  induction n with
  | zero => rfl
  | succ n ih =>
    rw [yKa, ih]
    split <;> rfl
theorem yNo_0 : ∀ n, yNo (fun _ => 0) n = 0 := by
  intro n
  induction n with
  | zero => rfl
  | succ n ih => rw [yNo, ih]
/-- waiting brings nothing sooner -/
theorem y_slow {q : Nat} {pt : Nat → Int64} {d : Int32} {k w : Nat → Nat} (q8 : q ≤ 8) (m : yMono q pt) (hk : ∀ j, j < q → 1 ≤ k j ∧ k j ≤ 9) (X0 : yX q pt d ≠ 0) (hw : ∀ j, w j < 4) : yLT q pt d k (fun _ => 0) ≤ yLT q pt d k w := by
  have row : ∀ v : Nat → Nat, (∀ j, v j < 4) → yLT q pt d k v ≤ 144 ∧ (∀ x, x < q → yT q pt d v k x ≠ 100000 → yT q pt d v k x + v x ≤ yGT q pt d k v x ∧ yGT q pt d k v x ≤ yLT q pt d k v) ∧ ∀ x, x < q → ((yX q pt d).testBit x = true ↔ yT q pt d v k x ≠ 100000) := fun v hv => by
    obtain ⟨fr0, fg0, -, a, b, c⟩ := t_row (fw := fun j => nI (v j)) (fr := fun _ => 0) (fg := fun _ => 0) (ft := fun j => nI (k j)) (s0 := nI (yX q pt d)) (P := fun j => (yX q pt d).testBit j) (w := v) (k := k) (pt := pt) (q := q) (d := d) q8 m (fun j _ => ⟨rfl, by have := hv j; omega⟩) (fun j hj => ⟨rfl, hk j hj⟩) (fun j hj => (xb_nI (by omega)).symm) (fun j hj => ⟨fun z => (yX_alive q8 z).2, fun z => z⟩) (fun j hj _ => by cases (yX q pt d).testBit j <;> simp)
    exact ⟨a, fun x hx z => (b x hx z).2.2, c⟩
  obtain ⟨r2, r3, r4⟩ := row (fun _ => 0) (fun _ => by decide)
  obtain ⟨w2, w3, w4⟩ := row w hw
  obtain ⟨j, hj⟩ := y_some X0
  have jq := (yX_alive q8 hj).1
  have j0 := (r4 j jq).mp hj
  rcases yMx_at (G := yGT q pt d k (fun _ => 0)) q with ⟨-, b⟩ | ⟨x, a, b, c⟩
  · have b1 := b j jq
    have b2 := (r3 j jq j0).2
    omega
  · have x0 : yT q pt d (fun _ => 0) k x ≠ 100000 := fun z => b (if_pos z)
    have y := (w4 x a).mp ((r4 x a).mpr x0)
    have sl9 : yT q pt d (fun _ => 0) k x ≤ yT q pt d w k x := (yM_slow (P := fun x => (yX q pt d).testBit x) (w := w) (k := k) q8 m 201 (by decide) x y).2
    have g1 : yGT q pt d k (fun _ => 0) x = yT q pt d (fun _ => 0) k x + 0 + k x := if_neg x0
    have g2 : yGT q pt d k w x = yT q pt d w k x + w x + k x := if_neg y
    have w9 := (w3 x a y).2
    have ge := yMx_ge (G := yGT q pt d k w) q x a (by omega)
    show yMx _ q ≤ yMx _ q
    omega
/-- the class's stagger, found anew -/
theorem r_cstag {pn rt ft fw srow fr fg cx n3 n4 : Nat → Int32} {k : Nat → Nat} {pt : Nat → Int64} {q : Nat} {d lim sl cup cl c1 c2 : Int32} (q6 : q ≤ 6) (m : yMono q pt) (hk : ∀ j, j < q → rt j = nI (k j) ∧ 1 ≤ k j ∧ k j ≤ 9) (h3 : ∀ x, x < q → pn (8 * x + 3) = n3 x ∧ pn (8 * x + 4) = n4 x) (hr : ∀ x, x < q → (0 ≤ (n3 x).toInt ∧ (n3 x).toInt ≤ 511) ∧ (0 ≤ (n4 x).toInt ∧ (n4 x).toInt ≤ 511)) (hz : ∀ j, j ≤ 144 → cx j = 0) : ∃ (sl' e1 e2 e3 e4 : Int32) (srow' fw' ft' fr' fg' cx' : Nat → Int32), M_findRow 0 c1 c2 cx lim (nI q) pn pt (xA q &&& (d ^^^ (-1))) fr fg rt ft fw srow sl cup cl = (1, sl', srow', e1, e2, e3, e4, fw', ft', fr', fg', cx') ∧ yB q pt d k n3 n4 lim (4 ^ q) sl' srow' ∧ ∀ j, j ≤ 144 → cx' j = 0 := by
  have q8 : q ≤ 8 := by omega
  have f0 : ∀ j, j < 8 → M_fillI 8 0 fw j = nI 0 := fun j hj => if_pos hj
  have t0 : ∀ j, j < 8 → M_copyTakes rt ft j = rt j := fun j hj => y_cpy8 hj
  have da : ∀ j, j < q → xb (nI (xDb q d)) j = xb d j := fun j hj => by
    rw [xDb_b (by omega)]
    simp [hj]
  have db : ∀ j, j < q → xb (xA q &&& (d ^^^ (-1))) j = !xb d j := fun j hj => by
    rw [alive_b q8 (by omega)]
    simp [hj]
  obtain ⟨fr1, fg1, r1, r2, r3, r4⟩ := t_row (fw := M_fillI 8 0 fw) (fr := fr) (fg := fg) (ft := M_copyTakes rt ft) (s0 := xA q &&& (d ^^^ (-1))) (P := fun j => xb (xA q &&& (d ^^^ (-1))) j) (w := fun _ => 0) (k := k) (pt := pt) (q := q) (d := d) q8 m (fun j hj => ⟨f0 j (by omega), by decide⟩) (fun j hj => ⟨(t0 j (by omega)).trans (hk j hj).1, (hk j hj).2⟩) (fun j _ => rfl) (fun j hj => by
    show (xb (xA q &&& (d ^^^ (-1))) j = true → xb (nI (xDb q d)) j = false) ∧ ((yX q pt d).testBit j = true → xb (xA q &&& (d ^^^ (-1))) j = true)
    rw [da j hj, db j hj]
    refine ⟨fun z => by simpa using z, fun z => ?_⟩
    have a := (yX_alive q8 z).2
    rw [da j hj] at a
    rw [a]
    rfl) (fun j hj z => by
    show xb (xA q &&& (d ^^^ (-1))) j = true ∨ _
    rw [da j hj] at z
    rw [db j hj, z]
    exact Or.inl rfl)
  have un : M_findRow 0 c1 c2 cx lim (nI q) pn pt (xA q &&& (d ^^^ (-1))) fr fg rt ft fw srow sl cup cl = if (nI (yX q pt d)).toInt = 0 then ((1 : Int32), (-4 : Int32), M_fillI 8 0 srow, nI (yX q pt d), nI (yLT q pt d k (fun _ => 0)), c1, c2, M_fillI 8 0 fw, M_copyTakes rt ft, fr1, fg1, cx) else K_findRow_L10 (M_copyTakes rt ft) (nI (yLT q pt d k (fun _ => 0))) (nI (yX q pt d)) lim (nI q) pn pt 100000 0 1 (-4) cx (M_fillI 8 0 srow) (nI (yX q pt d)) (nI (yLT q pt d k (fun _ => 0))) c1 c2 (M_fillI 8 0 fw) fr1 fg1 := by
    simp only [K_findRow_9, K_findRow_8, K_findRow_7, K_findRow_6, K_findRow_5, K_findRow_4, K_findRow_2, K_findRow_3, K_findRow_1, M_findRow]
    rw [if_pos (by decide), r1]
  have xl := yX_lt (pt := pt) (d := d) q8
  have ex : (nI (yX q pt d)).toInt = ((yX q pt d : Nat) : Int) := nI_toInt (by omega)
  by_cases X0 : yX q pt d = 0
  · rw [if_pos (by omega)] at un
    exact ⟨_, _, _, _, _, _, _, _, _, _, _, un, Or.inl ⟨X0, rfl⟩, hz⟩
  · rw [if_neg (by omega)] at un
    obtain ⟨sl', e1, e2, e3, e4, srow', fw', fr', fg', cx', y1, y2, y3⟩ := cl_in (ft := M_copyTakes rt ft) (lim := lim) q6 m (fun j hj => ⟨(t0 j (by omega)).trans (hk j hj).1, (hk j hj).2⟩) h3 hr (fun w hw => y_slow q8 m (fun j hj => (hk j hj).2) X0 hw) 4096 0 95903 1 (-4) (nI (yX q pt d)) (nI (yLT q pt d k (fun _ => 0))) c1 c2 cx (M_fillI 8 0 srow) (M_fillI 8 0 fw) fr1 fg1 (fun _ => 0) (by decide) hz f0 (fun _ => Nat.zero_lt_succ 3) (Or.inl ⟨rfl, ⟨fun _ => Nat.zero_lt_succ 3, fun _ _ => rfl⟩, yKa_0 q, by rw [yNo_0 q]; exact Or.inl ⟨rfl, rfl⟩⟩)
    exact ⟨sl', e1, e2, e3, e4, srow', fw', M_copyTakes rt ft, fr', fg', cx', un.trans y1, Or.inr ⟨X0, y2⟩, y3⟩
-- 98.l.adopt
/-- what the class keeps of a stagger: nothing, or the plan's -/
def yKn (q : Nat) (pt : Nat → Int64) (d : Int32) (k : Nat → Nat) (n3 n4 : Nat → Int32) (lim kn sl : Int32) (srow : Nat → Int32) : Prop := kn = 0 ∨ (kn = 1 ∧ q ≤ 6 ∧ yB q pt d k n3 n4 lim (4 ^ q) sl srow)
theorem t_findK {pn rt ft fw srow fr fg cx n3 n4 : Nat → Int32} {k : Nat → Nat} {pt : Nat → Int64} {q : Nat} {d lim kn sl cup cl c1 c2 : Int32} (q6 : q ≤ 6) (m : yMono q pt) (hk : ∀ j, j < q → rt j = nI (k j) ∧ 1 ≤ k j ∧ k j ≤ 9) (h3 : ∀ x, x < q → pn (8 * x + 3) = n3 x ∧ pn (8 * x + 4) = n4 x) (hr : ∀ x, x < q → (0 ≤ (n3 x).toInt ∧ (n3 x).toInt ≤ 511) ∧ (0 ≤ (n4 x).toInt ∧ (n4 x).toInt ≤ 511)) (hz : ∀ j, j ≤ 144 → cx j = 0) (hc : yKn q pt d k n3 n4 lim kn sl srow) : ∃ (sl' e1 e2 e3 e4 : Int32) (srow' fw' ft' fr' fg' cx' : Nat → Int32), M_findRow kn c1 c2 cx lim (nI q) pn pt (xA q &&& (d ^^^ (-1))) fr fg rt ft fw srow sl cup cl = (1, sl', srow', e1, e2, e3, e4, fw', ft', fr', fg', cx') ∧ yB q pt d k n3 n4 lim (4 ^ q) sl' srow' ∧ ∀ j, j ≤ 144 → cx' j = 0 := by
  rcases hc with e | ⟨e, -, hb9⟩
  · rw [e]
    exact r_cstag q6 m hk h3 hr hz
  · rw [e]
    refine ⟨sl, cup, cl, c1, c2, srow, fw, ft, fr, fg, cx, ?_, hb9, hz⟩
    simp only [M_findRow, K_findRow_1, K_findRow_3]
    rw [if_neg (by decide)]
/-- one on both sides -/
theorem yB_one {q : Nat} {pt : Nat → Int64} {d : Int32} {k : Nat → Nat} {n3 n4 : Nat → Int32} {lim s s' : Int32} {x : Nat} {f f' : Nat → Int32} (h : yB q pt d k n3 n4 lim x s f) (h' : yB q pt d k n3 n4 lim x s' f') : s = s' ∧ (s.toInt = -4 ∨ ∀ j, j < q → f j = f' j ∧ 0 ≤ (f j).toInt ∧ (f j).toInt ≤ 9) := by
  have m4 : (-4 : Int32).toInt = -4 := by decide
  rcases h with ⟨a, b⟩ | ⟨a, b⟩
  · rcases h' with ⟨-, b'⟩ | ⟨a', -⟩
    · exact ⟨b.trans b'.symm, Or.inl (by rw [b]; exact m4)⟩
    · exact absurd a a'
  · rcases h' with ⟨a', -⟩ | ⟨-, b'⟩
    · exact absurd a' a
    · rcases b with ⟨c1, c2⟩ | ⟨t, u, c1, c2, c3, c4, c5⟩
      · rcases b' with ⟨-, c2'⟩ | ⟨t', u', c1', -, -, -, -⟩
        · exact ⟨c2.trans c2'.symm, Or.inl (by rw [c2]; exact m4)⟩
        · rw [c1] at c1'
          exact absurd c1' (by simp)
      · rcases b' with ⟨c1', -⟩ | ⟨t', u', c1', -, c3', c4', -⟩
        · rw [c1] at c1'
          exact absurd c1' (by simp)
        · rw [c1] at c1'
          have z := Option.some.inj c1'
          rw [Prod.mk.injEq] at z
          refine ⟨by rw [c3, c3', z.1], Or.inr (fun j hj => ?_)⟩
          have u4 := c5 j hj
          have e : (nI (u j)).toInt = ((u j : Nat) : Int) := nI_toInt (by omega)
          refine ⟨by rw [c4 j hj, c4' j hj, z.2], ?_⟩
          rw [c4 j hj, e]
          exact ⟨by omega, by omega⟩
/-- stagger: one on both sides -/
theorem x_stagger_eq {pn rt ft fw srow fr fg cx Td Nm Tb K By D Fm Fg Fw Bw : Nat → Int32} {pt : Nat → Int64} {k : Nat → Nat} {q : Nat} {d lim kn sl cup cl c1 c2 up pa so a0 : Int32} (q8 : q ≤ 8) (hE : xE true q pn pt Td Nm Tb) (hd : xDd d D) (hk : ∀ j, j < q → rt j = nI (k j) ∧ K j = nI (k j) ∧ 1 ≤ k j ∧ k j ≤ 9) (hn : ∀ j, j < 64 → 0 ≤ (pn j).toInt ∧ (pn j).toInt ≤ 511) (hz : ∀ j, j ≤ 144 → cx j = 0) (hc : yKn q pt d k (fun x => pn (8 * x + 3)) (fun x => pn (8 * x + 4)) lim kn sl srow) {r kn9 sl9 cup9 cl9 cp9 ct9 v up9 pa9 so9 : Int32} {sr9 fw9 ft9 fr9 fg9 cx9 Fm9 Fg9 By9 Fw9 Bw9 : Nat → Int32} (x1 : M_x_stagger a0 (nI q) kn c1 c2 cx lim pn pt fr fg rt ft fw srow sl cup cl d = (r, kn9, sl9, sr9, cup9, cl9, cp9, ct9, fw9, ft9, fr9, fg9, cx9)) (x2 : M_m_stagger a0 (nI q) lim Td Tb D Fm Fg Fw Bw up pa K By so = (v, up9, pa9, so9, Fm9, Fg9, By9, Fw9, Bw9)) : r = v ∧ (∀ j, j ≤ 144 → cx9 j = 0) ∧ yKn q pt d k (fun x => pn (8 * x + 3)) (fun x => pn (8 * x + 4)) lim kn9 sl9 sr9 := by
  have qq : (nI q).toInt = (q : Int) := nI_toInt (by omega)
  have m := xE_mono hE
  have m4 : (-4 : Int32).toInt = -4 := by decide
  have h3 : ∀ x, x < q → Td (7 * x + 3) = pn (8 * x + 3) ∧ Td (7 * x + 4) = pn (8 * x + 4) := fun x hx => ⟨((hE x hx).1 3 (by decide) (Or.inl (by decide))).symm, ((hE x hx).1 4 (by decide) (Or.inl (by decide))).symm⟩
  have hr : ∀ x, x < q → (0 ≤ (pn (8 * x + 3)).toInt ∧ (pn (8 * x + 3)).toInt ≤ 511) ∧ (0 ≤ (pn (8 * x + 4)).toInt ∧ (pn (8 * x + 4)).toInt ≤ 511) := fun x hx => ⟨hn _ (by omega), hn _ (by omega)⟩
  simp only [K_x_stagger_7, K_x_stagger_6, K_x_stagger_4, K_x_stagger_5, K_x_stagger_2, K_x_stagger_8, K_x_stagger_17, K_x_stagger_16, K_x_stagger_15, K_x_stagger_14, K_x_stagger_12, K_x_stagger_13, K_x_stagger_10, K_x_stagger_11, K_x_stagger_9, K_x_stagger_3, K_x_stagger_1, M_x_stagger] at x1
  simp only [K_m_stagger_8, K_m_stagger_7, K_m_stagger_6, K_m_stagger_4, K_m_stagger_5, K_m_stagger_2, K_m_stagger_15, K_m_stagger_14, K_m_stagger_13, K_m_stagger_11, K_m_stagger_12, K_m_stagger_9, K_m_stagger_10, K_m_stagger_3, K_m_stagger_1, M_m_stagger] at x2
  by_cases q6 : q ≤ 6
  · obtain ⟨sl', e1, e2, e3, e4, srow', fw', ft', fr', fg', cx', f1, f2, f3⟩ := t_findK (pn := pn) (rt := rt) (ft := ft) (fw := fw) (fr := fr) (fg := fg) (cup := cup) (cl := cl) (c1 := c1) (c2 := c2) q6 m (fun j hj => ⟨(hk j hj).1, (hk j hj).2.2⟩) (fun x _ => ⟨rfl, rfl⟩) hr hz hc
    obtain ⟨a', b', s', g1', g2', By', g3', g4', g1, g2⟩ := r_mstag (Fm := Fm) (Fg := Fg) (Fw := Fw) (Bw := Bw) (By := By) (up := up) (pa := pa) (lim := lim) q6 hE hd (fun j hj => ⟨(hk j hj).2.1, (hk j hj).2.2⟩) h3 hr
    obtain ⟨o1, o2⟩ := yB_one f2 g2
    subst o1
    by_cases a : a0.toInt = 0
    · rw [if_pos a, if_pos (by omega), t_alive, f1] at x1
      rw [if_pos a, if_pos (by omega), g1] at x2
      simp only [Prod.mk.injEq] at x1
      obtain ⟨y1, y2, y3, y4, -, -, -, -, -, -, -, -, y13⟩ := x1
      refine ⟨?_, by rw [← y13]; exact f3, by rw [← y2, ← y3, ← y4]; exact Or.inr ⟨rfl, q6, f2⟩⟩
      dsimp only at x2
      by_cases z : sl'.toInt = -4
      · rw [if_pos z] at x2
        simp only [Prod.mk.injEq] at x2
        rw [← y1, ← x2.1]
        exact Int32.toInt_inj.mp (by omega)
      · rw [if_neg z] at x2
        simp only [Prod.mk.injEq] at x2
        rw [← y1, ← x2.1]
    · rw [if_neg a] at x1 x2
      by_cases b : a0.toInt < 10
      · rw [if_pos b] at x1
        rw [if_neg (by omega)] at x2
        simp only [Prod.mk.injEq] at x1 x2
        obtain ⟨y1, y2, y3, y4, -, -, -, -, -, -, -, -, y13⟩ := x1
        exact ⟨by rw [← y1, ← x2.1], by rw [← y13]; exact hz, by rw [← y2, ← y3, ← y4]; exact hc⟩
      · rw [if_neg b] at x1
        by_cases c : a0.toInt < 10 + (q : Int)
        · rw [if_pos (by omega), if_pos (by omega), t_alive, f1] at x1
          rw [if_pos (by omega), if_pos (by omega), g1] at x2
          dsimp only at x1 x2
          by_cases z : sl'.toInt = -4
          · rw [if_pos z] at x1 x2
            simp only [Prod.mk.injEq] at x1 x2
            obtain ⟨y1, y2, y3, y4, -, -, -, -, -, -, -, -, y13⟩ := x1
            exact ⟨by rw [← y1, ← x2.1]; exact Int32.toInt_inj.mp (by omega), by rw [← y13]; exact f3, by rw [← y2, ← y3, ← y4]; exact Or.inr ⟨rfl, q6, f2⟩⟩
          · rw [if_neg z] at x1 x2
            simp only [Prod.mk.injEq] at x1 x2
            obtain ⟨y1, y2, y3, y4, -, -, -, -, -, -, -, -, y13⟩ := x1
            have t10 : (10 : Int32).toInt = 10 := by decide
            have e9 : (a0 - 10).toInt = a0.toInt - 10 := xsub rfl t10 (by omega) (by omega)
            have k9 := xtn (x := a0 - 10) (by omega)
            exact ⟨by rw [← y1, ← x2.1]; exact ((o2.resolve_left z) _ (by omega)).1, by rw [← y13]; exact f3, by rw [← y2, ← y3, ← y4]; exact Or.inr ⟨rfl, q6, f2⟩⟩
        · rw [if_neg (by omega)] at x1 x2
          simp only [Prod.mk.injEq] at x1 x2
          obtain ⟨y1, y2, y3, y4, -, -, -, -, -, -, -, -, y13⟩ := x1
          exact ⟨by rw [← y1, ← x2.1], by rw [← y13]; exact hz, by rw [← y2, ← y3, ← y4]; exact hc⟩
  · by_cases a : a0.toInt = 0
    · rw [if_pos a, if_neg (by omega)] at x1 x2
      simp only [Prod.mk.injEq] at x1 x2
      obtain ⟨y1, y2, y3, y4, -, -, -, -, -, -, -, -, y13⟩ := x1
      exact ⟨by rw [← y1, ← x2.1], by rw [← y13]; exact hz, by rw [← y2, ← y3, ← y4]; exact hc⟩
    · rw [if_neg a] at x1 x2
      by_cases b : a0.toInt < 10
      · rw [if_pos b] at x1
        rw [if_neg (by omega)] at x2
        simp only [Prod.mk.injEq] at x1 x2
        obtain ⟨y1, y2, y3, y4, -, -, -, -, -, -, -, -, y13⟩ := x1
        exact ⟨by rw [← y1, ← x2.1], by rw [← y13]; exact hz, by rw [← y2, ← y3, ← y4]; exact hc⟩
      · rw [if_neg b] at x1
        by_cases c : a0.toInt < 10 + (q : Int)
        · rw [if_pos (by omega), if_neg (by omega)] at x1 x2
          simp only [Prod.mk.injEq] at x1 x2
          obtain ⟨y1, y2, y3, y4, -, -, -, -, -, -, -, -, y13⟩ := x1
          exact ⟨by rw [← y1, ← x2.1], by rw [← y13]; exact hz, by rw [← y2, ← y3, ← y4]; exact hc⟩
        · rw [if_neg (by omega)] at x1 x2
          simp only [Prod.mk.injEq] at x1 x2
          obtain ⟨y1, y2, y3, y4, -, -, -, -, -, -, -, -, y13⟩ := x1
          exact ⟨by rw [← y1, ← x2.1], by rw [← y13]; exact hz, by rw [← y2, ← y3, ← y4]; exact hc⟩
theorem t_pSet {srow pn : Nat → Int32} {q : Nat} (q8 : q ≤ 8) : ∃ pn' : Nat → Int32, M_pSetWaits (nI q) srow pn = pn' ∧ (∀ j, (∀ r, r < q → j ≠ 8 * r + 5) → pn' j = pn j) ∧ ∀ r, r < q → pn' (8 * r + 5) = srow r := by
  obtain ⟨f', a1, a2, a3, -⟩ := sw_in (srow := srow) q8 q 0 (99999 - q) pn (by omega)
  rw [show 99999 - q + q + 1 = 100000 from by omega] at a1
  exact ⟨f', a1, a2, fun r hr => a3 r (by omega) hr⟩
/-- adopt: one on both sides -/
theorem x_adopt_eq {pn rt ft fw srow fr fg cx wk Td Nm Tb K By D Fm Fg Fw Bw : Nat → Int32} {pt : Nat → Int64} {k : Nat → Nat} {q : Nat} {d lim kn pk sl cup cl c1 c2 up pa so : Int32} (q8 : q ≤ 8) (hE : xE true q pn pt Td Nm Tb) (hd : xDd d D) (hk : ∀ j, j < q → rt j = nI (k j) ∧ K j = nI (k j) ∧ 1 ≤ k j ∧ k j ≤ 9) (hn : ∀ j, j < 64 → 0 ≤ (pn j).toInt ∧ (pn j).toInt ≤ 511) (hz : ∀ j, j ≤ 144 → cx j = 0) (hc : yKn q pt d k (fun x => pn (8 * x + 3)) (fun x => pn (8 * x + 4)) lim kn sl srow) {r kn9 sl9 cup9 cl9 cp9 ct9 pk9 v up9 pa9 so9 : Int32} {sr9 fw9 ft9 fr9 fg9 cx9 pn9 wk9 Fm9 Fg9 By9 Fw9 Td9 Bw9 : Nat → Int32} (x1 : M_x_adopt (nI q) pn pk wk kn c1 c2 cx lim pt fr fg rt ft fw srow sl cup cl d = (r, kn9, sl9, sr9, cup9, cl9, cp9, ct9, fw9, ft9, fr9, fg9, cx9, pn9, pk9, wk9)) (x2 : M_m_adopt (nI q) Td lim Tb D Fm Fg Fw Bw up pa K By so = (v, up9, pa9, so9, Fm9, Fg9, By9, Fw9, Td9, Bw9)) : r = v ∧ xE true q pn9 pt Td9 Nm Tb ∧ (∀ j, j ≤ 144 → cx9 j = 0) ∧ yKn q pt d k (fun x => pn9 (8 * x + 3)) (fun x => pn9 (8 * x + 4)) lim kn9 sl9 sr9 ∧ ((pn9 = pn ∧ pk9 = pk ∧ wk9 = wk ∧ Td9 = Td) ∨ (pk9 = 0 ∧ ∀ j, j < 64 → wk9 j = 0)) := by
  have qq : (nI q).toInt = (q : Int) := nI_toInt (by omega)
  have m := xE_mono hE
  have m4 : (-4 : Int32).toInt = -4 := by decide
  have h3 : ∀ x, x < q → Td (7 * x + 3) = pn (8 * x + 3) ∧ Td (7 * x + 4) = pn (8 * x + 4) := fun x hx => ⟨((hE x hx).1 3 (by decide) (Or.inl (by decide))).symm, ((hE x hx).1 4 (by decide) (Or.inl (by decide))).symm⟩
  have hr : ∀ x, x < q → (0 ≤ (pn (8 * x + 3)).toInt ∧ (pn (8 * x + 3)).toInt ≤ 511) ∧ (0 ≤ (pn (8 * x + 4)).toInt ∧ (pn (8 * x + 4)).toInt ≤ 511) := fun x hx => ⟨hn _ (by omega), hn _ (by omega)⟩
  simp only [K_x_adopt_6, K_x_adopt_9, K_x_adopt_8, K_x_adopt_7, K_x_adopt_5, K_x_adopt_4, K_x_adopt_2, K_x_adopt_3, K_x_adopt_1, M_x_adopt] at x1
  by_cases q6 : q ≤ 6
  · obtain ⟨sl', e1, e2, e3, e4, srow', fw', ft', fr', fg', cx', f1, f2, f3⟩ := t_findK (pn := pn) (rt := rt) (ft := ft) (fw := fw) (fr := fr) (fg := fg) (cup := cup) (cl := cl) (c1 := c1) (c2 := c2) q6 m (fun j hj => ⟨(hk j hj).1, (hk j hj).2.2⟩) (fun x _ => ⟨rfl, rfl⟩) hr hz hc
    obtain ⟨a', b', s', g1', g2', By', g3', g4', g1, g2⟩ := r_mstag (Fm := Fm) (Fg := Fg) (Fw := Fw) (Bw := Bw) (By := By) (up := up) (pa := pa) (lim := lim) q6 hE hd (fun j hj => ⟨(hk j hj).2.1, (hk j hj).2.2⟩) h3 hr
    obtain ⟨o1, o2⟩ := yB_one f2 g2
    subst o1
    obtain ⟨Td', b1, b2, b3, -⟩ := aw_in (B := g4') (u1 := g1') (u2 := g2') (u3 := By') (u4 := g3') (s := sl') (a := a') (b := b') q8 q 0 (99999 - q) Td (by omega)
    rw [show 99999 - q + q + 1 = 100000 from by omega] at b1
    have x2 : K_m_adopt_L5 (nI q) sl' a' b' g1' g2' By' g3' g4' 100000 0 Td = (v, up9, pa9, so9, Fm9, Fg9, By9, Fw9, Td9, Bw9) := by
      rw [← x2]
      simp only [M_m_adopt, K_m_adopt_1, K_m_adopt_2, K_m_adopt_4]
      rw [if_pos (by omega), g1]
    have x2 := b1.symm.trans x2
    simp only [Prod.mk.injEq] at x2
    obtain ⟨v1, -, -, -, -, -, -, -, v9, -⟩ := x2
    rw [if_pos (by omega), t_alive, f1] at x1
    dsimp only at x1
    by_cases z : sl'.toInt = -4
    · rw [if_pos z] at x1
      simp only [Prod.mk.injEq] at x1
      obtain ⟨y1, y2, y3, y4, -, -, -, -, -, -, -, -, y13, y14, y15, y16⟩ := x1
      have eT : Td' = Td := by
        funext j
        by_cases w : ∃ r, r < q ∧ j = 7 * r + 5
        · obtain ⟨r, w1, w2⟩ := w
          rw [w2, b3 r (by omega) w1, if_pos z]
        · exact b2 j (fun r w1 w2 => w ⟨r, w1, w2⟩)
      refine ⟨by rw [← y1, ← v1], ?_, by rw [← y13]; exact f3, by rw [← y2, ← y3, ← y4, ← y14]; exact Or.inr ⟨rfl, q6, f2⟩, Or.inl ⟨y14.symm, y15.symm, y16.symm, by rw [← v9]; exact eT⟩⟩
      rw [← y14, ← v9, eT]
      exact hE
    · obtain ⟨pn', p1, p2, p3⟩ := t_pSet (srow := srow') (pn := pn) q8
      have fo := r_forget wk
      rw [if_neg z, p1] at x1
      simp only [Prod.mk.injEq] at x1
      obtain ⟨y1, y2, y3, y4, -, -, -, -, -, -, -, -, y13, y14, y15, y16⟩ := x1
      refine ⟨by rw [← y1, ← v1], ?_, by rw [← y13]; exact f3, Or.inl y2.symm, Or.inr ⟨y15.symm, by rw [← y16]; exact fo⟩⟩
      rw [← y14, ← v9]
      intro r hr9
      obtain ⟨a, b, c, e, -⟩ := hE r hr9
      have o := (o2.resolve_left z) r hr9
      refine ⟨fun j hj hw => ?_, ?_, c, e, fun _ => ?_⟩
      · by_cases j5 : j = 5
        · rw [j5, p3 r hr9, b3 r (by omega) hr9, if_neg z]
          exact o.1
        · rw [p2 _ (fun r' _ => by omega), b2 _ (fun r' _ => by omega)]
          exact a j hj (Or.inl j5)
      · rw [p2 _ (fun r' _ => by omega)]
        exact b
      · rw [b3 r (by omega) hr9, if_neg z, ← o.1]
        exact o.2
  · rw [if_neg (by omega)] at x1
    simp only [K_m_adopt_6, K_m_adopt_8, K_m_adopt_9, K_m_adopt_7, K_m_adopt_5, K_m_adopt_4, K_m_adopt_2, K_m_adopt_3, K_m_adopt_1, M_m_adopt] at x2
    rw [if_neg (by omega)] at x2
    simp only [Prod.mk.injEq] at x1 x2
    obtain ⟨y1, y2, y3, y4, -, -, -, -, -, -, -, -, y13, y14, y15, y16⟩ := x1
    obtain ⟨v1, -, -, -, -, -, -, -, v9, -⟩ := x2
    exact ⟨by rw [← y1, ← v1], by rw [← y14, ← v9]; exact hE, by rw [← y13]; exact hz, by rw [← y2, ← y3, ← y4, ← y14]; exact hc, Or.inl ⟨y14.symm, y15.symm, y16.symm, v9.symm⟩⟩
-- 99.a.times
/-- the waits told: the class -/
theorem cw_in {pn f : Nat → Int32} {q : Nat} (q8 : q ≤ 8) : ∀ (m x k : Nat), x + m = q → K_cSetWaits_L2 (nI q) pn (k + m + 1) (nI x) (yF (fun _ => true) (fun j => pn (8 * j + 5)) f x) = yF (fun _ => true) (fun j => pn (8 * j + 5)) f q := by
  have qq : (nI q).toInt = (q : Int) := nI_toInt (by omega)
  intro m
  induction m with
  | zero =>
    intro x k hx
    have ex : (nI x).toInt = (x : Int) := nI_toInt (by omega)
    obtain rfl : x = q := by omega
    simp only [K_cSetWaits_L2, K_cSetWaits_3, K_cSetWaits_5, K_cSetWaits_4, K_cSetWaits_2, K_cSetWaits_1, M_cSetWaits]
    rw [if_pos (by omega)]
  | succ m ih =>
    intro x k hx
    have ex : (nI x).toInt = (x : Int) := nI_toInt (by omega)
    have exc : (nI x).toNatClampNeg = x := nI_clamp (by omega)
    have z := ih (x + 1) k (by omega)
    rw [← z]
    show K_cSetWaits_L2 (nI q) pn ((k + m + 1) + 1) (nI x) _ = _
    generalize k + m + 1 = j
    simp only [K_cSetWaits_L2, K_cSetWaits_3, K_cSetWaits_5, K_cSetWaits_4, K_cSetWaits_2, K_cSetWaits_1, M_cSetWaits]
    rw [if_neg (by omega), exc, nI_1, show M_number pn (nI x) 5 = pn (8 * x + 5) from t_nb (k := 5) (by omega) (by decide), show upd (yF (fun _ => true) (fun j => pn (8 * j + 5)) f x) x (pn (8 * x + 5)) = _ from yF_put (c := fun _ => true) (v := fun j => pn (8 * j + 5)) rfl]
theorem t_cSetW {pn f : Nat → Int32} {q : Nat} (q8 : q ≤ 8) : M_cSetWaits (nI q) pn f = yF (fun _ => true) (fun j => pn (8 * j + 5)) f q := by
  have z := cw_in (f := f) (pn := pn) q8 q 0 (99999 - q) (by omega)
  rw [show 99999 - q + q + 1 = 100000 from by omega, yF_0] at z
  exact z
/-- the times told: the class -/
theorem ct_in {pn f : Nat → Int32} {q c : Nat} (q8 : q ≤ 8) (c8 : c < 8) : ∀ (m x k : Nat), x + m = q → K_cSetTakes_L2 (nI q) pn (nI c) (k + m + 1) (nI x) (yF (fun _ => true) (fun j => pn (8 * j + c)) f x) = yF (fun _ => true) (fun j => pn (8 * j + c)) f q := by
  have qq : (nI q).toInt = (q : Int) := nI_toInt (by omega)
  intro m
  induction m with
  | zero =>
    intro x k hx
    have ex : (nI x).toInt = (x : Int) := nI_toInt (by omega)
    obtain rfl : x = q := by omega
    simp only [K_cSetTakes_L2, K_cSetTakes_3, K_cSetTakes_5, K_cSetTakes_4, K_cSetTakes_2, K_cSetTakes_1, M_cSetTakes]
    rw [if_pos (by omega)]
  | succ m ih =>
    intro x k hx
    have ex : (nI x).toInt = (x : Int) := nI_toInt (by omega)
    have exc : (nI x).toNatClampNeg = x := nI_clamp (by omega)
    have z := ih (x + 1) k (by omega)
    rw [← z]
    show K_cSetTakes_L2 (nI q) pn (nI c) ((k + m + 1) + 1) (nI x) _ = _
    generalize k + m + 1 = j
    simp only [K_cSetTakes_L2, K_cSetTakes_3, K_cSetTakes_5, K_cSetTakes_4, K_cSetTakes_2, K_cSetTakes_1, M_cSetTakes]
    rw [if_neg (by omega), exc, nI_1, show M_number pn (nI x) (nI c) = pn (8 * x + c) from t_nb (by omega) c8, show upd (yF (fun _ => true) (fun j => pn (8 * j + c)) f x) x (pn (8 * x + c)) = _ from yF_put (c := fun _ => true) (v := fun j => pn (8 * j + c)) rfl]
theorem t_cSetT {pn f : Nat → Int32} {q c : Nat} (q8 : q ≤ 8) (c8 : c < 8) : M_cSetTakes (nI q) pn (nI c) f = yF (fun _ => true) (fun j => pn (8 * j + c)) f q := by
  have z := ct_in (f := f) (pn := pn) q8 c8 q 0 (99999 - q) (by omega)
  rw [show 99999 - q + q + 1 = 100000 from by omega, yF_0] at z
  exact z
/-- the waits told: the reference -/
theorem mw_in {Td f : Nat → Int32} {q : Nat} (q8 : q ≤ 8) : ∀ (m x k : Nat), x + m = q → K_m_setWaits_L2 (nI q) Td (k + m + 1) (nI x) (yF (fun _ => true) (fun j => Td (7 * j + 5)) f x) = yF (fun _ => true) (fun j => Td (7 * j + 5)) f q := by
  have qq : (nI q).toInt = (q : Int) := nI_toInt (by omega)
  intro m
  induction m with
  | zero =>
    intro x k hx
    have ex : (nI x).toInt = (x : Int) := nI_toInt (by omega)
    obtain rfl : x = q := by omega
    simp only [K_m_setWaits_L2, K_m_setWaits_3, K_m_setWaits_5, K_m_setWaits_4, K_m_setWaits_2, K_m_setWaits_1, M_m_setWaits]
    rw [if_pos (by omega)]
  | succ m ih =>
    intro x k hx
    have ex : (nI x).toInt = (x : Int) := nI_toInt (by omega)
    have exc : (nI x).toNatClampNeg = x := nI_clamp (by omega)
    have z := ih (x + 1) k (by omega)
    rw [← z]
    show K_m_setWaits_L2 (nI q) Td ((k + m + 1) + 1) (nI x) _ = _
    generalize k + m + 1 = j
    simp only [K_m_setWaits_L2, K_m_setWaits_3, K_m_setWaits_5, K_m_setWaits_4, K_m_setWaits_2, K_m_setWaits_1, M_m_setWaits]
    rw [if_neg (by omega), exc, nI_1, show M_m_of Td (nI x) 5 = Td (7 * x + 5) from t_of7 (k := 5) (by omega) (by decide), show upd (yF (fun _ => true) (fun j => Td (7 * j + 5)) f x) x (Td (7 * x + 5)) = _ from yF_put (c := fun _ => true) (v := fun j => Td (7 * j + 5)) rfl]
theorem r_setW {Td f : Nat → Int32} {q : Nat} (q8 : q ≤ 8) : M_m_setWaits (nI q) Td f = yF (fun _ => true) (fun j => Td (7 * j + 5)) f q := by
  have z := mw_in (f := f) (Td := Td) q8 q 0 (99999 - q) (by omega)
  rw [show 99999 - q + q + 1 = 100000 from by omega, yF_0] at z
  exact z
/-- the times told: the reference -/
theorem mt_in {Td K f : Nat → Int32} {a0 : Int32} {q c : Nat} (q8 : q ≤ 8) (c8 : c < 8) (a1 : ¬ a0.toInt = 0) (a2 : a0 - 1 = nI c) : ∀ (m x k : Nat), x + m = q → K_m_setTimes_L2 (nI q) a0 K Td (k + m + 1) (nI x) (yF (fun _ => true) (fun j => Td (7 * j + c)) f x) = yF (fun _ => true) (fun j => Td (7 * j + c)) f q := by
  have qq : (nI q).toInt = (q : Int) := nI_toInt (by omega)
  intro m
  induction m with
  | zero =>
    intro x k hx
    have ex : (nI x).toInt = (x : Int) := nI_toInt (by omega)
    obtain rfl : x = q := by omega
    simp only [K_m_setTimes_L2, K_m_setTimes_3, K_m_setTimes_6, K_m_setTimes_7, K_m_setTimes_5, K_m_setTimes_4, K_m_setTimes_2, K_m_setTimes_1, M_m_setTimes]
    rw [if_pos (by omega)]
  | succ m ih =>
    intro x k hx
    have ex : (nI x).toInt = (x : Int) := nI_toInt (by omega)
    have exc : (nI x).toNatClampNeg = x := nI_clamp (by omega)
    have z := ih (x + 1) k (by omega)
    rw [← z]
    show K_m_setTimes_L2 (nI q) a0 K Td ((k + m + 1) + 1) (nI x) _ = _
    generalize k + m + 1 = j
    simp only [K_m_setTimes_L2, K_m_setTimes_3, K_m_setTimes_6, K_m_setTimes_7, K_m_setTimes_5, K_m_setTimes_4, K_m_setTimes_2, K_m_setTimes_1, M_m_setTimes]
    rw [if_neg (by omega), if_neg a1, a2, exc, nI_1, show M_m_of Td (nI x) (nI c) = Td (7 * x + c) from t_of7 (by omega) c8, show upd (yF (fun _ => true) (fun j => Td (7 * j + c)) f x) x (Td (7 * x + c)) = _ from yF_put (c := fun _ => true) (v := fun j => Td (7 * j + c)) rfl]
theorem r_setT {Td K f : Nat → Int32} {a0 : Int32} {q c : Nat} (q8 : q ≤ 8) (c8 : c < 8) (a1 : ¬ a0.toInt = 0) (a2 : a0 - 1 = nI c) : M_m_setTimes (nI q) a0 K Td f = yF (fun _ => true) (fun j => Td (7 * j + c)) f q := by
  have z := mt_in (f := f) (Td := Td) (K := K) q8 c8 a1 a2 q 0 (99999 - q) (by omega)
  rw [show 99999 - q + q + 1 = 100000 from by omega, yF_0] at z
  exact z
/-- who may come up: those alive, or those that can be up -/
theorem y_mayA {q : Nat} {pt : Nat → Int64} {d : Int32} (q8 : q ≤ 8) : (∀ j, j < q → (xb (xA q &&& (d ^^^ (-1))) j = true → xb (nI (xDb q d)) j = false) ∧ ((yX q pt d).testBit j = true → xb (xA q &&& (d ^^^ (-1))) j = true)) ∧ ∀ j, j < q → xb (nI (xDb q d)) j = false → xb (xA q &&& (d ^^^ (-1))) j = true ∨ (yX q pt d).testBit j = false := by
  have da : ∀ j, j < q → xb (nI (xDb q d)) j = xb d j := fun j hj => by
    rw [xDb_b (by omega)]
    simp [hj]
  have db : ∀ j, j < q → xb (xA q &&& (d ^^^ (-1))) j = !xb d j := fun j hj => by
    rw [alive_b q8 (by omega)]
    simp [hj]
  refine ⟨fun j hj => ?_, fun j hj z => ?_⟩
  · rw [da j hj, db j hj]
    refine ⟨fun z => by simpa using z, fun z => ?_⟩
    have a := (yX_alive q8 z).2
    rw [da j hj] at a
    rw [a]
    rfl
  · rw [da j hj] at z
    rw [db j hj, z]
    exact Or.inl rfl
theorem y_mayX {q : Nat} {pt : Nat → Int64} {d : Int32} (q8 : q ≤ 8) : (∀ j, j < q → (xb (nI (yX q pt d)) j = true → xb (nI (xDb q d)) j = false) ∧ ((yX q pt d).testBit j = true → xb (nI (yX q pt d)) j = true)) ∧ ∀ j, j < q → xb (nI (xDb q d)) j = false → xb (nI (yX q pt d)) j = true ∨ (yX q pt d).testBit j = false := by
  refine ⟨fun j hj => ?_, fun j hj _ => ?_⟩
  · rw [xb_nI (by omega)]
    exact ⟨fun z => (yX_alive q8 z).2, fun z => z⟩
  · rw [xb_nI (by omega)]
    cases (yX q pt d).testBit j
    · exact Or.inr rfl
    · exact Or.inl rfl
/-- both sides follow the same times -/
theorem y_pair {pn Td Nm Tb fw ft Fw Fb fr fg Fm Fg D : Nat → Int32} {w k : Nat → Nat} {pt : Nat → Int64} {wt : Bool} {q : Nat} {d s0 : Int32} (q8 : q ≤ 8) (hE : xE wt q pn pt Td Nm Tb) (hd : xDd d D) (hn : ∀ j, j < 64 → 0 ≤ (pn j).toInt ∧ (pn j).toInt ≤ 511) (hw : ∀ j, j < q → fw j = nI (w j) ∧ Fw j = nI (w j) ∧ w j ≤ 9) (hk : ∀ j, j < q → ft j = nI (k j) ∧ Fb j = nI (k j) ∧ 1 ≤ k j ∧ k j ≤ 9) (h1 : ∀ j, j < q → (xb s0 j = true → xb (nI (xDb q d)) j = false) ∧ ((yX q pt d).testBit j = true → xb s0 j = true)) (h2 : ∀ j, j < q → xb (nI (xDb q d)) j = false → xb s0 j = true ∨ (yX q pt d).testBit j = false) : ∃ fr' fg' F G : Nat → Int32, M_follow (nI q) s0 fw ft pt fr fg = (nI (yX q pt d), nI (yLT q pt d k w), fr', fg') ∧ M_m_findTimes (nI q) Fw Fb Tb Fm Fg D = (nI (yX q pt d), F, G) ∧ yLT q pt d k w ≤ 144 ∧ (∀ x, x < q → (yX q pt d).testBit x = true → fg' x = G x ∧ G x = nI (yGT q pt d k w x) ∧ yGT q pt d k w x ≤ 144) ∧ (∀ t, t ≤ 1000 → M_drawnAt (nI q) (nI t) fg' fr' pn (nI (yX q pt d)) = yDr q pt d k (fun x => pn (8 * x + 3)) (fun x => pn (8 * x + 4)) w t ∧ M_m_drawnAt (nI q) Td (nI t) G F Fw = yDr q pt d k (fun x => pn (8 * x + 3)) (fun x => pn (8 * x + 4)) w t) ∧ (∀ cx : Nat → Int32, (∀ j, j ≤ 144 → cx j = 0) → ∃ cx' : Nat → Int32, M_findPeak (nI q) (nI (yLT q pt d k w)) fg' fr' pn (nI (yX q pt d)) cx = ((yPT q pt d k (fun x => pn (8 * x + 3)) (fun x => pn (8 * x + 4)) w).1, (yPT q pt d k (fun x => pn (8 * x + 3)) (fun x => pn (8 * x + 4)) w).2, cx') ∧ ∀ j, j ≤ 144 → cx' j = 0) ∧ ∀ pa : Int32, M_m_peakNow (nI q) Td G F Fw pa = yPT q pt d k (fun x => pn (8 * x + 3)) (fun x => pn (8 * x + 4)) w := by
  have m := xE_mono hE
  obtain ⟨fr', fg', r1, r2, r3, r4⟩ := t_row (fw := fw) (fr := fr) (fg := fg) (ft := ft) (s0 := s0) (P := fun j => xb s0 j) (w := w) (k := k) (pt := pt) (q := q) (d := d) q8 m (fun j hj => ⟨(hw j hj).1, (hw j hj).2.2⟩) (fun j hj => ⟨(hk j hj).1, (hk j hj).2.2⟩) (fun j _ => rfl) h1 h2
  obtain ⟨F, G, b1, b2⟩ := r_find (Fm := Fm) (Fg := Fg) (w := w) (k9 := k) hE q8 hd (fun j hj => ⟨(hw j hj).2.1, (hw j hj).2.2⟩) (fun j hj => ⟨(hk j hj).2.1, (hk j hj).2.2⟩)
  have gn : ∀ y, yT q pt d w k y = 100000 → yGT q pt d k w y = 100000 := fun y z => if_pos z
  have b2 : ∀ j, j < 8 → F j = nI (yT q pt d w k j) ∧ G j = nI (yGT q pt d k w j) := b2
  have h3 : ∀ x, x < q → pn (8 * x + 3) = (fun x => pn (8 * x + 3)) x ∧ pn (8 * x + 4) = (fun x => pn (8 * x + 4)) x := fun x _ => ⟨rfl, rfl⟩
  have h7 : ∀ x, x < q → Td (7 * x + 3) = (fun x => pn (8 * x + 3)) x ∧ Td (7 * x + 4) = (fun x => pn (8 * x + 4)) x := fun x hx => ⟨((hE x hx).1 3 (by decide) (Or.inl (by decide))).symm, ((hE x hx).1 4 (by decide) (Or.inl (by decide))).symm⟩
  have hr : ∀ x, x < q → (0 ≤ ((fun x => pn (8 * x + 3)) x).toInt ∧ ((fun x => pn (8 * x + 3)) x).toInt ≤ 511) ∧ (0 ≤ ((fun x => pn (8 * x + 4)) x).toInt ∧ ((fun x => pn (8 * x + 4)) x).toInt ≤ 511) := fun x hx => ⟨hn _ (by omega), hn _ (by omega)⟩
  have mt : ∀ t, t ≤ 1000 → M_m_drawnAt (nI q) Td (nI t) G F Fw = yDr q pt d k (fun x => pn (8 * x + 3)) (fun x => pn (8 * x + 4)) w t := fun t ht => r_drawnAt (n3 := fun x => pn (8 * x + 3)) (n4 := fun x => pn (8 * x + 4)) (w := w) (M := yT q pt d w k) (G := yGT q pt d k w) q8 ht h7 (fun y _ z => gn y z) (fun y hy => ⟨(b2 y (by omega)).1, (b2 y (by omega)).2, (hw y hy).2.1, by
    by_cases z : yT q pt d w k y = 100000
    · omega
    · have := r3 y hy z
      omega, by
    by_cases z : yT q pt d w k y = 100000
    · exact Nat.le_of_eq (gn y z)
    · have := r3 y hy z
      omega, (hw y hy).2.2⟩)
  refine ⟨fr', fg', F, G, r1, b1, r2, fun x hx hb9 => ?_, fun t ht => ⟨?_, mt t ht⟩, fun cx hc => ?_, fun pa => ?_⟩
  · have z := (r4 x hx).mp hb9
    obtain ⟨c1, c2, c3, c4⟩ := r3 x hx z
    exact ⟨c2.trans (b2 x (by omega)).2.symm, (b2 x (by omega)).2, by omega⟩
  · exact t_drawnAt (n3 := fun x => pn (8 * x + 3)) (n4 := fun x => pn (8 * x + 4)) (w := w) (M := yT q pt d w k) (G := yGT q pt d k w) q8 ht h3 r4 (fun y _ z => gn y z) (fun x hx z => by
      obtain ⟨c1, c2, c3, c4⟩ := r3 x hx z
      exact ⟨c1, c2, c3, by omega⟩)
  · obtain ⟨cx', a1, a2⟩ := t_findPeak (n3 := fun x => pn (8 * x + 3)) (n4 := fun x => pn (8 * x + 4)) (w := w) (M := yT q pt d w k) (G := yGT q pt d k w) (X := yX q pt d) (cx := cx) q8 r2 h3 hr r4 (fun x _ h => gn x h) r3 hc
    refine ⟨cx', ?_, a2⟩
    rw [a1, yDr_end (n3 := fun x => pn (8 * x + 3)) (n4 := fun x => pn (8 * x + 4)) r2 (fun x hx h => (r3 x hx h).2.2)]
    rfl
  · exact r_peak (D := yDr q pt d k (fun x => pn (8 * x + 3)) (fun x => pn (8 * x + 4)) w) (fun t ht => mt t (by omega)) (yD_rng q q8 (fun y hy => by
      unfold yV
      split
      · exact (hr y hy).1
      · split
        · exact (hr y hy).2
        · exact ⟨by decide, by decide⟩)).1
/-- the waits told, as numbers -/
def yw (Td : Nat → Int32) (j : Nat) : Nat := (Td (7 * j + 5)).toNatClampNeg
theorem yw_c {pn Td Nm Tb f : Nat → Int32} {pt : Nat → Int64} {q : Nat} (q8 : q ≤ 8) (hE : xE true q pn pt Td Nm Tb) {j : Nat} (hj : j < q) : M_cSetWaits (nI q) pn f j = nI (yw Td j) ∧ yw Td j ≤ 9 := by
  obtain ⟨a, b, c, e, g⟩ := hE j hj
  obtain ⟨g1, g2⟩ := g rfl
  have n := xtn (x := Td (7 * j + 5)) g1
  have e5 := a 5 (by decide) (Or.inr rfl)
  refine ⟨?_, by unfold yw; omega⟩
  rw [t_cSetW q8, yF_t hj rfl, e5]
  exact (xnI g1).symm
theorem yw_m {pn Td Nm Tb f : Nat → Int32} {pt : Nat → Int64} {q : Nat} (q8 : q ≤ 8) (hE : xE true q pn pt Td Nm Tb) {j : Nat} (hj : j < q) : M_m_setWaits (nI q) Td f j = nI (yw Td j) := by
  obtain ⟨a, b, c, e, g⟩ := hE j hj
  obtain ⟨g1, g2⟩ := g rfl
  rw [r_setW q8, yF_t hj rfl]
  exact (xnI g1).symm
/-- the times now, on both sides -/
theorem y_now {pn Td Nm Tb fw ft Fw By fr fg Fm Fg D rt K : Nat → Int32} {pt : Nat → Int64} {q : Nat} {d : Int32} (q8 : q ≤ 8) (hE : xE true q pn pt Td Nm Tb) (hd : xDd d D) (hn : ∀ j, j < 64 → 0 ≤ (pn j).toInt ∧ (pn j).toInt ≤ 511) (hk : ∀ j, j < q → rt j = K j ∧ 1 ≤ (K j).toInt ∧ (K j).toInt ≤ 9) : ∃ (L : Nat) (D3 : Nat → Int32) (P2 : Int32 × Int32) (fr' fg' F G : Nat → Int32), M_followTimes (nI q) pt fr fg d rt ft pn fw = (nI (yX q pt d), nI L, M_cSetWaits (nI q) pn fw, M_copyTakes rt ft, fr', fg') ∧ M_m_findTimes (nI q) (M_m_setWaits (nI q) Td Fw) (M_m_setTimes (nI q) 0 K Td By) Tb Fm Fg D = (nI (yX q pt d), F, G) ∧ (∀ x, x < q → (yX q pt d).testBit x = true → fg' x = G x) ∧ (∀ t, t ≤ 1000 → M_drawnAt (nI q) (nI t) fg' fr' pn (nI (yX q pt d)) = D3 t ∧ M_m_drawnAt (nI q) Td (nI t) G F (M_m_setWaits (nI q) Td Fw) = D3 t ∧ 0 ≤ (D3 t).toInt ∧ (D3 t).toInt ≤ 4088) ∧ (∀ cx : Nat → Int32, (∀ j, j ≤ 144 → cx j = 0) → ∃ cx' : Nat → Int32, M_findPeak (nI q) (nI L) fg' fr' pn (nI (yX q pt d)) cx = (P2.1, P2.2, cx') ∧ ∀ j, j ≤ 144 → cx' j = 0) ∧ ∀ pa : Int32, M_m_peakNow (nI q) Td G F (M_m_setWaits (nI q) Td Fw) pa = P2 := by
  obtain ⟨By', s1, s2⟩ := t_setT0 (K := K) (Td := Td) (By := By) (q := q) q8
  have kn : ∀ j, j < q → nI (K j).toNatClampNeg = K j ∧ 1 ≤ (K j).toNatClampNeg ∧ (K j).toNatClampNeg ≤ 9 := fun j hj => by
    obtain ⟨-, a, b⟩ := hk j hj
    have n := xtn (x := K j) (by omega)
    exact ⟨xnI (by omega), by omega, by omega⟩
  have t0 : ∀ j, j < 8 → M_copyTakes rt ft j = rt j := fun j hj => y_cpy8 hj
  have ma := y_mayA (q := q) (pt := pt) (d := d) q8
  obtain ⟨fr', fg', F, G, p1, p2, -, p4, p5, p6, p7⟩ := y_pair (fw := M_cSetWaits (nI q) pn fw) (ft := M_copyTakes rt ft) (Fw := M_m_setWaits (nI q) Td Fw) (Fb := M_m_setTimes (nI q) 0 K Td By) (fr := fr) (fg := fg) (Fm := Fm) (Fg := Fg) (w := yw Td) (k := fun j => (K j).toNatClampNeg) q8 hE hd hn (fun j hj => ⟨(yw_c q8 hE hj).1, yw_m q8 hE hj, (yw_c (f := fw) q8 hE hj).2⟩) (fun j hj => ⟨by rw [t0 j (by omega), (hk j hj).1]; exact (kn j hj).1.symm, by rw [s1, s2 j hj]; exact (kn j hj).1.symm, (kn j hj).2⟩) ma.1 ma.2
  refine ⟨_, _, _, fr', fg', F, G, ?_, p2, fun x hx h => (p4 x hx h).1, fun t ht => ⟨(p5 t ht).1, (p5 t ht).2, ?_⟩, p6, p7⟩
  · simp only [K_followTimes_5, K_followTimes_4, K_followTimes_3, K_followTimes_2, K_followTimes_1, M_followTimes]
    rw [t_alive, p1]
  · have rg := yD_rng (v := yV (fun x => pn (8 * x + 3)) (fun x => pn (8 * x + 4)) (yw Td) (yT q pt d (yw Td) (fun j => (K j).toNatClampNeg)) (yGT q pt d (fun j => (K j).toNatClampNeg) (yw Td)) t) q q8 (fun y hy => by
      unfold yV
      split
      · exact hn _ (by omega)
      · split
        · exact hn _ (by omega)
        · exact ⟨by decide, by decide⟩)
    have rg1 : 0 ≤ (yDr q pt d (fun j => (K j).toNatClampNeg) (fun x => pn (8 * x + 3)) (fun x => pn (8 * x + 4)) (yw Td) t).toInt ∧ (yDr q pt d (fun j => (K j).toNatClampNeg) (fun x => pn (8 * x + 3)) (fun x => pn (8 * x + 4)) (yw Td) t).toInt ≤ 511 * (q : Int) := rg
    exact ⟨rg1.1, by omega⟩
/-- drawn: one on both sides -/
theorem x_drawn_eq {pn Td Nm Tb fw ft Fw By fr fg Fm Fg D rt K : Nat → Int32} {pt : Nat → Int64} {q : Nat} {d a0 cup cl up : Int32} (q8 : q ≤ 8) (hE : xE true q pn pt Td Nm Tb) (hd : xDd d D) (hn : ∀ j, j < 64 → 0 ≤ (pn j).toInt ∧ (pn j).toInt ≤ 511) (hk : ∀ j, j < q → rt j = K j ∧ 1 ≤ (K j).toInt ∧ (K j).toInt ≤ 9) : (M_x_drawn a0 cup cl fw ft fr fg (nI q) pn pt d rt).1 = (M_m_drawn a0 (nI q) Td Tb Fm Fg D K By Fw up).1 := by
  obtain ⟨L, D3, P2, fr', fg', F, G, f1, f2, -, f4, -, -⟩ := y_now (fw := fw) (ft := ft) (Fw := Fw) (By := By) (fr := fr) (fg := fg) (Fm := Fm) (Fg := Fg) q8 hE hd hn hk
  simp only [K_x_drawn_2, K_x_drawn_7, K_x_drawn_6, K_x_drawn_4, K_x_drawn_5, K_x_drawn_3, K_x_drawn_1, M_x_drawn, K_m_drawn_7, K_m_drawn_6, K_m_drawn_5, K_m_drawn_4, K_m_drawn_2, K_m_drawn_3, K_m_drawn_1, M_m_drawn]
  by_cases a : 0 ≤ a0.toInt ∧ a0.toInt ≤ 999
  · have an := xtn (x := a0) a.1
    have ea : nI a0.toNatClampNeg = a0 := xnI a.1
    obtain ⟨g1, g2, -⟩ := f4 a0.toNatClampNeg (by omega)
    rw [ea] at g1 g2
    rw [if_neg (by omega), if_pos a.2, if_pos a, f1, f2]
    dsimp only
    rw [g1, g2]
  · rw [if_neg a]
    by_cases b : a0.toInt < 0
    · rw [if_pos b]
    · rw [if_neg b, if_neg (by omega)]
/-- the times of a kind, on both sides -/
theorem y_kind {pn Td Nm Tb fw ft Fw By fr fg Fm Fg D K : Nat → Int32} {pt : Nat → Int64} {q c : Nat} {d a1 : Int32} (q8 : q ≤ 8) (hE : xE true q pn pt Td Nm Tb) (hd : xDd d D) (hn : ∀ j, j < 64 → 0 ≤ (pn j).toInt ∧ (pn j).toInt ≤ 511) (ht : xTD Td q) (hc : c < 2) (h1 : ¬ a1.toInt = 0) (h2 : a1 - 1 = nI c) : ∃ (L : Int32) (fr' fg' F G : Nat → Int32), M_follow (nI q) (xA q &&& (d ^^^ (-1))) (M_cSetWaits (nI q) pn fw) (M_cSetTakes (nI q) pn (nI c) ft) pt fr fg = (nI (yX q pt d), L, fr', fg') ∧ M_m_findTimes (nI q) (M_m_setWaits (nI q) Td Fw) (M_m_setTimes (nI q) a1 K Td By) Tb Fm Fg D = (nI (yX q pt d), F, G) ∧ ∀ x, x < q → (yX q pt d).testBit x = true → fg' x = G x := by
  have tk : ∀ j, j < q → 1 ≤ (Td (7 * j + c)).toInt ∧ (Td (7 * j + c)).toInt ≤ 9 := fun j hj => by
    obtain ⟨b1, b2, b3⟩ := ht j hj
    match c, hc with
    | 0, _ =>
      show 1 ≤ (Td (7 * j)).toInt ∧ (Td (7 * j)).toInt ≤ 9
      omega
    | 1, _ => omega
  have kn : ∀ j, j < q → nI (Td (7 * j + c)).toNatClampNeg = Td (7 * j + c) ∧ 1 ≤ (Td (7 * j + c)).toNatClampNeg ∧ (Td (7 * j + c)).toNatClampNeg ≤ 9 := fun j hj => by
    obtain ⟨a, b⟩ := tk j hj
    have n := xtn (x := Td (7 * j + c)) (by omega)
    exact ⟨xnI (by omega), by omega, by omega⟩
  have ma := y_mayA (q := q) (pt := pt) (d := d) q8
  obtain ⟨fr', fg', F, G, p1, p2, -, p4, -, -, -⟩ := y_pair (fw := M_cSetWaits (nI q) pn fw) (ft := M_cSetTakes (nI q) pn (nI c) ft) (Fw := M_m_setWaits (nI q) Td Fw) (Fb := M_m_setTimes (nI q) a1 K Td By) (fr := fr) (fg := fg) (Fm := Fm) (Fg := Fg) (w := yw Td) (k := fun j => (Td (7 * j + c)).toNatClampNeg) q8 hE hd hn (fun j hj => ⟨(yw_c q8 hE hj).1, yw_m q8 hE hj, (yw_c (f := fw) q8 hE hj).2⟩) (fun j hj => ⟨by rw [t_cSetT q8 (by omega), yF_t hj rfl, (hE j hj).1 c (by omega) (Or.inr rfl)]; exact (kn j hj).1.symm, by rw [r_setT q8 (by omega) h1 h2, yF_t hj rfl]; exact (kn j hj).1.symm, (kn j hj).2⟩) ma.1 ma.2
  exact ⟨_, fr', fg', F, G, p1, p2, fun x hx h => (p4 x hx h).1⟩
/-- when: one on both sides -/
theorem x_when_eq {pn Td Nm Tb fw ft Fw By fr fg Fm Fg D rt K : Nat → Int32} {pt : Nat → Int64} {q : Nat} {d a0 a1 cup cl up : Int32} (q8 : q ≤ 8) (hE : xE true q pn pt Td Nm Tb) (hd : xDd d D) (hn : ∀ j, j < 64 → 0 ≤ (pn j).toInt ∧ (pn j).toInt ≤ 511) (hk : ∀ j, j < q → rt j = K j ∧ 1 ≤ (K j).toInt ∧ (K j).toInt ≤ 9) (ht : xTD Td q) : (M_x_when a0 (nI q) a1 cup cl fw ft fr fg pt d rt pn).1 = (M_m_when a0 (nI q) a1 Tb Fm Fg D K Td By Fw up).1 := by
  have qq : (nI q).toInt = (q : Int) := nI_toInt (by omega)
  simp only [K_x_when_4, K_x_when_27, K_x_when_28, K_x_when_26, K_x_when_25, K_x_when_9, K_x_when_23, K_x_when_24, K_x_when_22, K_x_when_21, K_x_when_20, K_x_when_19, K_x_when_12, K_x_when_17, K_x_when_18, K_x_when_16, K_x_when_15, K_x_when_14, K_x_when_13, K_x_when_11, K_x_when_10, K_x_when_8, K_x_when_6, K_x_when_7, K_x_when_5, K_x_when_3, K_x_when_2, K_x_when_1, M_x_when, K_m_when_10, K_m_when_9, K_m_when_8, K_m_when_7, K_m_when_6, K_m_when_4, K_m_when_5, K_m_when_3, K_m_when_2, K_m_when_1, M_m_when]
  by_cases a : 0 ≤ a0.toInt ∧ a0.toInt < (nI q).toInt
  · rw [if_pos a, if_pos a]
    have an := xtn (x := a0) a.1
    have ea : nI a0.toNatClampNeg = a0 := xnI a.1
    have bt : ((nI (yX q pt d) >>> (a0 &&& 31)) &&& (1 : Int32)).toInt = 1 ↔ (yX q pt d).testBit a0.toNatClampNeg = true := by
      have z := xsr_1 (nI (yX q pt d)) (r := a0.toNatClampNeg) (by omega)
      rw [ea, xb_nI (by omega)] at z
      exact z
    by_cases b : 0 ≤ a1.toInt ∧ a1.toInt ≤ 2
    · rw [if_neg (by omega), if_pos b.2, if_pos b]
      by_cases c0 : a1.toInt = 0
      · obtain ⟨L, D3, P2, fr', fg', F, G, f1, f2, f3, -, -, -⟩ := y_now (fw := fw) (ft := ft) (Fw := Fw) (By := By) (fr := fr) (fg := fg) (Fm := Fm) (Fg := Fg) q8 hE hd hn hk
        have e1 : a1 = 0 := Int32.toInt_inj.mp (by rw [c0]; decide)
        rw [if_pos c0, f1, e1, f2]
        dsimp only
        rw [t_isUp]
        by_cases u : (yX q pt d).testBit a0.toNatClampNeg = true
        · rw [if_pos (bt.mpr u), if_pos (bt.mpr u), if_neg (by decide), f3 _ (by omega) u]
        · rw [if_neg (fun z => u (bt.mp z)), if_neg (fun z => u (bt.mp z)), if_pos (by decide)]
      · rw [if_neg c0]
        by_cases c1 : a1.toInt = 1
        · have e1 : a1 = 1 := Int32.toInt_inj.mp (by rw [c1]; decide)
          obtain ⟨L, fr', fg', F, G, f1, f2, f3⟩ := y_kind (fw := fw) (ft := ft) (Fw := Fw) (By := By) (fr := fr) (fg := fg) (Fm := Fm) (Fg := Fg) (K := K) (c := 0) (a1 := a1) q8 hE hd hn ht (by decide) c0 (by rw [e1]; decide)
          have f1 : M_follow (nI q) (xA q &&& (d ^^^ (-1))) (M_cSetWaits (nI q) pn fw) (M_cSetTakes (nI q) pn 0 ft) pt fr fg = (nI (yX q pt d), L, fr', fg') := f1
          rw [if_pos c1, t_alive, f1, f2]
          dsimp only
          rw [t_isUp]
          by_cases u : (yX q pt d).testBit a0.toNatClampNeg = true
          · rw [if_pos (bt.mpr u), if_pos (bt.mpr u), if_neg (by decide), f3 _ (by omega) u]
          · rw [if_neg (fun z => u (bt.mp z)), if_neg (fun z => u (bt.mp z)), if_pos (by decide)]
        · have c2 : a1.toInt = 2 := by omega
          have e1 : a1 = 2 := Int32.toInt_inj.mp (by rw [c2]; decide)
          obtain ⟨L, fr', fg', F, G, f1, f2, f3⟩ := y_kind (fw := fw) (ft := ft) (Fw := Fw) (By := By) (fr := fr) (fg := fg) (Fm := Fm) (Fg := Fg) (K := K) (c := 1) (a1 := a1) q8 hE hd hn ht (by decide) c0 (by rw [e1]; decide)
          have f1 : M_follow (nI q) (xA q &&& (d ^^^ (-1))) (M_cSetWaits (nI q) pn fw) (M_cSetTakes (nI q) pn 1 ft) pt fr fg = (nI (yX q pt d), L, fr', fg') := f1
          rw [if_neg c1, t_alive, f1, f2]
          dsimp only
          rw [t_isUp]
          by_cases u : (yX q pt d).testBit a0.toNatClampNeg = true
          · rw [if_pos (bt.mpr u), if_pos (bt.mpr u), if_neg (by decide), f3 _ (by omega) u]
          · rw [if_neg (fun z => u (bt.mp z)), if_neg (fun z => u (bt.mp z)), if_pos (by decide)]
    · rw [if_neg b]
      by_cases c : a1.toInt < 0
      · rw [if_pos c]
      · rw [if_neg c, if_neg (by omega)]
  · rw [if_neg a, if_neg a]
-- 99.c.ways
/-- how many ways there are for the RAILS that Z picks -/
def yPz (Z : Nat → Bool) (lo hi : Nat → Nat) : Nat → Nat
  | 0 => 1
  | n + 1 => if Z n = true then yPz Z lo hi n * (hi n - lo n + 1) else yPz Z lo hi n
/-- the number of a way among them, RAIL 0 as the lowest place -/
def yRk (Z : Nat → Bool) (lo hi u : Nat → Nat) : Nat → Nat
  | 0 => 0
  | n + 1 => if Z n = true then yRk Z lo hi u n + (u n - lo n) * yPz Z lo hi n else yRk Z lo hi u n
/-- within the times told -/
def yBx (q : Nat) (lo hi u : Nat → Nat) : Prop := ∀ j, j < q → lo j ≤ u j ∧ u j ≤ hi j
theorem yPz_pos {Z : Nat → Bool} {lo hi : Nat → Nat} : ∀ n, 1 ≤ yPz Z lo hi n := by
  intro n
  induction n with
  | zero => exact Nat.le_refl _
  | succ n ih =>
    rw [yPz]
    split
    · exact Nat.mul_pos ih (by omega)
    · exact ih
theorem yPz_le {Z : Nat → Bool} {lo hi : Nat → Nat} : ∀ n, yPz Z lo hi n ≤ yPz (fun _ => true) lo hi n := by
  intro n
  induction n with
  | zero => exact Nat.le_refl _
  | succ n ih =>
    rw [yPz, yPz, if_pos rfl]
    split
    · exact Nat.mul_le_mul_right _ ih
    · exact Nat.le_trans ih (Nat.le_mul_of_pos_right _ (by omega))
theorem yPz_up {lo hi : Nat → Nat} : ∀ n, yPz (fun _ => true) lo hi n ≤ yPz (fun _ => true) lo hi (n + 1) := fun n => by
  rw [show yPz (fun _ => true) lo hi (n + 1) = yPz (fun _ => true) lo hi n * (hi n - lo n + 1) from if_pos rfl]
  exact Nat.le_mul_of_pos_right _ (by omega)
theorem yRk_lt {Z : Nat → Bool} {lo hi u : Nat → Nat} : ∀ n, yBx n lo hi u → yRk Z lo hi u n < yPz Z lo hi n := by
  intro n
  induction n with
  | zero => exact fun _ => Nat.zero_lt_one
  | succ n ih =>
    intro h
    have i9 := ih (fun j hj => h j (by omega))
    obtain ⟨a, b⟩ := h n (by omega)
    rw [yRk, yPz]
    split
    · have l : (u n - lo n + 1) * yPz Z lo hi n ≤ (hi n - lo n + 1) * yPz Z lo hi n := Nat.mul_le_mul_right _ (by omega)
      rw [Nat.add_mul, Nat.one_mul] at l
      rw [Nat.mul_comm (yPz Z lo hi n) (hi n - lo n + 1)]
      omega
    · exact i9
theorem yRk_inj {Z : Nat → Bool} {lo hi u v : Nat → Nat} : ∀ n, yBx n lo hi u → yBx n lo hi v → yRk Z lo hi u n = yRk Z lo hi v n → ∀ j, j < n → Z j = true → u j = v j := by
  intro n
  induction n with
  | zero => exact fun _ _ _ j hj => absurd hj (by omega)
  | succ n ih =>
    intro hu hv e j hj z
    have u9 : yBx n lo hi u := fun j hj => hu j (by omega)
    have v9 : yBx n lo hi v := fun j hj => hv j (by omega)
    have lu := yRk_lt (Z := Z) n u9
    have lv := yRk_lt (Z := Z) n v9
    obtain ⟨a1, a2⟩ := hu n (by omega)
    obtain ⟨b1, b2⟩ := hv n (by omega)
    rw [yRk, yRk] at e
    by_cases zn : Z n = true
    · rw [if_pos zn, if_pos zn] at e
      have st : ∀ x y : Nat, x < y → (x + 1) * yPz Z lo hi n ≤ y * yPz Z lo hi n := fun x y h => Nat.mul_le_mul_right _ h
      have s1 : ∀ x : Nat, (x + 1) * yPz Z lo hi n = x * yPz Z lo hi n + yPz Z lo hi n := fun x => by rw [Nat.add_mul, Nat.one_mul]
      have d : u n - lo n = v n - lo n := by
        rcases Nat.lt_trichotomy (u n - lo n) (v n - lo n) with h | h | h
        · have a := st _ _ h
          rw [s1] at a
          omega
        · exact h
        · have a := st _ _ h
          rw [s1] at a
          omega
      rw [d] at e
      by_cases ej : j = n
      · rw [ej]
        omega
      · exact ih u9 v9 (by omega) j (by omega) z
    · rw [if_neg zn, if_neg zn] at e
      by_cases ej : j = n
      · rw [ej] at z
        exact absurd z zn
      · exact ih u9 v9 e j (by omega) z
/-- one way and the next of RAILS from x on; g tells whether there is a next -/
def yNx (Z : Nat → Bool) (lo hi : Nat → Nat) (q x : Nat) (u u' : Nat → Nat) (g : Int32) : Prop := (∀ j, ¬ Z j = true → u' j = u j) ∧ (∀ j, j < x → u' j = u j) ∧ ((g = 0 ∧ ∀ j, x ≤ j → j < q → Z j = true → u j = hi j) ∨ (g = 1 ∧ ∃ p, x ≤ p ∧ p < q ∧ Z p = true ∧ u' p = u p + 1 ∧ (∀ j, x ≤ j → j < p → Z j = true → u j = hi j ∧ u' j = lo j) ∧ ∀ j, p < j → u' j = u j))
theorem yRk_hi {Z : Nat → Bool} {lo hi u : Nat → Nat} : ∀ n, (∀ j, j < n → lo j ≤ hi j) → (∀ j, j < n → Z j = true → u j = hi j) → yRk Z lo hi u n + 1 = yPz Z lo hi n := by
  intro n
  induction n with
  | zero => exact fun _ _ => rfl
  | succ n ih =>
    intro hl h
    have i9 := ih (fun j hj => hl j (by omega)) (fun j hj => h j (by omega))
    have l := hl n (by omega)
    rw [yRk, yPz]
    by_cases z : Z n = true
    · rw [if_pos z, if_pos z, h n (by omega) z, Nat.mul_comm (yPz Z lo hi n), Nat.add_mul, Nat.one_mul]
      omega
    · rw [if_neg z, if_neg z]
      exact i9
theorem yRk_lo {Z : Nat → Bool} {lo hi u : Nat → Nat} : ∀ n, (∀ j, j < n → Z j = true → u j = lo j) → yRk Z lo hi u n = 0 := by
  intro n
  induction n with
  | zero => exact fun _ => rfl
  | succ n ih =>
    intro h
    have i9 := ih (fun j hj => h j (by omega))
    rw [yRk]
    by_cases z : Z n = true
    · rw [if_pos z, h n (by omega) z, Nat.sub_self, Nat.zero_mul]
      omega
    · rw [if_neg z]
      exact i9
/-- the next way has the next number, or there is none -/
theorem yRk_next {Z : Nat → Bool} {lo hi u u' : Nat → Nat} {q : Nat} {g : Int32} (hl : ∀ j, j < q → lo j ≤ hi j) (hu : yBx q lo hi u) (h : yNx Z lo hi q 0 u u' g) : (g = 0 ∧ yRk Z lo hi u q + 1 = yPz Z lo hi q) ∨ (g = 1 ∧ yRk Z lo hi u' q = yRk Z lo hi u q + 1) := by
  obtain ⟨-, -, h⟩ := h
  rcases h with ⟨g0, a⟩ | ⟨g1, p, -, p2, p3, p4, p5, p6⟩
  · exact Or.inl ⟨g0, yRk_hi q hl (fun j hj => a j (by omega) hj)⟩
  · refine Or.inr ⟨g1, ?_⟩
    have e0 := yRk_hi (Z := Z) (u := u) p (fun j hj => hl j (by omega)) (fun j hj z => (p5 j (by omega) hj z).1)
    have e1 := yRk_lo (Z := Z) (lo := lo) (hi := hi) (u := u') p (fun j hj z => (p5 j (by omega) hj z).2)
    have lp := (hu p p2).1
    have all : ∀ d, p + 1 + d ≤ q → yRk Z lo hi u' (p + 1 + d) = yRk Z lo hi u (p + 1 + d) + 1 := by
      intro d
      induction d with
      | zero =>
        intro _
        show yRk Z lo hi u' (p + 1) = yRk Z lo hi u (p + 1) + 1
        rw [yRk, yRk, if_pos p3, if_pos p3, p4, e1, show u p + 1 - lo p = u p - lo p + 1 from by omega, Nat.add_mul, Nat.one_mul]
        omega
      | succ d ih =>
        intro hd
        show yRk Z lo hi u' ((p + 1 + d) + 1) = yRk Z lo hi u ((p + 1 + d) + 1) + 1
        rw [yRk, yRk, ih (by omega), p6 (p + 1 + d) (by omega)]
        split
        · omega
        · rfl
    have z := all (q - (p + 1)) (by omega)
    rw [show p + 1 + (q - (p + 1)) = q from by omega] at z
    exact z
theorem yNx_box {Z : Nat → Bool} {lo hi u u' : Nat → Nat} {q x : Nat} {g : Int32} (hl : ∀ j, j < q → lo j ≤ hi j) (hu : yBx q lo hi u) (h : yNx Z lo hi q x u u' g) (h1 : g = 1) (hp : ∀ p, p < q → Z p = true → u' p = u p + 1 → u p < hi p) : yBx q lo hi u' := by
  obtain ⟨a, b, c⟩ := h
  intro j hj
  by_cases z : Z j = true
  · rcases c with ⟨g0, -⟩ | ⟨-, p, p1, p2, p3, p4, p5, p6⟩
    · rw [h1] at g0
      exact absurd g0 (by decide)
    · by_cases jx : j < x
      · rw [b j jx]; exact hu j hj
      · rcases Nat.lt_trichotomy j p with y | y | y
        · rw [(p5 j (by omega) y z).2]
          exact ⟨Nat.le_refl _, hl j hj⟩
        · have := hp p p2 p3 p4
          have := hu p p2
          rw [y, p4]
          omega
        · rw [p6 j y]
          exact hu j hj
  · rw [a j z]
    exact hu j hj
/-- the class's next way -/
theorem nw_in {pn : Nat → Int32} {lo hi : Nat → Nat} {q X : Nat} (q8 : q ≤ 8) (h : ∀ j, j < q → pn (8 * j + 0) = nI (lo j) ∧ pn (8 * j + 1) = nI (hi j) ∧ lo j ≤ hi j ∧ hi j ≤ 9) : ∀ (m x k : Nat) (u : Nat → Nat) (f : Nat → Int32), x + m = q → yBx q lo hi u → (∀ j, j < q → f j = nI (u j)) → ∃ (u' : Nat → Nat) (f' : Nat → Int32) (g : Int32), K_nextWay_L2 (nI q) (nI X) pn (k + m + 1) (nI x) f = (g, f') ∧ (∀ j, j < q → f' j = nI (u' j)) ∧ yBx q lo hi u' ∧ yNx (fun j => X.testBit j) lo hi q x u u' g := by
  have qq : (nI q).toInt = (q : Int) := nI_toInt (by omega)
  intro m
  induction m with
  | zero =>
    intro x k u f hx hu hf
    have ex : (nI x).toInt = (x : Int) := nI_toInt (by omega)
    refine ⟨u, f, 0, ?_, hf, hu, fun j _ => rfl, fun j _ => rfl, Or.inl ⟨rfl, fun j a b => absurd a (by omega)⟩⟩
    simp only [K_nextWay_L2, K_nextWay_3, K_nextWay_6, K_nextWay_10, K_nextWay_8, K_nextWay_9, K_nextWay_7, K_nextWay_5, K_nextWay_4, K_nextWay_2, K_nextWay_1, M_nextWay]
    rw [if_pos (by omega)]
  | succ m ih =>
    intro x k u f hx hu hf
    have ex : (nI x).toInt = (x : Int) := nI_toInt (by omega)
    have exc : (nI x).toNatClampNeg = x := nI_clamp (by omega)
    obtain ⟨h1, h2, h3, h4⟩ := h x (by omega)
    obtain ⟨u1, u2⟩ := hu x (by omega)
    have eh : (nI (hi x)).toInt = ((hi x : Nat) : Int) := nI_toInt (by omega)
    have eu : (nI (u x)).toInt = ((u x : Nat) : Int) := nI_toInt (by omega)
    have bt : ((nI X >>> (nI x &&& 31)) &&& (1 : Int32)).toInt = 0 ↔ X.testBit x = false := by rw [xsr_0 (nI X) (by omega), xb_nI (by omega)]
    have un : K_nextWay_L2 (nI q) (nI X) pn ((k + m + 1) + 1) (nI x) f = if ((nI X >>> (nI x &&& 31)) &&& (1 : Int32)).toInt = 0 then K_nextWay_L2 (nI q) (nI X) pn (k + m + 1) (nI (x + 1)) f else if (nI (hi x)).toInt ≤ (nI (u x)).toInt then K_nextWay_L2 (nI q) (nI X) pn (k + m + 1) (nI (x + 1)) (upd f x (nI (lo x))) else (1, upd f x (nI (u x) + 1)) := by
      generalize k + m + 1 = j
      simp only [K_nextWay_L2, K_nextWay_3, K_nextWay_6, K_nextWay_10, K_nextWay_8, K_nextWay_9, K_nextWay_7, K_nextWay_5, K_nextWay_4, K_nextWay_2, K_nextWay_1, M_nextWay]
      rw [if_neg (by omega), exc, nI_1, hf x (by omega), show M_number pn (nI x) 1 = nI (hi x) from (t_nb (k := 1) (by omega) (by decide)).trans h2, show M_number pn (nI x) 0 = nI (lo x) from (t_nb (k := 0) (by omega) (by decide)).trans h1]
    by_cases b : X.testBit x = true
    · rw [if_neg (fun z => by rw [bt.mp z] at b; exact absurd b (by decide))] at un
      by_cases c : u x = hi x
      · rw [if_pos (by omega)] at un
        obtain ⟨u', f', g, a1, a2, a3, c1, c2, c3⟩ := ih (x + 1) k (fun j => if j = x then lo x else u j) (upd f x (nI (lo x))) (by omega) (fun j hj => by
          show lo j ≤ (if j = x then lo x else u j) ∧ (if j = x then lo x else u j) ≤ hi j
          by_cases e : j = x
          · rw [if_pos e, e]
            exact ⟨Nat.le_refl _, h3⟩
          · rw [if_neg e]
            exact hu j hj) (fun j hj => by
          show upd f x (nI (lo x)) j = nI (if j = x then lo x else u j)
          by_cases e : j = x
          · rw [e, xupd_s, if_pos rfl]
          · rw [xupd_o e, if_neg e]
            exact hf j hj)
        refine ⟨u', f', g, un.trans a1, a2, a3, fun j hj => (c1 j hj).trans (if_neg (fun e => hj (by rw [e]; exact b))), fun j hj => (c2 j (by omega)).trans (if_neg (by omega)), ?_⟩
        have ux : u' x = lo x := (c2 x (by omega)).trans (if_pos rfl)
        rcases c3 with ⟨g0, d⟩ | ⟨g1, p, p1, p2, p3, p4, p5, p6⟩
        · refine Or.inl ⟨g0, fun j j1 j2 z => ?_⟩
          by_cases e : j = x
          · rw [e]; exact c
          · have y := d j (by omega) j2 z
            dsimp only at y
            rw [if_neg e] at y
            exact y
        · refine Or.inr ⟨g1, p, by omega, p2, p3, p4.trans (congrArg (fun n => n + 1) (if_neg (by omega))), fun j j1 j2 z => ?_, fun j hj => (p6 j hj).trans (if_neg (by omega))⟩
          by_cases e : j = x
          · rw [e]
            exact ⟨c, ux⟩
          · have y := p5 j (by omega) j2 z
            dsimp only at y
            rw [if_neg e] at y
            exact y
      · rw [if_neg (by omega), nI_1] at un
        refine ⟨fun j => if j = x then u x + 1 else u j, _, 1, un, fun j hj => ?_, fun j hj => ?_, fun j hj => if_neg (fun e => hj (by rw [e]; exact b)), fun j hj => if_neg (by omega), Or.inr ⟨rfl, x, Nat.le_refl _, by omega, b, if_pos rfl, fun j j1 j2 => absurd j1 (by omega), fun j hj => if_neg (by omega)⟩⟩
        · show upd f x (nI (u x + 1)) j = nI (if j = x then u x + 1 else u j)
          by_cases e : j = x
          · rw [e, xupd_s, if_pos rfl]
          · rw [xupd_o e, if_neg e]
            exact hf j hj
        · show lo j ≤ (if j = x then u x + 1 else u j) ∧ (if j = x then u x + 1 else u j) ≤ hi j
          by_cases e : j = x
          · rw [if_pos e, e]
            omega
          · rw [if_neg e]
            exact hu j hj
    · have b2 : X.testBit x = false := by
        cases e : X.testBit x with
        | false => rfl
        | true => exact absurd e b
      rw [if_pos (bt.mpr b2)] at un
      obtain ⟨u', f', g, a1, a2, a3, c1, c2, c3⟩ := ih (x + 1) k u f (by omega) hu hf
      refine ⟨u', f', g, un.trans a1, a2, a3, c1, fun j hj => c2 j (by omega), ?_⟩
      rcases c3 with ⟨g0, d⟩ | ⟨g1, p, p1, p2, p3, p4, p5, p6⟩
      · refine Or.inl ⟨g0, fun j j1 j2 z => ?_⟩
        by_cases e : j = x
        · rw [e] at z; exact absurd z b
        · exact d j (by omega) j2 z
      · refine Or.inr ⟨g1, p, by omega, p2, p3, p4, fun j j1 j2 z => ?_, p6⟩
        by_cases e : j = x
        · rw [e] at z; exact absurd z b
        · exact p5 j (by omega) j2 z
theorem t_nextWay {pn : Nat → Int32} {lo hi u : Nat → Nat} {q X : Nat} {f : Nat → Int32} (q8 : q ≤ 8) (h : ∀ j, j < q → pn (8 * j + 0) = nI (lo j) ∧ pn (8 * j + 1) = nI (hi j) ∧ lo j ≤ hi j ∧ hi j ≤ 9) (hu : yBx q lo hi u) (hf : ∀ j, j < q → f j = nI (u j)) : ∃ (u' : Nat → Nat) (f' : Nat → Int32) (g : Int32), M_nextWay (nI q) (nI X) pn f = (g, f') ∧ (∀ j, j < q → f' j = nI (u' j)) ∧ yBx q lo hi u' ∧ yNx (fun j => X.testBit j) lo hi q 0 u u' g := by
  have z := nw_in (X := X) q8 h q 0 (99999 - q) u f (by omega) hu hf
  rw [show 99999 - q + q + 1 = 100000 from by omega] at z
  exact z
/-- the reference's next way -/
theorem mo_in {Td : Nat → Int32} {lo hi : Nat → Nat} {q : Nat} (q8 : q ≤ 8) (h : ∀ j, j < q → Td (7 * j + 0) = nI (lo j) ∧ Td (7 * j + 1) = nI (hi j) ∧ lo j ≤ hi j ∧ hi j ≤ 9) : ∀ (m x k : Nat) (u : Nat → Nat) (f : Nat → Int32), x + m = q → yBx q lo hi u → (∀ j, j < q → f j = nI (u j)) → ∃ (u' : Nat → Nat) (f' : Nat → Int32) (g : Int32), K_m_goesOn_L2 (nI q) Td (k + m + 1) (nI x) f = (g, f') ∧ (∀ j, j < q → f' j = nI (u' j)) ∧ yBx q lo hi u' ∧ yNx (fun _ => true) lo hi q x u u' g := by
  have qq : (nI q).toInt = (q : Int) := nI_toInt (by omega)
  intro m
  induction m with
  | zero =>
    intro x k u f hx hu hf
    have ex : (nI x).toInt = (x : Int) := nI_toInt (by omega)
    refine ⟨u, f, 0, ?_, hf, hu, fun j _ => rfl, fun j _ => rfl, Or.inl ⟨rfl, fun j a b => absurd a (by omega)⟩⟩
    simp only [K_m_goesOn_L2, K_m_goesOn_7, K_m_goesOn_8, K_m_goesOn_5, K_m_goesOn_9, K_m_goesOn_10, K_m_goesOn_6, K_m_goesOn_3, K_m_goesOn_20, K_m_goesOn_13, K_m_goesOn_16, K_m_goesOn_17, K_m_goesOn_14, K_m_goesOn_18, K_m_goesOn_19, K_m_goesOn_15, K_m_goesOn_12, K_m_goesOn_11, K_m_goesOn_4, K_m_goesOn_2, K_m_goesOn_1, M_m_goesOn]
    rw [if_pos (by omega), if_pos (by omega), if_pos (by omega)]
  | succ m ih =>
    intro x k u f hx hu hf
    have ex : (nI x).toInt = (x : Int) := nI_toInt (by omega)
    have exc : (nI x).toNatClampNeg = x := nI_clamp (by omega)
    obtain ⟨h1, h2, h3, h4⟩ := h x (by omega)
    obtain ⟨u1, u2⟩ := hu x (by omega)
    have eh : (nI (hi x)).toInt = ((hi x : Nat) : Int) := nI_toInt (by omega)
    have eu : (nI (u x)).toInt = ((u x : Nat) : Int) := nI_toInt (by omega)
    have un : K_m_goesOn_L2 (nI q) Td ((k + m + 1) + 1) (nI x) f = if (nI (u x)).toInt = (nI (hi x)).toInt then K_m_goesOn_L2 (nI q) Td (k + m + 1) (nI (x + 1)) (upd f x (nI (lo x))) else (1, upd f x (nI (u x) + 1)) := by
      generalize k + m + 1 = j
      simp only [K_m_goesOn_L2, K_m_goesOn_7, K_m_goesOn_8, K_m_goesOn_5, K_m_goesOn_9, K_m_goesOn_10, K_m_goesOn_6, K_m_goesOn_3, K_m_goesOn_20, K_m_goesOn_13, K_m_goesOn_16, K_m_goesOn_17, K_m_goesOn_14, K_m_goesOn_18, K_m_goesOn_19, K_m_goesOn_15, K_m_goesOn_12, K_m_goesOn_11, K_m_goesOn_4, K_m_goesOn_2, K_m_goesOn_1, M_m_goesOn]
      rw [if_neg (by omega), exc, nI_1, hf x (by omega), show M_m_of Td (nI x) 1 = nI (hi x) from (t_of7 (k := 1) (by omega) (by decide)).trans h2, show M_m_of Td (nI x) 0 = nI (lo x) from (t_of7 (k := 0) (by omega) (by decide)).trans h1]
      by_cases c : (nI (u x)).toInt = (nI (hi x)).toInt
      · rw [if_pos c, if_pos c]
      · rw [if_neg c, if_neg c, if_neg (by omega), if_neg (by omega)]
    by_cases c : u x = hi x
    · rw [if_pos (by omega)] at un
      obtain ⟨u', f', g, a1, a2, a3, c1, c2, c3⟩ := ih (x + 1) k (fun j => if j = x then lo x else u j) (upd f x (nI (lo x))) (by omega) (fun j hj => by
        show lo j ≤ (if j = x then lo x else u j) ∧ (if j = x then lo x else u j) ≤ hi j
        by_cases e : j = x
        · rw [if_pos e, e]
          exact ⟨Nat.le_refl _, h3⟩
        · rw [if_neg e]
          exact hu j hj) (fun j hj => by
        show upd f x (nI (lo x)) j = nI (if j = x then lo x else u j)
        by_cases e : j = x
        · rw [e, xupd_s, if_pos rfl]
        · rw [xupd_o e, if_neg e]
          exact hf j hj)
      refine ⟨u', f', g, un.trans a1, a2, a3, fun j hj => absurd rfl hj, fun j hj => (c2 j (by omega)).trans (if_neg (by omega)), ?_⟩
      have ux : u' x = lo x := (c2 x (by omega)).trans (if_pos rfl)
      rcases c3 with ⟨g0, d⟩ | ⟨g1, p, p1, p2, p3, p4, p5, p6⟩
      · refine Or.inl ⟨g0, fun j j1 j2 z => ?_⟩
        by_cases e : j = x
        · rw [e]; exact c
        · have y := d j (by omega) j2 z
          dsimp only at y
          rw [if_neg e] at y
          exact y
      · refine Or.inr ⟨g1, p, by omega, p2, p3, p4.trans (congrArg (fun n => n + 1) (if_neg (by omega))), fun j j1 j2 z => ?_, fun j hj => (p6 j hj).trans (if_neg (by omega))⟩
        by_cases e : j = x
        · rw [e]
          exact ⟨c, ux⟩
        · have y := p5 j (by omega) j2 z
          dsimp only at y
          rw [if_neg e] at y
          exact y
    · rw [if_neg (by omega), nI_1] at un
      refine ⟨fun j => if j = x then u x + 1 else u j, _, 1, un, fun j hj => ?_, fun j hj => ?_, fun j hj => absurd rfl hj, fun j hj => if_neg (by omega), Or.inr ⟨rfl, x, Nat.le_refl _, by omega, rfl, if_pos rfl, fun j j1 j2 => absurd j1 (by omega), fun j hj => if_neg (by omega)⟩⟩
      · show upd f x (nI (u x + 1)) j = nI (if j = x then u x + 1 else u j)
        by_cases e : j = x
        · rw [e, xupd_s, if_pos rfl]
        · rw [xupd_o e, if_neg e]
          exact hf j hj
      · show lo j ≤ (if j = x then u x + 1 else u j) ∧ (if j = x then u x + 1 else u j) ≤ hi j
        by_cases e : j = x
        · rw [if_pos e, e]
          omega
        · rw [if_neg e]
          exact hu j hj
theorem r_goesOn {Td : Nat → Int32} {lo hi u : Nat → Nat} {q : Nat} {f : Nat → Int32} (q8 : q ≤ 8) (h : ∀ j, j < q → Td (7 * j + 0) = nI (lo j) ∧ Td (7 * j + 1) = nI (hi j) ∧ lo j ≤ hi j ∧ hi j ≤ 9) (hu : yBx q lo hi u) (hf : ∀ j, j < q → f j = nI (u j)) : ∃ (u' : Nat → Nat) (f' : Nat → Int32) (g : Int32), M_m_goesOn (nI q) Td f = (g, f') ∧ (∀ j, j < q → f' j = nI (u' j)) ∧ yBx q lo hi u' ∧ yNx (fun _ => true) lo hi q 0 u u' g := by
  have z := mo_in q8 h q 0 (99999 - q) u f (by omega) hu hf
  rw [show 99999 - q + q + 1 = 100000 from by omega] at z
  exact z
/-- how many ways: the class -/
theorem cw2_in {pn : Nat → Int32} {lo hi : Nat → Nat} {q : Nat} (q8 : q ≤ 8) (h : ∀ j, j < q → pn (8 * j + 0) = nI (lo j) ∧ pn (8 * j + 1) = nI (hi j) ∧ lo j ≤ hi j ∧ hi j ≤ 9) : ∀ (m x k : Nat), x + m = q → K_countWays_L2 (nI q) pn (k + m + 1) (nI x) (nI (yPz (fun _ => true) lo hi x)) = nI (yPz (fun _ => true) lo hi q) := by
  have qq : (nI q).toInt = (q : Int) := nI_toInt (by omega)
  intro m
  induction m with
  | zero =>
    intro x k hx
    have ex : (nI x).toInt = (x : Int) := nI_toInt (by omega)
    obtain rfl : x = q := by omega
    simp only [K_countWays_L2, K_countWays_3, K_countWays_6, K_countWays_5, K_countWays_4, K_countWays_2, K_countWays_1, M_countWays]
    rw [if_pos (by omega)]
  | succ m ih =>
    intro x k hx
    have ex : (nI x).toInt = (x : Int) := nI_toInt (by omega)
    obtain ⟨h1, h2, h3, h4⟩ := h x (by omega)
    have z := ih (x + 1) k (by omega)
    rw [← z]
    show K_countWays_L2 (nI q) pn ((k + m + 1) + 1) (nI x) _ = _
    generalize k + m + 1 = j
    simp only [K_countWays_L2, K_countWays_3, K_countWays_6, K_countWays_5, K_countWays_4, K_countWays_2, K_countWays_1, M_countWays]
    rw [if_neg (by omega), nI_1, show M_number pn (nI x) 1 = nI (hi x) from (t_nb (k := 1) (by omega) (by decide)).trans h2, show M_number pn (nI x) 0 = nI (lo x) from (t_nb (k := 0) (by omega) (by decide)).trans h1, y_nsub h3 (by omega), nI_1, pk_mul, show yPz (fun _ => true) lo hi (x + 1) = yPz (fun _ => true) lo hi x * (hi x - lo x + 1) from if_pos rfl]
/-- how many ways: the reference, which counts no further than it must -/
theorem mw2_in {Td : Nat → Int32} {lo hi : Nat → Nat} {q : Nat} (q8 : q ≤ 8) (h : ∀ j, j < q → Td (7 * j + 0) = nI (lo j) ∧ Td (7 * j + 1) = nI (hi j) ∧ lo j ≤ hi j ∧ hi j ≤ 9) : ∀ (m x k V : Nat), x + m = q → V ≤ 200000 → ((V ≤ 20000 ∧ V = yPz (fun _ => true) lo hi x) ∨ (20000 < V ∧ 20000 < yPz (fun _ => true) lo hi x)) → ∃ W : Nat, K_m_ways_L2 (nI q) Td (k + m + 1) (nI x) (nI V) = nI W ∧ W ≤ 200000 ∧ ((W ≤ 20000 ∧ W = yPz (fun _ => true) lo hi q) ∨ (20000 < W ∧ 20000 < yPz (fun _ => true) lo hi q)) := by
  have qq : (nI q).toInt = (q : Int) := nI_toInt (by omega)
  intro m
  induction m with
  | zero =>
    intro x k V hx hV hI
    have ex : (nI x).toInt = (x : Int) := nI_toInt (by omega)
    obtain rfl : x = q := by omega
    refine ⟨V, ?_, hV, hI⟩
    simp only [K_m_ways_L2, K_m_ways_3, K_m_ways_8, K_m_ways_7, K_m_ways_5, K_m_ways_6, K_m_ways_4, K_m_ways_2, K_m_ways_1, M_m_ways]
    rw [if_pos (by omega)]
  | succ m ih =>
    intro x k V hx hV hI
    have ex : (nI x).toInt = (x : Int) := nI_toInt (by omega)
    have ev : (nI V).toInt = (V : Int) := nI_toInt (by omega)
    obtain ⟨h1, h2, h3, h4⟩ := h x (by omega)
    have up := yPz_up (lo := lo) (hi := hi) x
    have st : yPz (fun _ => true) lo hi (x + 1) = yPz (fun _ => true) lo hi x * (hi x - lo x + 1) := if_pos rfl
    have un : K_m_ways_L2 (nI q) Td ((k + m + 1) + 1) (nI x) (nI V) = if (nI V).toInt ≤ 20000 then K_m_ways_L2 (nI q) Td (k + m + 1) (nI (x + 1)) (nI (V * (hi x - lo x + 1))) else K_m_ways_L2 (nI q) Td (k + m + 1) (nI (x + 1)) (nI V) := by
      generalize k + m + 1 = j
      simp only [K_m_ways_L2, K_m_ways_3, K_m_ways_8, K_m_ways_7, K_m_ways_5, K_m_ways_6, K_m_ways_4, K_m_ways_2, K_m_ways_1, M_m_ways]
      rw [if_neg (by omega), nI_1, show M_m_of Td (nI x) 1 = nI (hi x) from (t_of7 (k := 1) (by omega) (by decide)).trans h2, show M_m_of Td (nI x) 0 = nI (lo x) from (t_of7 (k := 0) (by omega) (by decide)).trans h1, y_nsub h3 (by omega), nI_1, pk_mul]
    rcases hI with ⟨a, b⟩ | ⟨a, b⟩
    · rw [if_pos (by omega)] at un
      have l : V * (hi x - lo x + 1) ≤ 20000 * 10 := Nat.mul_le_mul a (by omega)
      obtain ⟨W, w1, w2, w3⟩ := ih (x + 1) k (V * (hi x - lo x + 1)) (by omega) (by omega) (by
        rw [st, ← b]
        omega)
      exact ⟨W, un.trans w1, w2, w3⟩
    · rw [if_neg (by omega)] at un
      obtain ⟨W, w1, w2, w3⟩ := ih (x + 1) k V (by omega) hV (Or.inr ⟨a, by omega⟩)
      exact ⟨W, un.trans w1, w2, w3⟩
theorem yPz_9 {lo hi : Nat → Nat} {q : Nat} (q8 : q ≤ 8) (h : ∀ j, j < q → hi j ≤ 9 ∧ 1 ≤ lo j) : yPz (fun _ => true) lo hi q ≤ 43046721 := by
  have a : ∀ n, n ≤ q → yPz (fun _ => true) lo hi n ≤ 9 ^ n := by
    intro n
    induction n with
    | zero => exact fun _ => Nat.le_refl _
    | succ n ih =>
      intro hn
      have := h n (by omega)
      rw [show yPz (fun _ => true) lo hi (n + 1) = yPz (fun _ => true) lo hi n * (hi n - lo n + 1) from if_pos rfl, Nat.pow_succ]
      exact Nat.mul_le_mul (ih (by omega)) (by omega)
  have b := a q (Nat.le_refl _)
  have c : 9 ^ q ≤ 9 ^ 8 := Nat.pow_le_pow_right (by decide) q8
  have e : (9 : Nat) ^ 8 = 43046721 := by decide
  omega
/-- the times told, as numbers -/
def ylo (Td : Nat → Int32) (j : Nat) : Nat := (Td (7 * j + 0)).toNatClampNeg
def yhi (Td : Nat → Int32) (j : Nat) : Nat := (Td (7 * j + 1)).toNatClampNeg
theorem y_lh {pn Td Nm Tb : Nat → Int32} {pt : Nat → Int64} {wt : Bool} {q : Nat} (hE : xE wt q pn pt Td Nm Tb) (ht : xTD Td q) : (∀ j, j < q → pn (8 * j + 0) = nI (ylo Td j) ∧ pn (8 * j + 1) = nI (yhi Td j) ∧ ylo Td j ≤ yhi Td j ∧ yhi Td j ≤ 9) ∧ (∀ j, j < q → Td (7 * j + 0) = nI (ylo Td j) ∧ Td (7 * j + 1) = nI (yhi Td j) ∧ ylo Td j ≤ yhi Td j ∧ yhi Td j ≤ 9) ∧ ∀ j, j < q → 1 ≤ ylo Td j := by
  have g : ∀ j, j < q → Td (7 * j + 0) = nI (ylo Td j) ∧ Td (7 * j + 1) = nI (yhi Td j) ∧ ylo Td j ≤ yhi Td j ∧ yhi Td j ≤ 9 := fun j hj => by
    obtain ⟨b1, b2, b3⟩ := ht j hj
    have b1 : 1 ≤ (Td (7 * j + 0)).toInt := b1
    have b2 : (Td (7 * j + 0)).toInt ≤ (Td (7 * j + 1)).toInt := b2
    have n0 := xtn (x := Td (7 * j + 0)) (by omega)
    have n1 := xtn (x := Td (7 * j + 1)) (by omega)
    unfold ylo yhi
    exact ⟨(xnI (by omega)).symm, (xnI (by omega)).symm, by omega, by omega⟩
  refine ⟨fun j hj => ?_, g, fun j hj => ?_⟩
  · obtain ⟨a1, a2, a3, a4⟩ := g j hj
    exact ⟨((hE j hj).1 0 (by decide) (Or.inl (by decide))).trans a1, ((hE j hj).1 1 (by decide) (Or.inl (by decide))).trans a2, a3, a4⟩
  · obtain ⟨b1, b2, b3⟩ := ht j hj
    have b1 : 1 ≤ (Td (7 * j + 0)).toInt := b1
    have n0 := xtn (x := Td (7 * j + 0)) (by omega)
    unfold ylo
    omega
/-- how many ways: one on both sides -/
theorem r_ways {pn Td Nm Tb : Nat → Int32} {pt : Nat → Int64} {wt : Bool} {q : Nat} (q8 : q ≤ 8) (hE : xE wt q pn pt Td Nm Tb) (ht : xTD Td q) : ∃ W : Nat, M_countWays (nI q) pn = nI (yPz (fun _ => true) (ylo Td) (yhi Td) q) ∧ yPz (fun _ => true) (ylo Td) (yhi Td) q ≤ 43046721 ∧ M_m_ways (nI q) Td = nI W ∧ W ≤ 200000 ∧ ((W ≤ 20000 ∧ W = yPz (fun _ => true) (ylo Td) (yhi Td) q) ∨ (20000 < W ∧ 20000 < yPz (fun _ => true) (ylo Td) (yhi Td) q)) := by
  obtain ⟨gp, g, g1⟩ := y_lh hE ht
  have z := cw2_in q8 gp q 0 (99999 - q) (by omega)
  obtain ⟨W, w1, w2, w3⟩ := mw2_in q8 g q 0 (99999 - q) 1 (by omega) (by decide) (Or.inl ⟨by decide, rfl⟩)
  rw [show 99999 - q + q + 1 = 100000 from by omega] at z w1
  exact ⟨W, z, yPz_9 q8 (fun j hj => ⟨(g j hj).2.2.2, g1 j hj⟩), w1, w2, w3⟩
-- 99.d.peaks
theorem y_max {a b : Int32} : (if a < b then b else a) = if b.toInt ≤ a.toInt then a else b := by
  have e : a < b ↔ a.toInt < b.toInt := ilt rfl rfl
  by_cases z : b.toInt ≤ a.toInt
  · rw [if_pos z, if_neg (fun y => by have := e.mp y; omega)]
  · rw [if_neg z, if_pos (e.mpr (by omega))]
theorem y_min {a b : Int32} : (if a < b then a else b) = if b.toInt ≤ a.toInt then b else a := by
  have e : a < b ↔ a.toInt < b.toInt := ilt rfl rfl
  by_cases z : b.toInt ≤ a.toInt
  · rw [if_pos z, if_neg (fun y => by have := e.mp y; omega)]
  · rw [if_neg z, if_pos (e.mpr (by omega))]
/-- the times matter at those that come up alone -/
theorem yM_k {q : Nat} {P : Nat → Bool} {pt : Nat → Int64} {w k v : Nat → Nat} (h : ∀ x, x < q → P x = true → k x = v x) : ∀ t, t ≤ 100000 → yM q P pt w k t = yM q P pt w v t := by
  intro t
  induction t with
  | zero => exact fun _ => rfl
  | succ t ih =>
    intro ht
    have i9 := ih (by omega)
    show yN q P pt w k t (yM q P pt w k t) = yN q P pt w v t (yM q P pt w v t)
    rw [i9]
    have hlt := yM_lt (q := q) (P := P) (pt := pt) (w := w) (k := v) t
    generalize yM q P pt w v t = M at hlt
    have e : yG w k M = yG w v M := funext (fun x => by
      unfold yG
      by_cases z : M x = 100000
      · rw [if_pos z, if_pos z]
      · obtain ⟨-, y1, y2⟩ := (hlt x).resolve_left z
        rw [if_neg z, if_neg z, h x y1 y2])
    unfold yN
    rw [e]
theorem yT_k {q : Nat} {pt : Nat → Int64} {d : Int32} {w k v : Nat → Nat} (h : ∀ x, x < q → (yX q pt d).testBit x = true → k x = v x) : yT q pt d w k = yT q pt d w v := yM_k h 201 (by decide)
theorem yGT_k {q : Nat} {pt : Nat → Int64} {d : Int32} {w k v : Nat → Nat} (h : ∀ x, x < q → (yX q pt d).testBit x = true → k x = v x) : yGT q pt d k w = yGT q pt d v w := by
  have e := yT_k (w := w) h
  have hlt := yM_lt (q := q) (P := fun x => (yX q pt d).testBit x) (pt := pt) (w := w) (k := v) 201
  rw [show yM q (fun x => (yX q pt d).testBit x) pt w v 201 = yT q pt d w v from rfl] at hlt
  unfold yGT
  rw [e]
  funext x
  unfold yG
  by_cases z : yT q pt d w v x = 100000
  · rw [if_pos z, if_pos z]
  · obtain ⟨-, y1, y2⟩ := (hlt x).resolve_left z
    rw [if_neg z, if_neg z, h x y1 y2]
theorem yPT_k {q : Nat} {pt : Nat → Int64} {d : Int32} {w k v : Nat → Nat} {n3 n4 : Nat → Int32} (h : ∀ x, x < q → (yX q pt d).testBit x = true → k x = v x) : yPT q pt d k n3 n4 w = yPT q pt d v n3 n4 w := by
  have e : yDr q pt d k n3 n4 w = yDr q pt d v n3 n4 w := by
    funext t
    unfold yDr
    rw [yT_k h, yGT_k h]
  unfold yPT
  rw [e]
/-- the highest, or the lowest, of the first N ways -/
def yUp (Z : Nat → Bool) (lo hi : Nat → Nat) (q : Nat) (val : (Nat → Nat) → Int32) (N : Nat) (g : Int32) : Prop := (∃ v, yBx q lo hi v ∧ yRk Z lo hi v q < N ∧ val v = g) ∧ ∀ v, yBx q lo hi v → yRk Z lo hi v q < N → (val v).toInt ≤ g.toInt
def yDn (Z : Nat → Bool) (lo hi : Nat → Nat) (q : Nat) (val : (Nat → Nat) → Int32) (N : Nat) (g : Int32) : Prop := (∃ v, yBx q lo hi v ∧ yRk Z lo hi v q < N ∧ val v = g) ∧ ∀ v, yBx q lo hi v → yRk Z lo hi v q < N → g.toInt ≤ (val v).toInt
def yTop (lo hi : Nat → Nat) (q : Nat) (val : (Nat → Nat) → Int32) (g : Int32) : Prop := (∃ v, yBx q lo hi v ∧ val v = g) ∧ ∀ v, yBx q lo hi v → (val v).toInt ≤ g.toInt
def yBot (lo hi : Nat → Nat) (q : Nat) (val : (Nat → Nat) → Int32) (g : Int32) : Prop := (∃ v, yBx q lo hi v ∧ val v = g) ∧ ∀ v, yBx q lo hi v → g.toInt ≤ (val v).toInt
section
variable {Z : Nat → Bool} {lo hi u : Nat → Nat} {q N : Nat} {val : (Nat → Nat) → Int32} {g h : Int32}
theorem yUp_0 (dep : ∀ v v' : Nat → Nat, (∀ j, j < q → Z j = true → v j = v' j) → val v = val v') (hu : yBx q lo hi u) (e : yRk Z lo hi u q = 0) : yUp Z lo hi q val 1 (val u) := ⟨⟨u, hu, by omega, rfl⟩, fun v hv l => by
  rw [dep v u (yRk_inj q hv hu (by omega))]
  exact Int.le_refl _⟩
theorem yDn_0 (dep : ∀ v v' : Nat → Nat, (∀ j, j < q → Z j = true → v j = v' j) → val v = val v') (hu : yBx q lo hi u) (e : yRk Z lo hi u q = 0) : yDn Z lo hi q val 1 (val u) := ⟨⟨u, hu, by omega, rfl⟩, fun v hv l => by
  rw [dep v u (yRk_inj q hv hu (by omega))]
  exact Int.le_refl _⟩
theorem yUp_st (dep : ∀ v v' : Nat → Nat, (∀ j, j < q → Z j = true → v j = v' j) → val v = val v') (hu : yBx q lo hi u) (e : yRk Z lo hi u q = N) (hh : yUp Z lo hi q val N g) : yUp Z lo hi q val (N + 1) (if (val u).toInt ≤ g.toInt then g else val u) := by
  obtain ⟨⟨v, v1, v2, v3⟩, a⟩ := hh
  by_cases c : (val u).toInt ≤ g.toInt
  · rw [if_pos c]
    refine ⟨⟨v, v1, by omega, v3⟩, fun x hx l => ?_⟩
    by_cases y : yRk Z lo hi x q = N
    · rw [dep x u (yRk_inj q hx hu (by omega))]
      exact c
    · exact a x hx (by omega)
  · rw [if_neg c]
    refine ⟨⟨u, hu, by omega, rfl⟩, fun x hx l => ?_⟩
    by_cases y : yRk Z lo hi x q = N
    · rw [dep x u (yRk_inj q hx hu (by omega))]
      exact Int.le_refl _
    · have := a x hx (by omega)
      omega
theorem yDn_st (dep : ∀ v v' : Nat → Nat, (∀ j, j < q → Z j = true → v j = v' j) → val v = val v') (hu : yBx q lo hi u) (e : yRk Z lo hi u q = N) (hh : yDn Z lo hi q val N g) : yDn Z lo hi q val (N + 1) (if g.toInt ≤ (val u).toInt then g else val u) := by
  obtain ⟨⟨v, v1, v2, v3⟩, a⟩ := hh
  by_cases c : g.toInt ≤ (val u).toInt
  · rw [if_pos c]
    refine ⟨⟨v, v1, by omega, v3⟩, fun x hx l => ?_⟩
    by_cases y : yRk Z lo hi x q = N
    · rw [dep x u (yRk_inj q hx hu (by omega))]
      exact c
    · exact a x hx (by omega)
  · rw [if_neg c]
    refine ⟨⟨u, hu, by omega, rfl⟩, fun x hx l => ?_⟩
    by_cases y : yRk Z lo hi x q = N
    · rw [dep x u (yRk_inj q hx hu (by omega))]
      exact Int.le_refl _
    · have := a x hx (by omega)
      omega
theorem yUp_all (hh : yUp Z lo hi q val (yPz Z lo hi q) g) : yTop lo hi q val g := by
  obtain ⟨⟨v, v1, -, v3⟩, a⟩ := hh
  exact ⟨⟨v, v1, v3⟩, fun x hx => a x hx (yRk_lt q hx)⟩
theorem yDn_all (hh : yDn Z lo hi q val (yPz Z lo hi q) g) : yBot lo hi q val g := by
  obtain ⟨⟨v, v1, -, v3⟩, a⟩ := hh
  exact ⟨⟨v, v1, v3⟩, fun x hx => a x hx (yRk_lt q hx)⟩
theorem yTop_one (a : yTop lo hi q val g) (b : yTop lo hi q val h) : g = h := by
  obtain ⟨⟨v, v1, v2⟩, a1⟩ := a
  obtain ⟨⟨x, x1, x2⟩, b1⟩ := b
  have l1 := b1 v v1
  have l2 := a1 x x1
  rw [v2] at l1
  rw [x2] at l2
  exact Int32.toInt_inj.mp (by omega)
theorem yBot_one (a : yBot lo hi q val g) (b : yBot lo hi q val h) : g = h := by
  obtain ⟨⟨v, v1, v2⟩, a1⟩ := a
  obtain ⟨⟨x, x1, x2⟩, b1⟩ := b
  have l1 := b1 v v1
  have l2 := a1 x x1
  rw [v2] at l1
  rw [x2] at l2
  exact Int32.toInt_inj.mp (by omega)
end
/-- the peak of a way -/
def yPv (q : Nat) (pt : Nat → Int64) (d : Int32) (pn Td : Nat → Int32) (u : Nat → Nat) : Int32 := (yPT q pt d u (fun x => pn (8 * x + 3)) (fun x => pn (8 * x + 4)) (yw Td)).1
theorem yPv_pos {q : Nat} {pt : Nat → Int64} {d : Int32} {pn Td : Nat → Int32} {u : Nat → Nat} (q8 : q ≤ 8) (hn : ∀ j, j < 64 → 0 ≤ (pn j).toInt ∧ (pn j).toInt ≤ 511) : 0 ≤ (yPv q pt d pn Td u).toInt := by
  have z : ∀ t, 0 ≤ (yDr q pt d u (fun x => pn (8 * x + 3)) (fun x => pn (8 * x + 4)) (yw Td) t).toInt := fun t => (yD_rng q q8 (fun y hy => by
    unfold yV
    split
    · exact hn _ (by omega)
    · split
      · exact hn _ (by omega)
      · exact ⟨by decide, by decide⟩)).1
  have a := yPk_ge (D := yDr q pt d u (fun x => pn (8 * x + 3)) (fun x => pn (8 * x + 4)) (yw Td)) 200
  have b := z 200
  unfold yPv yPT
  omega
/-- one way of the class -/
theorem t_way {pn Td Nm Tb D fw f fr fg cx : Nat → Int32} {u : Nat → Nat} {pt : Nat → Int64} {q : Nat} {d : Int32} (q8 : q ≤ 8) (hE : xE true q pn pt Td Nm Tb) (hd : xDd d D) (hn : ∀ j, j < 64 → 0 ≤ (pn j).toInt ∧ (pn j).toInt ≤ 511) (hw : ∀ j, j < q → fw j = nI (yw Td j) ∧ yw Td j ≤ 9) (hf : ∀ j, j < q → f j = nI (u j) ∧ 1 ≤ u j ∧ u j ≤ 9) (hz : ∀ j, j ≤ 144 → cx j = 0) : ∃ (L pt2 : Int32) (fr' fg' cx' : Nat → Int32), M_follow (nI q) (nI (yX q pt d)) fw f pt fr fg = (nI (yX q pt d), L, fr', fg') ∧ M_findPeak (nI q) L fg' fr' pn (nI (yX q pt d)) cx = (yPv q pt d pn Td u, pt2, cx') ∧ (∀ j, j ≤ 144 → cx' j = 0) ∧ ∀ x, x < q → (yX q pt d).testBit x = true → fg' x = nI (yGT q pt d u (yw Td) x) ∧ yGT q pt d u (yw Td) x ≤ 144 := by
  have ma := y_mayX (q := q) (pt := pt) (d := d) q8
  obtain ⟨fr', fg', F, G, p1, -, -, p4, -, p6, -⟩ := y_pair (fw := fw) (ft := f) (Fw := fun j => nI (yw Td j)) (Fb := fun j => nI (u j)) (fr := fr) (fg := fg) (Fm := fr) (Fg := fg) (w := yw Td) (k := u) q8 hE hd hn (fun j hj => ⟨(hw j hj).1, rfl, (hw j hj).2⟩) (fun j hj => ⟨(hf j hj).1, rfl, (hf j hj).2⟩) ma.1 ma.2
  obtain ⟨cx', c1, c2⟩ := p6 cx hz
  exact ⟨_, _, fr', fg', cx', p1, c1, c2, fun x hx hb9 => ⟨(p4 x hx hb9).1.trans (p4 x hx hb9).2.1, (p4 x hx hb9).2.2⟩⟩
/-- one way of the reference -/
theorem r_way {pn Td Nm Tb D Fw f Fm Fg : Nat → Int32} {u : Nat → Nat} {pt : Nat → Int64} {q : Nat} {d : Int32} (q8 : q ≤ 8) (hE : xE true q pn pt Td Nm Tb) (hd : xDd d D) (hn : ∀ j, j < 64 → 0 ≤ (pn j).toInt ∧ (pn j).toInt ≤ 511) (hw : ∀ j, j < q → Fw j = nI (yw Td j) ∧ yw Td j ≤ 9) (hf : ∀ j, j < q → f j = nI (u j) ∧ 1 ≤ u j ∧ u j ≤ 9) : ∃ (pt2 : Int32) (F G : Nat → Int32), M_m_findTimes (nI q) Fw f Tb Fm Fg D = (nI (yX q pt d), F, G) ∧ (∀ pa : Int32, M_m_peakNow (nI q) Td G F Fw pa = (yPv q pt d pn Td u, pt2)) ∧ ∀ x, x < q → (yX q pt d).testBit x = true → G x = nI (yGT q pt d u (yw Td) x) ∧ yGT q pt d u (yw Td) x ≤ 144 := by
  have ma := y_mayX (q := q) (pt := pt) (d := d) q8
  obtain ⟨fr', fg', F, G, -, p2, -, p4, -, -, p7⟩ := y_pair (fw := fun j => nI (yw Td j)) (ft := fun j => nI (u j)) (Fw := Fw) (Fb := f) (fr := Fm) (fg := Fg) (Fm := Fm) (Fg := Fg) (w := yw Td) (k := u) q8 hE hd hn (fun j hj => ⟨rfl, (hw j hj).1, (hw j hj).2⟩) (fun j hj => ⟨rfl, (hf j hj).1, (hf j hj).2⟩) ma.1 ma.2
  refine ⟨(yPT q pt d u (fun x => pn (8 * x + 3)) (fun x => pn (8 * x + 4)) (yw Td)).2, F, G, p2, fun pa => ?_, fun x hx hb9 => (p4 x hx hb9).2⟩
  rw [p7 pa]
  unfold yPv
  generalize yPT q pt d u (fun x => pn (8 * x + 3)) (fun x => pn (8 * x + 4)) (yw Td) = R
  rfl
theorem fpk_in {pn Td Nm Tb D fw : Nat → Int32} {pt : Nat → Int64} {q : Nat} {d : Int32} (q8 : q ≤ 8) (hE : xE true q pn pt Td Nm Tb) (hd : xDd d D) (hn : ∀ j, j < 64 → 0 ≤ (pn j).toInt ∧ (pn j).toInt ≤ 511) (ht : xTD Td q) (hw : ∀ j, j < q → fw j = nI (yw Td j) ∧ yw Td j ≤ 9) : ∀ (m c kk : Nat) (u : Nat → Nat) (gp lp e1 e2 e3 e4 : Int32) (fr fg cx f : Nat → Int32), c + m + 1 ≤ 20000 → yBx q (ylo Td) (yhi Td) u → (∀ j, j < q → f j = nI (u j)) → (∀ j, j ≤ 144 → cx j = 0) → yRk (fun j => (yX q pt d).testBit j) (ylo Td) (yhi Td) u q = c → c + m + 1 = yPz (fun j => (yX q pt d).testBit j) (ylo Td) (yhi Td) q → yUp (fun j => (yX q pt d).testBit j) (ylo Td) (yhi Td) q (yPv q pt d pn Td) c gp → yDn (fun j => (yX q pt d).testBit j) (ylo Td) (yhi Td) q (yPv q pt d pn Td) c lp → ∃ (gp' lp' e1' e2' e3' e4' : Int32) (f' fr' fg' cx' : Nat → Int32), K_findPeaks_L9 fw (nI q) (nI (yX q pt d)) pn pt (kk + m + 2) (nI c) 1 fr fg cx gp lp e1 e2 e3 e4 f = (1, gp', lp', e1', e2', e3', e4', fw, f', fr', fg', cx') ∧ yTop (ylo Td) (yhi Td) q (yPv q pt d pn Td) gp' ∧ yBot (ylo Td) (yhi Td) q (yPv q pt d pn Td) lp' ∧ ∀ j, j ≤ 144 → cx' j = 0 := by
  obtain ⟨gp9, g9, g1⟩ := y_lh hE ht
  have dep : ∀ v v' : Nat → Nat, (∀ j, j < q → (fun j => (yX q pt d).testBit j) j = true → v j = v' j) → yPv q pt d pn Td v = yPv q pt d pn Td v' := fun v v' h => by
    unfold yPv
    rw [yPT_k h]
  have dn : ∀ (n c : Nat) (gp lp e1 e2 e3 e4 : Int32) (fr fg cx f : Nat → Int32), c ≤ 20000 → K_findPeaks_L9 fw (nI q) (nI (yX q pt d)) pn pt (n + 1) (nI c) 0 fr fg cx gp lp e1 e2 e3 e4 f = (1, gp, lp, e1, e2, e3, e4, fw, f, fr, fg, cx) := fun n c gp lp e1 e2 e3 e4 fr fg cx f hc => by
    have ec : (nI c).toInt = (c : Int) := nI_toInt (by omega)
    simp only [K_findPeaks_L9, K_findPeaks_9, K_findPeaks_10, K_findPeaks_11, K_findPeaks_12]
    by_cases z : 20000 ≤ (nI c).toInt
    · rw [if_pos z]
    · rw [if_neg z, if_pos (by decide)]
  have st : ∀ (n c : Nat) (u : Nat → Nat) (gp lp e1 e2 e3 e4 : Int32) (fr fg cx f : Nat → Int32), c < 20000 → yBx q (ylo Td) (yhi Td) u → (∀ j, j < q → f j = nI (u j)) → (∀ j, j ≤ 144 → cx j = 0) → ∃ (u' : Nat → Nat) (g e1' e2' e3' e4' : Int32) (f' fr' fg' cx' : Nat → Int32), K_findPeaks_L9 fw (nI q) (nI (yX q pt d)) pn pt (n + 1) (nI c) 1 fr fg cx gp lp e1 e2 e3 e4 f = K_findPeaks_L9 fw (nI q) (nI (yX q pt d)) pn pt n (nI (c + 1)) g fr' fg' cx' (if (yPv q pt d pn Td u).toInt ≤ gp.toInt then gp else yPv q pt d pn Td u) (if lp.toInt ≤ (yPv q pt d pn Td u).toInt then lp else yPv q pt d pn Td u) e1' e2' e3' e4' f' ∧ (∀ j, j < q → f' j = nI (u' j)) ∧ yBx q (ylo Td) (yhi Td) u' ∧ (∀ j, j ≤ 144 → cx' j = 0) ∧ yNx (fun j => (yX q pt d).testBit j) (ylo Td) (yhi Td) q 0 u u' g := fun n c u gp lp e1 e2 e3 e4 fr fg cx f hc hu hf hz => by
    have ec : (nI c).toInt = (c : Int) := nI_toInt (by omega)
    obtain ⟨L, pt2, fr', fg', cx', a1, a2, a3, -⟩ := t_way (fr := fr) (fg := fg) (cx := cx) (f := f) (u := u) q8 hE hd hn hw (fun j hj => ⟨hf j hj, by have := g1 j hj; have := hu j hj; omega, by have := (g9 j hj).2.2.2; have := hu j hj; omega⟩) hz
    obtain ⟨u', f', g, b1, b2, b3, b4⟩ := t_nextWay (X := yX q pt d) (f := f) q8 gp9 hu hf
    refine ⟨u', g, nI (yX q pt d), L, yPv q pt d pn Td u, pt2, f', fr', fg', cx', ?_, b2, b3, a3, b4⟩
    generalize yPv q pt d pn Td u = P at a2 ⊢
    simp only [K_findPeaks_L9, K_findPeaks_9, K_findPeaks_11, K_findPeaks_13, K_findPeaks_14, K_findPeaks_15, K_findPeaks_16]
    rw [if_neg (by omega), if_neg (by decide), a1]
    dsimp only
    rw [a2]
    dsimp only
    rw [b1, y_max, y_min, nI_1]
  intro m
  induction m with
  | zero =>
    intro c kk u gp lp e1 e2 e3 e4 fr fg cx f hc hu hf hz hr hm hU hD
    obtain ⟨u', g, e1', e2', e3', e4', f', fr', fg', cx', s1, s2, s3, s4, s5⟩ := st (kk + 1) c u gp lp e1 e2 e3 e4 fr fg cx f (by omega) hu hf hz
    have nU := yUp_st dep hu hr hU
    have nD := yDn_st dep hu hr hD
    rcases yRk_next (fun j hj => (g9 j hj).2.2.1) hu s5 with ⟨g0, r0⟩ | ⟨-, r0⟩
    · rw [g0, dn kk (c + 1) _ _ _ _ _ _ _ _ _ _ (by omega)] at s1
      rw [show c + 1 = yPz (fun j => (yX q pt d).testBit j) (ylo Td) (yhi Td) q from by omega] at nU nD
      exact ⟨_, _, _, _, _, _, _, _, _, _, s1, yUp_all nU, yDn_all nD, s4⟩
    · have := yRk_lt (Z := fun j => (yX q pt d).testBit j) q s3
      omega
  | succ m ih =>
    intro c kk u gp lp e1 e2 e3 e4 fr fg cx f hc hu hf hz hr hm hU hD
    obtain ⟨u', g, e1', e2', e3', e4', f', fr', fg', cx', s1, s2, s3, s4, s5⟩ := st (kk + m + 2) c u gp lp e1 e2 e3 e4 fr fg cx f (by omega) hu hf hz
    have nU := yUp_st dep hu hr hU
    have nD := yDn_st dep hu hr hD
    rcases yRk_next (fun j hj => (g9 j hj).2.2.1) hu s5 with ⟨-, r0⟩ | ⟨g1, r0⟩
    · omega
    · rw [g1] at s1
      obtain ⟨gp', lp', x1, x2, x3, x4, y1, y2, y3, y4, z1, z2⟩ := ih (c + 1) kk u' _ _ e1' e2' e3' e4' fr' fg' cx' f' (by omega) s3 s2 s4 (by omega) (by omega) nU nD
      exact ⟨gp', lp', x1, x2, x3, x4, y1, y2, y3, y4, s1.trans z1, z2⟩
/-- the peaks of all ways: the class -/
theorem t_findPeaks {pn Td Nm Tb D fw ft fr fg cx : Nat → Int32} {pt : Nat → Int64} {q : Nat} {d s0 gp0 lp0 cup cl cpk cpt : Int32} (q8 : q ≤ 8) (hE : xE true q pn pt Td Nm Tb) (hd : xDd d D) (hn : ∀ j, j < 64 → 0 ≤ (pn j).toInt ∧ (pn j).toInt ≤ 511) (ht : xTD Td q) (hz : ∀ j, j ≤ 144 → cx j = 0) (hs : M_upAmong (nI q) s0 pt = nI (yX q pt d)) (hW : yPz (fun _ => true) (ylo Td) (yhi Td) q ≤ 20000) : ∃ (gp' lp' e1' e2' e3' e4' : Int32) (fw' ft' fr' fg' cx' : Nat → Int32), M_findPeaks 0 (nI q) pn pt cx fr fg ft fw s0 gp0 lp0 cup cl cpk cpt = (1, gp', lp', e1', e2', e3', e4', fw', ft', fr', fg', cx') ∧ yTop (ylo Td) (yhi Td) q (yPv q pt d pn Td) gp' ∧ yBot (ylo Td) (yhi Td) q (yPv q pt d pn Td) lp' ∧ ∀ j, j ≤ 144 → cx' j = 0 := by
  obtain ⟨gp9, g9, g1⟩ := y_lh hE ht
  have le := yPz_le (Z := fun j => (yX q pt d).testBit j) (lo := ylo Td) (hi := yhi Td) q
  have dep : ∀ v v' : Nat → Nat, (∀ j, j < q → (fun j => (yX q pt d).testBit j) j = true → v j = v' j) → yPv q pt d pn Td v = yPv q pt d pn Td v' := fun v v' h => by
    unfold yPv
    rw [yPT_k h]
  have hf : ∀ j, j < q → M_cSetTakes (nI q) pn 0 ft j = nI (ylo Td j) := fun j hj => by
    rw [show M_cSetTakes (nI q) pn 0 ft = _ from t_cSetT (c := 0) q8 (by decide), yF_t hj rfl]
    exact (gp9 j hj).1
  have hu : yBx q (ylo Td) (yhi Td) (ylo Td) := fun j hj => ⟨Nat.le_refl _, (g9 j hj).2.2.1⟩
  have r0 := yRk_lo (Z := fun j => (yX q pt d).testBit j) (lo := ylo Td) (hi := yhi Td) (u := ylo Td) q (fun j _ _ => rfl)
  obtain ⟨L, pt2, fr', fg', cx', a1, a2, a3, -⟩ := t_way (fw := M_cSetWaits (nI q) pn fw) (fr := fr) (fg := fg) (cx := cx) (f := M_cSetTakes (nI q) pn 0 ft) (u := ylo Td) q8 hE hd hn (fun j hj => yw_c q8 hE hj) (fun j hj => ⟨hf j hj, g1 j hj, by have := (g9 j hj).2.2; omega⟩) hz
  obtain ⟨u', f', g, b1, b2, b3, b4⟩ := t_nextWay (X := yX q pt d) (f := M_cSetTakes (nI q) pn 0 ft) q8 gp9 hu hf
  have un : M_findPeaks 0 (nI q) pn pt cx fr fg ft fw s0 gp0 lp0 cup cl cpk cpt = K_findPeaks_L9 (M_cSetWaits (nI q) pn fw) (nI q) (nI (yX q pt d)) pn pt 100000 1 g fr' fg' cx' (yPv q pt d pn Td (ylo Td)) (yPv q pt d pn Td (ylo Td)) (nI (yX q pt d)) L (yPv q pt d pn Td (ylo Td)) pt2 f' := by
    simp only [M_findPeaks, K_findPeaks_1, K_findPeaks_2, K_findPeaks_4, K_findPeaks_5, K_findPeaks_6, K_findPeaks_7, K_findPeaks_8, K_wStart_3, K_wStart_2, K_wStart_1, M_wStart]
    rw [if_pos (by decide), hs, a1]
    dsimp only
    rw [a2]
    dsimp only
    rw [b1]
  have U0 := yUp_0 dep hu r0
  have D0 := yDn_0 dep hu r0
  rcases yRk_next (fun j hj => (g9 j hj).2.2.1) hu b4 with ⟨g0, r1⟩ | ⟨g2, r1⟩
  · rw [g0] at un
    rw [r0] at r1
    have e1 : (1 : Nat) = yPz (fun j => (yX q pt d).testBit j) (ylo Td) (yhi Td) q := by omega
    rw [e1] at U0 D0
    refine ⟨_, _, nI (yX q pt d), L, yPv q pt d pn Td (ylo Td), pt2, M_cSetWaits (nI q) pn fw, f', fr', fg', cx', un.trans ?_, yUp_all U0, yDn_all D0, a3⟩
    show K_findPeaks_L9 _ _ _ pn pt (99999 + 1) 1 0 _ _ _ _ _ _ _ _ _ _ = _
    generalize (99999 : Nat) = j
    simp only [K_findPeaks_L9, K_findPeaks_9, K_findPeaks_11, K_findPeaks_12]
    rw [if_neg (by decide), if_pos (by decide)]
  · rw [g2] at un
    have lt := yRk_lt (Z := fun j => (yX q pt d).testBit j) q b3
    obtain ⟨gp', lp', x1, x2, x3, x4, y1, y2, y3, y4, z1, z2⟩ := fpk_in (fw := M_cSetWaits (nI q) pn fw) q8 hE hd hn ht (fun j hj => yw_c q8 hE hj) (yPz (fun j => (yX q pt d).testBit j) (ylo Td) (yhi Td) q - 2) 1 (99998 - (yPz (fun j => (yX q pt d).testBit j) (ylo Td) (yhi Td) q - 2)) u' _ _ (nI (yX q pt d)) L (yPv q pt d pn Td (ylo Td)) pt2 fr' fg' cx' f' (by omega) b3 b2 a3 (by omega) (by omega) U0 D0
    rw [show 99998 - (yPz (fun j => (yX q pt d).testBit j) (ylo Td) (yhi Td) q - 2) + (yPz (fun j => (yX q pt d).testBit j) (ylo Td) (yhi Td) q - 2) + 2 = 100000 from by omega] at z1
    exact ⟨gp', lp', x1, x2, x3, x4, _, y1, y2, y3, y4, un.trans z1, z2⟩
/-- the peaks of all ways: the reference -/
theorem mpk_in {pn Td Nm Tb D Fw : Nat → Int32} {pt : Nat → Int64} {q : Nat} {d a0 : Int32} (q8 : q ≤ 8) (hE : xE true q pn pt Td Nm Tb) (hd : xDd d D) (hn : ∀ j, j < 64 → 0 ≤ (pn j).toInt ∧ (pn j).toInt ≤ 511) (ht : xTD Td q) (hw : ∀ j, j < q → Fw j = nI (yw Td j) ∧ yw Td j ≤ 9) {B : Nat → Int32 → Prop} (h0 : ∀ u : Nat → Nat, yBx q (ylo Td) (yhi Td) u → yRk (fun _ => true) (ylo Td) (yhi Td) u q = 0 → B 1 (yPv q pt d pn Td u)) (hs : ∀ (N : Nat) (g : Int32) (u : Nat → Nat), yBx q (ylo Td) (yhi Td) u → yRk (fun _ => true) (ylo Td) (yhi Td) u q = N → B N g → B (N + 1) (if a0.toInt = 2 then (if (yPv q pt d pn Td u).toInt ≤ g.toInt then g else yPv q pt d pn Td u) else (if g.toInt ≤ (yPv q pt d pn Td u).toInt then g else yPv q pt d pn Td u))) (hp : ∀ N g, B N g → 0 ≤ g.toInt) : ∀ (m kk : Nat) (u : Nat → Nat) (best up pa : Int32) (Fm Fg f : Nat → Int32), yBx q (ylo Td) (yhi Td) u → (∀ j, j < q → f j = nI (u j)) → yRk (fun _ => true) (ylo Td) (yhi Td) u q + m + 1 = yPz (fun _ => true) (ylo Td) (yhi Td) q → ((best = -4 ∧ yRk (fun _ => true) (ylo Td) (yhi Td) u q = 0) ∨ B (yRk (fun _ => true) (ylo Td) (yhi Td) u q) best) → ∃ (best' up' pa' : Int32) (Fm' Fg' f' : Nat → Int32), K_m_peak_L25 Fw (nI q) Td a0 Tb D (kk + m + 2) 1 best Fm Fg up pa f = (best', up', pa', Fm', Fg', f', Fw) ∧ B (yPz (fun _ => true) (ylo Td) (yhi Td) q) best' := by
  obtain ⟨gp9, g9, g1⟩ := y_lh hE ht
  have dn : ∀ (n : Nat) (best up pa : Int32) (Fm Fg f : Nat → Int32), K_m_peak_L25 Fw (nI q) Td a0 Tb D (n + 1) 0 best Fm Fg up pa f = (best, up, pa, Fm, Fg, f, Fw) := fun n best up pa Fm Fg f => by
    simp only [K_m_peak_L25, K_m_peak_25, K_m_peak_26]
    rw [if_pos (by decide)]
  have st : ∀ (n : Nat) (u : Nat → Nat) (best up pa : Int32) (Fm Fg f : Nat → Int32), yBx q (ylo Td) (yhi Td) u → (∀ j, j < q → f j = nI (u j)) → ∃ (u' : Nat → Nat) (g up' pa' : Int32) (Fm' Fg' f' : Nat → Int32), K_m_peak_L25 Fw (nI q) Td a0 Tb D (n + 1) 1 best Fm Fg up pa f = K_m_peak_L25 Fw (nI q) Td a0 Tb D n g (if best.toInt = -4 then yPv q pt d pn Td u else if a0.toInt = 2 then (if (yPv q pt d pn Td u).toInt ≤ best.toInt then best else yPv q pt d pn Td u) else (if best.toInt ≤ (yPv q pt d pn Td u).toInt then best else yPv q pt d pn Td u)) Fm' Fg' up' pa' f' ∧ (∀ j, j < q → f' j = nI (u' j)) ∧ yBx q (ylo Td) (yhi Td) u' ∧ yNx (fun _ => true) (ylo Td) (yhi Td) q 0 u u' g := fun n u best up pa Fm Fg f hu hf => by
    obtain ⟨pt2, F, G, a1, a2, -⟩ := r_way (Fm := Fm) (Fg := Fg) (f := f) (u := u) q8 hE hd hn hw (fun j hj => ⟨hf j hj, by have := g1 j hj; have := hu j hj; omega, by have := (g9 j hj).2.2.2; have := hu j hj; omega⟩)
    obtain ⟨u', f', g, b1, b2, b3, b4⟩ := r_goesOn (f := f) q8 g9 hu hf
    refine ⟨u', g, nI (yX q pt d), pt2, F, G, f', ?_, b2, b3, b4⟩
    generalize yPv q pt d pn Td u = P at a2 ⊢
    simp only [K_m_peak_L25, K_m_peak_25, K_m_peak_27, K_m_peak_28, K_m_peak_29, K_m_peak_30, K_m_peak_31, K_m_peak_32, K_m_peak_33, K_m_peak_34, K_m_peak_35, K_m_peak_36, K_m_peak_37, K_m_peak_38, K_m_peak_39, K_m_peak_40, K_m_peak_41, K_m_peak_42]
    rw [if_neg (by decide), a1]
    dsimp only
    rw [a2 pa]
    dsimp only
    rw [b1]
    by_cases c1 : best.toInt = -4
    · rw [if_pos c1, if_pos c1]
    · rw [if_neg c1, if_neg c1]
      by_cases c2 : a0.toInt = 2
      · rw [if_pos c2, if_pos c2]
        by_cases c3 : P.toInt ≤ best.toInt
        · rw [if_pos c3, if_pos c3]
        · rw [if_neg c3, if_neg c3]
      · rw [if_neg c2, if_neg c2]
        by_cases c3 : best.toInt ≤ P.toInt
        · rw [if_pos c3, if_pos c3]
        · rw [if_neg c3, if_neg c3]
  have m4 : (-4 : Int32).toInt = -4 := by decide
  have nB : ∀ (u : Nat → Nat) (best : Int32), yBx q (ylo Td) (yhi Td) u → ((best = -4 ∧ yRk (fun _ => true) (ylo Td) (yhi Td) u q = 0) ∨ B (yRk (fun _ => true) (ylo Td) (yhi Td) u q) best) → B (yRk (fun _ => true) (ylo Td) (yhi Td) u q + 1) (if best.toInt = -4 then yPv q pt d pn Td u else if a0.toInt = 2 then (if (yPv q pt d pn Td u).toInt ≤ best.toInt then best else yPv q pt d pn Td u) else (if best.toInt ≤ (yPv q pt d pn Td u).toInt then best else yPv q pt d pn Td u)) := fun u best hu h => by
    rcases h with ⟨c1, c2⟩ | c
    · rw [if_pos (by rw [c1]; exact m4), c2]
      exact h0 u hu c2
    · have := hp _ _ c
      rw [if_neg (by omega)]
      exact hs _ _ u hu rfl c
  intro m
  induction m with
  | zero =>
    intro kk u best up pa Fm Fg f hu hf hm hI
    obtain ⟨u', g, up', pa', Fm', Fg', f', s1, s2, s3, s4⟩ := st (kk + 1) u best up pa Fm Fg f hu hf
    have b9 := nB u best hu hI
    rcases yRk_next (fun j hj => (g9 j hj).2.2.1) hu s4 with ⟨g0, r0⟩ | ⟨-, r0⟩
    · rw [g0, dn kk] at s1
      rw [r0] at b9
      exact ⟨_, _, _, _, _, _, s1, b9⟩
    · have := yRk_lt (Z := fun _ => true) q s3
      omega
  | succ m ih =>
    intro kk u best up pa Fm Fg f hu hf hm hI
    obtain ⟨u', g, up', pa', Fm', Fg', f', s1, s2, s3, s4⟩ := st (kk + m + 2) u best up pa Fm Fg f hu hf
    have b9 := nB u best hu hI
    rcases yRk_next (fun j hj => (g9 j hj).2.2.1) hu s4 with ⟨-, r0⟩ | ⟨g1, r0⟩
    · omega
    · rw [g1] at s1
      rw [← r0] at b9
      obtain ⟨best', x1, x2, y1, y2, y3, z1, z2⟩ := ih kk u' _ up' pa' Fm' Fg' f' s3 s2 (by omega) (Or.inr b9)
      exact ⟨best', x1, x2, y1, y2, y3, s1.trans z1, z2⟩
/-- what the class keeps of the peaks: nothing, or those of the plan -/
def yKp (q : Nat) (pt : Nat → Int64) (d : Int32) (pn Td : Nat → Int32) (pk gpk lpk : Int32) : Prop := pk = 0 ∨ (pk = 1 ∧ yTop (ylo Td) (yhi Td) q (yPv q pt d pn Td) gpk ∧ yBot (ylo Td) (yhi Td) q (yPv q pt d pn Td) lpk)
/-- the reference's peaks of all ways -/
theorem r_peaks {pn Td Nm Tb D Fw Fm Fg K By : Nat → Int32} {pt : Nat → Int64} {q : Nat} {d a0 up pa : Int32} (q8 : q ≤ 8) (hE : xE true q pn pt Td Nm Tb) (hd : xDd d D) (hn : ∀ j, j < 64 → 0 ≤ (pn j).toInt ∧ (pn j).toInt ≤ 511) (ht : xTD Td q) (hW : yPz (fun _ => true) (ylo Td) (yhi Td) q ≤ 20000) : ∃ (best' up' pa' : Int32) (Fm' Fg' f' : Nat → Int32), K_m_peak_L25 (M_m_setWaits (nI q) Td Fw) (nI q) Td a0 Tb D 200000000 1 (-4) Fm Fg up pa (M_m_setTimes (nI q) 1 K Td By) = (best', up', pa', Fm', Fg', f', M_m_setWaits (nI q) Td Fw) ∧ (a0.toInt = 2 → yTop (ylo Td) (yhi Td) q (yPv q pt d pn Td) best') ∧ (¬ a0.toInt = 2 → yBot (ylo Td) (yhi Td) q (yPv q pt d pn Td) best') := by
  obtain ⟨gp9, g9, g1⟩ := y_lh hE ht
  have dep : ∀ v v' : Nat → Nat, (∀ j, j < q → (fun _ : Nat => true) j = true → v j = v' j) → yPv q pt d pn Td v = yPv q pt d pn Td v' := fun v v' h => by
    unfold yPv
    rw [yPT_k (fun x hx _ => h x hx rfl)]
  have hf : ∀ j, j < q → M_m_setTimes (nI q) 1 K Td By j = nI (ylo Td j) := fun j hj => by
    rw [r_setT (c := 0) q8 (by decide) (by decide) (by decide), yF_t hj rfl]
    exact (g9 j hj).1
  have hu : yBx q (ylo Td) (yhi Td) (ylo Td) := fun j hj => ⟨Nat.le_refl _, (g9 j hj).2.2.1⟩
  have r0 := yRk_lo (Z := fun _ => true) (lo := ylo Td) (hi := yhi Td) (u := ylo Td) q (fun j _ _ => rfl)
  have ps := yPz_pos (Z := fun _ => true) (lo := ylo Td) (hi := yhi Td) q
  by_cases c : a0.toInt = 2
  · obtain ⟨best', x1, x2, y1, y2, y3, z1, z2⟩ := mpk_in (Fw := M_m_setWaits (nI q) Td Fw) (a0 := a0) (B := yUp (fun _ => true) (ylo Td) (yhi Td) q (yPv q pt d pn Td)) q8 hE hd hn ht (fun j hj => ⟨yw_m q8 hE hj, (yw_c (f := By) q8 hE hj).2⟩) (fun u hu e => yUp_0 dep hu e) (fun N g u hu e h => by
      rw [if_pos c]
      exact yUp_st dep hu e h) (fun N g h => by
      obtain ⟨⟨v, -, -, e⟩, -⟩ := h
      rw [← e]
      exact yPv_pos q8 hn) (yPz (fun _ => true) (ylo Td) (yhi Td) q - 1) (199999998 - (yPz (fun _ => true) (ylo Td) (yhi Td) q - 1)) (ylo Td) (-4) up pa Fm Fg (M_m_setTimes (nI q) 1 K Td By) hu hf (by omega) (Or.inl ⟨rfl, r0⟩)
    rw [show 199999998 - (yPz (fun _ => true) (ylo Td) (yhi Td) q - 1) + (yPz (fun _ => true) (ylo Td) (yhi Td) q - 1) + 2 = 200000000 from by omega] at z1
    exact ⟨best', x1, x2, y1, y2, y3, z1, fun _ => yUp_all z2, fun z => absurd c z⟩
  · obtain ⟨best', x1, x2, y1, y2, y3, z1, z2⟩ := mpk_in (Fw := M_m_setWaits (nI q) Td Fw) (a0 := a0) (B := yDn (fun _ => true) (ylo Td) (yhi Td) q (yPv q pt d pn Td)) q8 hE hd hn ht (fun j hj => ⟨yw_m q8 hE hj, (yw_c (f := By) q8 hE hj).2⟩) (fun u hu e => yDn_0 dep hu e) (fun N g u hu e h => by
      rw [if_neg c]
      exact yDn_st dep hu e h) (fun N g h => by
      obtain ⟨⟨v, -, -, e⟩, -⟩ := h
      rw [← e]
      exact yPv_pos q8 hn) (yPz (fun _ => true) (ylo Td) (yhi Td) q - 1) (199999998 - (yPz (fun _ => true) (ylo Td) (yhi Td) q - 1)) (ylo Td) (-4) up pa Fm Fg (M_m_setTimes (nI q) 1 K Td By) hu hf (by omega) (Or.inl ⟨rfl, r0⟩)
    rw [show 199999998 - (yPz (fun _ => true) (ylo Td) (yhi Td) q - 1) + (yPz (fun _ => true) (ylo Td) (yhi Td) q - 1) + 2 = 200000000 from by omega] at z1
    exact ⟨best', x1, x2, y1, y2, y3, z1, fun z => absurd z c, fun _ => yDn_all z2⟩
/-- peak: one on both sides -/
theorem x_peak_eq {pn Td Nm Tb fw ft Fw By fr fg cx Fm Fg D rt K : Nat → Int32} {pt : Nat → Int64} {q : Nat} {d a0 pk gpk lpk cup cl cpk cpt up pa : Int32} (q8 : q ≤ 8) (hE : xE true q pn pt Td Nm Tb) (hd : xDd d D) (hn : ∀ j, j < 64 → 0 ≤ (pn j).toInt ∧ (pn j).toInt ≤ 511) (hk : ∀ j, j < q → rt j = K j ∧ 1 ≤ (K j).toInt ∧ (K j).toInt ≤ 9) (ht : xTD Td q) (hz : ∀ j, j ≤ 144 → cx j = 0) (hc : yKp q pt d pn Td pk gpk lpk) {r pk9 gp9 lp9 cup9 cl9 cp9 ct9 v up9 pa9 : Int32} {fw9 ft9 fr9 fg9 cx9 Fm9 Fg9 By9 Fw9 : Nat → Int32} (x1 : M_x_peak a0 pk gpk lpk cup cl cpk cpt fw ft fr fg cx (nI q) pn pt d rt = (r, pk9, gp9, lp9, cup9, cl9, cp9, ct9, fw9, ft9, fr9, fg9, cx9)) (x2 : M_m_peak a0 up pa Fm Fg By Fw (nI q) Td Tb D K = (v, up9, pa9, Fm9, Fg9, By9, Fw9)) : r = v ∧ (∀ j, j ≤ 144 → cx9 j = 0) ∧ yKp q pt d pn Td pk9 gp9 lp9 := by
  have ua : M_upAmong (nI q) (xA q &&& (d ^^^ (-1))) pt = nI (yX q pt d) := (up_alive hE q8).trans (r_up2 hE q8)
  have ub : M_m_upBut (nI q) (nI (xDb q d)) Tb = nI (yX q pt d) := r_up2 hE q8
  have xl := yX_lt (pt := pt) (d := d) q8
  have ex : (nI (yX q pt d)).toInt = ((yX q pt d : Nat) : Int) := nI_toInt (by omega)
  simp only [K_x_peak_2, K_x_peak_11, K_x_peak_15, K_x_peak_14, K_x_peak_13, K_x_peak_12, K_x_peak_10, K_x_peak_9, K_x_peak_8, K_x_peak_6, K_x_peak_22, K_x_peak_26, K_x_peak_25, K_x_peak_24, K_x_peak_23, K_x_peak_21, K_x_peak_20, K_x_peak_19, K_x_peak_17, K_x_peak_18, K_x_peak_16, K_x_peak_7, K_x_peak_4, K_x_peak_5, K_x_peak_3, K_x_peak_1, M_x_peak] at x1
  simp only [K_m_peak_9, K_m_peak_15, K_m_peak_14, K_m_peak_13, K_m_peak_12, K_m_peak_11, K_m_peak_10, K_m_peak_8, K_m_peak_7, K_m_peak_6, K_m_peak_4, K_m_peak_22, K_m_peak_24, K_m_peak_23, K_m_peak_21, K_m_peak_20, K_m_peak_19, K_m_peak_17, K_m_peak_18, K_m_peak_16, K_m_peak_5, K_m_peak_2, K_m_peak_3, K_m_peak_1, M_m_peak] at x2
  by_cases a : 0 ≤ a0.toInt ∧ a0.toInt ≤ 3
  · rw [if_neg (by omega), if_pos a.2] at x1
    rw [if_pos a] at x2
    by_cases b : a0.toInt < 2
    · rw [if_pos b, t_alive, ua] at x1
      rw [if_pos (by omega), r_dead hd q8, ub] at x2
      by_cases X0 : (nI (yX q pt d)).toInt = 0
      · rw [if_pos X0] at x1 x2
        simp only [Prod.mk.injEq] at x1 x2
        obtain ⟨y1, y2, y3, y4, -, -, -, -, -, -, -, -, y13⟩ := x1
        exact ⟨by rw [← y1, ← x2.1], by rw [← y13]; exact hz, by rw [← y2, ← y3, ← y4]; exact hc⟩
      · obtain ⟨L, D3, P2, fr', fg', F, G, f1, f2, -, -, f5, f6⟩ := y_now (fw := fw) (ft := ft) (Fw := Fw) (By := By) (fr := fr) (fg := fg) (Fm := Fm) (Fg := Fg) q8 hE hd hn hk
        obtain ⟨cx', c1, c2⟩ := f5 cx hz
        rw [if_neg X0, f1] at x1
        rw [if_neg X0, f2] at x2
        dsimp only at x1 x2
        rw [c1] at x1
        rw [f6] at x2
        dsimp only at x1 x2
        by_cases z : a0.toInt = 0
        · rw [if_pos z] at x1 x2
          simp only [Prod.mk.injEq] at x1 x2
          obtain ⟨y1, y2, y3, y4, -, -, -, -, -, -, -, -, y13⟩ := x1
          exact ⟨by rw [← y1, ← x2.1], by rw [← y13]; exact c2, by rw [← y2, ← y3, ← y4]; exact hc⟩
        · rw [if_neg z] at x1 x2
          simp only [Prod.mk.injEq] at x1 x2
          obtain ⟨y1, y2, y3, y4, -, -, -, -, -, -, -, -, y13⟩ := x1
          exact ⟨by rw [← y1, ← x2.1], by rw [← y13]; exact c2, by rw [← y2, ← y3, ← y4]; exact hc⟩
    · obtain ⟨W, w1, w2, w3, w4, w5⟩ := r_ways q8 hE ht
      have eP : (nI (yPz (fun _ => true) (ylo Td) (yhi Td) q)).toInt = ((yPz (fun _ => true) (ylo Td) (yhi Td) q : Nat) : Int) := nI_toInt (by omega)
      have eW : (nI W).toInt = (W : Int) := nI_toInt (by omega)
      rw [if_neg b, w1] at x1
      rw [if_neg (by omega), w3] at x2
      rcases w5 with ⟨w5, w6⟩ | ⟨w5, w6⟩
      · rw [if_pos (by omega), t_alive, ua] at x1
        rw [if_pos (by omega), r_dead hd q8, ub] at x2
        by_cases X0 : (nI (yX q pt d)).toInt = 0
        · rw [if_pos X0] at x1 x2
          simp only [Prod.mk.injEq] at x1 x2
          obtain ⟨y1, y2, y3, y4, -, -, -, -, -, -, -, -, y13⟩ := x1
          exact ⟨by rw [← y1, ← x2.1], by rw [← y13]; exact hz, by rw [← y2, ← y3, ← y4]; exact hc⟩
        · obtain ⟨best', k1, k2, k3, k4, k5, m1, m2, m3⟩ := r_peaks (Fw := Fw) (Fm := Fm) (Fg := Fg) (K := K) (By := By) (a0 := a0) (up := up) (pa := pa) q8 hE hd hn ht (by omega)
          have fp : ∃ (gp' lp' e1' e2' e3' e4' : Int32) (fw' ft' fr' fg' cx' : Nat → Int32), M_findPeaks pk (nI q) pn pt cx fr fg ft fw (xA q &&& (d ^^^ (-1))) gpk lpk cup cl cpk cpt = (1, gp', lp', e1', e2', e3', e4', fw', ft', fr', fg', cx') ∧ yTop (ylo Td) (yhi Td) q (yPv q pt d pn Td) gp' ∧ yBot (ylo Td) (yhi Td) q (yPv q pt d pn Td) lp' ∧ ∀ j, j ≤ 144 → cx' j = 0 := by
            rcases hc with e | ⟨e, e1, e2⟩
            · rw [e]
              exact t_findPeaks q8 hE hd hn ht hz ua (by omega)
            · refine ⟨gpk, lpk, cup, cl, cpk, cpt, fw, ft, fr, fg, cx, ?_, e1, e2, hz⟩
              rw [e]
              simp only [M_findPeaks, K_findPeaks_1, K_findPeaks_3]
              rw [if_neg (by decide)]
          obtain ⟨gp', lp', e1', e2', e3', e4', fw', ft', fr', fg', cx', n1, n2, n3, n4⟩ := fp
          rw [if_neg X0, n1] at x1
          rw [if_neg X0, m1] at x2
          dsimp only at x1
          simp only [Prod.mk.injEq] at x2
          by_cases z : a0.toInt = 2
          · rw [if_pos z] at x1
            simp only [Prod.mk.injEq] at x1
            obtain ⟨y1, y2, y3, y4, -, -, -, -, -, -, -, -, y13⟩ := x1
            exact ⟨by rw [← y1, ← x2.1]; exact yTop_one n2 (m2 z), by rw [← y13]; exact n4, by rw [← y2, ← y3, ← y4]; exact Or.inr ⟨rfl, n2, n3⟩⟩
          · rw [if_neg z] at x1
            simp only [Prod.mk.injEq] at x1
            obtain ⟨y1, y2, y3, y4, -, -, -, -, -, -, -, -, y13⟩ := x1
            exact ⟨by rw [← y1, ← x2.1]; exact yBot_one n3 (m3 z), by rw [← y13]; exact n4, by rw [← y2, ← y3, ← y4]; exact Or.inr ⟨rfl, n2, n3⟩⟩
      · rw [if_neg (by omega)] at x1 x2
        simp only [Prod.mk.injEq] at x1 x2
        obtain ⟨y1, y2, y3, y4, -, -, -, -, -, -, -, -, y13⟩ := x1
        exact ⟨by rw [← y1, ← x2.1], by rw [← y13]; exact hz, by rw [← y2, ← y3, ← y4]; exact hc⟩
  · rw [if_neg a] at x2
    by_cases b : a0.toInt < 0
    · rw [if_pos b] at x1
      simp only [Prod.mk.injEq] at x1 x2
      obtain ⟨y1, y2, y3, y4, -, -, -, -, -, -, -, -, y13⟩ := x1
      exact ⟨by rw [← y1, ← x2.1], by rw [← y13]; exact hz, by rw [← y2, ← y3, ← y4]; exact hc⟩
    · rw [if_neg b, if_neg (by omega)] at x1
      simp only [Prod.mk.injEq] at x1 x2
      obtain ⟨y1, y2, y3, y4, -, -, -, -, -, -, -, -, y13⟩ := x1
      exact ⟨by rw [← y1, ← x2.1], by rw [← y13]; exact hz, by rw [← y2, ← y3, ← y4]; exact hc⟩
