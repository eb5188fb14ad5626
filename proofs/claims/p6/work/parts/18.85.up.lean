/-- those of the first n that c picks, besides g -/
def xup (c : Nat → Bool) : Nat → Nat → Nat
  | 0, g => g
  | n + 1, g => if c n = true then xup c n g ||| 2 ^ n else xup c n g
theorem xup_lt {c : Nat → Bool} {g : Nat} (hg : g < 256) : ∀ n, n ≤ 8 → xup c n g < 256 := by
  intro n
  induction n with
  | zero => exact fun _ => hg
  | succ n ih =>
    intro hn
    have := ih (by omega)
    unfold xup
    split
    · exact x_put_lt this (by omega)
    · exact this
theorem xup_ext {c d : Nat → Bool} {g : Nat} : ∀ n, (∀ r, r < n → c r = d r) → xup c n g = xup d n g := by
  intro n
  induction n with
  | zero => exact fun _ => rfl
  | succ n ih =>
    intro h
    unfold xup
    rw [h n (by omega), ih (fun r hr => h r (by omega))]
theorem xup_bit {c : Nat → Bool} {g j : Nat} : ∀ n, (xup c n g).testBit j = (g.testBit j || (decide (j < n) && c j)) := by
  intro n
  induction n with
  | zero => simp [xup]
  | succ n ih =>
    unfold xup
    by_cases q : c n = true
    · rw [if_pos q, Nat.testBit_or, ih, Nat.testBit_two_pow]
      by_cases e : n = j
      · subst e
        simp [q]
      · have e2 : decide (j < n + 1) = decide (j < n) := by
          by_cases z : j < n
          · simp [z, Nat.lt_succ_of_lt z]
          · have : ¬ j < n + 1 := by omega
            simp [z, this]
        simp [e, e2]
    · rw [if_neg q, ih]
      by_cases e : n = j
      · subst e
        simp [q]
      · have e2 : decide (j < n + 1) = decide (j < n) := by
          by_cases z : j < n
          · simp [z, Nat.lt_succ_of_lt z]
          · have : ¬ j < n + 1 := by omega
            simp [z, this]
        rw [e2]
/-- again and again, till nothing changes -/
def xit (C : Nat → Nat → Bool) (q : Nat) : Nat → Nat → Nat
  | 0, g => g
  | k + 1, g => if xup (C g) q g = g then g else xit C q k (xup (C g) q g)
theorem xit_ext {C D : Nat → Nat → Bool} {q : Nat} (q8 : q ≤ 8) (h : ∀ g r, g < 256 → r < q → C g r = D g r) : ∀ k g, g < 256 → xit C q k g = xit D q k g := by
  intro k
  induction k with
  | zero => exact fun _ _ => rfl
  | succ k ih =>
    intro g hg
    unfold xit
    rw [xup_ext (d := D g) q (fun r hr => h g r hg hr), ih _ (xup_lt hg q q8)]
/-- how many bits -/
def xpc (g : Nat) : Nat := (if g.testBit 0 then 1 else 0) + (if g.testBit 1 then 1 else 0) + (if g.testBit 2 then 1 else 0) + (if g.testBit 3 then 1 else 0) + (if g.testBit 4 then 1 else 0) + (if g.testBit 5 then 1 else 0) + (if g.testBit 6 then 1 else 0) + (if g.testBit 7 then 1 else 0)
theorem xpc_le (g : Nat) : xpc g ≤ 8 := by
  unfold xpc
  repeat' split
  all_goals omega
theorem xpc_or {g h : Nat} (hg : g < 256) (hh : h < 256) (hs : ∀ j, g.testBit j = true → h.testBit j = true) (hn : h ≠ g) : xpc g + 1 ≤ xpc h := by
  have e : ∃ j, j < 8 ∧ g.testBit j = false ∧ h.testBit j = true := by
    by_cases z : ∃ j, j < 8 ∧ g.testBit j = false ∧ h.testBit j = true
    · exact z
    · exfalso
      apply hn
      apply Nat.eq_of_testBit_eq
      intro j
      by_cases w : j < 8
      · cases a : g.testBit j with
        | true => exact hs j a
        | false =>
          cases b : h.testBit j with
          | false => rfl
          | true => exact absurd ⟨j, w, a, b⟩ z
      · have p : 2 ^ 8 ≤ 2 ^ j := Nat.pow_le_pow_right (by decide) (by omega)
        rw [Nat.testBit_lt_two_pow (Nat.lt_of_lt_of_le hg p), Nat.testBit_lt_two_pow (Nat.lt_of_lt_of_le hh p)]
  obtain ⟨j, j8, a, b⟩ := e
  have m : ∀ i, (if g.testBit i = true then 1 else 0) ≤ (if h.testBit i = true then 1 else 0 : Nat) := fun i => by
    cases z : g.testBit i with
    | false => rw [if_neg (by decide)]; exact Nat.zero_le _
    | true => rw [if_pos rfl, if_pos (hs i z)]; exact Nat.le_refl _
  have s : (if g.testBit j = true then 1 else 0) + 1 ≤ (if h.testBit j = true then 1 else 0 : Nat) := by
    rw [a, b]
    decide
  have m0 := m 0
  have m1 := m 1
  have m2 := m 2
  have m3 := m 3
  have m4 := m 4
  have m5 := m 5
  have m6 := m 6
  have m7 := m 7
  unfold xpc
  have c : j = 0 ∨ j = 1 ∨ j = 2 ∨ j = 3 ∨ j = 4 ∨ j = 5 ∨ j = 6 ∨ j = 7 := by omega
  rcases c with c | c | c | c | c | c | c | c <;> subst c <;> omega
theorem xup_pc {c : Nat → Bool} {g q : Nat} (hg : g < 256) (q8 : q ≤ 8) (h : xup c q g ≠ g) : xpc g + 1 ≤ xpc (xup c q g) := by
  refine xpc_or hg (xup_lt hg q q8) (fun j hj => ?_) h
  rw [xup_bit, hj]
  rfl
section
variable {pt : Nat → Int64} {s0 a0 : Int32} {Tb : Nat → Int32} {q : Nat}
/-- what the class looks at -/
def xCc (pt : Nat → Int64) (s0 : Int32) : Nat → Nat → Bool := fun g r => xb s0 r && hb pt r (g + 256)
theorem u_in {rec : Int32 → Int32 → Int32} {rd : Int32} {g : Nat} (q8 : q ≤ 8) (hg : g < 256) : ∀ (m r k : Nat), r + m = q → K_upAmong_L5 (nI q) (nI g) rec rd s0 pt (k + m + 1) (nI r) (nI (xup (xCc pt s0 g) r g)) = if xup (xCc pt s0 g) q g = g then nI g else rec (rd + 1) (nI (xup (xCc pt s0 g) q g)) := by
  have qq : (nI q).toInt = (q : Int) := nI_toInt (by omega)
  intro m
  induction m with
  | zero =>
    intro r k hr
    have rr : (nI r).toInt = (r : Int) := nI_toInt (by omega)
    obtain rfl : r = q := by omega
    have l := xup_lt (c := xCc pt s0 g) hg r q8
    have e1 : (nI (xup (xCc pt s0 g) r g)).toInt = ((xup (xCc pt s0 g) r g : Nat) : Int) := nI_toInt (by omega)
    have e2 : (nI g).toInt = (g : Int) := nI_toInt (by omega)
    simp only [K_upAmong_L5, K_upAmong_3, K_upAmong_9, K_upAmong_8, K_upAmong_6, K_upAmong_13, K_upAmong_14, K_upAmong_12, K_upAmong_11, K_upAmong_10, K_upAmong_7, K_upAmong_5, K_upAmong_4, K_upAmong_2, K_upAmong_1, M_upAmong]
    rw [if_pos (by omega)]
    by_cases z : xup (xCc pt s0 g) r g = g
    · rw [if_pos (by omega), if_pos z]
    · rw [if_neg (by omega), if_neg z]
  | succ m ih =>
    intro r k hr
    have rr : (nI r).toInt = (r : Int) := nI_toInt (by omega)
    have l := xup_lt (c := xCc pt s0 g) hg r (by omega)
    have z := ih (r + 1) k (by omega)
    rw [← z]
    show K_upAmong_L5 (nI q) (nI g) rec rd s0 pt ((k + m + 1) + 1) (nI r) _ = _
    generalize k + m + 1 = j
    simp only [K_upAmong_L5, K_upAmong_3, K_upAmong_9, K_upAmong_8, K_upAmong_6, K_upAmong_13, K_upAmong_14, K_upAmong_12, K_upAmong_11, K_upAmong_10, K_upAmong_7, K_upAmong_5, K_upAmong_4, K_upAmong_2, K_upAmong_1, M_upAmong]
    rw [if_neg (by omega), x_or256 hg, t_holds (by omega) (by omega), nI_1]
    have st : xup (xCc pt s0 g) (r + 1) g = if xCc pt s0 g r = true then xup (xCc pt s0 g) r g ||| 2 ^ r else xup (xCc pt s0 g) r g := rfl
    rw [st]
    by_cases b : xb s0 r = true
    · rw [if_pos ((xsr_1 s0 (by omega)).mpr b)]
      by_cases c : hb pt r (g + 256) = true
      · rw [if_pos c, if_neg (by decide), if_pos (by unfold xCc; rw [b, c]; rfl), x_put l (by omega)]
      · rw [if_neg c, if_pos (by decide), if_neg (by unfold xCc; simp [c])]
    · rw [if_neg (fun z => b ((xsr_1 s0 (by omega)).mp z)), if_neg (by unfold xCc; simp [b])]
theorem u_out (q8 : q ≤ 8) : ∀ (m k g : Nat), m ≤ 9 → g < 256 → K_upAmong_L2 (nI q) s0 pt (k + m + 1) (nI (9 - m)) (nI g) = nI (xit (xCc pt s0) q m g) := by
  intro m
  induction m with
  | zero =>
    intro k g _ hg
    simp only [K_upAmong_L2, K_upAmong_3, K_upAmong_9, K_upAmong_8, K_upAmong_6, K_upAmong_13, K_upAmong_14, K_upAmong_12, K_upAmong_11, K_upAmong_10, K_upAmong_7, K_upAmong_5, K_upAmong_4, K_upAmong_2, K_upAmong_1, M_upAmong]
    rw [if_pos (by decide)]
    rfl
  | succ m ih =>
    intro k g hm hg
    have rr : (nI (9 - (m + 1))).toInt = ((9 - (m + 1) : Nat) : Int) := nI_toInt (by omega)
    have go : K_upAmong_L2 (nI q) s0 pt ((k + m + 1) + 1) (nI (9 - (m + 1))) (nI g) = K_upAmong_L5 (nI q) (nI g) (K_upAmong_L2 (nI q) s0 pt (k + m + 1)) (nI (9 - (m + 1))) s0 pt 100000 (nI 0) (nI g) := by
      generalize k + m + 1 = j
      simp only [K_upAmong_L2, K_upAmong_3, K_upAmong_9, K_upAmong_8, K_upAmong_6, K_upAmong_13, K_upAmong_14, K_upAmong_12, K_upAmong_11, K_upAmong_10, K_upAmong_7, K_upAmong_5, K_upAmong_4, K_upAmong_2, K_upAmong_1, M_upAmong]
      rw [if_neg (by omega)]
      rfl
    have inn := u_in (pt := pt) (s0 := s0) (rec := K_upAmong_L2 (nI q) s0 pt (k + m + 1)) (rd := nI (9 - (m + 1))) q8 hg q 0 (99999 - q) (by omega)
    rw [show 99999 - q + q + 1 = 100000 from by omega] at inn
    rw [show k + (m + 1) + 1 = (k + m + 1) + 1 from by omega, go, show nI g = nI (xup (xCc pt s0 g) 0 g) from rfl] 
    rw [show K_upAmong_L5 (nI q) (nI (xup (xCc pt s0 g) 0 g)) (K_upAmong_L2 (nI q) s0 pt (k + m + 1)) (nI (9 - (m + 1))) s0 pt 100000 (nI 0) (nI (xup (xCc pt s0 g) 0 g)) = _ from inn]
    unfold xit
    by_cases z : xup (xCc pt s0 g) q g = g
    · rw [if_pos z, if_pos z]
    · rw [if_neg z, if_neg z, nI_1, show 9 - (m + 1) + 1 = 9 - m from by omega]
      exact ih k _ (by omega) (xup_lt hg q q8)
/-- RAILS that are up, the class's side -/
theorem r_up1 (q8 : q ≤ 8) : M_upAmong (nI q) s0 pt = nI (xit (xCc pt s0) q 9 0) := u_out (pt := pt) (s0 := s0) q8 9 99990 0 (by decide) (by decide)
/-- what the reference looks at -/
def xCm (pt : Nat → Int64) (a0 : Int32) : Nat → Nat → Bool := fun g r => !xb a0 r && hb pt r (g + 256)
theorem v_in {wt : Bool} {rec : Int32 → Int32 → Int32} {g : Nat} {pn Td Nm : Nat → Int32} (h : xE wt q pn pt Td Nm Tb) (q8 : q ≤ 8) (hg : g < 256) : ∀ (m r k : Nat), r + m = q → K_m_upBut_L5 (nI q) (nI g) rec a0 Tb (k + m + 1) (nI r) (nI (xup (xCm pt a0 g) r g)) = if xup (xCm pt a0 g) q g = g then rec 0 (nI (xup (xCm pt a0 g) q g)) else rec 1 (nI (xup (xCm pt a0 g) q g)) := by
  have qq : (nI q).toInt = (q : Int) := nI_toInt (by omega)
  intro m
  induction m with
  | zero =>
    intro r k hr
    have rr : (nI r).toInt = (r : Int) := nI_toInt (by omega)
    obtain rfl : r = q := by omega
    have l := xup_lt (c := xCm pt a0 g) hg r q8
    have e1 : (nI (xup (xCm pt a0 g) r g)).toInt = ((xup (xCm pt a0 g) r g : Nat) : Int) := nI_toInt (by omega)
    have e2 : (nI g).toInt = (g : Int) := nI_toInt (by omega)
    simp only [K_m_upBut_L5, K_m_upBut_3, K_m_upBut_8, K_m_upBut_9, K_m_upBut_6, K_m_upBut_13, K_m_upBut_14, K_m_upBut_12, K_m_upBut_11, K_m_upBut_10, K_m_upBut_7, K_m_upBut_5, K_m_upBut_4, K_m_upBut_2, K_m_upBut_1, M_m_upBut]
    rw [if_pos (by omega)]
    by_cases z : xup (xCm pt a0 g) r g = g
    · rw [if_pos (by omega), if_pos z]
    · rw [if_neg (by omega), if_neg z]
  | succ m ih =>
    intro r k hr
    have rr : (nI r).toInt = (r : Int) := nI_toInt (by omega)
    have l := xup_lt (c := xCm pt a0 g) hg r (by omega)
    have z := ih (r + 1) k (by omega)
    rw [← z]
    show K_m_upBut_L5 (nI q) (nI g) rec a0 Tb ((k + m + 1) + 1) (nI r) _ = _
    generalize k + m + 1 = j
    simp only [K_m_upBut_L5, K_m_upBut_3, K_m_upBut_8, K_m_upBut_9, K_m_upBut_6, K_m_upBut_13, K_m_upBut_14, K_m_upBut_12, K_m_upBut_11, K_m_upBut_10, K_m_upBut_7, K_m_upBut_5, K_m_upBut_4, K_m_upBut_2, K_m_upBut_1, M_m_upBut]
    rw [if_neg (by omega), x_or256 hg, t_so h q8 (by omega) (by omega), nI_1, xor00]
    have st : xup (xCm pt a0 g) (r + 1) g = if xCm pt a0 g r = true then xup (xCm pt a0 g) r g ||| 2 ^ r else xup (xCm pt a0 g) r g := rfl
    rw [st]
    by_cases b : xb a0 r = false
    · rw [if_pos ((xsr_0 a0 (by omega)).mpr b)]
      by_cases c : hb pt r (g + 256) = true
      · rw [if_pos c, if_neg (by decide), if_pos (by unfold xCm; rw [b, c]; rfl), x_put l (by omega)]
      · rw [if_neg c, if_pos (by decide), if_neg (by unfold xCm; simp [c])]
    · rw [if_neg (fun z => b ((xsr_0 a0 (by omega)).mp z)), if_neg (by unfold xCm; simp [b])]
theorem v_out {wt : Bool} {pn Td Nm : Nat → Int32} (h : xE wt q pn pt Td Nm Tb) (q8 : q ≤ 8) : ∀ (m k g : Nat), g < 256 → 9 ≤ xpc g + m → K_m_upBut_L2 (nI q) a0 Tb (k + m + 2) 1 (nI g) = nI (xit (xCm pt a0) q m g) := by
  intro m
  induction m with
  | zero =>
    intro k g hg hp
    have := xpc_le g
    omega
  | succ m ih =>
    intro k g hg hp
    have go : K_m_upBut_L2 (nI q) a0 Tb ((k + m + 2) + 1) 1 (nI g) = K_m_upBut_L5 (nI q) (nI g) (K_m_upBut_L2 (nI q) a0 Tb (k + m + 2)) a0 Tb 100000 (nI 0) (nI g) := by
      generalize k + m + 2 = j
      simp only [K_m_upBut_L2, K_m_upBut_3, K_m_upBut_8, K_m_upBut_9, K_m_upBut_6, K_m_upBut_13, K_m_upBut_14, K_m_upBut_12, K_m_upBut_11, K_m_upBut_10, K_m_upBut_7, K_m_upBut_5, K_m_upBut_4, K_m_upBut_2, K_m_upBut_1, M_m_upBut]
      rw [if_neg (by decide)]
      rfl
    have inn := v_in (a0 := a0) (rec := K_m_upBut_L2 (nI q) a0 Tb (k + m + 2)) h q8 hg q 0 (99999 - q) (by omega)
    rw [show 99999 - q + q + 1 = 100000 from by omega] at inn
    rw [show k + (m + 1) + 2 = (k + m + 2) + 1 from by omega, go]
    rw [show K_m_upBut_L5 (nI q) (nI g) (K_m_upBut_L2 (nI q) a0 Tb (k + m + 2)) a0 Tb 100000 (nI 0) (nI g) = _ from inn]
    unfold xit
    by_cases z : xup (xCm pt a0 g) q g = g
    · rw [if_pos z, if_pos z, z]
      simp only [K_m_upBut_L2, K_m_upBut_3, K_m_upBut_8, K_m_upBut_9, K_m_upBut_6, K_m_upBut_13, K_m_upBut_14, K_m_upBut_12, K_m_upBut_11, K_m_upBut_10, K_m_upBut_7, K_m_upBut_5, K_m_upBut_4, K_m_upBut_2, K_m_upBut_1, M_m_upBut]
      rw [if_pos (by decide)]
    · rw [if_neg z, if_neg z]
      exact ih k _ (xup_lt hg q q8) (by have := xup_pc hg q8 z; omega)
/-- RAILS that are up, the reference's side -/
theorem r_up2 {wt : Bool} {pn Td Nm : Nat → Int32} (h : xE wt q pn pt Td Nm Tb) (q8 : q ≤ 8) : M_m_upBut (nI q) a0 Tb = nI (xit (xCm pt a0) q 9 0) := v_out (a0 := a0) h q8 9 99989 0 (by decide) (by decide)
/-- one on both sides, if they look at the same RAILS -/
theorem r_up {wt : Bool} {pn Td Nm : Nat → Int32} (h : xE wt q pn pt Td Nm Tb) (q8 : q ≤ 8) (hs : ∀ r, r < q → xb s0 r = !xb a0 r) : M_upAmong (nI q) s0 pt = M_m_upBut (nI q) a0 Tb := by
  rw [r_up1 q8, r_up2 h q8]
  congr 1
  exact xit_ext q8 (fun g r _ hr => by unfold xCc xCm; rw [hs r hr]) 9 0 (by decide)
end
