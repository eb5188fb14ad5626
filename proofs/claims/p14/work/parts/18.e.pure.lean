-- 84.bits
/-- whether the formula of a RAIL holds: the class's bit of it -/
def hb (pt : Nat → Int64) (r s : Nat) : Bool := xbt (fun i => pt (8 * r + i)) s
theorem xs6 : ∀ s : Fin 512, ((nI s.val >>> ((6 : Int32) &&& 31)) &&& (7 : Int32)) = nI (s.val / 64) := by decide +kernel
theorem xs63 : ∀ s : Fin 512, (((nI s.val &&& (63 : Int32)) : Int32).toInt64.toUInt64 &&& Int64.toUInt64 63) = UInt64.ofNat (s.val % 64) := by decide +kernel
theorem x64_bit (y : Int64) {k : Nat} (hk : k < 64) : (((y.toUInt64 >>> UInt64.ofNat k).toInt64) &&& (1 : Int64)).toBitVec = if y.toBitVec.getLsbD k = true then BitVec.twoPow 64 0 else 0#64 := by
  have e1 : (1 : Int64).toBitVec = BitVec.twoPow 64 0 := by decide
  rw [Int64.toBitVec_and, e1, BitVec.and_twoPow]
  have e2 : ((y.toUInt64 >>> UInt64.ofNat k).toInt64).toBitVec = y.toBitVec >>> k := by
    show (y.toUInt64 >>> UInt64.ofNat k).toBitVec = _
    rw [UInt64.toBitVec_shiftRight]
    show y.toBitVec >>> ((UInt64.ofNat k).toBitVec % 64) = _
    have e : ∀ k : Fin 64, ((UInt64.ofNat k.val).toBitVec % 64).toNat = k.val := by decide
    show y.toBitVec >>> ((UInt64.ofNat k).toBitVec % 64).toNat = _
    rw [e ⟨k, hk⟩]
  rw [e2, BitVec.getLsbD_ushiftRight, Nat.add_zero]
theorem t_holds {pt : Nat → Int64} {r s : Nat} (hr : r < 8) (hs : s < 512) : M_holdsWith pt (nI r) (nI s) = if hb pt r s = true then 1 else 0 := by
  have e := x64_bit (pt (8 * r + s / 64)) (Nat.mod_lt s (show 0 < 64 by decide))
  simp only [K_holdsWith_2, K_holdsWith_3, K_holdsWith_1, M_holdsWith]
  rw [xs6 ⟨s, hs⟩, xs63 ⟨s, hs⟩]
  dsimp only
  rw [xi8 hr (by omega)]
  have w : ((((pt (8 * r + s / 64)).toUInt64 >>> UInt64.ofNat (s % 64)).toInt64) &&& (1 : Int64)).toInt = 0 ↔ hb pt r s = false := by
    show ((((pt (8 * r + s / 64)).toUInt64 >>> UInt64.ofNat (s % 64)).toInt64) &&& (1 : Int64)).toBitVec.toInt = 0 ↔ _
    rw [e]
    unfold hb xbt
    cases (pt (8 * r + s / 64)).toBitVec.getLsbD (s % 64) <;> decide
  cases h : hb pt r s
  · rw [if_pos (w.mpr h), if_neg (by decide)]
  · rw [if_neg (fun z => by rw [w.mp z] at h; exact absurd h (by decide)), if_pos rfl]
theorem t_so {wt : Bool} {pn : Nat → Int32} {pt : Nat → Int64} {Td Nm Tb : Nat → Int32} {q r s : Nat} (h : xE wt q pn pt Td Nm Tb) (q8 : q ≤ 8) (hr : r < q) (hs : s < 512) : M_m_isSo Tb (nI r) (nI s) = if hb pt r s = true then 1 else 0 := by
  simp only [K_m_isSo_1, M_m_isSo]
  have e1 : (512 : Int32) * nI r = nI (512 * r) := pk_mul 512 r
  rw [e1, nI_add, nI_clamp (by omega)]
  exact (h r hr).2.2.1 s hs
-- 85.up
/-- those of the first n that c picks, besides g -/
def xup (c : Nat → Bool) : Nat → Nat → Nat
  | 0, g => g
  | n + 1, g => if c n = true then xup c n g ||| 2 ^ n else xup c n g
theorem xup_lt {c : Nat → Bool} {g : Nat} (hg : g < 256) : ∀ n, n ≤ 8 → xup c n g < 256 := by
  intro n
  induction n with
  | zero => exact fun _ => hg
  | succ n ih =>
    intro hn
    have := ih (by omega)
    unfold xup
    split
    · exact x_put_lt this (by omega)
    · exact this
theorem xup_ext {c d : Nat → Bool} {g : Nat} : ∀ n, (∀ r, r < n → c r = d r) → xup c n g = xup d n g := by
  intro n
  induction n with
  | zero => exact fun _ => rfl
  | succ n ih =>
    intro h
    unfold xup
    rw [h n (by omega), ih (fun r hr => h r (by omega))]
theorem xup_bit {c : Nat → Bool} {g j : Nat} : ∀ n, (xup c n g).testBit j = (g.testBit j || (decide (j < n) && c j)) := by
  intro n
  induction n with
  | zero => simp [xup]
  | succ n ih =>
    unfold xup
    by_cases q : c n = true
    · rw [if_pos q, Nat.testBit_or, ih, Nat.testBit_two_pow]
      by_cases e : n = j
      · subst e
        simp [q]
      · have e2 : decide (j < n + 1) = decide (j < n) := by
          by_cases z : j < n
          · simp [z, Nat.lt_succ_of_lt z]
          · have : ¬ j < n + 1 := by omega
            simp [z, this]
        simp [e, e2]
    · rw [if_neg q, ih]
      by_cases e : n = j
      · subst e
        simp [q]
      · have e2 : decide (j < n + 1) = decide (j < n) := by
          by_cases z : j < n
          · simp [z, Nat.lt_succ_of_lt z]
          · have : ¬ j < n + 1 := by omega
            simp [z, this]
        rw [e2]
/-- again and again, till nothing changes -/
def xit (C : Nat → Nat → Bool) (q : Nat) : Nat → Nat → Nat
  | 0, g => g
  | k + 1, g => if xup (C g) q g = g then g else xit C q k (xup (C g) q g)
theorem xit_ext {C D : Nat → Nat → Bool} {q : Nat} (q8 : q ≤ 8) (h : ∀ g r, g < 256 → r < q → C g r = D g r) : ∀ k g, g < 256 → xit C q k g = xit D q k g := by
  intro k
  induction k with
  | zero => exact fun _ _ => rfl
  | succ k ih =>
    intro g hg
    unfold xit
    rw [xup_ext (d := D g) q (fun r hr => h g r hg hr), ih _ (xup_lt hg q q8)]
/-- how many bits -/
def xpc (g : Nat) : Nat := (if g.testBit 0 then 1 else 0) + (if g.testBit 1 then 1 else 0) + (if g.testBit 2 then 1 else 0) + (if g.testBit 3 then 1 else 0) + (if g.testBit 4 then 1 else 0) + (if g.testBit 5 then 1 else 0) + (if g.testBit 6 then 1 else 0) + (if g.testBit 7 then 1 else 0)
theorem xpc_le (g : Nat) : xpc g ≤ 8 := by
  unfold xpc
  repeat' split
  all_goals omega
theorem xpc_or {g h : Nat} (hg : g < 256) (hh : h < 256) (hs : ∀ j, g.testBit j = true → h.testBit j = true) (hn : h ≠ g) : xpc g + 1 ≤ xpc h := by
  have e : ∃ j, j < 8 ∧ g.testBit j = false ∧ h.testBit j = true := by
    by_cases z : ∃ j, j < 8 ∧ g.testBit j = false ∧ h.testBit j = true
    · exact z
    · exfalso
      apply hn
      apply Nat.eq_of_testBit_eq
      intro j
      by_cases w : j < 8
      · cases a : g.testBit j with
        | true => exact hs j a
        | false =>
          cases b : h.testBit j with
          | false => rfl
          | true => exact absurd ⟨j, w, a, b⟩ z
      · have p : 2 ^ 8 ≤ 2 ^ j := Nat.pow_le_pow_right (by decide) (by omega)
        rw [Nat.testBit_lt_two_pow (Nat.lt_of_lt_of_le hg p), Nat.testBit_lt_two_pow (Nat.lt_of_lt_of_le hh p)]
  obtain ⟨j, j8, a, b⟩ := e
  have m : ∀ i, (if g.testBit i = true then 1 else 0) ≤ (if h.testBit i = true then 1 else 0 : Nat) := fun i => by
    cases z : g.testBit i with
    | false => rw [if_neg (by decide)]; exact Nat.zero_le _
    | true => rw [if_pos rfl, if_pos (hs i z)]; exact Nat.le_refl _
  have s : (if g.testBit j = true then 1 else 0) + 1 ≤ (if h.testBit j = true then 1 else 0 : Nat) := by
    rw [a, b]
    decide
  have m0 := m 0
  have m1 := m 1
  have m2 := m 2
  have m3 := m 3
  have m4 := m 4
  have m5 := m 5
  have m6 := m 6
  have m7 := m 7
  unfold xpc
  have c : j = 0 ∨ j = 1 ∨ j = 2 ∨ j = 3 ∨ j = 4 ∨ j = 5 ∨ j = 6 ∨ j = 7 := by omega
  rcases c with c | c | c | c | c | c | c | c <;> subst c <;> omega
theorem xup_pc {c : Nat → Bool} {g q : Nat} (hg : g < 256) (q8 : q ≤ 8) (h : xup c q g ≠ g) : xpc g + 1 ≤ xpc (xup c q g) := by
  refine xpc_or hg (xup_lt hg q q8) (fun j hj => ?_) h
  rw [xup_bit, hj]
  rfl
section
variable {pt : Nat → Int64} {s0 a0 : Int32} {Tb : Nat → Int32} {q : Nat}
/-- what the class looks at -/
def xCc (pt : Nat → Int64) (s0 : Int32) : Nat → Nat → Bool := fun g r => xb s0 r && hb pt r (g + 256)
theorem u_in {rec : Int32 → Int32 → Int32} {rd : Int32} {g : Nat} (q8 : q ≤ 8) (hg : g < 256) : ∀ (m r k : Nat), r + m = q → K_upAmong_L5 (nI q) (nI g) rec rd s0 pt (k + m + 1) (nI r) (nI (xup (xCc pt s0 g) r g)) = if xup (xCc pt s0 g) q g = g then nI g else rec (rd + 1) (nI (xup (xCc pt s0 g) q g)) := by
  have qq : (nI q).toInt = (q : Int) := nI_toInt (by omega)
  intro m
  induction m with
  | zero =>
    intro r k hr
    have rr : (nI r).toInt = (r : Int) := nI_toInt (by omega)
    obtain rfl : r = q := by omega
    have l := xup_lt (c := xCc pt s0 g) hg r q8
    have e1 : (nI (xup (xCc pt s0 g) r g)).toInt = ((xup (xCc pt s0 g) r g : Nat) : Int) := nI_toInt (by omega)
    have e2 : (nI g).toInt = (g : Int) := nI_toInt (by omega)
    simp only [K_upAmong_L5, K_upAmong_3, K_upAmong_9, K_upAmong_8, K_upAmong_6, K_upAmong_13, K_upAmong_14, K_upAmong_12, K_upAmong_11, K_upAmong_10, K_upAmong_7, K_upAmong_5, K_upAmong_4, K_upAmong_2, K_upAmong_1, M_upAmong]
    rw [if_pos (by omega)]
    by_cases z : xup (xCc pt s0 g) r g = g
    · rw [if_pos (by omega), if_pos z]
    · rw [if_neg (by omega), if_neg z]
  | succ m ih =>
    intro r k hr
    have rr : (nI r).toInt = (r : Int) := nI_toInt (by omega)
    have l := xup_lt (c := xCc pt s0 g) hg r (by omega)
    have z := ih (r + 1) k (by omega)
    rw [← z]
    show K_upAmong_L5 (nI q) (nI g) rec rd s0 pt ((k + m + 1) + 1) (nI r) _ = _
    generalize k + m + 1 = j
    simp only [K_upAmong_L5, K_upAmong_3, K_upAmong_9, K_upAmong_8, K_upAmong_6, K_upAmong_13, K_upAmong_14, K_upAmong_12, K_upAmong_11, K_upAmong_10, K_upAmong_7, K_upAmong_5, K_upAmong_4, K_upAmong_2, K_upAmong_1, M_upAmong]
    rw [if_neg (by omega), x_or256 hg, t_holds (by omega) (by omega), nI_1]
    have st : xup (xCc pt s0 g) (r + 1) g = if xCc pt s0 g r = true then xup (xCc pt s0 g) r g ||| 2 ^ r else xup (xCc pt s0 g) r g := rfl
    rw [st]
    by_cases b : xb s0 r = true
    · rw [if_pos ((xsr_1 s0 (by omega)).mpr b)]
      by_cases c : hb pt r (g + 256) = true
      · rw [if_pos c, if_neg (by decide), if_pos (by unfold xCc; rw [b, c]; rfl), x_put l (by omega)]
      · rw [if_neg c, if_pos (by decide), if_neg (by unfold xCc; simp [c])]
    · rw [if_neg (fun z => b ((xsr_1 s0 (by omega)).mp z)), if_neg (by unfold xCc; simp [b])]
theorem u_out (q8 : q ≤ 8) : ∀ (m k g : Nat), m ≤ 9 → g < 256 → K_upAmong_L2 (nI q) s0 pt (k + m + 1) (nI (9 - m)) (nI g) = nI (xit (xCc pt s0) q m g) := by
  intro m
  induction m with
  | zero =>
    intro k g _ hg
    simp only [K_upAmong_L2, K_upAmong_3, K_upAmong_9, K_upAmong_8, K_upAmong_6, K_upAmong_13, K_upAmong_14, K_upAmong_12, K_upAmong_11, K_upAmong_10, K_upAmong_7, K_upAmong_5, K_upAmong_4, K_upAmong_2, K_upAmong_1, M_upAmong]
    rw [if_pos (by decide)]
    rfl
  | succ m ih =>
    intro k g hm hg
    have rr : (nI (9 - (m + 1))).toInt = ((9 - (m + 1) : Nat) : Int) := nI_toInt (by omega)
    have go : K_upAmong_L2 (nI q) s0 pt ((k + m + 1) + 1) (nI (9 - (m + 1))) (nI g) = K_upAmong_L5 (nI q) (nI g) (K_upAmong_L2 (nI q) s0 pt (k + m + 1)) (nI (9 - (m + 1))) s0 pt 100000 (nI 0) (nI g) := by
      generalize k + m + 1 = j
      simp only [K_upAmong_L2, K_upAmong_3, K_upAmong_9, K_upAmong_8, K_upAmong_6, K_upAmong_13, K_upAmong_14, K_upAmong_12, K_upAmong_11, K_upAmong_10, K_upAmong_7, K_upAmong_5, K_upAmong_4, K_upAmong_2, K_upAmong_1, M_upAmong]
      rw [if_neg (by omega)]
      rfl
    have inn := u_in (pt := pt) (s0 := s0) (rec := K_upAmong_L2 (nI q) s0 pt (k + m + 1)) (rd := nI (9 - (m + 1))) q8 hg q 0 (99999 - q) (by omega)
    rw [show 99999 - q + q + 1 = 100000 from by omega] at inn
    rw [show k + (m + 1) + 1 = (k + m + 1) + 1 from by omega, go, show nI g = nI (xup (xCc pt s0 g) 0 g) from rfl] 
    rw [show K_upAmong_L5 (nI q) (nI (xup (xCc pt s0 g) 0 g)) (K_upAmong_L2 (nI q) s0 pt (k + m + 1)) (nI (9 - (m + 1))) s0 pt 100000 (nI 0) (nI (xup (xCc pt s0 g) 0 g)) = _ from inn]
    unfold xit
    by_cases z : xup (xCc pt s0 g) q g = g
    · rw [if_pos z, if_pos z]
    · rw [if_neg z, if_neg z, nI_1, show 9 - (m + 1) + 1 = 9 - m from by omega]
      exact ih k _ (by omega) (xup_lt hg q q8)
/-- RAILS that are up, the class's side -/
theorem r_up1 (q8 : q ≤ 8) : M_upAmong (nI q) s0 pt = nI (xit (xCc pt s0) q 9 0) := u_out (pt := pt) (s0 := s0) q8 9 99990 0 (by decide) (by decide)
/-- what the reference looks at -/
def xCm (pt : Nat → Int64) (a0 : Int32) : Nat → Nat → Bool := fun g r => !xb a0 r && hb pt r (g + 256)
theorem v_in {wt : Bool} {rec : Int32 → Int32 → Int32} {g : Nat} {pn Td Nm : Nat → Int32} (h : xE wt q pn pt Td Nm Tb) (q8 : q ≤ 8) (hg : g < 256) : ∀ (m r k : Nat), r + m = q → K_m_upBut_L5 (nI q) (nI g) rec a0 Tb (k + m + 1) (nI r) (nI (xup (xCm pt a0 g) r g)) = if xup (xCm pt a0 g) q g = g then rec 0 (nI (xup (xCm pt a0 g) q g)) else rec 1 (nI (xup (xCm pt a0 g) q g)) := by
  have qq : (nI q).toInt = (q : Int) := nI_toInt (by omega)
  intro m
  induction m with
  | zero =>
    intro r k hr
    have rr : (nI r).toInt = (r : Int) := nI_toInt (by omega)
    obtain rfl : r = q := by omega
    have l := xup_lt (c := xCm pt a0 g) hg r q8
    have e1 : (nI (xup (xCm pt a0 g) r g)).toInt = ((xup (xCm pt a0 g) r g : Nat) : Int) := nI_toInt (by omega)
    have e2 : (nI g).toInt = (g : Int) := nI_toInt (by omega)
    simp only [K_m_upBut_L5, K_m_upBut_3, K_m_upBut_8, K_m_upBut_9, K_m_upBut_6, K_m_upBut_13, K_m_upBut_14, K_m_upBut_12, K_m_upBut_11, K_m_upBut_10, K_m_upBut_7, K_m_upBut_5, K_m_upBut_4, K_m_upBut_2, K_m_upBut_1, M_m_upBut]
    rw [if_pos (by omega)]
    by_cases z : xup (xCm pt a0 g) r g = g
    · rw [if_pos (by omega), if_pos z]
    · rw [if_neg (by omega), if_neg z]
  | succ m ih =>
    intro r k hr
    have rr : (nI r).toInt = (r : Int) := nI_toInt (by omega)
    have l := xup_lt (c := xCm pt a0 g) hg r (by omega)
    have z := ih (r + 1) k (by omega)
    rw [← z]
    show K_m_upBut_L5 (nI q) (nI g) rec a0 Tb ((k + m + 1) + 1) (nI r) _ = _
    generalize k + m + 1 = j
    simp only [K_m_upBut_L5, K_m_upBut_3, K_m_upBut_8, K_m_upBut_9, K_m_upBut_6, K_m_upBut_13, K_m_upBut_14, K_m_upBut_12, K_m_upBut_11, K_m_upBut_10, K_m_upBut_7, K_m_upBut_5, K_m_upBut_4, K_m_upBut_2, K_m_upBut_1, M_m_upBut]
    rw [if_neg (by omega), x_or256 hg, t_so h q8 (by omega) (by omega), nI_1, xor00]
    have st : xup (xCm pt a0 g) (r + 1) g = if xCm pt a0 g r = true then xup (xCm pt a0 g) r g ||| 2 ^ r else xup (xCm pt a0 g) r g := rfl
    rw [st]
    by_cases b : xb a0 r = false
    · rw [if_pos ((xsr_0 a0 (by omega)).mpr b)]
      by_cases c : hb pt r (g + 256) = true
      · rw [if_pos c, if_neg (by decide), if_pos (by unfold xCm; rw [b, c]; rfl), x_put l (by omega)]
      · rw [if_neg c, if_pos (by decide), if_neg (by unfold xCm; simp [c])]
    · rw [if_neg (fun z => b ((xsr_0 a0 (by omega)).mp z)), if_neg (by unfold xCm; simp [b])]
theorem v_out {wt : Bool} {pn Td Nm : Nat → Int32} (h : xE wt q pn pt Td Nm Tb) (q8 : q ≤ 8) : ∀ (m k g : Nat), g < 256 → 9 ≤ xpc g + m → K_m_upBut_L2 (nI q) a0 Tb (k + m + 2) 1 (nI g) = nI (xit (xCm pt a0) q m g) := by
  intro m
  induction m with
  | zero =>
    intro k g hg hp
    have := xpc_le g
    omega
  | succ m ih =>
    intro k g hg hp
    have go : K_m_upBut_L2 (nI q) a0 Tb ((k + m + 2) + 1) 1 (nI g) = K_m_upBut_L5 (nI q) (nI g) (K_m_upBut_L2 (nI q) a0 Tb (k + m + 2)) a0 Tb 100000 (nI 0) (nI g) := by
      generalize k + m + 2 = j
      simp only [K_m_upBut_L2, K_m_upBut_3, K_m_upBut_8, K_m_upBut_9, K_m_upBut_6, K_m_upBut_13, K_m_upBut_14, K_m_upBut_12, K_m_upBut_11, K_m_upBut_10, K_m_upBut_7, K_m_upBut_5, K_m_upBut_4, K_m_upBut_2, K_m_upBut_1, M_m_upBut]
      rw [if_neg (by decide)]
      rfl
    have inn := v_in (a0 := a0) (rec := K_m_upBut_L2 (nI q) a0 Tb (k + m + 2)) h q8 hg q 0 (99999 - q) (by omega)
    rw [show 99999 - q + q + 1 = 100000 from by omega] at inn
    rw [show k + (m + 1) + 2 = (k + m + 2) + 1 from by omega, go]
    rw [show K_m_upBut_L5 (nI q) (nI g) (K_m_upBut_L2 (nI q) a0 Tb (k + m + 2)) a0 Tb 100000 (nI 0) (nI g) = _ from inn]
    unfold xit
    by_cases z : xup (xCm pt a0 g) q g = g
    · rw [if_pos z, if_pos z, z]
      simp only [K_m_upBut_L2, K_m_upBut_3, K_m_upBut_8, K_m_upBut_9, K_m_upBut_6, K_m_upBut_13, K_m_upBut_14, K_m_upBut_12, K_m_upBut_11, K_m_upBut_10, K_m_upBut_7, K_m_upBut_5, K_m_upBut_4, K_m_upBut_2, K_m_upBut_1, M_m_upBut]
      rw [if_pos (by decide)]
    · rw [if_neg z, if_neg z]
      exact ih k _ (xup_lt hg q q8) (by have := xup_pc hg q8 z; omega)
/-- RAILS that are up, the reference's side -/
theorem r_up2 {wt : Bool} {pn Td Nm : Nat → Int32} (h : xE wt q pn pt Td Nm Tb) (q8 : q ≤ 8) : M_m_upBut (nI q) a0 Tb = nI (xit (xCm pt a0) q 9 0) := v_out (a0 := a0) h q8 9 99989 0 (by decide) (by decide)
/-- one on both sides, if they look at the same RAILS -/
theorem r_up {wt : Bool} {pn Td Nm : Nat → Int32} (h : xE wt q pn pt Td Nm Tb) (q8 : q ≤ 8) (hs : ∀ r, r < q → xb s0 r = !xb a0 r) : M_upAmong (nI q) s0 pt = M_m_upBut (nI q) a0 Tb := by
  rw [r_up1 q8, r_up2 h q8]
  congr 1
  exact xit_ext q8 (fun g r _ hr => by unfold xCc xCm; rw [hs r hr]) 9 0 (by decide)
end
-- 86.words
/-- s without k -/
def xcl (s k : Nat) : Nat := if s.testBit k = true then s - 2 ^ k else s
theorem xcl_eq : ∀ (s : Fin 512) (k : Fin 9), (nI s.val &&& (((1 : Int32) <<< (nI k.val &&& 31)) ^^^ (-1 : Int32))) = nI (xcl s.val k.val) := by decide +kernel
theorem xcl_lt {s k : Nat} (h : s < 512) : xcl s k < 512 := by
  unfold xcl
  split
  · exact Nat.lt_of_le_of_lt (Nat.sub_le _ _) h
  · exact h
/-- the last m of the nine are no part that can be left out -/
def xlm (h : Nat → Bool) (s : Nat) : Nat → Bool
  | 0 => true
  | m + 1 => (!(s.testBit (8 - m)) || !(h (xcl s (8 - m)))) && xlm h s m
section
variable {pn : Nat → Int32} {pt : Nat → Int64} {Td Nm Tb : Nat → Int32} {q r s : Nat}
theorem l_in (hr : r < 8) (hs : s < 512) : ∀ (m k : Nat), m ≤ 9 → K_isLeastSet_L5 (nI s) pt (nI r) (k + m + 1) (nI (9 - m)) = if xlm (hb pt r) s m = true then 1 else 0 := by
  intro m
  induction m with
  | zero =>
    intro k _
    simp only [K_isLeastSet_L5, K_isLeastSet_4, K_isLeastSet_6, K_isLeastSet_11, K_isLeastSet_12, K_isLeastSet_10, K_isLeastSet_9, K_isLeastSet_8, K_isLeastSet_7, K_isLeastSet_5, K_isLeastSet_3, K_isLeastSet_2, K_isLeastSet_1, M_isLeastSet]
    rw [if_pos (by decide)]
    rfl
  | succ m ih =>
    intro k hm
    have z := ih k (by omega)
    have e8 : 9 - (m + 1) = 8 - m := by omega
    have e9 : 8 - m + 1 = 9 - m := by omega
    have rr : (nI (8 - m)).toInt = ((8 - m : Nat) : Int) := nI_toInt (by omega)
    have xc := xcl_eq ⟨s, hs⟩ ⟨8 - m, by omega⟩
    dsimp only at xc
    rw [e8]
    show K_isLeastSet_L5 (nI s) pt (nI r) ((k + m + 1) + 1) (nI (8 - m)) = _
    have go : K_isLeastSet_L5 (nI s) pt (nI r) ((k + m + 1) + 1) (nI (8 - m)) = if s.testBit (8 - m) = true then (if hb pt r (xcl s (8 - m)) = true then 0 else K_isLeastSet_L5 (nI s) pt (nI r) (k + m + 1) (nI (9 - m))) else K_isLeastSet_L5 (nI s) pt (nI r) (k + m + 1) (nI (9 - m)) := by
      generalize k + m + 1 = j
      simp only [K_isLeastSet_L5, K_isLeastSet_4, K_isLeastSet_6, K_isLeastSet_11, K_isLeastSet_12, K_isLeastSet_10, K_isLeastSet_9, K_isLeastSet_8, K_isLeastSet_7, K_isLeastSet_5, K_isLeastSet_3, K_isLeastSet_2, K_isLeastSet_1, M_isLeastSet]
      rw [if_neg (by omega), xc, t_holds hr (xcl_lt hs), nI_1, e9]
      by_cases b : s.testBit (8 - m) = true
      · rw [if_pos ((xsr_1 _ (by omega)).mpr (by rw [xb_nI (by omega)]; exact b)), if_pos b]
        by_cases c : hb pt r (xcl s (8 - m)) = true
        · rw [if_pos c, if_pos c, if_neg (by decide)]
        · rw [if_neg c, if_neg c, if_pos (by decide)]
      · rw [if_neg (fun z => b (by have := (xsr_1 _ (by omega)).mp z; rw [xb_nI (by omega)] at this; exact this)), if_neg b]
    rw [go, z, show xlm (hb pt r) s (m + 1) = ((!(s.testBit (8 - m)) || !(hb pt r (xcl s (8 - m)))) && xlm (hb pt r) s m) from rfl]
    cases s.testBit (8 - m) <;> cases hb pt r (xcl s (8 - m)) <;> simp
theorem t_least (hr : r < 8) (hs : s < 512) : M_isLeastSet (nI s) pt (nI r) = if (hb pt r s && xlm (hb pt r) s 9) = true then 1 else 0 := by
  have z := l_in (pt := pt) hr hs 9 99990 (by decide)
  have go : M_isLeastSet (nI s) pt (nI r) = if (M_holdsWith pt (nI r) (nI s)).toInt = 0 then 0 else K_isLeastSet_L5 (nI s) pt (nI r) 100000 (nI 0) := by
    simp only [K_isLeastSet_4, K_isLeastSet_6, K_isLeastSet_11, K_isLeastSet_12, K_isLeastSet_10, K_isLeastSet_9, K_isLeastSet_8, K_isLeastSet_7, K_isLeastSet_5, K_isLeastSet_3, K_isLeastSet_2, K_isLeastSet_1, M_isLeastSet]
    rfl
  rw [go, t_holds hr hs, show K_isLeastSet_L5 (nI s) pt (nI r) 100000 (nI 0) = _ from z]
  cases hb pt r s <;> simp
theorem w_in {wt : Bool} (h : xE wt q pn pt Td Nm Tb) (q8 : q ≤ 8) (hr : r < q) (hs : s < 512) : ∀ (m k : Nat) (b : Bool), m ≤ 9 → K_m_isLeast_L3 (nI s) Tb (nI r) (k + m + 1) (nI (9 - m)) (if b = true then 1 else 0) = if (b && xlm (hb pt r) s m) = true then 1 else 0 := by
  intro m
  induction m with
  | zero =>
    intro k b _
    simp only [K_m_isLeast_L3, K_m_isLeast_4, K_m_isLeast_6, K_m_isLeast_8, K_m_isLeast_12, K_m_isLeast_11, K_m_isLeast_10, K_m_isLeast_9, K_m_isLeast_7, K_m_isLeast_5, K_m_isLeast_3, K_m_isLeast_2, K_m_isLeast_1, M_m_isLeast]
    rw [if_pos (by decide)]
    cases b <;> rfl
  | succ m ih =>
    intro k b hm
    have e8 : 9 - (m + 1) = 8 - m := by omega
    have e9 : 8 - m + 1 = 9 - m := by omega
    have rr : (nI (8 - m)).toInt = ((8 - m : Nat) : Int) := nI_toInt (by omega)
    have xc := xcl_eq ⟨s, hs⟩ ⟨8 - m, by omega⟩
    dsimp only at xc
    have go : K_m_isLeast_L3 (nI s) Tb (nI r) ((k + m + 1) + 1) (nI (8 - m)) (if b = true then 1 else 0) = K_m_isLeast_L3 (nI s) Tb (nI r) (k + m + 1) (nI (9 - m)) (if (b && (!(s.testBit (8 - m)) || !(hb pt r (xcl s (8 - m))))) = true then 1 else 0) := by
      generalize k + m + 1 = j
      simp only [K_m_isLeast_L3, K_m_isLeast_4, K_m_isLeast_6, K_m_isLeast_8, K_m_isLeast_12, K_m_isLeast_11, K_m_isLeast_10, K_m_isLeast_9, K_m_isLeast_7, K_m_isLeast_5, K_m_isLeast_3, K_m_isLeast_2, K_m_isLeast_1, M_m_isLeast]
      rw [if_neg (by omega), xc, t_so h q8 hr (xcl_lt hs), nI_1, e9]
      cases b
      · rw [if_neg (show ¬ false = true by decide), if_pos (by decide)]
        rfl
      · rw [if_pos (show true = true by rfl), if_neg (by decide)]
        by_cases b : s.testBit (8 - m) = true
        · rw [if_neg (fun z => by have := (xsr_0 _ (by omega)).mp z; rw [xb_nI (by omega), b] at this; exact absurd this (by decide)), b]
          by_cases c : hb pt r (xcl s (8 - m)) = true
          · rw [if_pos c, if_neg (by decide), c]
            rfl
          · have c0 : hb pt r (xcl s (8 - m)) = false := by simpa using c
            rw [if_neg c, if_pos (by decide), c0]
            rfl
        · have b0 : s.testBit (8 - m) = false := by simpa using b
          rw [if_pos ((xsr_0 _ (by omega)).mpr (by rw [xb_nI (by omega)]; exact b0)), b0]
          rfl
    rw [e8, show k + (m + 1) + 1 = (k + m + 1) + 1 from by omega, go, ih k _ (by omega)]
    show _ = if (b && ((!(s.testBit (8 - m)) || !(hb pt r (xcl s (8 - m)))) && xlm (hb pt r) s m)) = true then (1 : Int32) else 0
    rw [Bool.and_assoc]
theorem t_least2 {wt : Bool} (h : xE wt q pn pt Td Nm Tb) (q8 : q ≤ 8) (hr : r < q) (hs : s < 512) : M_m_isLeast (nI s) Tb (nI r) = if (hb pt r s && xlm (hb pt r) s 9) = true then 1 else 0 := by
  have z := w_in h q8 hr hs 9 99990 (hb pt r s) (by decide)
  have go : M_m_isLeast (nI s) Tb (nI r) = K_m_isLeast_L3 (nI s) Tb (nI r) 100000 (nI 0) (M_m_isSo Tb (nI r) (nI s)) := by
    simp only [K_m_isLeast_4, K_m_isLeast_6, K_m_isLeast_8, K_m_isLeast_12, K_m_isLeast_11, K_m_isLeast_10, K_m_isLeast_9, K_m_isLeast_7, K_m_isLeast_5, K_m_isLeast_3, K_m_isLeast_2, K_m_isLeast_1, M_m_isLeast]
    rfl
  rw [go, t_so h q8 hr hs, show K_m_isLeast_L3 (nI s) Tb (nI r) 100000 (nI 0) (if hb pt r s = true then 1 else 0) = _ from z]
theorem w_cnt {wt : Bool} (h : xE wt q pn pt Td Nm Tb) (q8 : q ≤ 8) (hr : r < q) {a1 : Int32} (ha : a1.toInt = 0) : ∀ (m k s : Nat) (n : Nat), s + m = 512 → n ≤ s → K_countLeastSets_L2 pt (nI r) (k + m + 1) (nI s) (nI n) = K_m_words_L6 a1 Tb (nI r) (k + m + 1) (nI s) (nI n) := by
  intro m
  induction m with
  | zero =>
    intro k s n hs hn
    have ss : (nI s).toInt = (s : Int) := nI_toInt (by omega)
    simp only [K_countLeastSets_L2, K_m_words_L6, K_countLeastSets_3, K_countLeastSets_6, K_countLeastSets_7, K_countLeastSets_5, K_countLeastSets_4, K_countLeastSets_2, K_countLeastSets_1, M_countLeastSets, K_m_words_7, K_m_words_10, K_m_words_13, K_m_words_12, K_m_words_11, K_m_words_9, K_m_words_8, K_m_words_6, K_m_words_4, K_m_words_17, K_m_words_20, K_m_words_23, K_m_words_22, K_m_words_21, K_m_words_19, K_m_words_18, K_m_words_16, K_m_words_14, K_m_words_15, K_m_words_5, K_m_words_3, K_m_words_2, K_m_words_1, M_m_words]
    rw [if_pos (by omega), if_pos (by omega)]
  | succ m ih =>
    intro k s n hs hn
    have ss : (nI s).toInt = (s : Int) := nI_toInt (by omega)
    have nn : (nI n).toInt = (n : Int) := nI_toInt (by omega)
    have tn : ((10 : Int32) + nI n).toInt = 10 + (n : Int) := by
      exact xadd (show (10 : Int32).toInt = 10 by decide) nn (by omega) (by omega)
    have z1 := ih k (s + 1) n (by omega) (by omega)
    have z2 := ih k (s + 1) (n + 1) (by omega) (by omega)
    show K_countLeastSets_L2 pt (nI r) ((k + m + 1) + 1) (nI s) (nI n) = K_m_words_L6 a1 Tb (nI r) ((k + m + 1) + 1) (nI s) (nI n)
    generalize k + m + 1 = j at z1 z2 ⊢
    simp only [K_countLeastSets_L2, K_m_words_L6, K_countLeastSets_3, K_countLeastSets_6, K_countLeastSets_7, K_countLeastSets_5, K_countLeastSets_4, K_countLeastSets_2, K_countLeastSets_1, M_countLeastSets, K_m_words_7, K_m_words_10, K_m_words_13, K_m_words_12, K_m_words_11, K_m_words_9, K_m_words_8, K_m_words_6, K_m_words_4, K_m_words_17, K_m_words_20, K_m_words_23, K_m_words_22, K_m_words_21, K_m_words_19, K_m_words_18, K_m_words_16, K_m_words_14, K_m_words_15, K_m_words_5, K_m_words_3, K_m_words_2, K_m_words_1, M_m_words]
    rw [if_neg (show ¬ 512 ≤ (nI s).toInt by omega), if_neg (show ¬ 512 ≤ (nI s).toInt by omega), t_least (by omega) (by omega), t_least2 h q8 hr (by omega), nI_1, nI_1, z1, z2, if_neg (by omega : ¬ a1.toInt = ((10 : Int32) + nI n).toInt)]
theorem w_set {wt : Bool} (h : xE wt q pn pt Td Nm Tb) (q8 : q ≤ 8) (hr : r < q) {a1 : Int32} (ha : 10 ≤ a1.toInt) : ∀ (m k s : Nat) (n : Nat), s + m = 512 → n ≤ s → K_leastSet_L2 (a1 - 10) pt (nI r) (k + m + 1) (nI s) (nI n) = K_m_words_L16 a1 Tb (nI r) (k + m + 1) (nI s) (nI n) := by
  have ea : (a1 - 10).toInt = a1.toInt - 10 := xsub rfl (by decide) (by have := a1.toInt_lt; have := a1.le_toInt; omega) (by have := a1.toInt_lt; omega)
  intro m
  induction m with
  | zero =>
    intro k s n hs hn
    have ss : (nI s).toInt = (s : Int) := nI_toInt (by omega)
    simp only [K_leastSet_L2, K_m_words_L16, K_leastSet_3, K_leastSet_6, K_leastSet_9, K_leastSet_8, K_leastSet_7, K_leastSet_5, K_leastSet_4, K_leastSet_2, K_leastSet_1, M_leastSet, K_m_words_7, K_m_words_10, K_m_words_13, K_m_words_12, K_m_words_11, K_m_words_9, K_m_words_8, K_m_words_6, K_m_words_4, K_m_words_17, K_m_words_20, K_m_words_23, K_m_words_22, K_m_words_21, K_m_words_19, K_m_words_18, K_m_words_16, K_m_words_14, K_m_words_15, K_m_words_5, K_m_words_3, K_m_words_2, K_m_words_1, M_m_words]
    rw [if_pos (by omega), if_pos (by omega)]
  | succ m ih =>
    intro k s n hs hn
    have ss : (nI s).toInt = (s : Int) := nI_toInt (by omega)
    have nn : (nI n).toInt = (n : Int) := nI_toInt (by omega)
    have tn : ((10 : Int32) + nI n).toInt = 10 + (n : Int) := by
      exact xadd (show (10 : Int32).toInt = 10 by decide) nn (by omega) (by omega)
    have z1 := ih k (s + 1) n (by omega) (by omega)
    have z2 := ih k (s + 1) (n + 1) (by omega) (by omega)
    show K_leastSet_L2 (a1 - 10) pt (nI r) ((k + m + 1) + 1) (nI s) (nI n) = K_m_words_L16 a1 Tb (nI r) ((k + m + 1) + 1) (nI s) (nI n)
    generalize k + m + 1 = j at z1 z2 ⊢
    simp only [K_leastSet_L2, K_m_words_L16, K_leastSet_3, K_leastSet_6, K_leastSet_9, K_leastSet_8, K_leastSet_7, K_leastSet_5, K_leastSet_4, K_leastSet_2, K_leastSet_1, M_leastSet, K_m_words_7, K_m_words_10, K_m_words_13, K_m_words_12, K_m_words_11, K_m_words_9, K_m_words_8, K_m_words_6, K_m_words_4, K_m_words_17, K_m_words_20, K_m_words_23, K_m_words_22, K_m_words_21, K_m_words_19, K_m_words_18, K_m_words_16, K_m_words_14, K_m_words_15, K_m_words_5, K_m_words_3, K_m_words_2, K_m_words_1, M_m_words]
    rw [if_neg (show ¬ 512 ≤ (nI s).toInt by omega), if_neg (show ¬ 512 ≤ (nI s).toInt by omega), t_least (by omega) (by omega), t_least2 h q8 hr (by omega), nI_1, nI_1, z1, z2]
    by_cases e : a1.toInt = ((10 : Int32) + nI n).toInt
    · rw [if_pos e, if_pos (by omega : (nI n).toInt = (a1 - 10).toInt)]
    · rw [if_neg e, if_neg (by omega : ¬ (nI n).toInt = (a1 - 10).toInt)]
end
/-- words: one answer on both sides -/
theorem x_words_eq {wt : Bool} {a0 a1 rails limit retry behind mra mli mre mpa : Int32} {pn Td Nm Tb : Nat → Int32} {pt : Nat → Int64} (h : xPl wt rails limit retry behind pn pt mra mli mre mpa Td Nm Tb) : M_x_words a0 rails a1 pt = M_m_words a0 mra a1 Tb := by
  obtain ⟨e, -, -, -, r8, hE⟩ := h
  subst e
  have rn := xtn r8.1
  simp only [K_x_words_6, K_x_words_4, K_x_words_9, K_x_words_7, K_x_words_8, K_x_words_5, K_x_words_3, K_x_words_2, K_x_words_1, M_x_words, K_m_words_7, K_m_words_10, K_m_words_13, K_m_words_12, K_m_words_11, K_m_words_9, K_m_words_8, K_m_words_6, K_m_words_4, K_m_words_17, K_m_words_20, K_m_words_23, K_m_words_22, K_m_words_21, K_m_words_19, K_m_words_18, K_m_words_16, K_m_words_14, K_m_words_15, K_m_words_5, K_m_words_3, K_m_words_2, K_m_words_1, M_m_words]
  by_cases q : 0 ≤ a0.toInt ∧ a0.toInt < rails.toInt
  · rw [if_pos q, if_pos q]
    have an := xtn (x := a0) q.1
    have ea : nI a0.toNatClampNeg = a0 := xnI q.1
    by_cases z : a1.toInt = 0
    · rw [if_pos z, if_pos z]
      have w := w_cnt hE (by omega) (show a0.toNatClampNeg < rails.toNatClampNeg by omega) z 512 99487 0 0 (by omega) (by omega)
      rw [ea] at w
      exact w
    · rw [if_neg z, if_neg z]
      by_cases t : 10 ≤ a1.toInt
      · rw [if_pos t, if_pos t]
        have w := w_set hE (by omega) (show a0.toNatClampNeg < rails.toNatClampNeg by omega) t 512 99487 0 0 (by omega) (by omega)
        rw [ea] at w
        exact w
      · rw [if_neg t, if_neg t]
  · rw [if_neg q, if_neg q]
/-- rail: one answer on both sides -/
theorem x_rail_eq {a0 a1 rails limit retry behind mra mli mre mpa : Int32} {pn Td Nm Tb : Nat → Int32} {pt : Nat → Int64} (h : xPl true rails limit retry behind pn pt mra mli mre mpa Td Nm Tb) : M_x_rail a0 rails a1 pn = M_m_rail a0 mra a1 Nm Td := by
  obtain ⟨e, -, -, -, r8, hE⟩ := h
  subst e
  have rn := xtn r8.1
  simp only [K_x_rail_4, K_x_rail_8, K_x_rail_6, K_x_rail_7, K_x_rail_5, K_x_rail_3, K_x_rail_2, K_x_rail_1, M_x_rail, K_m_rail_6, K_m_rail_8, K_m_rail_7, K_m_rail_4, K_m_rail_5, K_m_rail_3, K_m_rail_2, K_m_rail_1, M_m_rail, K_number_1, M_number, K_m_of_1, M_m_of]
  by_cases q : 0 ≤ a0.toInt ∧ a0.toInt < rails.toInt
  · rw [if_pos q, if_pos q]
    have an := xtn (x := a0) q.1
    have ea : nI a0.toNatClampNeg = a0 := xnI q.1
    obtain ⟨hr1, hr2, -⟩ := hE a0.toNatClampNeg (by omega)
    by_cases z : 0 ≤ a1.toInt ∧ a1.toInt ≤ 7
    · rw [if_neg (by omega), if_pos z.2, if_pos z]
      have a1n := xtn (x := a1) z.1
      have ea1 : nI a1.toNatClampNeg = a1 := xnI z.1
      have i8 := xi8 (q := a0.toNatClampNeg) (k := a1.toNatClampNeg) (by omega) (by omega)
      have i7 := xi7 (q := a0.toNatClampNeg) (k := a1.toNatClampNeg) (by omega) (by omega)
      rw [ea, ea1] at i8 i7
      rw [i8, i7]
      by_cases y : 7 ≤ a1.toInt
      · rw [if_pos y, show a1.toNatClampNeg = 7 from by omega]
        exact hr2
      · rw [if_neg y]
        exact hr1 _ (by omega) (Or.inr rfl)
    · rw [if_neg z]
      by_cases y : a1.toInt < 0
      · rw [if_pos y]
      · rw [if_neg y, if_neg (by omega)]
  · rw [if_neg q, if_neg q]
-- 87.dead
theorem xb_ext {a b : Int32} (h : ∀ r, r < 32 → xb a r = xb b r) : a = b := Int32.toBitVec_inj.mp (BitVec.eq_of_getLsbD_eq (fun i hi => h i hi))
/-- all RAILS -/
def xA (q : Nat) : Int32 := ((1 : Int32) <<< (nI q &&& 31)) - 1
theorem xA_eq {q : Nat} (q8 : q ≤ 8) : xA q = nI (2 ^ q - 1) := x_all ⟨q, by omega⟩
theorem p2_le {q : Nat} (q8 : q ≤ 8) : 2 ^ q ≤ 256 := Nat.pow_le_pow_right (by decide) (show q ≤ 8 by omega)
theorem xA_b {q r : Nat} (q8 : q ≤ 8) (hr : r < 32) : xb (xA q) r = decide (r < q) := by
  rw [xA_eq q8, xb_nI hr, Nat.testBit_two_pow_sub_one]
theorem xb_z (r : Nat) : xb 0 r = false := by
  unfold xb
  simp
section
variable {pn : Nat → Int32} {pt : Nat → Int64} {Td Nm Tb F : Nat → Int32} {q : Nat} {d : Int32}
/-- the dead by hand, as bits -/
def xDb (q : Nat) (d : Int32) : Nat := xup (fun r => xb d r) q 0
theorem xDb_lt (q8 : q ≤ 8) : xDb q d < 256 := xup_lt (by decide) q q8
theorem xDb_b {r : Nat} (hr : r < 32) : xb (nI (xDb q d)) r = (decide (r < q) && xb d r) := by
  rw [xb_nI hr]
  unfold xDb
  rw [xup_bit]
  simp
theorem d_in (h : xDd d F) (q8 : q ≤ 8) : ∀ (m r k : Nat), r + m = q → K_m_deadOnes_L2 (nI q) F (k + m + 1) (nI r) (nI (xup (fun r => xb d r) r 0)) = nI (xDb q d) := by
  have qq : (nI q).toInt = (q : Int) := nI_toInt (by omega)
  intro m
  induction m with
  | zero =>
    intro r k hr
    have rr : (nI r).toInt = (r : Int) := nI_toInt (by omega)
    obtain rfl : r = q := by omega
    simp only [K_m_deadOnes_L2, K_m_deadOnes_3, K_m_deadOnes_5, K_m_deadOnes_6, K_m_deadOnes_4, K_m_deadOnes_2, K_m_deadOnes_1, M_m_deadOnes]
    rw [if_pos (by omega)]
    rfl
  | succ m ih =>
    intro r k hr
    have rr : (nI r).toInt = (r : Int) := nI_toInt (by omega)
    have rc : (nI r).toNatClampNeg = r := nI_clamp (by omega)
    have l := xup_lt (c := fun r => xb d r) (show 0 < 256 by decide) r (by omega)
    have z := ih (r + 1) k (by omega)
    rw [← z]
    show K_m_deadOnes_L2 (nI q) F ((k + m + 1) + 1) (nI r) _ = _
    generalize k + m + 1 = j
    simp only [K_m_deadOnes_L2, K_m_deadOnes_3, K_m_deadOnes_5, K_m_deadOnes_6, K_m_deadOnes_4, K_m_deadOnes_2, K_m_deadOnes_1, M_m_deadOnes]
    rw [if_neg (by omega), rc, nI_1, xor00]
    have st : xup (fun r => xb d r) (r + 1) 0 = if xb d r = true then xup (fun r => xb d r) r 0 ||| 2 ^ r else xup (fun r => xb d r) r 0 := rfl
    rw [st]
    rcases h r (by omega) with ⟨f0, b0⟩ | ⟨f1, b1⟩
    · have b0 : xb d r = false := b0
      rw [f0, if_pos (by decide), b0, if_neg (by decide)]
    · have b1 : xb d r = true := b1
      rw [f1, if_neg (by decide), b1, if_pos rfl, x_put l (by omega)]
theorem r_dead (h : xDd d F) (q8 : q ≤ 8) : M_m_deadOnes (nI q) F = nI (xDb q d) := by
  have z := d_in h q8 q 0 (99999 - q) (by omega)
  rw [show 99999 - q + q + 1 = 100000 from by omega] at z
  exact z
theorem t_alive : M_alive d (nI q) = xA q &&& (d ^^^ (-1)) := by
  simp only [K_alive_2, K_alive_1, M_alive, K_allRails_1, M_allRails]
  rfl
theorem t_allR : M_allRails (nI q) = xA q := by
  simp only [K_allRails_1, M_allRails]
  rfl
theorem alive_b {r : Nat} (q8 : q ≤ 8) (hr : r < 32) : xb (xA q &&& (d ^^^ (-1))) r = (decide (r < q) && !xb d r) := by
  rw [xb_and, xA_b q8 hr, xb_not d hr]
theorem alive_eq (q8 : q ≤ 8) : xA q &&& (d ^^^ (-1)) = xA q &&& (nI (xDb q d) ^^^ (-1)) := by
  apply xb_ext
  intro r hr
  rw [alive_b q8 hr, xb_and, xA_b q8 hr, xb_not _ hr, xDb_b hr]
  cases decide (r < q) <;> simp
/-- up among those alive -/
theorem up_alive {wt : Bool} (h : xE wt q pn pt Td Nm Tb) (q8 : q ≤ 8) : M_upAmong (nI q) (xA q &&& (d ^^^ (-1))) pt = M_m_upBut (nI q) (nI (xDb q d)) Tb := r_up h q8 (fun r hr => by
  rw [alive_b q8 (by omega), xDb_b (by omega)]
  simp [hr])
theorem up_all {wt : Bool} (h : xE wt q pn pt Td Nm Tb) (q8 : q ≤ 8) : M_upAmong (nI q) (xA q) pt = M_m_upBut (nI q) 0 Tb := r_up h q8 (fun r hr => by
  rw [xA_b q8 (by omega), xb_z]
  simp [hr])
/-- up without some besides the dead -/
theorem up_less {wt : Bool} (h : xE wt q pn pt Td Nm Tb) (q8 : q ≤ 8) (s : Int32) : M_upAmong (nI q) ((xA q &&& (d ^^^ (-1))) &&& (s ^^^ (-1))) pt = M_m_upBut (nI q) (nI (xDb q d) ||| s) Tb := r_up h q8 (fun r hr => by
  rw [xb_and, alive_b q8 (by omega), xb_not s (by omega), xb_or, xDb_b (by omega)]
  cases xb d r <;> cases xb s r <;> simp [hr])
theorem up_one {wt : Bool} (h : xE wt q pn pt Td Nm Tb) (q8 : q ≤ 8) (s : Int32) : M_upAmong (nI q) (xA q &&& (s ^^^ (-1))) pt = M_m_upBut (nI q) s Tb := r_up h q8 (fun r hr => by
  rw [xb_and, xA_b q8 (by omega), xb_not s (by omega)]
  simp [hr])
theorem i_up {r : Int32} {s0 a0 : Int32} (e : M_upAmong (nI q) s0 pt = M_m_upBut (nI q) a0 Tb) : M_dIsUp r (nI q) s0 pt = M_m_isUp r (nI q) a0 Tb := by
  simp only [K_dIsUp_4, K_dIsUp_3, K_dIsUp_2, K_dIsUp_1, M_dIsUp, K_m_isUp_4, K_m_isUp_3, K_m_isUp_2, K_m_isUp_1, M_m_isUp]
  rw [e]
theorem i_can {wt : Bool} {r : Int32} (h : xE wt q pn pt Td Nm Tb) (q8 : q ≤ 8) : M_canBeUp r (nI q) pt d = M_m_isUp r (nI q) (nI (xDb q d)) Tb := by
  simp only [K_canBeUp_5, K_canBeUp_4, K_canBeUp_3, K_canBeUp_2, K_canBeUp_1, M_canBeUp, K_m_isUp_4, K_m_isUp_3, K_m_isUp_2, K_m_isUp_1, M_m_isUp]
  rw [t_alive, up_alive h q8]
/-- a set of RAILS that are told, on both sides -/
theorem are_eq (q8 : q ≤ 8) (s : Int32) : (s &&& (xA q ^^^ (-1))).toInt = 0 ↔ (0 ≤ s.toInt ∧ s.toInt ≤ (((1 : Int32) <<< (nI q &&& 31)).toInt - 1)) := by
  have p2 := p2_le q8
  have p0 : 0 < 2 ^ q := Nat.two_pow_pos q
  have e1 : ((1 : Int32) <<< (nI q &&& 31)).toInt = ((2 ^ q : Nat) : Int) := by
    rw [x_shl ⟨q, by omega⟩]
    show (nI (2 ^ q)).toInt = _
    exact nI_toInt (by omega)
  constructor
  · intro h
    have hz : s &&& (xA q ^^^ (-1)) = 0 := xi0 h
    have hs : s.toBitVec.toNat < 2 ^ q := by
      apply Nat.lt_pow_two_of_testBit
      intro i hi
      by_cases w : i < 32
      · have b : xb (s &&& (xA q ^^^ (-1))) i = false := by rw [hz, xb_z]
        rw [xb_and, xb_not _ w, xA_b q8 w] at b
        have : decide (i < q) = false := by simp; omega
        rw [this] at b
        have b2 : xb s i = false := by simpa using b
        exact b2
      · apply Nat.testBit_lt_two_pow
        exact Nat.lt_of_lt_of_le s.toBitVec.isLt (Nat.pow_le_pow_right (by decide) (by omega))
    have es : s = nI s.toBitVec.toNat := by
      apply Int32.toBitVec_inj.mp
      show s.toBitVec = BitVec.ofNat 32 s.toBitVec.toNat
      simp
    have := nI_toInt (n := s.toBitVec.toNat) (by omega)
    rw [← es] at this
    omega
  · intro h
    have n := xtn (x := s) h.1
    have es : nI s.toNatClampNeg = s := xnI h.1
    have lt : s.toNatClampNeg < 2 ^ q := by omega
    have hz : s &&& (xA q ^^^ (-1)) = 0 := by
      apply xb_ext
      intro r hr
      rw [xb_and, xb_not _ hr, xA_b q8 hr, xb_z, ← es, xb_nI hr]
      by_cases w : r < q
      · simp [w]
      · have : s.toNatClampNeg.testBit r = false := Nat.testBit_lt_two_pow (Nat.lt_of_lt_of_le lt (Nat.pow_le_pow_right (by decide) (by omega)))
        rw [this]
        simp
    rw [hz]
    decide
theorem t_are (q8 : q ≤ 8) (s : Int32) : (M_m_areRails s (nI q)).toInt = 0 ↔ ¬ (s &&& (xA q ^^^ (-1))).toInt = 0 := by
  simp only [K_m_areRails_1, M_m_areRails]
  by_cases z : 0 ≤ s.toInt ∧ s.toInt ≤ (((1 : Int32) <<< (nI q &&& 31)).toInt - 1)
  · rw [if_pos z]
    exact ⟨fun h => absurd h (by decide), fun h => absurd ((are_eq q8 s).mpr z) h⟩
  · rw [if_neg z]
    exact ⟨fun _ h => z ((are_eq q8 s).mp h), fun _ => by decide⟩
end
/-- what both sides hold of RAILS and of the dead -/
theorem xq_of {rails : Int32} (r8 : 0 ≤ rails.toInt ∧ rails.toInt ≤ 8) : rails = nI rails.toNatClampNeg ∧ rails.toNatClampNeg ≤ 8 := by
  have rn := xtn r8.1
  exact ⟨(xnI r8.1).symm, by omega⟩
section
variable {a0 a1 rails limit retry behind mra mli mre mpa dead : Int32} {pn Td Nm Tb F : Nat → Int32} {pt : Nat → Int64}
theorem x_up_eq {wt : Bool} (h : xPl wt rails limit retry behind pn pt mra mli mre mpa Td Nm Tb) (hd : xDd dead F) : M_x_up a0 rails dead pt = M_m_up a0 mra F Tb := by
  obtain ⟨e, -, -, -, r8, hE⟩ := h
  subst e
  obtain ⟨eq, q8⟩ := xq_of r8
  generalize rails.toNatClampNeg = q at eq q8 hE
  subst eq
  simp only [K_x_up_5, K_x_up_3, K_x_up_8, K_x_up_6, K_x_up_11, K_x_up_9, K_x_up_10, K_x_up_7, K_x_up_4, K_x_up_2, K_x_up_1, M_x_up, K_m_up_7, K_m_up_11, K_m_up_9, K_m_up_10, K_m_up_8, K_m_up_6, K_m_up_5, K_m_up_4, K_m_up_2, K_m_up_3, K_m_up_1, M_m_up]
  rw [t_allR, r_dead hd q8, up_alive hE q8, up_all hE q8]
  by_cases z : 0 ≤ a0.toInt ∧ a0.toInt ≤ 2
  · rw [if_pos z]
    by_cases z0 : a0.toInt = 0
    · rw [if_pos z0, if_pos z0]
    · rw [if_neg z0, if_neg z0]
      by_cases z1 : a0.toInt = 1
      · rw [if_pos z1, if_pos z1, alive_eq q8]
        apply xb_ext
        intro r hr
        rw [xb_and, xb_and, xb_and, xb_and]
        show (xb (xA q) r && xb (nI (xDb q dead) ^^^ (-1)) r && _) = (xb (xA q) r && _ && xb (nI (xDb q dead) ^^^ (-1)) r)
        cases xb (xA q) r <;> simp [Bool.and_comm]
      · rw [if_neg z1, if_neg z1, if_pos (by omega)]
        rfl
  · rw [if_neg z, if_neg (by omega), if_neg (by omega), if_neg (by omega)]
theorem x_down_eq {wt : Bool} (h : xPl wt rails limit retry behind pn pt mra mli mre mpa Td Nm Tb) (hd : xDd dead F) : M_x_down a0 rails pt dead = M_m_down mra a0 Tb F := by
  obtain ⟨e, -, -, -, r8, hE⟩ := h
  subst e
  obtain ⟨eq, q8⟩ := xq_of r8
  generalize rails.toNatClampNeg = q at eq q8 hE
  subst eq
  simp only [K_x_down_8, K_x_down_7, K_x_down_6, K_x_down_5, K_x_down_3, K_x_down_4, K_x_down_2, K_x_down_1, M_x_down, K_m_down_3, K_m_down_8, K_m_down_7, K_m_down_6, K_m_down_5, K_m_down_4, K_m_down_2, K_m_down_1, M_m_down]
  rw [t_allR, r_dead hd q8, t_alive, up_alive hE q8, up_less hE q8]
  by_cases z : (a0 &&& (xA q ^^^ (-1))).toInt = 0
  · rw [if_pos z, if_neg (fun y => (t_are q8 a0).mp y z)]
  · rw [if_neg z, if_pos ((t_are q8 a0).mpr z)]
theorem n_in {wt : Bool} {q : Nat} {r : Int32} (hE : xE wt q pn pt Td Nm Tb) (hd : xDd dead F) (q8 : q ≤ 8) : ∀ (m x k : Nat) (s : Int32), x + m = q → K_never_L2 (nI q) r (xA q &&& (dead ^^^ (-1))) pt (k + m + 1) (nI x) s = K_m_must_L8 (nI q) r Tb F (k + m + 1) (nI x) s := by
  have qq : (nI q).toInt = (q : Int) := nI_toInt (by omega)
  intro m
  induction m with
  | zero =>
    intro x k s hx
    have ex : (nI x).toInt = (x : Int) := nI_toInt (by omega)
    simp only [K_never_L2, K_m_must_L8, K_never_3, K_never_7, K_never_6, K_never_5, K_never_4, K_never_2, K_never_1, M_never, K_m_must_7, K_m_must_9, K_m_must_13, K_m_must_14, K_m_must_12, K_m_must_11, K_m_must_10, K_m_must_8, K_m_must_6, K_m_must_5, K_m_must_4, K_m_must_2, K_m_must_3, K_m_must_1, M_m_must]
    rw [if_pos (by omega), if_pos (by omega)]
  | succ m ih =>
    intro x k s hx
    have ex : (nI x).toInt = (x : Int) := nI_toInt (by omega)
    have z : ∀ s, K_never_L2 (nI q) r (xA q &&& (dead ^^^ (-1))) pt (k + m + 1) (nI (x + 1)) s = K_m_must_L8 (nI q) r Tb F (k + m + 1) (nI (x + 1)) s := fun s => ih (x + 1) k s (by omega)
    show K_never_L2 (nI q) r (xA q &&& (dead ^^^ (-1))) pt ((k + m + 1) + 1) (nI x) s = K_m_must_L8 (nI q) r Tb F ((k + m + 1) + 1) (nI x) s
    generalize k + m + 1 = j at z ⊢
    simp only [K_never_L2, K_m_must_L8, K_never_3, K_never_7, K_never_6, K_never_5, K_never_4, K_never_2, K_never_1, M_never, K_m_must_7, K_m_must_9, K_m_must_13, K_m_must_14, K_m_must_12, K_m_must_11, K_m_must_10, K_m_must_8, K_m_must_6, K_m_must_5, K_m_must_4, K_m_must_2, K_m_must_3, K_m_must_1, M_m_must]
    rw [if_neg (show ¬ (nI q).toInt ≤ (nI x).toInt by omega), if_neg (show ¬ (nI q).toInt ≤ (nI x).toInt by omega), r_dead hd q8, i_up (up_less hE q8 ((1 : Int32) <<< (nI x &&& 31))), nI_1, xor00, z, z]
theorem x_must_eq {wt : Bool} (h : xPl wt rails limit retry behind pn pt mra mli mre mpa Td Nm Tb) (hd : xDd dead F) : M_x_must a0 rails pt dead = M_m_must a0 mra Tb F := by
  obtain ⟨e, -, -, -, r8, hE⟩ := h
  subst e
  obtain ⟨eq, q8⟩ := xq_of r8
  generalize rails.toNatClampNeg = q at eq q8 hE
  subst eq
  simp only [K_x_must_6, K_x_must_8, K_x_must_7, K_x_must_5, K_x_must_4, K_x_must_2, K_x_must_3, K_x_must_1, M_x_must, K_m_must_7, K_m_must_9, K_m_must_13, K_m_must_14, K_m_must_12, K_m_must_11, K_m_must_10, K_m_must_8, K_m_must_6, K_m_must_5, K_m_must_4, K_m_must_2, K_m_must_3, K_m_must_1, M_m_must]
  rw [r_dead hd q8, i_can hE q8, t_alive]
  by_cases z : 0 ≤ a0.toInt ∧ a0.toInt < (nI q).toInt
  · rw [if_pos z, if_pos z]
    by_cases y : (M_m_isUp a0 (nI q) (nI (xDb q dead)) Tb).toInt = 0
    · rw [if_pos y, if_pos y]
    · rw [if_neg y, if_neg y]
      have w := n_in (r := a0) hE hd q8 q 0 (99999 - q) 0 (by omega)
      rw [show 99999 - q + q + 1 = 100000 from by omega] at w
      exact w
  · rw [if_neg z, if_neg z]
theorem e_in6 {wt : Bool} {q : Nat} {s0 : Int32} (hE : xE wt q pn pt Td Nm Tb) (q8 : q ≤ 8) : ∀ (m x k : Nat) (s : Int32), x + m = q → K_explain_L6 (nI q) s0 (xA q) pt (k + m + 1) (nI x) s = K_m_seen_L8 (nI q) s0 Tb (k + m + 1) (nI x) s := by
  have qq : (nI q).toInt = (q : Int) := nI_toInt (by omega)
  intro m
  induction m with
  | zero =>
    intro x k s hx
    have ex : (nI x).toInt = (x : Int) := nI_toInt (by omega)
    simp only [K_explain_L6, K_m_seen_L8, K_explain_13, K_explain_17, K_explain_16, K_explain_15, K_explain_14, K_explain_12, K_explain_5, K_explain_7, K_explain_11, K_explain_10, K_explain_9, K_explain_8, K_explain_6, K_explain_4, K_explain_3, K_explain_2, K_explain_1, M_explain, K_m_seen_4, K_m_seen_15, K_m_seen_19, K_m_seen_18, K_m_seen_17, K_m_seen_16, K_m_seen_14, K_m_seen_7, K_m_seen_9, K_m_seen_13, K_m_seen_12, K_m_seen_11, K_m_seen_10, K_m_seen_8, K_m_seen_6, K_m_seen_5, K_m_seen_3, K_m_seen_2, K_m_seen_1, M_m_seen]
    rw [if_pos (by omega), if_pos (by omega)]
  | succ m ih =>
    intro x k s hx
    have ex : (nI x).toInt = (x : Int) := nI_toInt (by omega)
    have z : ∀ s, K_explain_L6 (nI q) s0 (xA q) pt (k + m + 1) (nI (x + 1)) s = K_m_seen_L8 (nI q) s0 Tb (k + m + 1) (nI (x + 1)) s := fun s => ih (x + 1) k s (by omega)
    show K_explain_L6 (nI q) s0 (xA q) pt ((k + m + 1) + 1) (nI x) s = K_m_seen_L8 (nI q) s0 Tb ((k + m + 1) + 1) (nI x) s
    generalize k + m + 1 = j at z ⊢
    simp only [K_explain_L6, K_m_seen_L8, K_explain_13, K_explain_17, K_explain_16, K_explain_15, K_explain_14, K_explain_12, K_explain_5, K_explain_7, K_explain_11, K_explain_10, K_explain_9, K_explain_8, K_explain_6, K_explain_4, K_explain_3, K_explain_2, K_explain_1, M_explain, K_m_seen_4, K_m_seen_15, K_m_seen_19, K_m_seen_18, K_m_seen_17, K_m_seen_16, K_m_seen_14, K_m_seen_7, K_m_seen_9, K_m_seen_13, K_m_seen_12, K_m_seen_11, K_m_seen_10, K_m_seen_8, K_m_seen_6, K_m_seen_5, K_m_seen_3, K_m_seen_2, K_m_seen_1, M_m_seen]
    rw [if_neg (show ¬ (nI q).toInt ≤ (nI x).toInt by omega), if_neg (show ¬ (nI q).toInt ≤ (nI x).toInt by omega), up_one hE q8 ((1 : Int32) <<< (nI x &&& 31)), nI_1, xor00, z, z]
theorem e_in12 {wt : Bool} {q : Nat} {s0 : Int32} (hE : xE wt q pn pt Td Nm Tb) (q8 : q ≤ 8) : ∀ (m x k : Nat) (s : Int32), x + m = q → K_explain_L12 (nI q) s0 (xA q) pt (k + m + 1) (nI x) s = K_m_seen_L14 (nI q) s0 Tb (k + m + 1) (nI x) s := by
  have qq : (nI q).toInt = (q : Int) := nI_toInt (by omega)
  intro m
  induction m with
  | zero =>
    intro x k s hx
    have ex : (nI x).toInt = (x : Int) := nI_toInt (by omega)
    simp only [K_explain_L12, K_m_seen_L14, K_explain_13, K_explain_17, K_explain_16, K_explain_15, K_explain_14, K_explain_12, K_explain_5, K_explain_7, K_explain_11, K_explain_10, K_explain_9, K_explain_8, K_explain_6, K_explain_4, K_explain_3, K_explain_2, K_explain_1, M_explain, K_m_seen_4, K_m_seen_15, K_m_seen_19, K_m_seen_18, K_m_seen_17, K_m_seen_16, K_m_seen_14, K_m_seen_7, K_m_seen_9, K_m_seen_13, K_m_seen_12, K_m_seen_11, K_m_seen_10, K_m_seen_8, K_m_seen_6, K_m_seen_5, K_m_seen_3, K_m_seen_2, K_m_seen_1, M_m_seen]
    rw [if_pos (by omega), if_pos (by omega)]
  | succ m ih =>
    intro x k s hx
    have ex : (nI x).toInt = (x : Int) := nI_toInt (by omega)
    have z : ∀ s, K_explain_L12 (nI q) s0 (xA q) pt (k + m + 1) (nI (x + 1)) s = K_m_seen_L14 (nI q) s0 Tb (k + m + 1) (nI (x + 1)) s := fun s => ih (x + 1) k s (by omega)
    show K_explain_L12 (nI q) s0 (xA q) pt ((k + m + 1) + 1) (nI x) s = K_m_seen_L14 (nI q) s0 Tb ((k + m + 1) + 1) (nI x) s
    generalize k + m + 1 = j at z ⊢
    simp only [K_explain_L12, K_m_seen_L14, K_explain_13, K_explain_17, K_explain_16, K_explain_15, K_explain_14, K_explain_12, K_explain_5, K_explain_7, K_explain_11, K_explain_10, K_explain_9, K_explain_8, K_explain_6, K_explain_4, K_explain_3, K_explain_2, K_explain_1, M_explain, K_m_seen_4, K_m_seen_15, K_m_seen_19, K_m_seen_18, K_m_seen_17, K_m_seen_16, K_m_seen_14, K_m_seen_7, K_m_seen_9, K_m_seen_13, K_m_seen_12, K_m_seen_11, K_m_seen_10, K_m_seen_8, K_m_seen_6, K_m_seen_5, K_m_seen_3, K_m_seen_2, K_m_seen_1, M_m_seen]
    rw [if_neg (show ¬ (nI q).toInt ≤ (nI x).toInt by omega), if_neg (show ¬ (nI q).toInt ≤ (nI x).toInt by omega), up_one hE q8 ((1 : Int32) <<< (nI x &&& 31)), nI_1, xor00, z, z]
theorem x_seen_eq {wt : Bool} (h : xPl wt rails limit retry behind pn pt mra mli mre mpa Td Nm Tb) : M_x_seen a0 rails pt = M_m_seen a0 mra Tb := by
  obtain ⟨e, -, -, -, r8, hE⟩ := h
  subst e
  obtain ⟨eq, q8⟩ := xq_of r8
  generalize rails.toNatClampNeg = q at eq q8 hE
  subst eq
  simp only [K_x_seen_5, K_x_seen_3, K_x_seen_4, K_x_seen_2, K_x_seen_1, M_x_seen, K_explain_13, K_explain_17, K_explain_16, K_explain_15, K_explain_14, K_explain_5, K_explain_7, K_explain_11, K_explain_10, K_explain_9, K_explain_8, K_explain_4, K_explain_3, K_explain_2, K_explain_1, M_explain, K_m_seen_4, K_m_seen_15, K_m_seen_19, K_m_seen_18, K_m_seen_17, K_m_seen_16, K_m_seen_7, K_m_seen_9, K_m_seen_13, K_m_seen_12, K_m_seen_11, K_m_seen_10, K_m_seen_6, K_m_seen_5, K_m_seen_3, K_m_seen_2, K_m_seen_1, M_m_seen]
  rw [t_allR, up_all hE q8]
  by_cases z : (a0 &&& (xA q ^^^ (-1))).toInt = 0
  · rw [if_pos z, if_neg (fun y => (t_are q8 a0).mp y z)]
    have w6 := e_in6 (s0 := a0) hE q8 q 0 (99999 - q) 0 (by omega)
    have w12 := e_in12 (s0 := a0) hE q8 q 0 (99999 - q) 256 (by omega)
    rw [show 99999 - q + q + 1 = 100000 from by omega] at w6 w12
    by_cases y : (M_m_upBut (nI q) 0 Tb).toInt = a0.toInt
    · rw [if_pos y, if_pos y]
      exact w12
    · rw [if_neg y, if_neg y]
      exact w6
  · rw [if_neg z, if_pos ((t_are q8 a0).mpr z)]
end
-- 88.cut
theorem x_cnt : ∀ s : Fin 256, M_bitCount (nI s.val) = M_m_countOf (nI s.val) := by decide +kernel
theorem cnt_b : ∀ s : Fin 256, 0 ≤ (M_m_countOf (nI s.val)).toInt ∧ (M_m_countOf (nI s.val)).toInt ≤ 8 := by decide +kernel
/-- how many -/
def xct (s : Nat) : Int := (M_m_countOf (nI s)).toInt
section
variable {pn Td Nm Tb F : Nat → Int32} {pt : Nat → Int64} {dead r : Int32} {q : Nat}
theorem cut_in {wt : Bool} (hE : xE wt q pn pt Td Nm Tb) (hd : xDd dead F) (q8 : q ≤ 8) {a1 : Int32} : ∀ (m s k : Nat) (b : Nat), 0 < s → s + m = 2 ^ q → b < s → (K_m_cut_L10 (nI q) a1 r Tb F (k + m + 1) (nI s) (if b = 0 then -4 else nI b)) = (fun z => if z.toInt = 0 then -4 else if a1.toInt = 0 then M_m_countOf z else z) (K_fewestCut_L2 r (nI q) (xA q &&& (dead ^^^ (-1))) pt (k + m + 1) (nI s) (nI b)) := by
  have qq : (nI q).toInt = (q : Int) := nI_toInt (by omega)
  have p2 := p2_le q8
  have eA : (xA q).toInt = ((2 ^ q - 1 : Nat) : Int) := by
    rw [xA_eq q8]
    exact nI_toInt (by omega)
  have e1 : ((1 : Int32) <<< (nI q &&& 31)).toInt = ((2 ^ q : Nat) : Int) := by
    rw [x_shl ⟨q, by omega⟩]
    show (nI (2 ^ q)).toInt = _
    exact nI_toInt (by omega)
  have m4 : (-4 : Int32).toInt = -4 := by decide
  intro m
  induction m with
  | zero =>
    intro s k b s0 hs hb
    have ss : (nI s).toInt = (s : Int) := nI_toInt (by omega)
    have bb : (nI b).toInt = (b : Int) := nI_toInt (by omega)
    simp only [K_m_cut_L10, K_fewestCut_L2, K_m_cut_9, K_m_cut_14, K_m_cut_17, K_m_cut_16, K_m_cut_15, K_m_cut_13, K_m_cut_11, K_m_cut_25, K_m_cut_24, K_m_cut_23, K_m_cut_22, K_m_cut_20, K_m_cut_28, K_m_cut_33, K_m_cut_32, K_m_cut_31, K_m_cut_30, K_m_cut_29, K_m_cut_27, K_m_cut_26, K_m_cut_21, K_m_cut_19, K_m_cut_18, K_m_cut_12, K_m_cut_10, K_m_cut_8, K_m_cut_7, K_m_cut_6, K_m_cut_4, K_m_cut_5, K_m_cut_3, K_m_cut_2, K_m_cut_1, M_m_cut, K_fewestCut_4, K_fewestCut_18, K_fewestCut_17, K_fewestCut_16, K_fewestCut_14, K_fewestCut_21, K_fewestCut_25, K_fewestCut_24, K_fewestCut_23, K_fewestCut_22, K_fewestCut_20, K_fewestCut_19, K_fewestCut_15, K_fewestCut_7, K_fewestCut_8, K_fewestCut_12, K_fewestCut_13, K_fewestCut_11, K_fewestCut_10, K_fewestCut_9, K_fewestCut_6, K_fewestCut_5, K_fewestCut_3, K_fewestCut_2, K_fewestCut_1, M_fewestCut, t_allR]
    rw [if_pos (show ((1 : Int32) <<< (nI q &&& 31)).toInt ≤ (nI s).toInt by omega), if_pos (show (xA q).toInt < (nI s).toInt by omega)]
    by_cases z : b = 0
    · rw [if_pos z, if_pos m4, if_pos (show (nI b).toInt = 0 by omega)]
    · rw [if_neg z, if_neg (show ¬ (nI b).toInt = -4 by omega), if_neg (show ¬ (nI b).toInt = 0 by omega)]
  | succ m ih =>
    intro s k b s0 hs hb
    have ss : (nI s).toInt = (s : Int) := nI_toInt (by omega)
    have bb : (nI b).toInt = (b : Int) := nI_toInt (by omega)
    have z1 := ih (s + 1) k b (by omega) (by omega) (by omega)
    have z2 := ih (s + 1) k s (by omega) (by omega) (by omega)
    rw [if_neg (by omega : ¬ s = 0)] at z2
    have cs := x_cnt ⟨s, by omega⟩
    have cb := x_cnt ⟨b, by omega⟩
    dsimp only at cs cb
    show K_m_cut_L10 (nI q) a1 r Tb F ((k + m + 1) + 1) (nI s) (if b = 0 then -4 else nI b) = (fun z => if z.toInt = 0 then -4 else if a1.toInt = 0 then M_m_countOf z else z) (K_fewestCut_L2 r (nI q) (xA q &&& (dead ^^^ (-1))) pt ((k + m + 1) + 1) (nI s) (nI b))
    generalize k + m + 1 = j at z1 z2 ⊢
    have gc : K_fewestCut_L2 r (nI q) (xA q &&& (dead ^^^ (-1))) pt (j + 1) (nI s) (nI b) = if ((nI s >>> (r &&& 31)) &&& (1 : Int32)).toInt = 0 ∧ (b = 0 ∨ (M_m_countOf (nI s)).toInt < (M_m_countOf (nI b)).toInt) ∧ (M_m_isUp r (nI q) (nI (xDb q dead) ||| nI s) Tb).toInt = 0 then K_fewestCut_L2 r (nI q) (xA q &&& (dead ^^^ (-1))) pt j (nI (s + 1)) (nI s) else K_fewestCut_L2 r (nI q) (xA q &&& (dead ^^^ (-1))) pt j (nI (s + 1)) (nI b) := by
      simp only [K_fewestCut_L2, K_fewestCut_4, K_fewestCut_18, K_fewestCut_17, K_fewestCut_16, K_fewestCut_14, K_fewestCut_21, K_fewestCut_25, K_fewestCut_24, K_fewestCut_23, K_fewestCut_22, K_fewestCut_20, K_fewestCut_19, K_fewestCut_15, K_fewestCut_7, K_fewestCut_8, K_fewestCut_12, K_fewestCut_13, K_fewestCut_11, K_fewestCut_10, K_fewestCut_9, K_fewestCut_6, K_fewestCut_5, K_fewestCut_3, K_fewestCut_2, K_fewestCut_1, M_fewestCut, t_allR]
      rw [if_neg (show ¬ (xA q).toInt < (nI s).toInt by omega), i_up (up_less hE q8 (nI s)), cs, cb, nI_1]
      by_cases o : ((nI s >>> (r &&& 31)) &&& (1 : Int32)).toInt = 0
      · rw [if_pos o]
        by_cases z : b = 0
        · rw [if_pos (show (nI b).toInt = 0 by omega)]
          by_cases u : (M_m_isUp r (nI q) (nI (xDb q dead) ||| nI s) Tb).toInt = 0
          · rw [if_pos u, if_pos ⟨o, Or.inl z, u⟩]
          · rw [if_neg u, if_neg (fun y => u y.2.2)]
        · rw [if_neg (show ¬ (nI b).toInt = 0 by omega)]
          by_cases c : (M_m_countOf (nI b)).toInt ≤ (M_m_countOf (nI s)).toInt
          · rw [if_pos c, if_neg (fun y => by rcases y.2.1 with w | w <;> omega)]
          · rw [if_neg c]
            by_cases u : (M_m_isUp r (nI q) (nI (xDb q dead) ||| nI s) Tb).toInt = 0
            · rw [if_pos u, if_pos ⟨o, Or.inr (by omega), u⟩]
            · rw [if_neg u, if_neg (fun y => u y.2.2)]
      · rw [if_neg o]
        by_cases z : b = 0
        · rw [if_pos (show (nI b).toInt = 0 by omega), if_neg (fun y => o y.1)]
        · rw [if_neg (show ¬ (nI b).toInt = 0 by omega)]
          by_cases c : (M_m_countOf (nI b)).toInt ≤ (M_m_countOf (nI s)).toInt
          · rw [if_pos c, if_neg (fun y => o y.1)]
          · rw [if_neg c, if_neg (fun y => o y.1)]
    have gm : K_m_cut_L10 (nI q) a1 r Tb F (j + 1) (nI s) (if b = 0 then -4 else nI b) = if ((nI s >>> (r &&& 31)) &&& (1 : Int32)).toInt = 0 ∧ (b = 0 ∨ (M_m_countOf (nI s)).toInt < (M_m_countOf (nI b)).toInt) ∧ (M_m_isUp r (nI q) (nI (xDb q dead) ||| nI s) Tb).toInt = 0 then K_m_cut_L10 (nI q) a1 r Tb F j (nI (s + 1)) (nI s) else K_m_cut_L10 (nI q) a1 r Tb F j (nI (s + 1)) (if b = 0 then -4 else nI b) := by
      simp only [K_m_cut_L10, K_m_cut_9, K_m_cut_14, K_m_cut_17, K_m_cut_16, K_m_cut_15, K_m_cut_13, K_m_cut_11, K_m_cut_25, K_m_cut_24, K_m_cut_23, K_m_cut_22, K_m_cut_20, K_m_cut_28, K_m_cut_33, K_m_cut_32, K_m_cut_31, K_m_cut_30, K_m_cut_29, K_m_cut_27, K_m_cut_26, K_m_cut_21, K_m_cut_19, K_m_cut_18, K_m_cut_12, K_m_cut_10, K_m_cut_8, K_m_cut_7, K_m_cut_6, K_m_cut_4, K_m_cut_5, K_m_cut_3, K_m_cut_2, K_m_cut_1, M_m_cut]
      rw [if_neg (show ¬ ((1 : Int32) <<< (nI q &&& 31)).toInt ≤ (nI s).toInt by omega), r_dead hd q8, nI_1]
      by_cases o : ((nI s >>> (r &&& 31)) &&& (1 : Int32)).toInt = 0
      · rw [if_pos o]
        by_cases z : b = 0
        · rw [if_pos z, if_pos m4]
          by_cases u : (M_m_isUp r (nI q) (nI (xDb q dead) ||| nI s) Tb).toInt = 0
          · rw [if_pos u, if_pos ⟨o, Or.inl z, u⟩]
          · rw [if_neg u, if_neg (fun y => u y.2.2)]
        · rw [if_neg z, if_neg (by omega)]
          by_cases c : (M_m_countOf (nI b)).toInt ≤ (M_m_countOf (nI s)).toInt
          · rw [if_pos c, if_neg (fun y => by rcases y.2.1 with w | w <;> omega)]
          · rw [if_neg c]
            by_cases u : (M_m_isUp r (nI q) (nI (xDb q dead) ||| nI s) Tb).toInt = 0
            · rw [if_pos u, if_pos ⟨o, Or.inr (by omega), u⟩]
            · rw [if_neg u, if_neg (fun y => u y.2.2)]
      · rw [if_neg o]
        exact (if_neg (fun y => o y.1)).symm
    rw [gc, gm]
    by_cases y : ((nI s >>> (r &&& 31)) &&& (1 : Int32)).toInt = 0 ∧ (b = 0 ∨ (M_m_countOf (nI s)).toInt < (M_m_countOf (nI b)).toInt) ∧ (M_m_isUp r (nI q) (nI (xDb q dead) ||| nI s) Tb).toInt = 0
    · rw [if_pos y, if_pos y]
      exact z2
    · rw [if_neg y, if_neg y]
      exact z1
theorem f_lt {s0 : Int32} (q8 : q ≤ 8) : ∀ (m s k : Nat) (b : Nat), s + m = 2 ^ q → b < 2 ^ q → ∃ z : Nat, z < 2 ^ q ∧ K_fewestCut_L2 r (nI q) s0 pt (k + m + 1) (nI s) (nI b) = nI z := by
  have p2 := p2_le q8
  have eA : (xA q).toInt = ((2 ^ q - 1 : Nat) : Int) := by
    rw [xA_eq q8]
    exact nI_toInt (by omega)
  intro m
  induction m with
  | zero =>
    intro s k b hs hb
    have ss : (nI s).toInt = (s : Int) := nI_toInt (by omega)
    refine ⟨b, hb, ?_⟩
    simp only [K_fewestCut_L2, K_fewestCut_4, K_fewestCut_18, K_fewestCut_17, K_fewestCut_16, K_fewestCut_14, K_fewestCut_21, K_fewestCut_25, K_fewestCut_24, K_fewestCut_23, K_fewestCut_22, K_fewestCut_20, K_fewestCut_19, K_fewestCut_15, K_fewestCut_7, K_fewestCut_8, K_fewestCut_12, K_fewestCut_13, K_fewestCut_11, K_fewestCut_10, K_fewestCut_9, K_fewestCut_6, K_fewestCut_5, K_fewestCut_3, K_fewestCut_2, K_fewestCut_1, M_fewestCut, t_allR]
    rw [if_pos (by omega)]
  | succ m ih =>
    intro s k b hs hb
    have ss : (nI s).toInt = (s : Int) := nI_toInt (by omega)
    have z1 := ih (s + 1) k b (by omega) hb
    have z2 := ih (s + 1) k s (by omega) (by omega)
    show ∃ z : Nat, z < 2 ^ q ∧ K_fewestCut_L2 r (nI q) s0 pt ((k + m + 1) + 1) (nI s) (nI b) = nI z
    generalize k + m + 1 = j at z1 z2 ⊢
    simp only [K_fewestCut_L2, K_fewestCut_4, K_fewestCut_18, K_fewestCut_17, K_fewestCut_16, K_fewestCut_14, K_fewestCut_21, K_fewestCut_25, K_fewestCut_24, K_fewestCut_23, K_fewestCut_22, K_fewestCut_20, K_fewestCut_19, K_fewestCut_15, K_fewestCut_7, K_fewestCut_8, K_fewestCut_12, K_fewestCut_13, K_fewestCut_11, K_fewestCut_10, K_fewestCut_9, K_fewestCut_6, K_fewestCut_5, K_fewestCut_3, K_fewestCut_2, K_fewestCut_1, M_fewestCut, t_allR]
    rw [if_neg (show ¬ (xA q).toInt < (nI s).toInt by omega), nI_1]
    repeat' split
    all_goals first | exact z1 | exact z2
end
section
variable {a0 a1 rails limit retry behind mra mli mre mpa dead : Int32} {pn Td Nm Tb F : Nat → Int32} {pt : Nat → Int64}
theorem x_cut_eq {wt : Bool} (h : xPl wt rails limit retry behind pn pt mra mli mre mpa Td Nm Tb) (hd : xDd dead F) : M_x_cut a0 rails a1 pt dead = M_m_cut a0 mra a1 Tb F := by
  obtain ⟨e, -, -, -, r8, hE⟩ := h
  subst e
  obtain ⟨eq, q8⟩ := xq_of r8
  generalize rails.toNatClampNeg = q at eq q8 hE
  subst eq
  have p2 := p2_le q8
  have p0 : 0 < 2 ^ q := Nat.two_pow_pos q
  simp only [K_x_cut_4, K_x_cut_10, K_x_cut_14, K_x_cut_17, K_x_cut_16, K_x_cut_15, K_x_cut_13, K_x_cut_12, K_x_cut_11, K_x_cut_9, K_x_cut_8, K_x_cut_6, K_x_cut_7, K_x_cut_5, K_x_cut_3, K_x_cut_2, K_x_cut_1, M_x_cut, K_m_cut_9, K_m_cut_14, K_m_cut_17, K_m_cut_16, K_m_cut_15, K_m_cut_13, K_m_cut_11, K_m_cut_25, K_m_cut_24, K_m_cut_23, K_m_cut_22, K_m_cut_20, K_m_cut_28, K_m_cut_33, K_m_cut_32, K_m_cut_31, K_m_cut_30, K_m_cut_29, K_m_cut_27, K_m_cut_26, K_m_cut_21, K_m_cut_19, K_m_cut_18, K_m_cut_12, K_m_cut_8, K_m_cut_7, K_m_cut_6, K_m_cut_4, K_m_cut_5, K_m_cut_3, K_m_cut_2, K_m_cut_1, M_m_cut]
  rw [r_dead hd q8, i_can hE q8, t_alive]
  by_cases z : 0 ≤ a0.toInt ∧ a0.toInt < (nI q).toInt
  · rw [if_pos z, if_pos z]
    by_cases y : 0 ≤ a1.toInt ∧ a1.toInt ≤ 1
    · rw [if_neg (by omega), if_pos y.2, if_pos y]
      by_cases u : (M_m_isUp a0 (nI q) (nI (xDb q dead)) Tb).toInt = 0
      · rw [if_pos u, if_pos u]
      · rw [if_neg u, if_neg u]
        have qq : (nI q).toInt = (q : Int) := nI_toInt (by omega)
        have e1 : ((1 : Int32) <<< (nI q &&& 31)).toInt = ((2 ^ q : Nat) : Int) := by
          rw [x_shl ⟨q, by omega⟩]
          show (nI (2 ^ q)).toInt = _
          exact nI_toInt (by omega)
        have n0 : nI 0 = 0 := rfl
        have o0 : nI (xDb q dead) ||| (0 : Int32) = nI (xDb q dead) := xor00 _
        have sh0 : ((0 : Int32) >>> (a0 &&& 31)) &&& (1 : Int32) = 0 := by
          have an := xtn (x := a0) z.1
          have ea : nI a0.toNatClampNeg = a0 := xnI z.1
          have b := (xsr_0 (0 : Int32) (r := a0.toNatClampNeg) (by omega)).mpr (xb_z _)
          rw [ea] at b
          exact xi0 b
        have st : K_m_cut_L10 (nI q) a1 a0 Tb F (99999 + 1) 0 (-4) = K_m_cut_L10 (nI q) a1 a0 Tb F 99999 (0 + 1) (-4) := by
          generalize 99999 = j
          simp only [K_m_cut_L10, K_m_cut_9, K_m_cut_14, K_m_cut_17, K_m_cut_16, K_m_cut_15, K_m_cut_13, K_m_cut_11, K_m_cut_25, K_m_cut_24, K_m_cut_23, K_m_cut_22, K_m_cut_20, K_m_cut_28, K_m_cut_33, K_m_cut_32, K_m_cut_31, K_m_cut_30, K_m_cut_29, K_m_cut_27, K_m_cut_26, K_m_cut_21, K_m_cut_19, K_m_cut_18, K_m_cut_12, K_m_cut_10, K_m_cut_8, K_m_cut_7, K_m_cut_6, K_m_cut_4, K_m_cut_5, K_m_cut_3, K_m_cut_2, K_m_cut_1, M_m_cut]
          rw [if_neg (by have z0 : (0 : Int32).toInt = 0 := (by decide); omega), r_dead hd q8, sh0, if_pos (by decide), if_pos (by decide), o0, if_neg u]
        have w := cut_in (r := a0) (a1 := a1) hE hd q8 (2 ^ q - 1) 1 (99998 - (2 ^ q - 1)) 0 (by decide) (by omega) (by decide)
        rw [show 99998 - (2 ^ q - 1) + (2 ^ q - 1) + 1 = 99999 from by omega, if_pos rfl] at w
        rw [show K_m_cut_L10 (nI q) a1 a0 Tb F 100000 0 (-4) = _ from st, show (0 : Int32) + 1 = nI 1 from rfl, w]
        have fu : M_fewestCut a0 (nI q) (xA q &&& (dead ^^^ (-1))) pt = K_fewestCut_L2 a0 (nI q) (xA q &&& (dead ^^^ (-1))) pt 99999 (nI 1) (nI 0) := by
          obtain ⟨x1, x2, x3⟩ := f_lt (pt := pt) (r := a0) (s0 := xA q &&& (dead ^^^ (-1))) q8 (2 ^ q - 1) 1 (99998 - (2 ^ q - 1)) 0 (by omega) (by omega)
          have big : ∀ j, ∀ (m s : Nat) (b : Nat), s + m = 2 ^ q → K_fewestCut_L2 a0 (nI q) (xA q &&& (dead ^^^ (-1))) pt (j + m + 1) (nI s) (nI b) = K_fewestCut_L2 a0 (nI q) (xA q &&& (dead ^^^ (-1))) pt (j + m + 2) (nI s) (nI b) := by
            intro j m
            have eA : (xA q).toInt = ((2 ^ q - 1 : Nat) : Int) := by
              rw [xA_eq q8]
              exact nI_toInt (by omega)
            induction m with
            | zero =>
              intro s b hs
              have ss : (nI s).toInt = (s : Int) := nI_toInt (by omega)
              simp only [K_fewestCut_L2, K_fewestCut_4, K_fewestCut_18, K_fewestCut_17, K_fewestCut_16, K_fewestCut_14, K_fewestCut_21, K_fewestCut_25, K_fewestCut_24, K_fewestCut_23, K_fewestCut_22, K_fewestCut_20, K_fewestCut_19, K_fewestCut_15, K_fewestCut_7, K_fewestCut_8, K_fewestCut_12, K_fewestCut_13, K_fewestCut_11, K_fewestCut_10, K_fewestCut_9, K_fewestCut_6, K_fewestCut_5, K_fewestCut_3, K_fewestCut_2, K_fewestCut_1, M_fewestCut, t_allR]
              rw [if_pos (by omega), if_pos (by omega)]
            | succ m ih =>
              intro s b hs
              have ss : (nI s).toInt = (s : Int) := nI_toInt (by omega)
              have z1 := ih (s + 1) b (by omega)
              have z2 := ih (s + 1) s (by omega)
              show K_fewestCut_L2 a0 (nI q) _ pt ((j + m + 1) + 1) (nI s) (nI b) = K_fewestCut_L2 a0 (nI q) _ pt ((j + m + 2) + 1) (nI s) (nI b)
              generalize j + m + 1 = j1 at z1 z2 ⊢
              generalize j + m + 2 = j2 at z1 z2 ⊢
              simp only [K_fewestCut_L2, K_fewestCut_4, K_fewestCut_18, K_fewestCut_17, K_fewestCut_16, K_fewestCut_14, K_fewestCut_21, K_fewestCut_25, K_fewestCut_24, K_fewestCut_23, K_fewestCut_22, K_fewestCut_20, K_fewestCut_19, K_fewestCut_15, K_fewestCut_7, K_fewestCut_8, K_fewestCut_12, K_fewestCut_13, K_fewestCut_11, K_fewestCut_10, K_fewestCut_9, K_fewestCut_6, K_fewestCut_5, K_fewestCut_3, K_fewestCut_2, K_fewestCut_1, M_fewestCut]
              rw [nI_1, z1, z2]
          have b := big (99998 - (2 ^ q - 1)) (2 ^ q - 1) 1 0 (by omega)
          rw [show 99998 - (2 ^ q - 1) + (2 ^ q - 1) + 1 = 99999 from by omega, show 99998 - (2 ^ q - 1) + (2 ^ q - 1) + 2 = 100000 from by omega] at b
          exact b.symm
        rw [fu]
        obtain ⟨x1, x2, x3⟩ := f_lt (pt := pt) (r := a0) (s0 := xA q &&& (dead ^^^ (-1))) q8 (2 ^ q - 1) 1 (99998 - (2 ^ q - 1)) 0 (by omega) (by omega)
        rw [show 99998 - (2 ^ q - 1) + (2 ^ q - 1) + 1 = 99999 from by omega] at x3
        rw [x3]
        dsimp only
        have cs := x_cnt ⟨x1, by omega⟩
        dsimp only at cs
        rw [cs]
    · rw [if_neg y]
      by_cases w : a1.toInt < 0
      · rw [if_pos w]
      · rw [if_neg w, if_neg (by omega)]
  · rw [if_neg z, if_neg z]
end
-- 89.need
theorem cnt_x : ∀ s : Fin 256, M_m_countOf (nI s.val) = nI (xpc s.val) := by decide +kernel
/-- what is up, if those of t are not dead -/
def xSet (q : Nat) (pt : Nat → Int64) (t : Nat) : Nat := xit (fun g x => t.testBit x && hb pt x (g + 256)) q 9 0
theorem xit_lt {C : Nat → Nat → Bool} {q : Nat} (q8 : q ≤ 8) : ∀ k g, g < 256 → xit C q k g < 256 := by
  intro k
  induction k with
  | zero => exact fun g hg => hg
  | succ k ih =>
    intro g hg
    unfold xit
    split
    · exact hg
    · exact ih _ (xup_lt hg q q8)
theorem xSet_lt {q t : Nat} {pt : Nat → Int64} (q8 : q ≤ 8) : xSet q pt t < 256 := xit_lt q8 9 0 (by decide)
theorem xSet_0 {q : Nat} {pt : Nat → Int64} : xSet q pt 0 = 0 := by
  have e : ∀ n, xup (fun x => (0 : Nat).testBit x && hb pt x (0 + 256)) n 0 = 0 := by
    intro n
    induction n with
    | zero => rfl
    | succ n ih =>
      unfold xup
      rw [if_neg (by simp), ih]
  unfold xSet xit
  rw [if_pos (e q)]
/-- s without those of d -/
def xwo (s d : Nat) : Nat := s ^^^ (s &&& d)
theorem xwo_b (s d j : Nat) : (xwo s d).testBit j = (s.testBit j && !d.testBit j) := by
  unfold xwo
  rw [Nat.testBit_xor, Nat.testBit_and]
  cases s.testBit j <;> cases d.testBit j <;> rfl
theorem xwo_lt {s d : Nat} (hs : s < 256) : xwo s d < 256 := by
  apply Nat.lt_pow_two_of_testBit (n := 8)
  intro i hi
  rw [xwo_b, Nat.testBit_lt_two_pow (Nat.lt_of_lt_of_le (show s < 2 ^ 8 from hs) (Nat.pow_le_pow_right (by decide) hi))]
  rfl
/-- the least by number, then by bits -/
def scn (acc : Nat → Bool) : Nat → Nat → Nat → Nat
  | 0, _, b => b
  | m + 1, s, b => if acc s = true ∧ xpc s < xpc b then scn acc m (s + 1) s else scn acc m (s + 1) b
def xBest (acc : Nat → Bool) (all n b : Nat) : Prop := (b = all ∨ (acc b = true ∧ 1 ≤ b ∧ b < n)) ∧ ∀ s, 1 ≤ s → s < n → acc s = true → xpc b < xpc s ∨ (xpc b = xpc s ∧ b ≤ s) ∨ b = all ∧ xpc all ≤ xpc s
theorem scn_best {acc : Nat → Bool} {all : Nat} : ∀ m s b, 1 ≤ s → xBest acc all s b → xBest acc all (s + m) (scn acc m s b) := by
  intro m
  induction m with
  | zero => exact fun s b _ h => h
  | succ m ih =>
    intro s b h1 h
    unfold scn
    rw [show s + (m + 1) = (s + 1) + m from by omega]
    obtain ⟨ha, hb⟩ := h
    by_cases q : acc s = true ∧ xpc s < xpc b
    · rw [if_pos q]
      refine ih _ _ (by omega) ⟨Or.inr ⟨q.1, by omega, by omega⟩, fun t t1 t2 t3 => ?_⟩
      by_cases e : t = s
      · rw [e]
        exact Or.inr (Or.inl ⟨rfl, Nat.le_refl _⟩)
      · rcases hb t t1 (by omega) t3 with w | ⟨w, -⟩ | ⟨w, w2⟩
        · exact Or.inl (by omega)
        · exact Or.inl (by omega)
        · rw [w] at q
          exact Or.inl (by omega)
    · rw [if_neg q]
      refine ih _ _ (by omega) ⟨?_, fun t t1 t2 t3 => ?_⟩
      · rcases ha with w | ⟨w1, w2, w3⟩
        · exact Or.inl w
        · exact Or.inr ⟨w1, w2, by omega⟩
      · by_cases e : t = s
        · rw [e] at t3 ⊢
          have : ¬ xpc s < xpc b := fun z => q ⟨t3, z⟩
          rcases ha with w | ⟨w1, w2, w3⟩
          · rw [w] at this ⊢
            exact Or.inr (Or.inr ⟨rfl, by omega⟩)
          · by_cases y : xpc b = xpc s
            · exact Or.inr (Or.inl ⟨y, by omega⟩)
            · exact Or.inl (by omega)
        · exact hb t t1 (by omega) t3
theorem scn_eq {accC accR : Nat → Bool} {all : Nat} {c p : Nat} (hmax : ∀ s, s ≤ all → xpc all ≤ xpc s → s = all) (hc : xBest accC all (all + 1) c) (hp : xBest accR all (all + 1) p) (h1 : ∀ s, s ≤ all → accR s = true → accC s = true) (h2 : ∀ s, 1 ≤ s → s ≤ all → accC s = true → accR s = true ∨ ∃ t, 1 ≤ t ∧ t ≤ all ∧ accR t = true ∧ xpc t < xpc s) : c = p := by
  obtain ⟨ca, cb⟩ := hc
  obtain ⟨pa, pb⟩ := hp
  by_cases qc : c = all
  · by_cases qp : p = all
    · rw [qc, qp]
    · rcases pa with w | ⟨w1, w2, w3⟩
      · exact absurd w qp
      · rcases cb p w2 w3 (h1 p (by omega) w1) with y | ⟨y, -⟩ | ⟨-, y⟩
        · rw [qc] at y
          exact absurd (hmax p (by omega) (by omega)) qp
        · rw [qc] at y
          exact absurd (hmax p (by omega) (by omega)) qp
        · exact absurd (hmax p (by omega) y) qp
  · rcases ca with w | ⟨w1, w2, w3⟩
    · exact absurd w qc
    · have rc : accR c = true := by
        rcases h2 c w2 (by omega) w1 with y | ⟨t, t1, t2, t3, t4⟩
        · exact y
        · rcases cb t t1 (by omega) (h1 t t2 t3) with y | ⟨y, -⟩ | ⟨y, -⟩
          · omega
          · omega
          · exact absurd y qc
      have py : xpc p < xpc c ∨ (xpc p = xpc c ∧ p ≤ c) := by
        rcases pb c w2 w3 rc with y | y | ⟨y, y2⟩
        · exact Or.inl y
        · exact Or.inr y
        · exact absurd (hmax c (by omega) y2) qc
      have qp : p ≠ all := fun z => by
        rw [z] at py
        exact qc (hmax c (by omega) (by omega))
      rcases pa with w | ⟨x1, x2, x3⟩
      · exact absurd w qp
      · rcases cb p x2 x3 (h1 p (by omega) x1) with y | ⟨y, y2⟩ | ⟨y, -⟩
        · omega
        · omega
        · exact absurd y qc
section
variable {pn Td Nm Tb F : Nat → Int32} {pt : Nat → Int64} {dead : Int32} {q r : Nat}
theorem up_s1 (q8 : q ≤ 8) {s : Nat} : M_upAmong (nI q) ((xA q &&& (dead ^^^ (-1))) &&& nI s) pt = nI (xSet q pt (xwo s (xDb q dead))) := by
  rw [r_up1 q8]
  congr 1
  refine xit_ext q8 (fun g x _ hx => ?_) 9 0 (by decide)
  unfold xCc
  rw [xb_and, alive_b q8 (by omega), xb_nI (by omega), xwo_b]
  have e : (xDb q dead).testBit x = xb dead x := by
    unfold xDb
    rw [xup_bit]
    simp [hx]
  rw [e]
  cases s.testBit x <;> cases xb dead x <;> simp [hx]
theorem up_s2 {wt : Bool} (hE : xE wt q pn pt Td Nm Tb) (q8 : q ≤ 8) {s : Nat} : M_m_upBut (nI q) (xA q &&& (nI s ^^^ (-1))) Tb = nI (xSet q pt s) := by
  rw [r_up2 hE q8]
  congr 1
  refine xit_ext q8 (fun g x _ hx => ?_) 9 0 (by decide)
  unfold xCm
  rw [xb_and, xA_b q8 (by omega), xb_not _ (by omega), xb_nI (by omega)]
  cases s.testBit x <;> simp [hx]
theorem is_1 {s0 : Int32} {t : Nat} (e : M_upAmong (nI q) s0 pt = nI t) (hr : r < 8) : M_dIsUp (nI r) (nI q) s0 pt = if t.testBit r = true then 1 else 0 := by
  simp only [K_dIsUp_4, K_dIsUp_3, K_dIsUp_2, K_dIsUp_1, M_dIsUp]
  rw [e]
  by_cases b : t.testBit r = true
  · rw [if_pos ((xsr_1 _ (by omega)).mpr (by rw [xb_nI (by omega)]; exact b)), if_pos b]
  · rw [if_neg (fun z => b (by have := (xsr_1 _ (by omega)).mp z; rw [xb_nI (by omega)] at this; exact this)), if_neg b]
theorem is_2 {a0 : Int32} {t : Nat} (e : M_m_upBut (nI q) a0 Tb = nI t) (hr : r < 8) : M_m_isUp (nI r) (nI q) a0 Tb = if t.testBit r = true then 1 else 0 := by
  simp only [K_m_isUp_4, K_m_isUp_3, K_m_isUp_2, K_m_isUp_1, M_m_isUp]
  rw [e]
  by_cases b : t.testBit r = true
  · rw [if_pos ((xsr_1 _ (by omega)).mpr (by rw [xb_nI (by omega)]; exact b)), if_pos b]
  · rw [if_neg (fun z => b (by have := (xsr_1 _ (by omega)).mp z; rw [xb_nI (by omega)] at this; exact this)), if_neg b]
def accC (q r : Nat) (pt : Nat → Int64) (D : Nat) : Nat → Bool := fun s => (xSet q pt (xwo s D)).testBit r
def accR (q r : Nat) (pt : Nat → Int64) (D : Nat) : Nat → Bool := fun s => decide (s &&& D = 0) && (xSet q pt s).testBit r
theorem xpc_max {q s : Nat} (q8 : q ≤ 8) (hs : s ≤ 2 ^ q - 1) (h : xpc (2 ^ q - 1) ≤ xpc s) : s = 2 ^ q - 1 := by
  have p2 := p2_le q8
  have p0 : 0 < 2 ^ q := Nat.two_pow_pos q
  by_cases e : 2 ^ q - 1 = s
  · exact e.symm
  · have := xpc_or (g := s) (h := 2 ^ q - 1) (by omega) (by omega) (fun j hj => by
      rw [Nat.testBit_two_pow_sub_one]
      by_cases w : j < q
      · simp [w]
      · rw [Nat.testBit_lt_two_pow (Nat.lt_of_lt_of_le (show s < 2 ^ q by omega) (Nat.pow_le_pow_right (by decide) (by omega)))] at hj
        exact absurd hj (by decide)) e
    omega
theorem c_need (q8 : q ≤ 8) (hr : r < 8) : ∀ (m s k b : Nat), s + m = 2 ^ q → b < 2 ^ q → K_fewestDo_L3 (nI r) (nI q) (xA q &&& (dead ^^^ (-1))) pt (k + m + 1) (nI s) (nI b) = nI (scn (accC q r pt (xDb q dead)) m s b) := by
  have p2 := p2_le q8
  have p0 : 0 < 2 ^ q := Nat.two_pow_pos q
  have eA : (xA q).toInt = ((2 ^ q - 1 : Nat) : Int) := by
    rw [xA_eq q8]
    exact nI_toInt (by omega)
  intro m
  induction m with
  | zero =>
    intro s k b hs hb
    have ss : (nI s).toInt = (s : Int) := nI_toInt (by omega)
    simp only [K_fewestDo_L3, K_fewestDo_5, K_fewestDo_9, K_fewestDo_12, K_fewestDo_13, K_fewestDo_11, K_fewestDo_10, K_fewestDo_8, K_fewestDo_7, K_fewestDo_6, K_fewestDo_4, K_fewestDo_3, K_fewestDo_2, K_fewestDo_1, M_fewestDo]
    rw [t_allR, if_pos (by omega)]
    rfl
  | succ m ih =>
    intro s k b hs hb
    have ss : (nI s).toInt = (s : Int) := nI_toInt (by omega)
    have z1 := ih (s + 1) k b (by omega) hb
    have z2 := ih (s + 1) k s (by omega) (by omega)
    have cs := (x_cnt ⟨s, by omega⟩).trans (cnt_x ⟨s, by omega⟩)
    have cb := (x_cnt ⟨b, by omega⟩).trans (cnt_x ⟨b, by omega⟩)
    dsimp only at cs cb
    have l1 := xpc_le s
    have l2 := xpc_le b
    have i1 : (nI (xpc s)).toInt = ((xpc s : Nat) : Int) := nI_toInt (by omega)
    have i2 : (nI (xpc b)).toInt = ((xpc b : Nat) : Int) := nI_toInt (by omega)
    show K_fewestDo_L3 (nI r) (nI q) (xA q &&& (dead ^^^ (-1))) pt ((k + m + 1) + 1) (nI s) (nI b) = _
    generalize k + m + 1 = j at z1 z2 ⊢
    unfold scn
    simp only [K_fewestDo_L3, K_fewestDo_5, K_fewestDo_9, K_fewestDo_12, K_fewestDo_13, K_fewestDo_11, K_fewestDo_10, K_fewestDo_8, K_fewestDo_7, K_fewestDo_6, K_fewestDo_4, K_fewestDo_3, K_fewestDo_2, K_fewestDo_1, M_fewestDo]
    rw [t_allR, if_neg (by omega), cs, cb, is_1 (up_s1 q8) hr, nI_1, z1, z2]
    by_cases c : xpc s < xpc b
    · rw [if_neg (by omega)]
      by_cases a : accC q r pt (xDb q dead) s = true
      · have a' : (xSet q pt (xwo s (xDb q dead))).testBit r = true := a
        rw [if_pos a', if_neg (by decide), if_pos ⟨a, c⟩]
      · have a' : ¬ (xSet q pt (xwo s (xDb q dead))).testBit r = true := a
        rw [if_neg a', if_pos (by decide), if_neg (fun y => a y.1)]
    · rw [if_pos (by omega), if_neg (fun y => c y.2)]
theorem m_need {wt : Bool} (hE : xE wt q pn pt Td Nm Tb) (hd : xDd dead F) (q8 : q ≤ 8) (hr : r < 8) {a1 : Int32} : ∀ (m s k b : Nat), s + m = 2 ^ q → b < 2 ^ q → K_m_need_L10 (nI q) a1 ((1 : Int32) <<< (nI q &&& 31)) (nI r) (xA q) Tb F (k + m + 1) (nI s) (nI b) = (fun z => if a1.toInt = 0 then M_m_countOf z else z) (nI (scn (accR q r pt (xDb q dead)) m s b)) := by
  have p2 := p2_le q8
  have p0 : 0 < 2 ^ q := Nat.two_pow_pos q
  have e1 : ((1 : Int32) <<< (nI q &&& 31)).toInt = ((2 ^ q : Nat) : Int) := by
    rw [x_shl ⟨q, by omega⟩]
    show (nI (2 ^ q)).toInt = _
    exact nI_toInt (by omega)
  have D8 := xDb_lt (d := dead) q8
  intro m
  induction m with
  | zero =>
    intro s k b hs hb
    have ss : (nI s).toInt = (s : Int) := nI_toInt (by omega)
    simp only [K_m_need_L10, K_m_need_9, K_m_need_15, K_m_need_14, K_m_need_13, K_m_need_11, K_m_need_22, K_m_need_23, K_m_need_21, K_m_need_19, K_m_need_26, K_m_need_29, K_m_need_30, K_m_need_28, K_m_need_27, K_m_need_25, K_m_need_24, K_m_need_20, K_m_need_18, K_m_need_17, K_m_need_16, K_m_need_12, K_m_need_10, K_m_need_8, K_m_need_7, K_m_need_6, K_m_need_4, K_m_need_5, K_m_need_3, K_m_need_2, K_m_need_1, M_m_need]
    rw [if_pos (by omega)]
    rfl
  | succ m ih =>
    intro s k b hs hb
    have ss : (nI s).toInt = (s : Int) := nI_toInt (by omega)
    have bb : (nI b).toInt = (b : Int) := nI_toInt (by omega)
    have z1 := ih (s + 1) k b (by omega) hb
    have z2 := ih (s + 1) k s (by omega) (by omega)
    have cs := cnt_x ⟨s, by omega⟩
    have cb := cnt_x ⟨b, by omega⟩
    dsimp only at cs cb
    have l1 := xpc_le s
    have l2 := xpc_le b
    have i1 : (nI (xpc s)).toInt = ((xpc s : Nat) : Int) := nI_toInt (by omega)
    have i2 : (nI (xpc b)).toInt = ((xpc b : Nat) : Int) := nI_toInt (by omega)
    have an : (nI s &&& nI (xDb q dead)).toInt = ((s &&& xDb q dead : Nat) : Int) := by
      rw [x_and (by omega) (by omega)]
      exact nI_toInt (Nat.lt_of_le_of_lt Nat.and_le_left (by omega))
    show K_m_need_L10 (nI q) a1 ((1 : Int32) <<< (nI q &&& 31)) (nI r) (xA q) Tb F ((k + m + 1) + 1) (nI s) (nI b) = _
    generalize k + m + 1 = j at z1 z2 ⊢
    have st : scn (accR q r pt (xDb q dead)) (m + 1) s b = if accR q r pt (xDb q dead) s = true ∧ xpc s < xpc b then scn (accR q r pt (xDb q dead)) m (s + 1) s else scn (accR q r pt (xDb q dead)) m (s + 1) b := rfl
    rw [st]
    have two : ∀ x : Nat, x = s ∨ x = b → K_m_need_L10 (nI q) a1 ((1 : Int32) <<< (nI q &&& 31)) (nI r) (xA q) Tb F j (nI (s + 1)) (nI x) = (fun z => if a1.toInt = 0 then M_m_countOf z else z) (nI (scn (accR q r pt (xDb q dead)) m (s + 1) x)) := fun x hx => by
      rcases hx with hx | hx
      · rw [hx]; exact z2
      · rw [hx]; exact z1
    have go : ∃ x : Nat, (x = s ∨ x = b) ∧ K_m_need_L10 (nI q) a1 ((1 : Int32) <<< (nI q &&& 31)) (nI r) (xA q) Tb F (j + 1) (nI s) (nI b) = K_m_need_L10 (nI q) a1 ((1 : Int32) <<< (nI q &&& 31)) (nI r) (xA q) Tb F j (nI (s + 1)) (nI x) ∧ x = (if accR q r pt (xDb q dead) s = true ∧ xpc s < xpc b then s else b) := by
      simp only [K_m_need_L10, K_m_need_9, K_m_need_15, K_m_need_14, K_m_need_13, K_m_need_11, K_m_need_22, K_m_need_23, K_m_need_21, K_m_need_19, K_m_need_26, K_m_need_29, K_m_need_30, K_m_need_28, K_m_need_27, K_m_need_25, K_m_need_24, K_m_need_20, K_m_need_18, K_m_need_17, K_m_need_16, K_m_need_12, K_m_need_10, K_m_need_8, K_m_need_7, K_m_need_6, K_m_need_4, K_m_need_5, K_m_need_3, K_m_need_2, K_m_need_1, M_m_need]
      rw [if_neg (by omega), r_dead hd q8, nI_1]
      by_cases o : (s &&& xDb q dead) = 0
      · rw [if_pos (by omega)]
        by_cases a : (xSet q pt s).testBit r = true
        · have ac : accR q r pt (xDb q dead) s = true := by
            unfold accR
            rw [a]
            simp [o]
          by_cases w : b = 2 ^ q - 1
          · rw [if_pos (by omega), is_2 (up_s2 hE q8) hr, if_pos a, if_neg (by decide)]
            refine ⟨s, Or.inl rfl, rfl, ?_⟩
            by_cases v : xpc s < xpc b
            · rw [if_pos ⟨ac, v⟩]
            · rw [if_neg (fun y => v y.2), w]
              exact xpc_max q8 (by omega) (by rw [← w]; omega)
          · rw [if_neg (by omega), cs, cb]
            by_cases v : xpc s < xpc b
            · rw [if_neg (by omega), is_2 (up_s2 hE q8) hr, if_pos a, if_neg (by decide), if_pos ⟨ac, v⟩]
              exact ⟨s, Or.inl rfl, rfl, rfl⟩
            · rw [if_pos (by omega), if_neg (fun y => v y.2)]
              exact ⟨b, Or.inr rfl, rfl, rfl⟩
        · have ac : ¬ accR q r pt (xDb q dead) s = true := by
            unfold accR
            simp [a]
          refine ⟨b, Or.inr rfl, ?_, (if_neg (fun y => ac y.1)).symm⟩
          by_cases w : b = 2 ^ q - 1
          · rw [if_pos (by omega), is_2 (up_s2 hE q8) hr, if_neg a, if_pos (by decide)]
          · rw [if_neg (by omega), cs, cb]
            by_cases v : (nI (xpc b)).toInt ≤ (nI (xpc s)).toInt
            · rw [if_pos v]
            · rw [if_neg v, is_2 (up_s2 hE q8) hr, if_neg a, if_pos (by decide)]
      · have ac : ¬ accR q r pt (xDb q dead) s = true := by
          unfold accR
          simp [o]
        rw [if_neg (by omega), if_neg (fun y => ac y.1)]
        exact ⟨b, Or.inr rfl, rfl, rfl⟩
    obtain ⟨x, x1, x2, x3⟩ := go
    rw [x2, two x x1, x3]
    by_cases y : accR q r pt (xDb q dead) s = true ∧ xpc s < xpc b
    · rw [if_pos y, if_pos y]
    · rw [if_neg y, if_neg y]
end
section
variable {a0 a1 rails limit retry behind mra mli mre mpa dead : Int32} {pn Td Nm Tb F : Nat → Int32} {pt : Nat → Int64}
theorem x_need_eq {wt : Bool} (h : xPl wt rails limit retry behind pn pt mra mli mre mpa Td Nm Tb) (hd : xDd dead F) : M_x_need a0 rails a1 pt dead = M_m_need a0 mra a1 Tb F := by
  obtain ⟨e, -, -, -, r8, hE⟩ := h
  subst e
  obtain ⟨eq, q8⟩ := xq_of r8
  generalize rails.toNatClampNeg = q at eq q8 hE
  subst eq
  have p2 := p2_le q8
  have p0 : 0 < 2 ^ q := Nat.two_pow_pos q
  simp only [K_x_need_4, K_x_need_10, K_x_need_15, K_x_need_14, K_x_need_13, K_x_need_12, K_x_need_11, K_x_need_9, K_x_need_8, K_x_need_6, K_x_need_7, K_x_need_5, K_x_need_3, K_x_need_2, K_x_need_1, M_x_need, K_m_need_9, K_m_need_15, K_m_need_14, K_m_need_13, K_m_need_11, K_m_need_22, K_m_need_23, K_m_need_21, K_m_need_19, K_m_need_26, K_m_need_29, K_m_need_30, K_m_need_28, K_m_need_27, K_m_need_25, K_m_need_24, K_m_need_20, K_m_need_18, K_m_need_17, K_m_need_16, K_m_need_12, K_m_need_8, K_m_need_7, K_m_need_6, K_m_need_4, K_m_need_5, K_m_need_3, K_m_need_2, K_m_need_1, M_m_need, K_fewestDo_5, K_fewestDo_9, K_fewestDo_12, K_fewestDo_13, K_fewestDo_11, K_fewestDo_10, K_fewestDo_8, K_fewestDo_7, K_fewestDo_6, K_fewestDo_4, K_fewestDo_2, K_fewestDo_1, M_fewestDo]
  rw [r_dead hd q8, i_can hE q8, t_alive, t_allR]
  by_cases z : 0 ≤ a0.toInt ∧ a0.toInt < (nI q).toInt
  · rw [if_pos z, if_pos z]
    by_cases y : 0 ≤ a1.toInt ∧ a1.toInt ≤ 1
    · rw [if_neg (by omega), if_pos y.2, if_pos y]
      by_cases u : (M_m_isUp a0 (nI q) (nI (xDb q dead)) Tb).toInt = 0
      · rw [if_pos u, if_pos u]
      · rw [if_neg u, if_neg u]
        have qq : (nI q).toInt = (q : Int) := nI_toInt (by omega)
        have an := xtn (x := a0) z.1
        have ea : nI a0.toNatClampNeg = a0 := xnI z.1
        have hr : a0.toNatClampNeg < 8 := by omega
        generalize a0.toNatClampNeg = r at ea hr an
        subst ea
        have A1 := c_need (pt := pt) (dead := dead) q8 hr (2 ^ q - 1) 1 (99999 - (2 ^ q - 1)) (2 ^ q - 1) (by omega) (by omega)
        have A2 := m_need (a1 := a1) hE hd q8 hr (2 ^ q) 0 (99999 - 2 ^ q) (2 ^ q - 1) (by omega) (by omega)
        rw [show 99999 - (2 ^ q - 1) + (2 ^ q - 1) + 1 = 100000 from by omega] at A1
        rw [show 99999 - 2 ^ q + 2 ^ q + 1 = 100000 from by omega] at A2
        have eA := xA_eq q8
        have r0 : accR q r pt (xDb q dead) 0 = false := by
          unfold accR
          rw [xSet_0]
          simp
        have s0 : scn (accR q r pt (xDb q dead)) (2 ^ q) 0 (2 ^ q - 1) = scn (accR q r pt (xDb q dead)) (2 ^ q - 1) 1 (2 ^ q - 1) := by
          obtain ⟨m, hm⟩ : ∃ m, 2 ^ q = m + 1 := ⟨2 ^ q - 1, by omega⟩
          rw [hm]
          show (if accR q r pt (xDb q dead) 0 = true ∧ _ then _ else _) = _
          rw [if_neg (fun w => by rw [r0] at w; exact absurd w.1 (by decide))]
          rfl
        have b0 : ∀ acc, xBest acc (2 ^ q - 1) 1 (2 ^ q - 1) := fun acc => ⟨Or.inl rfl, fun s s1 s2 => absurd s2 (by omega)⟩
        have B1 := scn_best (acc := accC q r pt (xDb q dead)) (2 ^ q - 1) 1 (2 ^ q - 1) (by decide) (b0 _)
        have B2 := scn_best (acc := accR q r pt (xDb q dead)) (2 ^ q - 1) 1 (2 ^ q - 1) (by decide) (b0 _)
        rw [show 1 + (2 ^ q - 1) = 2 ^ q - 1 + 1 from by omega] at B1 B2
        have same := scn_eq (fun s hs hx => xpc_max q8 hs hx) B1 B2 (fun s hs ha => by
          unfold accR at ha
          unfold accC
          rw [Bool.and_eq_true] at ha
          have o : s &&& xDb q dead = 0 := of_decide_eq_true ha.1
          have e : xwo s (xDb q dead) = s := by
            unfold xwo
            rw [o, Nat.xor_zero]
          rw [e]
          exact ha.2) (fun s s1 hs ha => by
          by_cases o : s &&& xDb q dead = 0
          · left
            have e : xwo s (xDb q dead) = s := by
              unfold xwo
              rw [o, Nat.xor_zero]
            unfold accC at ha
            rw [e] at ha
            unfold accR
            rw [ha]
            simp [o]
          · right
            have sub : ∀ j, (xwo s (xDb q dead)).testBit j = true → s.testBit j = true := fun j hj => by
              rw [xwo_b, Bool.and_eq_true] at hj
              exact hj.1
            have lt : xwo s (xDb q dead) ≤ s := by
              have e : xwo s (xDb q dead) = s &&& xwo s (xDb q dead) := Nat.eq_of_testBit_eq (fun j => by
                rw [Nat.testBit_and, xwo_b]
                cases s.testBit j <;> simp)
              rw [e]
              exact Nat.and_le_left
            have ne : s ≠ xwo s (xDb q dead) := fun w => o (by
              apply Nat.eq_of_testBit_eq
              intro j
              rw [Nat.testBit_and, Nat.zero_testBit]
              have this : s.testBit j = (xwo s (xDb q dead)).testBit j := congrArg (fun z => z.testBit j) w
              rw [xwo_b] at this
              cases a : s.testBit j
              · rfl
              · rw [a] at this
                cases b : (xDb q dead).testBit j
                · rfl
                · rw [b] at this
                  exact absurd this (by decide))
            refine ⟨xwo s (xDb q dead), ?_, by omega, ?_, ?_⟩
            · rcases Nat.eq_zero_or_pos (xwo s (xDb q dead)) with w | w
              · unfold accC at ha
                rw [w, xSet_0] at ha
                exact absurd ha (by simp)
              · exact w
            · unfold accR
              unfold accC at ha
              rw [ha]
              have : xwo s (xDb q dead) &&& xDb q dead = 0 := by
                apply Nat.eq_of_testBit_eq
                intro j
                rw [Nat.testBit_and, xwo_b, Nat.zero_testBit]
                cases s.testBit j <;> cases (xDb q dead).testBit j <;> rfl
              simp [this]
            · have := xpc_or (xwo_lt (by omega)) (show s < 256 by omega) sub ne
              omega)
        have A1' : K_fewestDo_L3 (nI r) (nI q) (xA q &&& (dead ^^^ (-1))) pt 100000 1 (xA q) = nI (scn (accC q r pt (xDb q dead)) (2 ^ q - 1) 1 (2 ^ q - 1)) := by
          rw [eA]
          rw [eA] at A1
          exact A1
        have A2' : K_m_need_L10 (nI q) a1 ((1 : Int32) <<< (nI q &&& 31)) (nI r) (xA q) Tb F 100000 0 (xA q) = (fun z => if a1.toInt = 0 then M_m_countOf z else z) (nI (scn (accR q r pt (xDb q dead)) (2 ^ q - 1) 1 (2 ^ q - 1))) := by
          rw [← s0, ← A2]
          show K_m_need_L10 (nI q) a1 _ (nI r) (xA q) Tb F 100000 (nI 0) (xA q) = _
          rw [eA]
        rw [A1']
        show _ = K_m_need_L10 (nI q) a1 ((1 : Int32) <<< (nI q &&& 31)) (nI r) (xA q) Tb F 100000 0 (xA q)
        rw [A2', same]
        generalize hx : scn (accR q r pt (xDb q dead)) (2 ^ q - 1) 1 (2 ^ q - 1) = x at B2
        have xl : x < 256 := by
          rcases B2.1 with w | ⟨-, -, w⟩ <;> omega
        have cs := x_cnt ⟨x, xl⟩
        dsimp only at cs ⊢
        rw [cs]
    · rw [if_neg y]
      by_cases w : a1.toInt < 0
      · rw [if_pos w]
      · rw [if_neg w, if_neg (by omega)]
  · rw [if_neg z, if_neg z]
end
