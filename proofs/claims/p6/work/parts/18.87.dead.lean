theorem xb_ext {a b : Int32} (h : ∀ r, r < 32 → xb a r = xb b r) : a = b := Int32.toBitVec_inj.mp (BitVec.eq_of_getLsbD_eq (fun i hi => h i hi))
/-- all RAILS -/
def xA (q : Nat) : Int32 := ((1 : Int32) <<< (nI q &&& 31)) - 1
theorem xA_eq {q : Nat} (q8 : q ≤ 8) : xA q = nI (2 ^ q - 1) := x_all ⟨q, by omega⟩
theorem p2_le {q : Nat} (q8 : q ≤ 8) : 2 ^ q ≤ 256 := Nat.pow_le_pow_right (by decide) (show q ≤ 8 by omega)
theorem xA_b {q r : Nat} (q8 : q ≤ 8) (hr : r < 32) : xb (xA q) r = decide (r < q) := by
  rw [xA_eq q8, xb_nI hr, Nat.testBit_two_pow_sub_one]
theorem xb_z (r : Nat) : xb 0 r = false := by
  unfold xb
  simp
section
variable {pn : Nat → Int32} {pt : Nat → Int64} {Td Nm Tb F : Nat → Int32} {q : Nat} {d : Int32}
/-- the dead by hand, as bits -/
def xDb (q : Nat) (d : Int32) : Nat := xup (fun r => xb d r) q 0
theorem xDb_lt (q8 : q ≤ 8) : xDb q d < 256 := xup_lt (by decide) q q8
theorem xDb_b {r : Nat} (hr : r < 32) : xb (nI (xDb q d)) r = (decide (r < q) && xb d r) := by
  rw [xb_nI hr]
  unfold xDb
  rw [xup_bit]
  simp
theorem d_in (h : xDd d F) (q8 : q ≤ 8) : ∀ (m r k : Nat), r + m = q → K_m_deadOnes_L2 (nI q) F (k + m + 1) (nI r) (nI (xup (fun r => xb d r) r 0)) = nI (xDb q d) := by
  have qq : (nI q).toInt = (q : Int) := nI_toInt (by omega)
  intro m
  induction m with
  | zero =>
    intro r k hr
    have rr : (nI r).toInt = (r : Int) := nI_toInt (by omega)
    obtain rfl : r = q := by omega
    simp only [K_m_deadOnes_L2, K_m_deadOnes_3, K_m_deadOnes_5, K_m_deadOnes_6, K_m_deadOnes_4, K_m_deadOnes_2, K_m_deadOnes_1, M_m_deadOnes]
    rw [if_pos (by omega)]
    rfl
  | succ m ih =>
    intro r k hr
    have rr : (nI r).toInt = (r : Int) := nI_toInt (by omega)
    have rc : (nI r).toNatClampNeg = r := nI_clamp (by omega)
    have l := xup_lt (c := fun r => xb d r) (show 0 < 256 by decide) r (by omega)
    have z := ih (r + 1) k (by omega)
    rw [← z]
    show K_m_deadOnes_L2 (nI q) F ((k + m + 1) + 1) (nI r) _ = _
    generalize k + m + 1 = j
    simp only [K_m_deadOnes_L2, K_m_deadOnes_3, K_m_deadOnes_5, K_m_deadOnes_6, K_m_deadOnes_4, K_m_deadOnes_2, K_m_deadOnes_1, M_m_deadOnes]
    rw [if_neg (by omega), rc, nI_1, xor00]
    have st : xup (fun r => xb d r) (r + 1) 0 = if xb d r = true then xup (fun r => xb d r) r 0 ||| 2 ^ r else xup (fun r => xb d r) r 0 := rfl
    rw [st]
    rcases h r (by omega) with ⟨f0, b0⟩ | ⟨f1, b1⟩
    · have b0 : xb d r = false := b0
      rw [f0, if_pos (by decide), b0, if_neg (by decide)]
    · have b1 : xb d r = true := b1
      rw [f1, if_neg (by decide), b1, if_pos rfl, x_put l (by omega)]
theorem r_dead (h : xDd d F) (q8 : q ≤ 8) : M_m_deadOnes (nI q) F = nI (xDb q d) := by
  have z := d_in h q8 q 0 (99999 - q) (by omega)
  rw [show 99999 - q + q + 1 = 100000 from by omega] at z
  exact z
theorem t_alive : M_alive d (nI q) = xA q &&& (d ^^^ (-1)) := by
  simp only [K_alive_2, K_alive_1, M_alive, K_allRails_1, M_allRails]
  rfl
theorem t_allR : M_allRails (nI q) = xA q := by
  simp only [K_allRails_1, M_allRails]
  rfl
theorem alive_b {r : Nat} (q8 : q ≤ 8) (hr : r < 32) : xb (xA q &&& (d ^^^ (-1))) r = (decide (r < q) && !xb d r) := by
  rw [xb_and, xA_b q8 hr, xb_not d hr]
theorem alive_eq (q8 : q ≤ 8) : xA q &&& (d ^^^ (-1)) = xA q &&& (nI (xDb q d) ^^^ (-1)) := by
  apply xb_ext
  intro r hr
  rw [alive_b q8 hr, xb_and, xA_b q8 hr, xb_not _ hr, xDb_b hr]
  cases decide (r < q) <;> simp
/-- up among those alive -/
theorem up_alive {wt : Bool} (h : xE wt q pn pt Td Nm Tb) (q8 : q ≤ 8) : M_upAmong (nI q) (xA q &&& (d ^^^ (-1))) pt = M_m_upBut (nI q) (nI (xDb q d)) Tb := r_up h q8 (fun r hr => by
  rw [alive_b q8 (by omega), xDb_b (by omega)]
  simp [hr])
theorem up_all {wt : Bool} (h : xE wt q pn pt Td Nm Tb) (q8 : q ≤ 8) : M_upAmong (nI q) (xA q) pt = M_m_upBut (nI q) 0 Tb := r_up h q8 (fun r hr => by
  rw [xA_b q8 (by omega), xb_z]
  simp [hr])
/-- up without some besides the dead -/
theorem up_less {wt : Bool} (h : xE wt q pn pt Td Nm Tb) (q8 : q ≤ 8) (s : Int32) : M_upAmong (nI q) ((xA q &&& (d ^^^ (-1))) &&& (s ^^^ (-1))) pt = M_m_upBut (nI q) (nI (xDb q d) ||| s) Tb := r_up h q8 (fun r hr => by
  rw [xb_and, alive_b q8 (by omega), xb_not s (by omega), xb_or, xDb_b (by omega)]
  cases xb d r <;> cases xb s r <;> simp [hr])
theorem up_one {wt : Bool} (h : xE wt q pn pt Td Nm Tb) (q8 : q ≤ 8) (s : Int32) : M_upAmong (nI q) (xA q &&& (s ^^^ (-1))) pt = M_m_upBut (nI q) s Tb := r_up h q8 (fun r hr => by
  rw [xb_and, xA_b q8 (by omega), xb_not s (by omega)]
  simp [hr])
theorem i_up {r : Int32} {s0 a0 : Int32} (e : M_upAmong (nI q) s0 pt = M_m_upBut (nI q) a0 Tb) : M_dIsUp r (nI q) s0 pt = M_m_isUp r (nI q) a0 Tb := by
  simp only [K_dIsUp_4, K_dIsUp_3, K_dIsUp_2, K_dIsUp_1, M_dIsUp, K_m_isUp_4, K_m_isUp_3, K_m_isUp_2, K_m_isUp_1, M_m_isUp]
  rw [e]
theorem i_can {wt : Bool} {r : Int32} (h : xE wt q pn pt Td Nm Tb) (q8 : q ≤ 8) : M_canBeUp r (nI q) pt d = M_m_isUp r (nI q) (nI (xDb q d)) Tb := by
  simp only [K_canBeUp_5, K_canBeUp_4, K_canBeUp_3, K_canBeUp_2, K_canBeUp_1, M_canBeUp, K_m_isUp_4, K_m_isUp_3, K_m_isUp_2, K_m_isUp_1, M_m_isUp]
  rw [t_alive, up_alive h q8]
/-- a set of RAILS that are told, on both sides -/
theorem are_eq (q8 : q ≤ 8) (s : Int32) : (s &&& (xA q ^^^ (-1))).toInt = 0 ↔ (0 ≤ s.toInt ∧ s.toInt ≤ (((1 : Int32) <<< (nI q &&& 31)).toInt - 1)) := by
  have p2 := p2_le q8
  have p0 : 0 < 2 ^ q := Nat.two_pow_pos q
  have e1 : ((1 : Int32) <<< (nI q &&& 31)).toInt = ((2 ^ q : Nat) : Int) := by
    rw [x_shl ⟨q, by omega⟩]
    show (nI (2 ^ q)).toInt = _
    exact nI_toInt (by omega)
  constructor
  · intro h
    have hz : s &&& (xA q ^^^ (-1)) = 0 := xi0 h
    have hs : s.toBitVec.toNat < 2 ^ q := by
      apply Nat.lt_pow_two_of_testBit
      intro i hi
      by_cases w : i < 32
      · have b : xb (s &&& (xA q ^^^ (-1))) i = false := by rw [hz, xb_z]
        rw [xb_and, xb_not _ w, xA_b q8 w] at b
        have : decide (i < q) = false := by simp; omega
        rw [this] at b
        have b2 : xb s i = false := by simpa using b
        exact b2
      · apply Nat.testBit_lt_two_pow
        exact Nat.lt_of_lt_of_le s.toBitVec.isLt (Nat.pow_le_pow_right (by decide) (by omega))
    have es : s = nI s.toBitVec.toNat := by
      apply Int32.toBitVec_inj.mp
      show s.toBitVec = BitVec.ofNat 32 s.toBitVec.toNat
      simp
    have := nI_toInt (n := s.toBitVec.toNat) (by omega)
    rw [← es] at this
    omega
  · intro h
    have n := xtn (x := s) h.1
    have es : nI s.toNatClampNeg = s := xnI h.1
    have lt : s.toNatClampNeg < 2 ^ q := by omega
    have hz : s &&& (xA q ^^^ (-1)) = 0 := by
      apply xb_ext
      intro r hr
      rw [xb_and, xb_not _ hr, xA_b q8 hr, xb_z, ← es, xb_nI hr]
      by_cases w : r < q
      · simp [w]
      · have : s.toNatClampNeg.testBit r = false := Nat.testBit_lt_two_pow (Nat.lt_of_lt_of_le lt (Nat.pow_le_pow_right (by decide) (by omega)))
        rw [this]
        simp
    rw [hz]
    decide
theorem t_are (q8 : q ≤ 8) (s : Int32) : (M_m_areRails s (nI q)).toInt = 0 ↔ ¬ (s &&& (xA q ^^^ (-1))).toInt = 0 := by
  simp only [K_m_areRails_1, M_m_areRails]
  by_cases z : 0 ≤ s.toInt ∧ s.toInt ≤ (((1 : Int32) <<< (nI q &&& 31)).toInt - 1)
  · rw [if_pos z]
    exact ⟨fun h => absurd h (by decide), fun h => absurd ((are_eq q8 s).mpr z) h⟩
  · rw [if_neg z]
    exact ⟨fun _ h => z ((are_eq q8 s).mp h), fun _ => by decide⟩
end
/-- what both sides hold of RAILS and of the dead -/
theorem xq_of {rails : Int32} (r8 : 0 ≤ rails.toInt ∧ rails.toInt ≤ 8) : rails = nI rails.toNatClampNeg ∧ rails.toNatClampNeg ≤ 8 := by
  have rn := xtn r8.1
  exact ⟨(xnI r8.1).symm, by omega⟩
section
variable {a0 a1 rails limit retry behind mra mli mre mpa dead : Int32} {pn Td Nm Tb F : Nat → Int32} {pt : Nat → Int64}
theorem x_up_eq {wt : Bool} (h : xPl wt rails limit retry behind pn pt mra mli mre mpa Td Nm Tb) (hd : xDd dead F) : M_x_up a0 rails dead pt = M_m_up a0 mra F Tb := by
  obtain ⟨e, -, -, -, r8, hE⟩ := h
  subst e
  obtain ⟨eq, q8⟩ := xq_of r8
  generalize rails.toNatClampNeg = q at eq q8 hE
  subst eq
  simp only [K_x_up_5, K_x_up_3, K_x_up_8, K_x_up_6, K_x_up_11, K_x_up_9, K_x_up_10, K_x_up_7, K_x_up_4, K_x_up_2, K_x_up_1, M_x_up, K_m_up_7, K_m_up_11, K_m_up_9, K_m_up_10, K_m_up_8, K_m_up_6, K_m_up_5, K_m_up_4, K_m_up_2, K_m_up_3, K_m_up_1, M_m_up]
  rw [t_allR, r_dead hd q8, up_alive hE q8, up_all hE q8]
  by_cases z : 0 ≤ a0.toInt ∧ a0.toInt ≤ 2
  · rw [if_pos z]
    by_cases z0 : a0.toInt = 0
    · rw [if_pos z0, if_pos z0]
    · rw [if_neg z0, if_neg z0]
      by_cases z1 : a0.toInt = 1
      · rw [if_pos z1, if_pos z1, alive_eq q8]
        apply xb_ext
        intro r hr
        rw [xb_and, xb_and, xb_and, xb_and]
        show (xb (xA q) r && xb (nI (xDb q dead) ^^^ (-1)) r && _) = (xb (xA q) r && _ && xb (nI (xDb q dead) ^^^ (-1)) r)
        cases xb (xA q) r <;> simp [Bool.and_comm]
      · rw [if_neg z1, if_neg z1, if_pos (by omega)]
        rfl
  · rw [if_neg z, if_neg (by omega), if_neg (by omega), if_neg (by omega)]
theorem x_down_eq {wt : Bool} (h : xPl wt rails limit retry behind pn pt mra mli mre mpa Td Nm Tb) (hd : xDd dead F) : M_x_down a0 rails pt dead = M_m_down mra a0 Tb F := by
  obtain ⟨e, -, -, -, r8, hE⟩ := h
  subst e
  obtain ⟨eq, q8⟩ := xq_of r8
  generalize rails.toNatClampNeg = q at eq q8 hE
  subst eq
  simp only [K_x_down_8, K_x_down_7, K_x_down_6, K_x_down_5, K_x_down_3, K_x_down_4, K_x_down_2, K_x_down_1, M_x_down, K_m_down_3, K_m_down_8, K_m_down_7, K_m_down_6, K_m_down_5, K_m_down_4, K_m_down_2, K_m_down_1, M_m_down]
  rw [t_allR, r_dead hd q8, t_alive, up_alive hE q8, up_less hE q8]
  by_cases z : (a0 &&& (xA q ^^^ (-1))).toInt = 0
  · rw [if_pos z, if_neg (fun y => (t_are q8 a0).mp y z)]
  · rw [if_neg z, if_pos ((t_are q8 a0).mpr z)]
theorem n_in {wt : Bool} {q : Nat} {r : Int32} (hE : xE wt q pn pt Td Nm Tb) (hd : xDd dead F) (q8 : q ≤ 8) : ∀ (m x k : Nat) (s : Int32), x + m = q → K_never_L2 (nI q) r (xA q &&& (dead ^^^ (-1))) pt (k + m + 1) (nI x) s = K_m_must_L8 (nI q) r Tb F (k + m + 1) (nI x) s := by
  have qq : (nI q).toInt = (q : Int) := nI_toInt (by omega)
  intro m
  induction m with
  | zero =>
    intro x k s hx
    have ex : (nI x).toInt = (x : Int) := nI_toInt (by omega)
    simp only [K_never_L2, K_m_must_L8, K_never_3, K_never_7, K_never_6, K_never_5, K_never_4, K_never_2, K_never_1, M_never, K_m_must_7, K_m_must_9, K_m_must_13, K_m_must_14, K_m_must_12, K_m_must_11, K_m_must_10, K_m_must_8, K_m_must_6, K_m_must_5, K_m_must_4, K_m_must_2, K_m_must_3, K_m_must_1, M_m_must]
    rw [if_pos (by omega), if_pos (by omega)]
  | succ m ih =>
    intro x k s hx
    have ex : (nI x).toInt = (x : Int) := nI_toInt (by omega)
    have z : ∀ s, K_never_L2 (nI q) r (xA q &&& (dead ^^^ (-1))) pt (k + m + 1) (nI (x + 1)) s = K_m_must_L8 (nI q) r Tb F (k + m + 1) (nI (x + 1)) s := fun s => ih (x + 1) k s (by omega)
    show K_never_L2 (nI q) r (xA q &&& (dead ^^^ (-1))) pt ((k + m + 1) + 1) (nI x) s = K_m_must_L8 (nI q) r Tb F ((k + m + 1) + 1) (nI x) s
    generalize k + m + 1 = j at z ⊢
    simp only [K_never_L2, K_m_must_L8, K_never_3, K_never_7, K_never_6, K_never_5, K_never_4, K_never_2, K_never_1, M_never, K_m_must_7, K_m_must_9, K_m_must_13, K_m_must_14, K_m_must_12, K_m_must_11, K_m_must_10, K_m_must_8, K_m_must_6, K_m_must_5, K_m_must_4, K_m_must_2, K_m_must_3, K_m_must_1, M_m_must]
    rw [if_neg (show ¬ (nI q).toInt ≤ (nI x).toInt by omega), if_neg (show ¬ (nI q).toInt ≤ (nI x).toInt by omega), r_dead hd q8, i_up (up_less hE q8 ((1 : Int32) <<< (nI x &&& 31))), nI_1, xor00, z, z]
theorem x_must_eq {wt : Bool} (h : xPl wt rails limit retry behind pn pt mra mli mre mpa Td Nm Tb) (hd : xDd dead F) : M_x_must a0 rails pt dead = M_m_must a0 mra Tb F := by
  obtain ⟨e, -, -, -, r8, hE⟩ := h
  subst e
  obtain ⟨eq, q8⟩ := xq_of r8
  generalize rails.toNatClampNeg = q at eq q8 hE
  subst eq
  simp only [K_x_must_6, K_x_must_8, K_x_must_7, K_x_must_5, K_x_must_4, K_x_must_2, K_x_must_3, K_x_must_1, M_x_must, K_m_must_7, K_m_must_9, K_m_must_13, K_m_must_14, K_m_must_12, K_m_must_11, K_m_must_10, K_m_must_8, K_m_must_6, K_m_must_5, K_m_must_4, K_m_must_2, K_m_must_3, K_m_must_1, M_m_must]
  rw [r_dead hd q8, i_can hE q8, t_alive]
  by_cases z : 0 ≤ a0.toInt ∧ a0.toInt < (nI q).toInt
  · rw [if_pos z, if_pos z]
    by_cases y : (M_m_isUp a0 (nI q) (nI (xDb q dead)) Tb).toInt = 0
    · rw [if_pos y, if_pos y]
    · rw [if_neg y, if_neg y]
      have w := n_in (r := a0) hE hd q8 q 0 (99999 - q) 0 (by omega)
      rw [show 99999 - q + q + 1 = 100000 from by omega] at w
      exact w
  · rw [if_neg z, if_neg z]
theorem e_in6 {wt : Bool} {q : Nat} {s0 : Int32} (hE : xE wt q pn pt Td Nm Tb) (q8 : q ≤ 8) : ∀ (m x k : Nat) (s : Int32), x + m = q → K_explain_L6 (nI q) s0 (xA q) pt (k + m + 1) (nI x) s = K_m_seen_L8 (nI q) s0 Tb (k + m + 1) (nI x) s := by
  have qq : (nI q).toInt = (q : Int) := nI_toInt (by omega)
  intro m
  induction m with
  | zero =>
    intro x k s hx
    have ex : (nI x).toInt = (x : Int) := nI_toInt (by omega)
    simp only [K_explain_L6, K_m_seen_L8, K_explain_13, K_explain_17, K_explain_16, K_explain_15, K_explain_14, K_explain_12, K_explain_5, K_explain_7, K_explain_11, K_explain_10, K_explain_9, K_explain_8, K_explain_6, K_explain_4, K_explain_3, K_explain_2, K_explain_1, M_explain, K_m_seen_4, K_m_seen_15, K_m_seen_19, K_m_seen_18, K_m_seen_17, K_m_seen_16, K_m_seen_14, K_m_seen_7, K_m_seen_9, K_m_seen_13, K_m_seen_12, K_m_seen_11, K_m_seen_10, K_m_seen_8, K_m_seen_6, K_m_seen_5, K_m_seen_3, K_m_seen_2, K_m_seen_1, M_m_seen]
    rw [if_pos (by omega), if_pos (by omega)]
  | succ m ih =>
    intro x k s hx
    have ex : (nI x).toInt = (x : Int) := nI_toInt (by omega)
    have z : ∀ s, K_explain_L6 (nI q) s0 (xA q) pt (k + m + 1) (nI (x + 1)) s = K_m_seen_L8 (nI q) s0 Tb (k + m + 1) (nI (x + 1)) s := fun s => ih (x + 1) k s (by omega)
    show K_explain_L6 (nI q) s0 (xA q) pt ((k + m + 1) + 1) (nI x) s = K_m_seen_L8 (nI q) s0 Tb ((k + m + 1) + 1) (nI x) s
    generalize k + m + 1 = j at z ⊢
    simp only [K_explain_L6, K_m_seen_L8, K_explain_13, K_explain_17, K_explain_16, K_explain_15, K_explain_14, K_explain_12, K_explain_5, K_explain_7, K_explain_11, K_explain_10, K_explain_9, K_explain_8, K_explain_6, K_explain_4, K_explain_3, K_explain_2, K_explain_1, M_explain, K_m_seen_4, K_m_seen_15, K_m_seen_19, K_m_seen_18, K_m_seen_17, K_m_seen_16, K_m_seen_14, K_m_seen_7, K_m_seen_9, K_m_seen_13, K_m_seen_12, K_m_seen_11, K_m_seen_10, K_m_seen_8, K_m_seen_6, K_m_seen_5, K_m_seen_3, K_m_seen_2, K_m_seen_1, M_m_seen]
    rw [if_neg (show ¬ (nI q).toInt ≤ (nI x).toInt by omega), if_neg (show ¬ (nI q).toInt ≤ (nI x).toInt by omega), up_one hE q8 ((1 : Int32) <<< (nI x &&& 31)), nI_1, xor00, z, z]
theorem e_in12 {wt : Bool} {q : Nat} {s0 : Int32} (hE : xE wt q pn pt Td Nm Tb) (q8 : q ≤ 8) : ∀ (m x k : Nat) (s : Int32), x + m = q → K_explain_L12 (nI q) s0 (xA q) pt (k + m + 1) (nI x) s = K_m_seen_L14 (nI q) s0 Tb (k + m + 1) (nI x) s := by
  have qq : (nI q).toInt = (q : Int) := nI_toInt (by omega)
  intro m
  induction m with
  | zero =>
    intro x k s hx
    have ex : (nI x).toInt = (x : Int) := nI_toInt (by omega)
    simp only [K_explain_L12, K_m_seen_L14, K_explain_13, K_explain_17, K_explain_16, K_explain_15, K_explain_14, K_explain_12, K_explain_5, K_explain_7, K_explain_11, K_explain_10, K_explain_9, K_explain_8, K_explain_6, K_explain_4, K_explain_3, K_explain_2, K_explain_1, M_explain, K_m_seen_4, K_m_seen_15, K_m_seen_19, K_m_seen_18, K_m_seen_17, K_m_seen_16, K_m_seen_14, K_m_seen_7, K_m_seen_9, K_m_seen_13, K_m_seen_12, K_m_seen_11, K_m_seen_10, K_m_seen_8, K_m_seen_6, K_m_seen_5, K_m_seen_3, K_m_seen_2, K_m_seen_1, M_m_seen]
    rw [if_pos (by omega), if_pos (by omega)]
  | succ m ih =>
    intro x k s hx
    have ex : (nI x).toInt = (x : Int) := nI_toInt (by omega)
    have z : ∀ s, K_explain_L12 (nI q) s0 (xA q) pt (k + m + 1) (nI (x + 1)) s = K_m_seen_L14 (nI q) s0 Tb (k + m + 1) (nI (x + 1)) s := fun s => ih (x + 1) k s (by omega)
    show K_explain_L12 (nI q) s0 (xA q) pt ((k + m + 1) + 1) (nI x) s = K_m_seen_L14 (nI q) s0 Tb ((k + m + 1) + 1) (nI x) s
    generalize k + m + 1 = j at z ⊢
    simp only [K_explain_L12, K_m_seen_L14, K_explain_13, K_explain_17, K_explain_16, K_explain_15, K_explain_14, K_explain_12, K_explain_5, K_explain_7, K_explain_11, K_explain_10, K_explain_9, K_explain_8, K_explain_6, K_explain_4, K_explain_3, K_explain_2, K_explain_1, M_explain, K_m_seen_4, K_m_seen_15, K_m_seen_19, K_m_seen_18, K_m_seen_17, K_m_seen_16, K_m_seen_14, K_m_seen_7, K_m_seen_9, K_m_seen_13, K_m_seen_12, K_m_seen_11, K_m_seen_10, K_m_seen_8, K_m_seen_6, K_m_seen_5, K_m_seen_3, K_m_seen_2, K_m_seen_1, M_m_seen]
    rw [if_neg (show ¬ (nI q).toInt ≤ (nI x).toInt by omega), if_neg (show ¬ (nI q).toInt ≤ (nI x).toInt by omega), up_one hE q8 ((1 : Int32) <<< (nI x &&& 31)), nI_1, xor00, z, z]
theorem x_seen_eq {wt : Bool} (h : xPl wt rails limit retry behind pn pt mra mli mre mpa Td Nm Tb) : M_x_seen a0 rails pt = M_m_seen a0 mra Tb := by
  obtain ⟨e, -, -, -, r8, hE⟩ := h
  subst e
  obtain ⟨eq, q8⟩ := xq_of r8
  generalize rails.toNatClampNeg = q at eq q8 hE
  subst eq
  simp only [K_x_seen_5, K_x_seen_3, K_x_seen_4, K_x_seen_2, K_x_seen_1, M_x_seen, K_explain_13, K_explain_17, K_explain_16, K_explain_15, K_explain_14, K_explain_5, K_explain_7, K_explain_11, K_explain_10, K_explain_9, K_explain_8, K_explain_4, K_explain_3, K_explain_2, K_explain_1, M_explain, K_m_seen_4, K_m_seen_15, K_m_seen_19, K_m_seen_18, K_m_seen_17, K_m_seen_16, K_m_seen_7, K_m_seen_9, K_m_seen_13, K_m_seen_12, K_m_seen_11, K_m_seen_10, K_m_seen_6, K_m_seen_5, K_m_seen_3, K_m_seen_2, K_m_seen_1, M_m_seen]
  rw [t_allR, up_all hE q8]
  by_cases z : (a0 &&& (xA q ^^^ (-1))).toInt = 0
  · rw [if_pos z, if_neg (fun y => (t_are q8 a0).mp y z)]
    have w6 := e_in6 (s0 := a0) hE q8 q 0 (99999 - q) 0 (by omega)
    have w12 := e_in12 (s0 := a0) hE q8 q 0 (99999 - q) 256 (by omega)
    rw [show 99999 - q + q + 1 = 100000 from by omega] at w6 w12
    by_cases y : (M_m_upBut (nI q) 0 Tb).toInt = a0.toInt
    · rw [if_pos y, if_pos y]
      exact w12
    · rw [if_neg y, if_neg y]
      exact w6
  · rw [if_neg z, if_pos ((t_are q8 a0).mpr z)]
end
