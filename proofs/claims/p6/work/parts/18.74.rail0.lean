/-- a RAIL as both sides have told it: its numbers (but its wait, if wt is not told), its names, its table -/
def xEr (wt : Bool) (r : Nat) (pn : Nat → Int32) (pt : Nat → Int64) (Td Nm Tb : Nat → Int32) : Prop := (∀ k, k < 7 → (k ≠ 5 ∨ wt = true) → pn (8 * r + k) = Td (7 * r + k)) ∧ pn (8 * r + 7) = Nm r ∧ (∀ s, s < 512 → Tb (512 * r + s) = if xbt (fun i => pt (8 * r + i)) s = true then 1 else 0) ∧ (∀ s t, s < 512 → t < 512 → (∀ k, k < 9 → (Nm r).toBitVec.getLsbD k = true → s.testBit k = true → t.testBit k = true) → xbt (fun i => pt (8 * r + i)) s = true → xbt (fun i => pt (8 * r + i)) t = true) ∧ (wt = true → 0 ≤ (Td (7 * r + 5)).toInt ∧ (Td (7 * r + 5)).toInt ≤ 9)
def xE (wt : Bool) (q : Nat) (pn : Nat → Int32) (pt : Nat → Int64) (Td Nm Tb : Nat → Int32) : Prop := ∀ r, r < q → xEr wt r pn pt Td Nm Tb
theorem xbt_ext {g h : Nat → Int64} {s : Nat} (hs : s < 512) (e : ∀ i, i < 8 → g i = h i) : xbt g s = xbt h s := by
  unfold xbt
  rw [e _ (by omega)]
theorem xE_keep {wt : Bool} {q : Nat} {pn pn' : Nat → Int32} {pt pt' : Nat → Int64} {Td Nm Tb Td' Nm' Tb' : Nat → Int32} (h : xE wt q pn pt Td Nm Tb) (h1 : ∀ j, j < 8 * q → pn' j = pn j) (h2 : ∀ j, j < 8 * q → pt' j = pt j) (h3 : ∀ j, j < 7 * q → Td' j = Td j) (h4 : ∀ j, j < q → Nm' j = Nm j) (h5 : ∀ j, j < 512 * q → Tb' j = Tb j) : xE wt q pn' pt' Td' Nm' Tb' := by
  intro r hr
  obtain ⟨a, b, c, d, e⟩ := h r hr
  refine ⟨fun k hk hw => ?_, ?_, fun s hs => ?_, fun s t hs ht hst hv => ?_, fun hw => ?_⟩
  · rw [h1 _ (by omega), h3 _ (by omega)]
    exact a k hk hw
  · rw [h1 _ (by omega), h4 _ hr]
    exact b
  · rw [h5 _ (by omega), c s hs, xbt_ext (g := fun i => pt' (8 * r + i)) (h := fun i => pt (8 * r + i)) hs (fun i hi => h2 _ (by omega))]
  · rw [h4 _ hr] at hst
    rw [xbt_ext (g := fun i => pt' (8 * r + i)) (h := fun i => pt (8 * r + i)) ht (fun i hi => h2 _ (by omega))]
    rw [xbt_ext (g := fun i => pt' (8 * r + i)) (h := fun i => pt (8 * r + i)) hs (fun i hi => h2 _ (by omega))] at hv
    exact d s t hs ht hst hv
  · rw [h3 _ (by omega)]
    exact e hw
theorem xE_add {wt : Bool} {q : Nat} {pn : Nat → Int32} {pt : Nat → Int64} {Td Nm Tb : Nat → Int32} (h : xE wt q pn pt Td Nm Tb) (h1 : xEr wt q pn pt Td Nm Tb) : xE wt (q + 1) pn pt Td Nm Tb := by
  intro r hr
  by_cases e : r = q
  · rw [e]
    exact h1
  · exact h r (by omega)
/-- a formula that is not told: the key -/
theorem xdef_bit : ∀ s : Fin 512, ((if s.val / 64 < 4 then (0 : Int64) else -1)).toBitVec.getLsbD (s.val % 64) = s.val.testBit 8 := by decide +kernel
def xDf (q : Nat) (pt : Nat → Int64) : Prop := ∀ i, i < 8 → pt (8 * q + i) = if i < 4 then 0 else -1
theorem xdf_bit {q s : Nat} {pt : Nat → Int64} (hs : s < 512) (h : xDf q pt) : xbt (fun i => pt (8 * q + i)) s = s.testBit 8 := by
  show (pt (8 * q + s / 64)).toBitVec.getLsbD (s % 64) = s.testBit 8
  rw [h (s / 64) (by omega)]
  exact xdef_bit ⟨s, hs⟩
def xPd (q : Nat) (pn : Nat → Int32) : Nat → Int32 := (upd (upd (upd (upd (upd (upd pn (8 * q + 2) 1) (8 * q + 3) 1) (8 * q + 4) 2) (8 * q + 5) 0) (8 * q + 6) 0) (8 * q + 7) 256)
theorem b_add {q : Nat} (hq : q < 8) {pn : Nat → Int32} : ∀ (m x k : Nat) (pt : Nat → Int64), x + m = 8 → ∃ pt' : Nat → Int64, K_addRail_L8 (nI q) pn (k + m + 1) (nI x) pt = (nI (q + 1), pn, pt') ∧ (∀ i, x ≤ i → i < 8 → pt' (8 * q + i) = if i < 4 then 0 else -1) ∧ (∀ j, j < 8 * q + x ∨ 8 * q + 8 ≤ j → pt' j = pt j) := by
  intro m
  induction m with
  | zero =>
    intro x k pt hx
    have ex : (nI x).toInt = (x : Int) := nI_toInt (by omega)
    refine ⟨pt, ?_, fun i a b => absurd a (by omega), fun j _ => rfl⟩
    simp only [K_addRail_L8, K_addRail_9, K_addRail_11, K_addRail_12, K_addRail_10, K_addRail_8, K_addRail_7, K_addRail_6, K_addRail_5, K_addRail_4, K_addRail_3, K_addRail_2, K_addRail_1, M_addRail]
    rw [if_pos (by omega), nI_1]
  | succ m ih =>
    intro x k pt hx
    have ex : (nI x).toInt = (x : Int) := nI_toInt (by omega)
    have ei : ((nI q * 8) + nI x).toNatClampNeg = 8 * q + x := xi8 hq (by omega)
    obtain ⟨pt', a1, a2, a3⟩ := ih (x + 1) k (vp_updL pt (8 * q + x) (if x < 4 then 0 else -1)) (by omega)
    refine ⟨pt', ?_, fun i i1 i2 => ?_, fun j hj => ?_⟩
    · show K_addRail_L8 (nI q) pn ((k + m + 1) + 1) (nI x) pt = _
      rw [← a1]
      generalize k + m + 1 = j
      simp only [K_addRail_L8, K_addRail_9, K_addRail_11, K_addRail_12, K_addRail_10, K_addRail_8, K_addRail_7, K_addRail_6, K_addRail_5, K_addRail_4, K_addRail_3, K_addRail_2, K_addRail_1, M_addRail]
      rw [if_neg (by omega), ei, nI_1]
      by_cases y : x < 4
      · rw [if_pos (by omega), if_pos y]
      · rw [if_neg (by omega), if_neg y]
    · by_cases y : i = x
      · rw [y, a3 (8 * q + x) (by omega), xupL_s]
      · exact a2 i (by omega) i2
    · rw [a3 j (by omega), xupL_o (by omega)]
theorem t_addRail {q : Nat} (hq : q < 8) (pn : Nat → Int32) (pt : Nat → Int64) : ∃ pt' : Nat → Int64, M_addRail (nI q) pt pn = (nI (q + 1), xPd q pn, pt') ∧ xDf q pt' ∧ (∀ j, j < 8 * q ∨ 8 * q + 8 ≤ j → pt' j = pt j) := by
  obtain ⟨pt', a1, a2, a3⟩ := b_add hq (pn := xPd q pn) 8 0 99991 pt (by omega)
  refine ⟨pt', ?_, fun i hi => a2 i (by omega) hi, fun j hj => a3 j (by omega)⟩
  rw [← a1]
  simp only [K_addRail_9, K_addRail_11, K_addRail_12, K_addRail_10, K_addRail_8, K_addRail_7, K_addRail_6, K_addRail_5, K_addRail_4, K_addRail_3, K_addRail_2, K_addRail_1, M_addRail]
  rw [show M_setNumber pn (nI q) 2 1 = _ from t_setN (k := 2) hq (by decide), show M_setNumber (upd pn (8 * q + 2) 1) (nI q) 3 1 = _ from t_setN (k := 3) hq (by decide), show M_setNumber (upd (upd pn (8 * q + 2) 1) (8 * q + 3) 1) (nI q) 4 2 = _ from t_setN (k := 4) hq (by decide), show M_setNumber (upd (upd (upd pn (8 * q + 2) 1) (8 * q + 3) 1) (8 * q + 4) 2) (nI q) 5 0 = _ from t_setN (k := 5) hq (by decide), show M_setNumber (upd (upd (upd (upd pn (8 * q + 2) 1) (8 * q + 3) 1) (8 * q + 4) 2) (8 * q + 5) 0) (nI q) 6 0 = _ from t_setN (k := 6) hq (by decide), show M_setNumber (upd (upd (upd (upd (upd pn (8 * q + 2) 1) (8 * q + 3) 1) (8 * q + 4) 2) (8 * q + 5) 0) (8 * q + 6) 0) (nI q) 7 256 = _ from t_setN (k := 7) hq (by decide)]
  rfl
def xTd (q : Nat) (Td : Nat → Int32) (a b : Int32) : Nat → Int32 := (upd (upd (upd (upd (upd (upd (upd Td (7 * q + 0) a) (7 * q + 1) b) (7 * q + 2) 1) (7 * q + 3) 1) (7 * q + 4) 2) (7 * q + 5) 0) (7 * q + 6) 0)
def xP1 (q : Nat) (pn : Nat → Int32) (a b : Int32) : Nat → Int32 := (upd (upd (xPd q pn) (8 * q + 0) a) (8 * q + 1) b)
theorem rw_start {q : Nat} {pn Td : Nat → Int32} {a b : Int32} : xRw q (xP1 q pn a b) (xTd q Td a b) (xP1 q pn a b) (xTd q Td a b) := by
  have r5 : xTd q Td a b (7 * q + 5) = 0 := by
    show (upd (upd (upd (upd (upd (upd (upd Td (7 * q + 0) a) (7 * q + 1) b) (7 * q + 2) 1) (7 * q + 3) 1) (7 * q + 4) 2) (7 * q + 5) 0) (7 * q + 6) 0) (7 * q + 5) = 0
    rw [xupd_o (by omega), xupd_s]
  refine ⟨?_, fun j _ => rfl, fun j _ => rfl, by rw [r5]; decide, by rw [r5]; decide⟩
  intro k hk
  exact match k, hk with
  | 0, _ => by
    show (upd (upd (upd (upd (upd (upd (upd (upd pn (8 * q + 2) 1) (8 * q + 3) 1) (8 * q + 4) 2) (8 * q + 5) 0) (8 * q + 6) 0) (8 * q + 7) 256) (8 * q + 0) a) (8 * q + 1) b) (8 * q + 0) = (upd (upd (upd (upd (upd (upd (upd Td (7 * q + 0) a) (7 * q + 1) b) (7 * q + 2) 1) (7 * q + 3) 1) (7 * q + 4) 2) (7 * q + 5) 0) (7 * q + 6) 0) (7 * q + 0)
    rw [xupd_o (by omega), xupd_s, xupd_o (by omega), xupd_o (by omega), xupd_o (by omega), xupd_o (by omega), xupd_o (by omega), xupd_o (by omega), xupd_s]
  | 1, _ => by
    show (upd (upd (upd (upd (upd (upd (upd (upd pn (8 * q + 2) 1) (8 * q + 3) 1) (8 * q + 4) 2) (8 * q + 5) 0) (8 * q + 6) 0) (8 * q + 7) 256) (8 * q + 0) a) (8 * q + 1) b) (8 * q + 1) = (upd (upd (upd (upd (upd (upd (upd Td (7 * q + 0) a) (7 * q + 1) b) (7 * q + 2) 1) (7 * q + 3) 1) (7 * q + 4) 2) (7 * q + 5) 0) (7 * q + 6) 0) (7 * q + 1)
    rw [xupd_s, xupd_o (by omega), xupd_o (by omega), xupd_o (by omega), xupd_o (by omega), xupd_o (by omega), xupd_s]
  | 2, _ => by
    show (upd (upd (upd (upd (upd (upd (upd (upd pn (8 * q + 2) 1) (8 * q + 3) 1) (8 * q + 4) 2) (8 * q + 5) 0) (8 * q + 6) 0) (8 * q + 7) 256) (8 * q + 0) a) (8 * q + 1) b) (8 * q + 2) = (upd (upd (upd (upd (upd (upd (upd Td (7 * q + 0) a) (7 * q + 1) b) (7 * q + 2) 1) (7 * q + 3) 1) (7 * q + 4) 2) (7 * q + 5) 0) (7 * q + 6) 0) (7 * q + 2)
    rw [xupd_o (by omega), xupd_o (by omega), xupd_o (by omega), xupd_o (by omega), xupd_o (by omega), xupd_o (by omega), xupd_o (by omega), xupd_s, xupd_o (by omega), xupd_o (by omega), xupd_o (by omega), xupd_o (by omega), xupd_s]
  | 3, _ => by
    show (upd (upd (upd (upd (upd (upd (upd (upd pn (8 * q + 2) 1) (8 * q + 3) 1) (8 * q + 4) 2) (8 * q + 5) 0) (8 * q + 6) 0) (8 * q + 7) 256) (8 * q + 0) a) (8 * q + 1) b) (8 * q + 3) = (upd (upd (upd (upd (upd (upd (upd Td (7 * q + 0) a) (7 * q + 1) b) (7 * q + 2) 1) (7 * q + 3) 1) (7 * q + 4) 2) (7 * q + 5) 0) (7 * q + 6) 0) (7 * q + 3)
    rw [xupd_o (by omega), xupd_o (by omega), xupd_o (by omega), xupd_o (by omega), xupd_o (by omega), xupd_o (by omega), xupd_s, xupd_o (by omega), xupd_o (by omega), xupd_o (by omega), xupd_s]
  | 4, _ => by
    show (upd (upd (upd (upd (upd (upd (upd (upd pn (8 * q + 2) 1) (8 * q + 3) 1) (8 * q + 4) 2) (8 * q + 5) 0) (8 * q + 6) 0) (8 * q + 7) 256) (8 * q + 0) a) (8 * q + 1) b) (8 * q + 4) = (upd (upd (upd (upd (upd (upd (upd Td (7 * q + 0) a) (7 * q + 1) b) (7 * q + 2) 1) (7 * q + 3) 1) (7 * q + 4) 2) (7 * q + 5) 0) (7 * q + 6) 0) (7 * q + 4)
    rw [xupd_o (by omega), xupd_o (by omega), xupd_o (by omega), xupd_o (by omega), xupd_o (by omega), xupd_s, xupd_o (by omega), xupd_o (by omega), xupd_s]
  | 5, _ => by
    show (upd (upd (upd (upd (upd (upd (upd (upd pn (8 * q + 2) 1) (8 * q + 3) 1) (8 * q + 4) 2) (8 * q + 5) 0) (8 * q + 6) 0) (8 * q + 7) 256) (8 * q + 0) a) (8 * q + 1) b) (8 * q + 5) = (upd (upd (upd (upd (upd (upd (upd Td (7 * q + 0) a) (7 * q + 1) b) (7 * q + 2) 1) (7 * q + 3) 1) (7 * q + 4) 2) (7 * q + 5) 0) (7 * q + 6) 0) (7 * q + 5)
    rw [xupd_o (by omega), xupd_o (by omega), xupd_o (by omega), xupd_o (by omega), xupd_s, xupd_o (by omega), xupd_s]
  | 6, _ => by
    show (upd (upd (upd (upd (upd (upd (upd (upd pn (8 * q + 2) 1) (8 * q + 3) 1) (8 * q + 4) 2) (8 * q + 5) 0) (8 * q + 6) 0) (8 * q + 7) 256) (8 * q + 0) a) (8 * q + 1) b) (8 * q + 6) = (upd (upd (upd (upd (upd (upd (upd Td (7 * q + 0) a) (7 * q + 1) b) (7 * q + 2) 1) (7 * q + 3) 1) (7 * q + 4) 2) (7 * q + 5) 0) (7 * q + 6) 0) (7 * q + 6)
    rw [xupd_o (by omega), xupd_o (by omega), xupd_o (by omega), xupd_s, xupd_s]
theorem p1_7 {q : Nat} {pn : Nat → Int32} {a b : Int32} : xP1 q pn a b (8 * q + 7) = 256 := by
  show (upd (upd (upd (upd (upd (upd (upd (upd pn (8 * q + 2) 1) (8 * q + 3) 1) (8 * q + 4) 2) (8 * q + 5) 0) (8 * q + 6) 0) (8 * q + 7) 256) (8 * q + 0) a) (8 * q + 1) b) (8 * q + 7) = 256
  rw [xupd_o (by omega), xupd_o (by omega), xupd_s]
theorem p1_o {q j : Nat} {pn : Nat → Int32} {a b : Int32} (h : j < 8 * q ∨ 8 * q + 8 ≤ j) : xP1 q pn a b j = pn j := by
  show (upd (upd (upd (upd (upd (upd (upd (upd pn (8 * q + 2) 1) (8 * q + 3) 1) (8 * q + 4) 2) (8 * q + 5) 0) (8 * q + 6) 0) (8 * q + 7) 256) (8 * q + 0) a) (8 * q + 1) b) j = pn j
  rw [xupd_o (by omega), xupd_o (by omega), xupd_o (by omega), xupd_o (by omega), xupd_o (by omega), xupd_o (by omega), xupd_o (by omega), xupd_o (by omega)]
theorem td_o {q j : Nat} {Td : Nat → Int32} {a b : Int32} (h : j < 7 * q ∨ 7 * q + 7 ≤ j) : xTd q Td a b j = Td j := by
  show (upd (upd (upd (upd (upd (upd (upd Td (7 * q + 0) a) (7 * q + 1) b) (7 * q + 2) 1) (7 * q + 3) 1) (7 * q + 4) 2) (7 * q + 5) 0) (7 * q + 6) 0) j = Td j
  rw [xupd_o (by omega), xupd_o (by omega), xupd_o (by omega), xupd_o (by omega), xupd_o (by omega), xupd_o (by omega), xupd_o (by omega)]
