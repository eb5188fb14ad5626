theorem y_put256 (g : Fin 256) (r : Fin 8) : nI (g.val + 256) ||| ((1 : Int32) <<< (nI r.val &&& 31)) = nI ((g.val ||| 2 ^ r.val) + 256) := by
  have e : ∀ (g : Fin 256) (r : Fin 8), (g.val + 256) ||| 2 ^ r.val = (g.val ||| 2 ^ r.val) + 256 := by decide +kernel
  have p : 2 ^ r.val < 512 := Nat.lt_of_le_of_lt (Nat.pow_le_pow_right (by decide) (show r.val ≤ 8 by omega)) (by decide)
  rw [x_shl ⟨r.val, by omega⟩, x_or (by omega) p]
  exact congrArg nI (e g r)
theorem y_bit256 : ∀ (g : Fin 256) (k : Fin 9), (g.val + 256).testBit k.val = (decide (k.val = 8) || g.val.testBit k.val) := by decide +kernel
/-- a step of time, the reference's side: every RAIL -/
theorem mt_13 {rec : Int32 → (Nat → Int32) → (Nat → Int32) → Int32 × (Nat → Int32) × (Nat → Int32)} {Fw Fb Tb f g pn Td Nm : Nat → Int32} {pt : Nat → Int64} {w k9 M : Nat → Nat} {wt : Bool} {q X U t : Nat} (hE : xE wt q pn pt Td Nm Tb) (q8 : q ≤ 8) (hU : U < 256) (hw : ∀ j, j < q → Fw j = nI (w j)) (hk : ∀ j, j < q → Fb j = nI (k9 j)) (hM : ∀ j, j < q → M j ≤ 100000 ∧ f j = nI (M j)) : ∀ (m x k : Nat), x + m = q → K_m_findTimes_L13 (nI q) rec (nI t) (nI X) Fw Fb Tb (nI (U + 256)) (k + m + 1) (nI x) (yF (fun j => decide (M j = 100000) && (X.testBit j && hb pt j (U + 256))) (fun _ => nI t) f x) (yF (fun j => decide (M j = 100000) && (X.testBit j && hb pt j (U + 256))) (fun j => nI (t + w j + k9 j)) g x) = rec (nI (t + 1)) (yF (fun j => decide (M j = 100000) && (X.testBit j && hb pt j (U + 256))) (fun _ => nI t) f q) (yF (fun j => decide (M j = 100000) && (X.testBit j && hb pt j (U + 256))) (fun j => nI (t + w j + k9 j)) g q) := by
  have qq : (nI q).toInt = (q : Int) := nI_toInt (by omega)
  generalize hcc : (fun j => decide (M j = 100000) && (X.testBit j && hb pt j (U + 256))) = c
  have hc : ∀ j, c j = (decide (M j = 100000) && (X.testBit j && hb pt j (U + 256))) := fun j => by rw [← hcc]
  intro m
  induction m with
  | zero =>
    intro x k hx
    have ex : (nI x).toInt = (x : Int) := nI_toInt (by omega)
    obtain rfl : x = q := by omega
    simp only [K_m_findTimes_L13, K_m_findTimes_8, K_m_findTimes_14, K_m_findTimes_21, K_m_findTimes_22, K_m_findTimes_20, K_m_findTimes_19, K_m_findTimes_18, K_m_findTimes_17, K_m_findTimes_16, K_m_findTimes_15, K_m_findTimes_13, K_m_findTimes_11, K_m_findTimes_23, K_m_findTimes_24, K_m_findTimes_12, K_m_findTimes_10, K_m_findTimes_9, K_m_findTimes_7, K_m_findTimes_5, K_m_findTimes_6, K_m_findTimes_4, K_m_findTimes_3, K_m_findTimes_2, K_m_findTimes_1, M_m_findTimes]
    rw [if_pos (by omega), nI_1]
  | succ m ih =>
    intro x k hx
    have ex : (nI x).toInt = (x : Int) := nI_toInt (by omega)
    have exc : (nI x).toNatClampNeg = x := nI_clamp (by omega)
    obtain ⟨h1, h2⟩ := hM x (by omega)
    have em : (nI (M x)).toInt = ((M x : Nat) : Int) := nI_toInt (by omega)
    have z := ih (x + 1) k (by omega)
    rw [← z]
    show K_m_findTimes_L13 (nI q) rec (nI t) (nI X) Fw Fb Tb (nI (U + 256)) ((k + m + 1) + 1) (nI x) _ _ = _
    generalize k + m + 1 = j
    simp only [K_m_findTimes_L13, K_m_findTimes_8, K_m_findTimes_14, K_m_findTimes_21, K_m_findTimes_22, K_m_findTimes_20, K_m_findTimes_19, K_m_findTimes_18, K_m_findTimes_17, K_m_findTimes_16, K_m_findTimes_15, K_m_findTimes_13, K_m_findTimes_11, K_m_findTimes_23, K_m_findTimes_24, K_m_findTimes_12, K_m_findTimes_10, K_m_findTimes_9, K_m_findTimes_7, K_m_findTimes_5, K_m_findTimes_6, K_m_findTimes_4, K_m_findTimes_3, K_m_findTimes_2, K_m_findTimes_1, M_m_findTimes]
    rw [if_neg (by omega), exc, yF_s, h2, nI_1, t_so hE q8 (by omega) (by omega), hw x (by omega), hk x (by omega), nI_add, nI_add]
    by_cases a : M x = 100000
    · rw [if_pos (by omega)]
      by_cases b : X.testBit x = true
      · rw [if_pos ((xsr_1 (nI X) (by omega)).mpr (by rw [xb_nI (by omega)]; exact b))]
        by_cases d : hb pt x (U + 256) = true
        · have c9 : c x = true := by rw [hc x, b, d, a]; decide
          rw [if_pos d, if_neg (by decide)]
          rw [show upd (yF c (fun _ => nI t) f x) x (nI t) = _ from yF_put (v := fun _ => nI t) c9, show upd (yF c (fun j => nI (t + w j + k9 j)) g x) x (nI (t + w x + k9 x)) = _ from yF_put (v := fun j => nI (t + w j + k9 j)) c9]
        · have c9 : ¬ c x = true := by rw [hc x]; simp [d]
          rw [if_neg d, if_pos (by decide), yF_no c9, yF_no c9]
      · have c9 : ¬ c x = true := by rw [hc x]; simp [b]
        rw [if_neg (fun z => b (by have y := (xsr_1 (nI X) (by omega)).mp z; rw [xb_nI (by omega)] at y; exact y)), yF_no c9, yF_no c9]
    · have c9 : ¬ c x = true := by rw [hc x]; simp [a]
      rw [if_neg (by omega), yF_no c9, yF_no c9]
/-- who is GOOD at t, the reference's side -/
theorem mt_10 {rec : Int32 → (Nat → Int32) → (Nat → Int32) → Int32 × (Nat → Int32) × (Nat → Int32)} {Fw Fb Tb f g : Nat → Int32} {G : Nat → Nat} {r2 : Int32} {q t : Nat} (q8 : q ≤ 8) (ht : t ≤ 200) (hG : ∀ j, j < q → G j ≤ 100000 ∧ g j = nI (G j)) : ∀ (m x k : Nat), x + m = q → K_m_findTimes_L10 (nI q) rec (nI t) r2 Fw Fb Tb f g (k + m + 1) (nI x) (nI (xup (fun j => decide (G j ≤ t)) x 0 + 256)) = K_m_findTimes_L13 (nI q) rec (nI t) r2 Fw Fb Tb (nI (yS q G t + 256)) 100000 0 f g := by
  have qq : (nI q).toInt = (q : Int) := nI_toInt (by omega)
  have tt : (nI t).toInt = (t : Int) := nI_toInt (by omega)
  intro m
  induction m with
  | zero =>
    intro x k hx
    have ex : (nI x).toInt = (x : Int) := nI_toInt (by omega)
    obtain rfl : x = q := by omega
    simp only [K_m_findTimes_L10, K_m_findTimes_8, K_m_findTimes_14, K_m_findTimes_21, K_m_findTimes_22, K_m_findTimes_20, K_m_findTimes_19, K_m_findTimes_18, K_m_findTimes_17, K_m_findTimes_16, K_m_findTimes_15, K_m_findTimes_13, K_m_findTimes_11, K_m_findTimes_23, K_m_findTimes_24, K_m_findTimes_12, K_m_findTimes_10, K_m_findTimes_9, K_m_findTimes_7, K_m_findTimes_5, K_m_findTimes_6, K_m_findTimes_4, K_m_findTimes_3, K_m_findTimes_2, K_m_findTimes_1, M_m_findTimes]
    rw [if_pos (by omega)]
    rfl
  | succ m ih =>
    intro x k hx
    have ex : (nI x).toInt = (x : Int) := nI_toInt (by omega)
    have exc : (nI x).toNatClampNeg = x := nI_clamp (by omega)
    obtain ⟨h1, h2⟩ := hG x (by omega)
    have eg : (nI (G x)).toInt = ((G x : Nat) : Int) := nI_toInt (by omega)
    have l := xup_lt (c := fun j => decide (G j ≤ t)) (g := 0) (by decide) x (by omega)
    have z := ih (x + 1) k (by omega)
    rw [← z]
    show K_m_findTimes_L10 (nI q) rec (nI t) r2 Fw Fb Tb f g ((k + m + 1) + 1) (nI x) _ = _
    generalize k + m + 1 = j
    simp only [K_m_findTimes_L10, K_m_findTimes_8, K_m_findTimes_14, K_m_findTimes_21, K_m_findTimes_22, K_m_findTimes_20, K_m_findTimes_19, K_m_findTimes_18, K_m_findTimes_17, K_m_findTimes_16, K_m_findTimes_15, K_m_findTimes_13, K_m_findTimes_11, K_m_findTimes_23, K_m_findTimes_24, K_m_findTimes_12, K_m_findTimes_10, K_m_findTimes_9, K_m_findTimes_7, K_m_findTimes_5, K_m_findTimes_6, K_m_findTimes_4, K_m_findTimes_3, K_m_findTimes_2, K_m_findTimes_1, M_m_findTimes]
    rw [if_neg (by omega), exc, h2, nI_1, xup_st]
    by_cases a : G x ≤ t
    · rw [if_neg (by omega), if_pos (by simp [a]), y_put256 ⟨_, l⟩ ⟨x, by omega⟩]
    · rw [if_pos (by omega), if_neg (by simp [a]), xor00]
theorem yM_le {q : Nat} {P : Nat → Bool} {pt : Nat → Int64} {w k : Nat → Nat} {t x : Nat} (ht : t ≤ 100000) : yM q P pt w k t x ≤ 100000 := by
  rcases yM_lt (q := q) (P := P) (pt := pt) (w := w) (k := k) t x with y | y
  · omega
  · omega
/-- all of time, the reference's side -/
theorem mt_7 {Fw Fb Tb pn Td Nm : Nat → Int32} {pt : Nat → Int64} {w k9 : Nat → Nat} {wt : Bool} {q X : Nat} (hE : xE wt q pn pt Td Nm Tb) (q8 : q ≤ 8) (hw : ∀ j, j < q → Fw j = nI (w j) ∧ w j ≤ 9) (hk : ∀ j, j < q → Fb j = nI (k9 j) ∧ 1 ≤ k9 j ∧ k9 j ≤ 9) : ∀ (m t k : Nat) (f g : Nat → Int32), t + m = 201 → (∀ j, j < 8 → f j = nI (yM q (fun x => X.testBit x) pt w k9 t j) ∧ g j = nI (yG w k9 (yM q (fun x => X.testBit x) pt w k9 t) j)) → ∃ F G : Nat → Int32, K_m_findTimes_L7 (nI X) (nI q) Fw Fb Tb (k + m + 1) (nI t) f g = (nI X, F, G) ∧ ∀ j, j < 8 → F j = nI (yM q (fun x => X.testBit x) pt w k9 201 j) ∧ G j = nI (yG w k9 (yM q (fun x => X.testBit x) pt w k9 201) j) := by
  intro m
  induction m with
  | zero =>
    intro t k f g ht h
    obtain rfl : t = 201 := by omega
    refine ⟨f, g, ?_, h⟩
    simp only [K_m_findTimes_L7, K_m_findTimes_8, K_m_findTimes_14, K_m_findTimes_21, K_m_findTimes_22, K_m_findTimes_20, K_m_findTimes_19, K_m_findTimes_18, K_m_findTimes_17, K_m_findTimes_16, K_m_findTimes_15, K_m_findTimes_13, K_m_findTimes_11, K_m_findTimes_23, K_m_findTimes_24, K_m_findTimes_12, K_m_findTimes_10, K_m_findTimes_9, K_m_findTimes_7, K_m_findTimes_5, K_m_findTimes_6, K_m_findTimes_4, K_m_findTimes_3, K_m_findTimes_2, K_m_findTimes_1, M_m_findTimes]
    rw [if_pos (by decide)]
  | succ m ih =>
    intro t k f g ht h
    have et : (nI t).toInt = (t : Int) := nI_toInt (by omega)
    have un : K_m_findTimes_L7 (nI X) (nI q) Fw Fb Tb ((k + m + 1) + 1) (nI t) f g = K_m_findTimes_L10 (nI q) (K_m_findTimes_L7 (nI X) (nI q) Fw Fb Tb (k + m + 1)) (nI t) (nI X) Fw Fb Tb f g 100000 0 256 := by
      generalize k + m + 1 = j
      simp only [K_m_findTimes_L7, K_m_findTimes_8, K_m_findTimes_14, K_m_findTimes_21, K_m_findTimes_22, K_m_findTimes_20, K_m_findTimes_19, K_m_findTimes_18, K_m_findTimes_17, K_m_findTimes_16, K_m_findTimes_15, K_m_findTimes_13, K_m_findTimes_11, K_m_findTimes_23, K_m_findTimes_24, K_m_findTimes_12, K_m_findTimes_10, K_m_findTimes_9, K_m_findTimes_7, K_m_findTimes_5, K_m_findTimes_6, K_m_findTimes_4, K_m_findTimes_3, K_m_findTimes_2, K_m_findTimes_1, M_m_findTimes]
      rw [if_neg (by omega)]
    have hlt := yM_lt (q := q) (P := fun x => X.testBit x) (pt := pt) (w := w) (k := k9) t
    have hN : yM q (fun x => X.testBit x) pt w k9 (t + 1) = yN q (fun x => X.testBit x) pt w k9 t (yM q (fun x => X.testBit x) pt w k9 t) := rfl
    obtain ⟨M, hM⟩ : ∃ M, yM q (fun x => X.testBit x) pt w k9 t = M := ⟨_, rfl⟩
    rw [hM] at h hlt hN
    have gle : ∀ j, j < q → yG w k9 M j ≤ 100000 := fun j hj => by
      unfold yG
      split
      · exact Nat.le_refl _
      · have a1 := (hw j hj).2
        have a2 := (hk j hj).2.2
        rcases hlt j with y | y
        · omega
        · omega
    have U1 : yS q (yG w k9 M) t < 256 := yS_lt q8
    have a := mt_10 (rec := K_m_findTimes_L7 (nI X) (nI q) Fw Fb Tb (k + m + 1)) (Fw := Fw) (Fb := Fb) (Tb := Tb) (f := f) (g := g) (r2 := nI X) (t := t) (G := yG w k9 M) q8 (by omega) (fun j hj => ⟨gle j hj, (h j (by omega)).2⟩) q 0 (99999 - q) (by omega)
    rw [show 99999 - q + q + 1 = 100000 from by omega] at a
    have b := mt_13 (rec := K_m_findTimes_L7 (nI X) (nI q) Fw Fb Tb (k + m + 1)) (Fw := Fw) (Fb := Fb) (f := f) (g := g) (X := X) (t := t) (M := M) hE q8 U1 (fun j hj => (hw j hj).1) (fun j hj => (hk j hj).1) (fun j hj => ⟨by rcases hlt j with y | y <;> omega, (h j (by omega)).1⟩) q 0 (99999 - q) (by omega)
    rw [show 99999 - q + q + 1 = 100000 from by omega, yF_0, yF_0] at b
    have e := un.trans (a.trans b)
    have pick : ∀ j, j < q → ((decide (M j = 100000) && (X.testBit j && hb pt j (yS q (yG w k9 M) t + 256))) = true ↔ (j < q ∧ M j = 100000 ∧ X.testBit j = true ∧ hb pt j (yS q (yG w k9 M) t + 256) = true)) := fun j hj => by
      simp only [Bool.and_eq_true, decide_eq_true_iff]
      exact ⟨fun z => ⟨hj, z⟩, fun z => z.2⟩
    obtain ⟨F, G, e1, e2⟩ := ih (t + 1) k (yF (fun j => decide (M j = 100000) && (X.testBit j && hb pt j (yS q (yG w k9 M) t + 256))) (fun _ => nI t) f q) (yF (fun j => decide (M j = 100000) && (X.testBit j && hb pt j (yS q (yG w k9 M) t + 256))) (fun j => nI (t + w j + k9 j)) g q) (by omega) (fun j hj => by
      rw [hN]
      by_cases z : j < q ∧ (decide (M j = 100000) && (X.testBit j && hb pt j (yS q (yG w k9 M) t + 256))) = true
      · have e9 : yN q (fun x => X.testBit x) pt w k9 t M j = t := if_pos ((pick j z.1).mp z.2)
        refine ⟨?_, ?_⟩
        · rw [e9]
          exact yF_t z.1 z.2
        · unfold yG
          rw [e9, if_neg (by omega)]
          exact yF_t (v := fun j => nI (t + w j + k9 j)) z.1 z.2
      · have e9 : yN q (fun x => X.testBit x) pt w k9 t M j = M j := if_neg (fun y => z ⟨y.1, (pick j y.1).mpr y⟩)
        have e8 : yG w k9 (yN q (fun x => X.testBit x) pt w k9 t M) j = yG w k9 M j := by
          unfold yG
          rw [e9]
        rw [e9, e8]
        exact ⟨(show yF (fun j => decide (M j = 100000) && (X.testBit j && hb pt j (yS q (yG w k9 M) t + 256))) (fun _ => nI t) f q j = f j from if_neg z).trans (h j hj).1, (show yF (fun j => decide (M j = 100000) && (X.testBit j && hb pt j (yS q (yG w k9 M) t + 256))) (fun j => nI (t + w j + k9 j)) g q j = g j from if_neg z).trans (h j hj).2⟩)
    exact ⟨F, G, e.trans e1, e2⟩
theorem mt_4 {Fw Fb Tb : Nat → Int32} {r2 : Int32} {q : Nat} : ∀ (m x k : Nat) (f g : Nat → Int32), x + m = 8 → ∃ f' g' : Nat → Int32, K_m_findTimes_L4 r2 (nI q) Fw Fb Tb (k + m + 1) (nI x) f g = K_m_findTimes_L7 r2 (nI q) Fw Fb Tb 100000 0 f' g' ∧ (∀ j, x ≤ j → j < 8 → f' j = 100000 ∧ g' j = 100000) ∧ ∀ j, j < x → f' j = f j ∧ g' j = g j := by
  intro m
  induction m with
  | zero =>
    intro x k f g hx
    have ex : (nI x).toInt = (x : Int) := nI_toInt (by omega)
    refine ⟨f, g, ?_, fun j h1 h2 => absurd h2 (by omega), fun j _ => ⟨rfl, rfl⟩⟩
    simp only [K_m_findTimes_L4, K_m_findTimes_8, K_m_findTimes_14, K_m_findTimes_21, K_m_findTimes_22, K_m_findTimes_20, K_m_findTimes_19, K_m_findTimes_18, K_m_findTimes_17, K_m_findTimes_16, K_m_findTimes_15, K_m_findTimes_13, K_m_findTimes_11, K_m_findTimes_23, K_m_findTimes_24, K_m_findTimes_12, K_m_findTimes_10, K_m_findTimes_9, K_m_findTimes_7, K_m_findTimes_5, K_m_findTimes_6, K_m_findTimes_4, K_m_findTimes_3, K_m_findTimes_2, K_m_findTimes_1, M_m_findTimes]
    rw [if_pos (by omega)]
  | succ m ih =>
    intro x k f g hx
    have ex : (nI x).toInt = (x : Int) := nI_toInt (by omega)
    have exc : (nI x).toNatClampNeg = x := nI_clamp (by omega)
    obtain ⟨f', g', a1, a2, a3⟩ := ih (x + 1) k (upd f x 100000) (upd g x 100000) (by omega)
    refine ⟨f', g', ?_, fun j h1 h2 => ?_, fun j hj => ?_⟩
    · rw [← a1]
      show K_m_findTimes_L4 r2 (nI q) Fw Fb Tb ((k + m + 1) + 1) (nI x) f g = _
      generalize k + m + 1 = j
      simp only [K_m_findTimes_L4, K_m_findTimes_8, K_m_findTimes_14, K_m_findTimes_21, K_m_findTimes_22, K_m_findTimes_20, K_m_findTimes_19, K_m_findTimes_18, K_m_findTimes_17, K_m_findTimes_16, K_m_findTimes_15, K_m_findTimes_13, K_m_findTimes_11, K_m_findTimes_23, K_m_findTimes_24, K_m_findTimes_12, K_m_findTimes_10, K_m_findTimes_9, K_m_findTimes_7, K_m_findTimes_5, K_m_findTimes_6, K_m_findTimes_4, K_m_findTimes_3, K_m_findTimes_2, K_m_findTimes_1, M_m_findTimes]
      rw [if_neg (by omega), exc, nI_1]
    · by_cases y : j = x
      · rw [y, (a3 x (by omega)).1, (a3 x (by omega)).2, xupd_s, xupd_s]
        exact ⟨rfl, rfl⟩
      · exact a2 j (by omega) h2
    · rw [(a3 j (by omega)).1, (a3 j (by omega)).2, xupd_o (by omega), xupd_o (by omega)]
      exact ⟨rfl, rfl⟩
/-- those that can be up -/
def yX (q : Nat) (pt : Nat → Int64) (d : Int32) : Nat := xit (xCm pt (nI (xDb q d))) q 9 0
theorem yX_lt {q : Nat} {pt : Nat → Int64} {d : Int32} (q8 : q ≤ 8) : yX q pt d < 256 := xit_lt q8 9 0 (by decide)
/-- the times as both sides find them -/
def yT (q : Nat) (pt : Nat → Int64) (d : Int32) (w k : Nat → Nat) : Nat → Nat := yM q (fun x => (yX q pt d).testBit x) pt w k 201
theorem r_find {Fw Fb Tb Fm Fg D pn Td Nm : Nat → Int32} {pt : Nat → Int64} {w k9 : Nat → Nat} {wt : Bool} {q : Nat} {d : Int32} (hE : xE wt q pn pt Td Nm Tb) (q8 : q ≤ 8) (hd : xDd d D) (hw : ∀ j, j < q → Fw j = nI (w j) ∧ w j ≤ 9) (hk : ∀ j, j < q → Fb j = nI (k9 j) ∧ 1 ≤ k9 j ∧ k9 j ≤ 9) : ∃ F G : Nat → Int32, M_m_findTimes (nI q) Fw Fb Tb Fm Fg D = (nI (yX q pt d), F, G) ∧ ∀ j, j < 8 → F j = nI (yT q pt d w k9 j) ∧ G j = nI (yG w k9 (yT q pt d w k9) j) := by
  obtain ⟨f', g', a1, a2, -⟩ := mt_4 (Fw := Fw) (Fb := Fb) (Tb := Tb) (r2 := nI (yX q pt d)) (q := q) 8 0 99991 Fm Fg (by decide)
  obtain ⟨F, G, b1, b2⟩ := mt_7 (X := yX q pt d) hE q8 hw hk 201 0 99798 f' g' (by decide) (fun j hj => by
    obtain ⟨c1, c2⟩ := a2 j (by omega) hj
    exact ⟨c1, c2⟩)
  refine ⟨F, G, ?_, b2⟩
  rw [← b1]
  refine Eq.trans ?_ a1
  simp only [K_m_findTimes_8, K_m_findTimes_14, K_m_findTimes_21, K_m_findTimes_22, K_m_findTimes_20, K_m_findTimes_19, K_m_findTimes_18, K_m_findTimes_17, K_m_findTimes_16, K_m_findTimes_15, K_m_findTimes_13, K_m_findTimes_11, K_m_findTimes_23, K_m_findTimes_24, K_m_findTimes_12, K_m_findTimes_10, K_m_findTimes_9, K_m_findTimes_7, K_m_findTimes_5, K_m_findTimes_6, K_m_findTimes_4, K_m_findTimes_3, K_m_findTimes_2, K_m_findTimes_1, M_m_findTimes]
  rw [r_dead hd q8, r_up2 hE q8]
  rfl
