/-- what stands at the head of a round of the class -/
def yI (q : Nat) (P : Nat → Bool) (pt : Nat → Int64) (w k9 : Nat → Nat) (i B U T : Nat) (fr fg : Nat → Int32) : Prop := i ≤ xpc U ∧ B < 256 ∧ (∀ j, B.testBit j = (decide (j < q) && decide (yM q P pt w k9 T j ≠ 100000))) ∧ U = yS q (yG w k9 (yM q P pt w k9 T)) T ∧ T ≤ 18 * xpc U ∧ ((U = 0 ∧ T = 0) ∨ ∃ x, x < q ∧ yM q P pt w k9 T x ≠ 100000 ∧ yG w k9 (yM q P pt w k9 T) x = T) ∧ ∀ x, x < q → yM q P pt w k9 T x ≠ 100000 → fr x = nI (yM q P pt w k9 T x + w x) ∧ fg x = nI (yG w k9 (yM q P pt w k9 T) x)
/-- those that ever begin -/
def yE (q : Nat) (M : Nat → Nat) : Nat := xup (fun x => decide (M x ≠ 100000)) q 0
/-- what the class finds -/
def yPost (q : Nat) (P : Nat → Bool) (pt : Nat → Int64) (w k9 : Nat → Nat) (R : Int32 × Int32 × (Nat → Int32) × (Nat → Int32)) : Prop := R.1 = nI (yE q (yM q P pt w k9 201)) ∧ (∃ T : Nat, T ≤ 144 ∧ R.2.1 = nI T ∧ (∀ x, x < q → yM q P pt w k9 201 x ≠ 100000 → yG w k9 (yM q P pt w k9 201) x ≤ T) ∧ ((T = 0 ∧ ∀ x, x < q → yM q P pt w k9 201 x = 100000) ∨ ∃ x, x < q ∧ yM q P pt w k9 201 x ≠ 100000 ∧ yG w k9 (yM q P pt w k9 201) x = T)) ∧ (∀ x, x < q → yM q P pt w k9 201 x ≠ 100000 → R.2.2.1 x = nI (yM q P pt w k9 201 x + w x) ∧ R.2.2.2 x = nI (yG w k9 (yM q P pt w k9 201) x)) ∧ ∀ x, x < q → P x = true → hb pt x (yE q (yM q P pt w k9 201) + 256) = true → yM q P pt w k9 201 x ≠ 100000
theorem fo_step {fw ft fr fg : Nat → Int32} {w k9 : Nat → Nat} {P : Nat → Bool} {pt : Nat → Int64} {s0 : Int32} {q i B U T : Nat} (q8 : q ≤ 8) (hw : ∀ j, j < q → fw j = nI (w j) ∧ w j ≤ 9) (hk : ∀ j, j < q → ft j = nI (k9 j) ∧ 1 ≤ k9 j ∧ k9 j ≤ 9) (hP : ∀ j, j < q → P j = xb s0 j) (h : yI q P pt w k9 i B U T fr fg) (n : Nat) : yPost q P pt w k9 (K_follow_L2 (nI q) s0 fw ft pt (n + 1) (nI i) (nI B) (nI U) (nI T) fr fg) ∨ ∃ (B' U' T' : Nat) (fr' fg' : Nat → Int32), K_follow_L2 (nI q) s0 fw ft pt (n + 1) (nI i) (nI B) (nI U) (nI T) fr fg = K_follow_L2 (nI q) s0 fw ft pt n (nI (i + 1)) (nI B') (nI U') (nI T') fr' fg' ∧ yI q P pt w k9 (i + 1) B' U' T' fr' fg' ∧ xpc U + 1 ≤ xpc U' := by
  obtain ⟨i1, B1, hB, eU, hT, hL, hf⟩ := h
  have U1 : U < 256 := by rw [eU]; exact yS_lt q8
  have x8 := xpc_le U
  have ei : (nI i).toInt = (i : Int) := nI_toInt (by omega)
  have T144 : T ≤ 144 := by omega
  have hlt := yM_lt (q := q) (P := P) (pt := pt) (w := w) (k := k9) T
  have hN : yM q P pt w k9 (T + 1) = yN q P pt w k9 T (yM q P pt w k9 T) := rfl
  obtain ⟨M, hM⟩ : ∃ M, yM q P pt w k9 T = M := ⟨_, rfl⟩
  rw [hM] at hB eU hL hf hlt hN
  have hU : ∀ j, U.testBit j = (decide (j < q) && decide (yG w k9 M j ≤ T)) := fun j => by
    rw [eU]
    exact yS_bit
  have hs : ∀ j, j < q → xb (s0 &&& (nI B ^^^ (-1))) j = (P j && decide (M j = 100000)) := fun j hj => by
    rw [xb_and, xb_not _ (by omega), xb_nI (by omega), hB j, hP j hj]
    by_cases z : M j = 100000 <;> simp [z, hj]
  have hc : ∀ j, j < q → (yC pt (s0 &&& (nI B ^^^ (-1))) U j = true ↔ M j = 100000 ∧ P j = true ∧ hb pt j (U + 256) = true) := fun j hj => by
    unfold yC
    rw [hs j hj, Bool.and_eq_true, Bool.and_eq_true, decide_eq_true_iff]
    exact ⟨fun z => ⟨z.1.2, z.1.1, z.2⟩, fun z => ⟨⟨z.2.1, z.1⟩, z.2.2⟩⟩
  have tb := t_begin (fr := fr) (fg := fg) (pt := pt) (s := s0 &&& (nI B ^^^ (-1))) (T := T) q8 U1 (fun j hj => (hw j hj).1) (fun j hj => (hk j hj).1)
  generalize yC pt (s0 &&& (nI B ^^^ (-1))) U = c at hc tb
  have un : K_follow_L2 (nI q) s0 fw ft pt (n + 1) (nI i) (nI B) (nI U) (nI T) fr fg = (fun t9 => if ((nI B ||| t9.1) &&& (nI U ^^^ (-1))).toInt = 0 then (nI U, nI T, t9.2.1, t9.2.2) else (fun r9 => K_follow_L9 (K_follow_L2 (nI q) s0 fw ft pt n) (nI i) (nI B ||| t9.1) r9 t9.2.1 t9.2.2 ((nI B ||| t9.1) &&& (nI U ^^^ (-1))) 100000 0 (nI U)) (M_soonest ((nI B ||| t9.1) &&& (nI U ^^^ (-1))) t9.2.2)) (M_begin (nI q) (s0 &&& (nI B ^^^ (-1))) (nI T) fw ft pt (nI U) fr fg) := by
    simp only [K_follow_L2, K_follow_3, K_follow_7, K_follow_10, K_follow_15, K_follow_14, K_follow_13, K_follow_12, K_follow_11, K_follow_9, K_follow_8, K_follow_6, K_follow_5, K_follow_4, K_follow_2, K_follow_1, M_follow]
    rw [if_neg (by omega)]
  rw [tb] at un
  dsimp only at un
  -- what has begun
  have m1 : ∀ j, j < q → yN q P pt w k9 T M j = if c j = true then T else M j := fun j hj => by
    unfold yN
    rw [← eU]
    by_cases z : c j = true
    · rw [if_pos z, if_pos ⟨hj, (hc j hj).mp z⟩]
    · rw [if_neg z, if_neg (fun y => z ((hc j hj).mpr y.2))]
  have m2 : ∀ j, ¬ j < q → yN q P pt w k9 T M j = M j := fun j hj => if_neg (fun z => hj z.1)
  obtain ⟨M1, hM1⟩ : ∃ M1, yN q P pt w k9 T M = M1 := ⟨_, rfl⟩
  rw [hM1] at m1 m2 hN
  have le1 : ∀ j, j < q → M1 j ≠ 100000 → M1 j ≤ T := fun j hj hz => by
    rw [m1 j hj] at hz ⊢
    by_cases z : c j = true
    · rw [if_pos z]
      exact Nat.le_refl _
    · rw [if_neg z] at hz ⊢
      rcases hlt j with y | y
      · exact absurd y hz
      · omega
  have gs : ∀ j, M1 j ≠ 100000 → yG w k9 M1 j = M1 j + w j + k9 j := fun j hz => if_neg hz
  have gn : ∀ j, M1 j = 100000 → yG w k9 M1 j = 100000 := fun j hz => if_pos hz
  have gn0 : ∀ j, M j = 100000 → yG w k9 M j = 100000 := fun j hz => if_pos hz
  have gM : ∀ j, j < q → ¬ c j = true → M1 j = M j ∧ yG w k9 M1 j = yG w k9 M j := fun j hj z => by
    have e := m1 j hj
    rw [if_neg z] at e
    exact ⟨e, by unfold yG; rw [e]⟩
  have gC : ∀ j, j < q → c j = true → M1 j = T ∧ M j = 100000 ∧ yG w k9 M1 j = T + w j + k9 j := fun j hj z => by
    have e := m1 j hj
    rw [if_pos z] at e
    exact ⟨e, ((hc j hj).mp z).1, by rw [gs j (by omega), e]⟩
  have gle : ∀ j, j < q → M1 j ≠ 100000 → yG w k9 M1 j ≤ T + 18 := fun j hj hz => by
    have a1 := le1 j hj hz
    have a2 := (hw j hj).2
    have a3 := (hk j hj).2.2
    rw [gs j hz]
    omega
  have cl := xup_lt (c := c) (g := 0) (by decide) q q8
  have eB : nI B ||| nI (xup c q 0) = nI (B ||| xup c q 0) := x_or (by omega) (by omega)
  have B2l : B ||| xup c q 0 < 256 := Nat.or_lt_two_pow (n := 8) B1 cl
  have hB2 : ∀ j, (B ||| xup c q 0).testBit j = (decide (j < q) && decide (M1 j ≠ 100000)) := fun j => by
    rw [Nat.testBit_or, hB j, xup_bit, Nat.zero_testBit, Bool.false_or]
    by_cases hj : j < q
    · by_cases z : c j = true
      · have t9 : M1 j ≠ 100000 := by have := gC j hj z; omega
        simp [hj, z, t9]
      · simp [hj, z, (gM j hj z).1]
    · simp [hj]
  rw [eB] at un
  generalize B ||| xup c q 0 = B2 at un B2l hB2
  have hv0 : ∀ j, j < 32 → xb (nI B2 &&& (nI U ^^^ (-1))) j = (B2.testBit j && !U.testBit j) := fun j hj => by
    rw [xb_and, xb_not _ hj, xb_nI hj, xb_nI hj]
  generalize nI B2 &&& (nI U ^^^ (-1)) = v at un hv0
  have hp : ∀ j, j < 32 → (xb v j = true ↔ j < q ∧ M1 j ≠ 100000 ∧ T < yG w k9 M1 j) := fun j hj => by
    rw [hv0 j hj, hB2 j, hU j]
    by_cases jq : j < q
    · by_cases z : c j = true
      · obtain ⟨c1, c2, c3⟩ := gC j jq z
        have t1 : M1 j ≠ 100000 := by omega
        have t2 : T < yG w k9 M1 j := by have := (hk j jq).2.1; omega
        have t3 : ¬ yG w k9 M j ≤ T := by rw [gn0 j c2]; omega
        simp [jq, t1, t2, t3]
      · obtain ⟨c1, c2⟩ := gM j jq z
        rw [c1, c2]
        simp [jq]
    · simp [jq]
  have nU : ∀ j, j < 32 → xb v j = true → U.testBit j = false := fun j hj y => by
    rw [hv0 j hj] at y
    cases e : U.testBit j with
    | false => rfl
    | true => rw [e] at y; simp at y
  have hF : ∀ j, j < q → M1 j ≠ 100000 → yF c (fun j => nI (T + w j)) fr q j = nI (M1 j + w j) ∧ yF c (fun j => nI (T + w j + k9 j)) fg q j = nI (yG w k9 M1 j) := fun j hj hz => by
    by_cases z : c j = true
    · obtain ⟨c1, c2, c3⟩ := gC j hj z
      rw [yF_t hj z, yF_t hj z, c1, c3]
      exact ⟨rfl, rfl⟩
    · obtain ⟨c1, c2⟩ := gM j hj z
      rw [yF_f z, yF_f z, c1, c2]
      rw [c1] at hz
      exact hf j hj hz
  generalize yF c (fun j => nI (T + w j)) fr q = FR at un hF
  generalize yF c (fun j => nI (T + w j + k9 j)) fg q = FG at un hF
  by_cases z : v.toInt = 0
  · refine Or.inl ?_
    rw [un, if_pos z]
    have v0 : v = 0 := Int32.toInt_inj.mp (by rw [z]; decide)
    have nop : ∀ j, j < q → M1 j ≠ 100000 → yG w k9 M1 j ≤ T := fun j hj y => Nat.le_of_not_lt (fun y2 => by
      have a := (hp j (by omega)).mpr ⟨hj, y, y2⟩
      rw [v0, xb_z] at a
      exact absurd a (by decide))
    have noc : ∀ j, j < q → ¬ c j = true := fun j hj y => by
      obtain ⟨c1, c2, c3⟩ := gC j hj y
      have a1 := nop j hj (by omega)
      have a2 := (hk j hj).2.1
      omega
    have eM : M1 = M := funext (fun j => by
      by_cases hj : j < q
      · exact (gM j hj (noc j hj)).1
      · exact m2 j hj)
    rw [eM] at nop hF
    have fin : yM q P pt w k9 201 = M := by
      have y := yM_quiet (q := q) (P := P) (pt := pt) (w := w) (k := k9) (n := T) (U := U) (fun x hx h1 h2 => by
        rw [hM] at h1
        cases e : hb pt x (U + 256) with
        | false => rfl
        | true => exact absurd ((hc x hx).mpr ⟨h1, h2, e⟩) (noc x hx)) (201 - T) (fun t t1 t2 => by
        rw [hM, eU]
        refine yS_ext (fun x hx => ?_)
        by_cases y : M x = 100000
        · rw [gn0 x y]
          exact ⟨fun a => absurd a (by omega), fun a => absurd a (by omega)⟩
        · have a := nop x hx y
          exact ⟨fun _ => a, fun _ => by omega⟩)
      rw [show T + (201 - T) = 201 from by omega, hM] at y
      exact y
    have U2 : U = yE q M := by
      rw [eU]
      refine xup_ext q (fun r hr => decide_eq_decide.mpr ⟨fun y z0 => ?_, fun y => nop r hr y⟩)
      rw [gn0 r z0] at y
      omega
    unfold yPost
    rw [fin]
    refine ⟨?_, ⟨T, T144, rfl, nop, ?_⟩, hF, fun x hx p9 h9 => ?_⟩
    · show nI U = nI _
      rw [← U2]
    · rcases hL with ⟨u0, t0⟩ | y
      · refine Or.inl ⟨t0, fun x hx => ?_⟩
        by_cases y : M x = 100000
        · exact y
        · exfalso
          have a := hU x
          rw [u0, Nat.zero_testBit] at a
          simp [hx, nop x hx y] at a
      · exact Or.inr y
    · rw [← U2] at h9
      exact fun y => noc x hx ((hc x hx).mpr ⟨y, p9, h9⟩)
  · refine Or.inr ?_
    obtain ⟨p, p32, hp1⟩ : ∃ p, p < 32 ∧ xb v p = true := by
      by_cases y : ∃ p, p < 32 ∧ xb v p = true
      · exact y
      · exfalso
        have v0 : v = 0 := xb_ext (fun r hr => by
          rw [xb_z]
          cases e : xb v r with
          | false => rfl
          | true => exact absurd ⟨r, hr, e⟩ y)
        exact z (by rw [v0]; decide)
    obtain ⟨pq, ps, pg⟩ := (hp p p32).mp hp1
    obtain ⟨z9, s1, s2, s3, s4⟩ := t_soonest (fg := FG) (g := yG w k9 M1) (s := v) (fun j hj b => by
      obtain ⟨a1, a2, a3⟩ := (hp j (by omega)).mp b
      have a4 := gle j a1 a2
      exact ⟨(hF j a1 a2).2, by omega⟩)
    have x7 : xpc U ≤ 7 := by
      have a := xpc_or U1 (x_put_lt U1 (r := p) (by omega)) (fun j hj => by rw [Nat.testBit_or, hj]; rfl) (fun e => by
        have b : (U ||| 2 ^ p).testBit p = true := by rw [Nat.testBit_or, Nat.testBit_two_pow_self, Bool.or_true]
        rw [e, nU p p32 hp1] at b
        exact absurd b (by decide))
      have := xpc_le (U ||| 2 ^ p)
      omega
    obtain ⟨j9, j8, jv, jz⟩ : ∃ j, j < 8 ∧ xb v j = true ∧ yG w k9 M1 j = z9 := by
      rcases s4 with y | y
      · have a := s3 p (by omega) hp1
        have b := gle p pq ps
        exact ⟨p, by omega, hp1, by omega⟩
      · exact y
    obtain ⟨jq, js, jg⟩ := (hp j9 (by omega)).mp jv
    have zT : T < z9 := by omega
    rw [if_neg z, s1] at un
    have lo := lo_in (rec := K_follow_L2 (nI q) s0 fw ft pt n) (a := nI i) (v9 := nI B2) (r := nI z9) (v := v) (fr := FR) (fg := FG) U1 8 0 99991 (by decide)
    have un := un.trans lo
    rw [nI_1] at un
    have fin : yM q P pt w k9 z9 = M1 := by
      have y := yM_quiet (q := q) (P := P) (pt := pt) (w := w) (k := k9) (n := T + 1) (U := U) (fun x hx h1 h2 => by
        rw [hN] at h1
        cases e : hb pt x (U + 256) with
        | false => rfl
        | true =>
          exfalso
          by_cases y : c x = true
          · have := gC x hx y
            omega
          · exact y ((hc x hx).mpr ⟨by rw [← (gM x hx y).1]; exact h1, h2, e⟩)) (z9 - (T + 1)) (fun t t1 t2 => by
        rw [hN, eU]
        refine yS_ext (fun x hx => ?_)
        by_cases y : c x = true
        · obtain ⟨c1, c2, c3⟩ := gC x hx y
          have a1 := (hk x hx).2.1
          have a2 := s3 x (by omega) ((hp x (by omega)).mpr ⟨hx, by omega, by omega⟩)
          rw [gn0 x c2]
          exact ⟨fun a => absurd a (by omega), fun a => absurd a (by omega)⟩
        · obtain ⟨c1, c2⟩ := gM x hx y
          refine ⟨fun a => ?_, fun a => by omega⟩
          by_cases y2 : M1 x = 100000
          · rw [gn x y2] at a
            omega
          · refine Nat.le_of_not_lt (fun y3 => ?_)
            have a2 := s3 x (by omega) ((hp x (by omega)).mpr ⟨hx, y2, by omega⟩)
            omega)
      rw [show T + 1 + (z9 - (T + 1)) = z9 from by omega, hN] at y
      exact y
    have ez : (nI z9).toInt = (z9 : Int) := nI_toInt (by omega)
    have fgz : ∀ j, j < q → M1 j ≠ 100000 → ((FG j).toInt = (nI z9).toInt ↔ yG w k9 M1 j = z9) := fun j hj y => by
      have a := gle j hj y
      have e : (nI (yG w k9 M1 j)).toInt = ((yG w k9 M1 j : Nat) : Int) := nI_toInt (by omega)
      rw [(hF j hj y).2, e, ez]
      omega
    have U2l : xup (fun j => xb v j && decide ((FG j).toInt = (nI z9).toInt)) 8 U < 256 := xup_lt U1 8 (by decide)
    have U2b : ∀ j, (xup (fun j => xb v j && decide ((FG j).toInt = (nI z9).toInt)) 8 U).testBit j = true ↔ (U.testBit j = true ∨ (j < 8 ∧ xb v j = true ∧ (FG j).toInt = (nI z9).toInt)) := fun j => by
      rw [xup_bit]
      simp only [Bool.or_eq_true, Bool.and_eq_true, decide_eq_true_iff]
    have Ub : ∀ j, U.testBit j = true ↔ (j < q ∧ yG w k9 M j ≤ T) := fun j => by
      rw [hU j]
      simp only [Bool.and_eq_true, decide_eq_true_iff]
    have U2e : xup (fun j => xb v j && decide ((FG j).toInt = (nI z9).toInt)) 8 U = yS q (yG w k9 M1) z9 := by
      refine Nat.eq_of_testBit_eq (fun j => Bool.eq_iff_iff.mpr ?_)
      rw [U2b j, Ub j, yS_bit]
      simp only [Bool.and_eq_true, decide_eq_true_iff]
      constructor
      · rintro (⟨a1, a2⟩ | ⟨a1, a2, a3⟩)
        · refine ⟨a1, ?_⟩
          by_cases y : c j = true
          · rw [gn0 j (gC j a1 y).2.1] at a2
            omega
          · rw [(gM j a1 y).2]
            omega
        · obtain ⟨b1, b2, b3⟩ := (hp j (by omega)).mp a2
          have := (fgz j b1 b2).mp a3
          exact ⟨b1, by omega⟩
      · rintro ⟨a1, a2⟩
        by_cases y : M1 j = 100000
        · rw [gn j y] at a2
          omega
        · by_cases y2 : yG w k9 M1 j ≤ T
          · refine Or.inl ⟨a1, ?_⟩
            by_cases y3 : c j = true
            · obtain ⟨c1, c2, c3⟩ := gC j a1 y3
              have := (hk j a1).2.1
              omega
            · rw [← (gM j a1 y3).2]
              exact y2
          · have b := (hp j (by omega)).mpr ⟨a1, y, by omega⟩
            have b2 := s3 j (by omega) b
            exact Or.inr ⟨by omega, b, (fgz j a1 y).mpr (by omega)⟩
    generalize xup (fun j => xb v j && decide ((FG j).toInt = (nI z9).toInt)) 8 U = U' at un U2l U2b U2e
    have hx : xpc U + 1 ≤ xpc U' := xpc_or U1 U2l (fun j hj => (U2b j).mpr (Or.inl hj)) (fun e => by
      have b := (U2b j9).mpr (Or.inr ⟨j8, jv, (fgz j9 jq js).mpr jz⟩)
      rw [e, nU j9 (by omega) jv] at b
      exact absurd b (by decide))
    refine ⟨B2, U', z9, FR, FG, un, ?_, hx⟩
    unfold yI
    rw [fin]
    have a18 := gle j9 jq js
    exact ⟨by omega, B2l, hB2, U2e, by omega, Or.inr ⟨j9, jq, js, jz⟩, hF⟩
theorem fo_in {fw ft : Nat → Int32} {w k9 : Nat → Nat} {P : Nat → Bool} {pt : Nat → Int64} {s0 : Int32} {q : Nat} (q8 : q ≤ 8) (hw : ∀ j, j < q → fw j = nI (w j) ∧ w j ≤ 9) (hk : ∀ j, j < q → ft j = nI (k9 j) ∧ 1 ≤ k9 j ∧ k9 j ≤ 9) (hP : ∀ j, j < q → P j = xb s0 j) : ∀ (d n i B U T : Nat) (fr fg : Nat → Int32), 8 ≤ xpc U + d → yI q P pt w k9 i B U T fr fg → yPost q P pt w k9 (K_follow_L2 (nI q) s0 fw ft pt (n + d + 1) (nI i) (nI B) (nI U) (nI T) fr fg) := by
  intro d
  induction d with
  | zero =>
    intro n i B U T fr fg h8 h
    rcases fo_step q8 hw hk hP h (n + 0) with y | ⟨B', U', T', fr', fg', y1, y2, y3⟩
    · exact y
    · have := xpc_le U'
      omega
  | succ d ih =>
    intro n i B U T fr fg h8 h
    rcases fo_step q8 hw hk hP h (n + d + 1) with y | ⟨B', U', T', fr', fg', y1, y2, y3⟩
    · exact y
    · show yPost q P pt w k9 (K_follow_L2 (nI q) s0 fw ft pt ((n + d + 1) + 1) (nI i) (nI B) (nI U) (nI T) fr fg)
      rw [y1]
      exact ih n (i + 1) B' U' T' fr' fg' (by omega) y2
/-- the class's times -/
theorem r_follow {fw ft fr fg : Nat → Int32} {w k9 : Nat → Nat} {P : Nat → Bool} {pt : Nat → Int64} {s0 : Int32} {q : Nat} (q8 : q ≤ 8) (hw : ∀ j, j < q → fw j = nI (w j) ∧ w j ≤ 9) (hk : ∀ j, j < q → ft j = nI (k9 j) ∧ 1 ≤ k9 j ∧ k9 j ≤ 9) (hP : ∀ j, j < q → P j = xb s0 j) : yPost q P pt w k9 (M_follow (nI q) s0 fw ft pt fr fg) := by
  have u0 : (0 : Nat) = yS q (yG w k9 (yM q P pt w k9 0)) 0 := by
    refine Nat.eq_of_testBit_eq (fun j => ?_)
    rw [yS_bit, Nat.zero_testBit]
    have e : yG w k9 (yM q P pt w k9 0) j = 100000 := if_pos rfl
    simp [e]
  exact fo_in (fw := fw) (ft := ft) q8 hw hk hP 8 99991 0 0 0 0 fr fg (by omega) ⟨Nat.zero_le _, by decide, fun j => by
    rw [Nat.zero_testBit]
    have e : yM q P pt w k9 0 j = 100000 := rfl
    simp [e], u0, Nat.zero_le _, Or.inl ⟨rfl, rfl⟩, fun x _ y => absurd rfl y⟩
