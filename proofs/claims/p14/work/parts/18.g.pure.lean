-- 98.b.follow
/-- what stands at the head of a round of the class -/
def yI (q : Nat) (P : Nat → Bool) (pt : Nat → Int64) (w k9 : Nat → Nat) (i B U T : Nat) (fr fg : Nat → Int32) : Prop := i ≤ xpc U ∧ B < 256 ∧ (∀ j, B.testBit j = (decide (j < q) && decide (yM q P pt w k9 T j ≠ 100000))) ∧ U = yS q (yG w k9 (yM q P pt w k9 T)) T ∧ T ≤ 18 * xpc U ∧ ((U = 0 ∧ T = 0) ∨ ∃ x, x < q ∧ yM q P pt w k9 T x ≠ 100000 ∧ yG w k9 (yM q P pt w k9 T) x = T) ∧ ∀ x, x < q → yM q P pt w k9 T x ≠ 100000 → fr x = nI (yM q P pt w k9 T x + w x) ∧ fg x = nI (yG w k9 (yM q P pt w k9 T) x)
/-- those that ever begin -/
def yE (q : Nat) (M : Nat → Nat) : Nat := xup (fun x => decide (M x ≠ 100000)) q 0
/-- what the class finds -/
def yPost (q : Nat) (P : Nat → Bool) (pt : Nat → Int64) (w k9 : Nat → Nat) (R : Int32 × Int32 × (Nat → Int32) × (Nat → Int32)) : Prop := R.1 = nI (yE q (yM q P pt w k9 201)) ∧ (∃ T : Nat, T ≤ 144 ∧ R.2.1 = nI T ∧ (∀ x, x < q → yM q P pt w k9 201 x ≠ 100000 → yG w k9 (yM q P pt w k9 201) x ≤ T) ∧ ((T = 0 ∧ ∀ x, x < q → yM q P pt w k9 201 x = 100000) ∨ ∃ x, x < q ∧ yM q P pt w k9 201 x ≠ 100000 ∧ yG w k9 (yM q P pt w k9 201) x = T)) ∧ (∀ x, x < q → yM q P pt w k9 201 x ≠ 100000 → R.2.2.1 x = nI (yM q P pt w k9 201 x + w x) ∧ R.2.2.2 x = nI (yG w k9 (yM q P pt w k9 201) x)) ∧ ∀ x, x < q → P x = true → hb pt x (yE q (yM q P pt w k9 201) + 256) = true → yM q P pt w k9 201 x ≠ 100000
theorem fo_step {fw ft fr fg : Nat → Int32} {w k9 : Nat → Nat} {P : Nat → Bool} {pt : Nat → Int64} {s0 : Int32} {q i B U T : Nat} (q8 : q ≤ 8) (hw : ∀ j, j < q → fw j = nI (w j) ∧ w j ≤ 9) (hk : ∀ j, j < q → ft j = nI (k9 j) ∧ 1 ≤ k9 j ∧ k9 j ≤ 9) (hP : ∀ j, j < q → P j = xb s0 j) (h : yI q P pt w k9 i B U T fr fg) (n : Nat) : yPost q P pt w k9 (K_follow_L2 (nI q) s0 fw ft pt (n + 1) (nI i) (nI B) (nI U) (nI T) fr fg) ∨ ∃ (B' U' T' : Nat) (fr' fg' : Nat → Int32), K_follow_L2 (nI q) s0 fw ft pt (n + 1) (nI i) (nI B) (nI U) (nI T) fr fg = K_follow_L2 (nI q) s0 fw ft pt n (nI (i + 1)) (nI B') (nI U') (nI T') fr' fg' ∧ yI q P pt w k9 (i + 1) B' U' T' fr' fg' ∧ xpc U + 1 ≤ xpc U' := by
  obtain ⟨i1, B1, hB, eU, hT, hL, hf⟩ := h
  have U1 : U < 256 := by rw [eU]; exact yS_lt q8
  have x8 := xpc_le U
  have ei : (nI i).toInt = (i : Int) := nI_toInt (by omega)
  have T144 : T ≤ 144 := by omega
  have hlt := yM_lt (q := q) (P := P) (pt := pt) (w := w) (k := k9) T
  have hN : yM q P pt w k9 (T + 1) = yN q P pt w k9 T (yM q P pt w k9 T) := rfl
  obtain ⟨M, hM⟩ : ∃ M, yM q P pt w k9 T = M := ⟨_, rfl⟩
  rw [hM] at hB eU hL hf hlt hN
  have hU : ∀ j, U.testBit j = (decide (j < q) && decide (yG w k9 M j ≤ T)) := fun j => by
    rw [eU]
    exact yS_bit
  have hs : ∀ j, j < q → xb (s0 &&& (nI B ^^^ (-1))) j = (P j && decide (M j = 100000)) := fun j hj => by
    rw [xb_and, xb_not _ (by omega), xb_nI (by omega), hB j, hP j hj]
    by_cases z : M j = 100000 <;> simp [z, hj]
  have hc : ∀ j, j < q → (yC pt (s0 &&& (nI B ^^^ (-1))) U j = true ↔ M j = 100000 ∧ P j = true ∧ hb pt j (U + 256) = true) := fun j hj => by
    unfold yC
    rw [hs j hj, Bool.and_eq_true, Bool.and_eq_true, decide_eq_true_iff]
    exact ⟨fun z => ⟨z.1.2, z.1.1, z.2⟩, fun z => ⟨⟨z.2.1, z.1⟩, z.2.2⟩⟩
  have tb := t_begin (fr := fr) (fg := fg) (pt := pt) (s := s0 &&& (nI B ^^^ (-1))) (T := T) q8 U1 (fun j hj => (hw j hj).1) (fun j hj => (hk j hj).1)
  generalize yC pt (s0 &&& (nI B ^^^ (-1))) U = c at hc tb
  have un : K_follow_L2 (nI q) s0 fw ft pt (n + 1) (nI i) (nI B) (nI U) (nI T) fr fg = (fun t9 => if ((nI B ||| t9.1) &&& (nI U ^^^ (-1))).toInt = 0 then (nI U, nI T, t9.2.1, t9.2.2) else (fun r9 => K_follow_L9 (K_follow_L2 (nI q) s0 fw ft pt n) (nI i) (nI B ||| t9.1) r9 t9.2.1 t9.2.2 ((nI B ||| t9.1) &&& (nI U ^^^ (-1))) 100000 0 (nI U)) (M_soonest ((nI B ||| t9.1) &&& (nI U ^^^ (-1))) t9.2.2)) (M_begin (nI q) (s0 &&& (nI B ^^^ (-1))) (nI T) fw ft pt (nI U) fr fg) := by
    simp only [K_follow_L2, K_follow_3, K_follow_7, K_follow_10, K_follow_15, K_follow_14, K_follow_13, K_follow_12, K_follow_11, K_follow_9, K_follow_8, K_follow_6, K_follow_5, K_follow_4, K_follow_2, K_follow_1, M_follow]
    rw [if_neg (by omega)]
  rw [tb] at un
  dsimp only at un
  -- what has begun
  have m1 : ∀ j, j < q → yN q P pt w k9 T M j = if c j = true then T else M j := fun j hj => by
    unfold yN
    rw [← eU]
    by_cases z : c j = true
    · rw [if_pos z, if_pos ⟨hj, (hc j hj).mp z⟩]
    · rw [if_neg z, if_neg (fun y => z ((hc j hj).mpr y.2))]
  have m2 : ∀ j, ¬ j < q → yN q P pt w k9 T M j = M j := fun j hj => if_neg (fun z => hj z.1)
  obtain ⟨M1, hM1⟩ : ∃ M1, yN q P pt w k9 T M = M1 := ⟨_, rfl⟩
  rw [hM1] at m1 m2 hN
  have le1 : ∀ j, j < q → M1 j ≠ 100000 → M1 j ≤ T := fun j hj hz => by
    rw [m1 j hj] at hz ⊢
    by_cases z : c j = true
    · rw [if_pos z]
      exact Nat.le_refl _
    · rw [if_neg z] at hz ⊢
      rcases hlt j with y | y
      · exact absurd y hz
      · omega
  have gs : ∀ j, M1 j ≠ 100000 → yG w k9 M1 j = M1 j + w j + k9 j := fun j hz => if_neg hz
  have gn : ∀ j, M1 j = 100000 → yG w k9 M1 j = 100000 := fun j hz => if_pos hz
  have gn0 : ∀ j, M j = 100000 → yG w k9 M j = 100000 := fun j hz => if_pos hz
  have gM : ∀ j, j < q → ¬ c j = true → M1 j = M j ∧ yG w k9 M1 j = yG w k9 M j := fun j hj z => by
    have e := m1 j hj
    rw [if_neg z] at e
    exact ⟨e, by unfold yG; rw [e]⟩
  have gC : ∀ j, j < q → c j = true → M1 j = T ∧ M j = 100000 ∧ yG w k9 M1 j = T + w j + k9 j := fun j hj z => by
    have e := m1 j hj
    rw [if_pos z] at e
    exact ⟨e, ((hc j hj).mp z).1, by rw [gs j (by omega), e]⟩
  have gle : ∀ j, j < q → M1 j ≠ 100000 → yG w k9 M1 j ≤ T + 18 := fun j hj hz => by
    have a1 := le1 j hj hz
    have a2 := (hw j hj).2
    have a3 := (hk j hj).2.2
    rw [gs j hz]
    omega
  have cl := xup_lt (c := c) (g := 0) (by decide) q q8
  have eB : nI B ||| nI (xup c q 0) = nI (B ||| xup c q 0) := x_or (by omega) (by omega)
  have B2l : B ||| xup c q 0 < 256 := Nat.or_lt_two_pow (n := 8) B1 cl
  have hB2 : ∀ j, (B ||| xup c q 0).testBit j = (decide (j < q) && decide (M1 j ≠ 100000)) := fun j => by
    rw [Nat.testBit_or, hB j, xup_bit, Nat.zero_testBit, Bool.false_or]
    by_cases hj : j < q
    · by_cases z : c j = true
      · have t9 : M1 j ≠ 100000 := by have := gC j hj z; omega
        simp [hj, z, t9]
      · simp [hj, z, (gM j hj z).1]
    · simp [hj]
  rw [eB] at un
  generalize B ||| xup c q 0 = B2 at un B2l hB2
  have hv0 : ∀ j, j < 32 → xb (nI B2 &&& (nI U ^^^ (-1))) j = (B2.testBit j && !U.testBit j) := fun j hj => by
    rw [xb_and, xb_not _ hj, xb_nI hj, xb_nI hj]
  generalize nI B2 &&& (nI U ^^^ (-1)) = v at un hv0
  have hp : ∀ j, j < 32 → (xb v j = true ↔ j < q ∧ M1 j ≠ 100000 ∧ T < yG w k9 M1 j) := fun j hj => by
    rw [hv0 j hj, hB2 j, hU j]
    by_cases jq : j < q
    · by_cases z : c j = true
      · obtain ⟨c1, c2, c3⟩ := gC j jq z
        have t1 : M1 j ≠ 100000 := by omega
        have t2 : T < yG w k9 M1 j := by have := (hk j jq).2.1; omega
        have t3 : ¬ yG w k9 M j ≤ T := by rw [gn0 j c2]; omega
        simp [jq, t1, t2, t3]
      · obtain ⟨c1, c2⟩ := gM j jq z
        rw [c1, c2]
        simp [jq]
    · simp [jq]
  have nU : ∀ j, j < 32 → xb v j = true → U.testBit j = false := fun j hj y => by
    rw [hv0 j hj] at y
    cases e : U.testBit j with
    | false => rfl
    | true => rw [e] at y; simp at y
  have hF : ∀ j, j < q → M1 j ≠ 100000 → yF c (fun j => nI (T + w j)) fr q j = nI (M1 j + w j) ∧ yF c (fun j => nI (T + w j + k9 j)) fg q j = nI (yG w k9 M1 j) := fun j hj hz => by
    by_cases z : c j = true
    · obtain ⟨c1, c2, c3⟩ := gC j hj z
      rw [yF_t hj z, yF_t hj z, c1, c3]
      exact ⟨rfl, rfl⟩
    · obtain ⟨c1, c2⟩ := gM j hj z
      rw [yF_f z, yF_f z, c1, c2]
      rw [c1] at hz
      exact hf j hj hz
  generalize yF c (fun j => nI (T + w j)) fr q = FR at un hF
  generalize yF c (fun j => nI (T + w j + k9 j)) fg q = FG at un hF
  by_cases z : v.toInt = 0
  · refine Or.inl ?_
    rw [un, if_pos z]
    have v0 : v = 0 := Int32.toInt_inj.mp (by rw [z]; decide)
    have nop : ∀ j, j < q → M1 j ≠ 100000 → yG w k9 M1 j ≤ T := fun j hj y => Nat.le_of_not_lt (fun y2 => by
      have a := (hp j (by omega)).mpr ⟨hj, y, y2⟩
      rw [v0, xb_z] at a
      exact absurd a (by decide))
    have noc : ∀ j, j < q → ¬ c j = true := fun j hj y => by
      obtain ⟨c1, c2, c3⟩ := gC j hj y
      have a1 := nop j hj (by omega)
      have a2 := (hk j hj).2.1
      omega
    have eM : M1 = M := funext (fun j => by
      by_cases hj : j < q
      · exact (gM j hj (noc j hj)).1
      · exact m2 j hj)
    rw [eM] at nop hF
    have fin : yM q P pt w k9 201 = M := by
      have y := yM_quiet (q := q) (P := P) (pt := pt) (w := w) (k := k9) (n := T) (U := U) (fun x hx h1 h2 => by
        rw [hM] at h1
        cases e : hb pt x (U + 256) with
        | false => rfl
        | true => exact absurd ((hc x hx).mpr ⟨h1, h2, e⟩) (noc x hx)) (201 - T) (fun t t1 t2 => by
        rw [hM, eU]
        refine yS_ext (fun x hx => ?_)
        by_cases y : M x = 100000
        · rw [gn0 x y]
          exact ⟨fun a => absurd a (by omega), fun a => absurd a (by omega)⟩
        · have a := nop x hx y
          exact ⟨fun _ => a, fun _ => by omega⟩)
      rw [show T + (201 - T) = 201 from by omega, hM] at y
      exact y
    have U2 : U = yE q M := by
      rw [eU]
      refine xup_ext q (fun r hr => decide_eq_decide.mpr ⟨fun y z0 => ?_, fun y => nop r hr y⟩)
      rw [gn0 r z0] at y
      omega
    unfold yPost
    rw [fin]
    refine ⟨?_, ⟨T, T144, rfl, nop, ?_⟩, hF, fun x hx p9 h9 => ?_⟩
    · show nI U = nI _
      rw [← U2]
    · rcases hL with ⟨u0, t0⟩ | y
      · refine Or.inl ⟨t0, fun x hx => ?_⟩
        by_cases y : M x = 100000
        · exact y
        · exfalso
          have a := hU x
          rw [u0, Nat.zero_testBit] at a
          simp [hx, nop x hx y] at a
      · exact Or.inr y
    · rw [← U2] at h9
      exact fun y => noc x hx ((hc x hx).mpr ⟨y, p9, h9⟩)
  · refine Or.inr ?_
    obtain ⟨p, p32, hp1⟩ : ∃ p, p < 32 ∧ xb v p = true := by
      by_cases y : ∃ p, p < 32 ∧ xb v p = true
      · exact y
      · exfalso
        have v0 : v = 0 := xb_ext (fun r hr => by
          rw [xb_z]
          cases e : xb v r with
          | false => rfl
          | true => exact absurd ⟨r, hr, e⟩ y)
        exact z (by rw [v0]; decide)
    obtain ⟨pq, ps, pg⟩ := (hp p p32).mp hp1
    obtain ⟨z9, s1, s2, s3, s4⟩ := t_soonest (fg := FG) (g := yG w k9 M1) (s := v) (fun j hj b => by
      obtain ⟨a1, a2, a3⟩ := (hp j (by omega)).mp b
      have a4 := gle j a1 a2
      exact ⟨(hF j a1 a2).2, by omega⟩)
    have x7 : xpc U ≤ 7 := by
      have a := xpc_or U1 (x_put_lt U1 (r := p) (by omega)) (fun j hj => by rw [Nat.testBit_or, hj]; rfl) (fun e => by
        have b : (U ||| 2 ^ p).testBit p = true := by rw [Nat.testBit_or, Nat.testBit_two_pow_self, Bool.or_true]
        rw [e, nU p p32 hp1] at b
        exact absurd b (by decide))
      have := xpc_le (U ||| 2 ^ p)
      omega
    obtain ⟨j9, j8, jv, jz⟩ : ∃ j, j < 8 ∧ xb v j = true ∧ yG w k9 M1 j = z9 := by
      rcases s4 with y | y
      · have a := s3 p (by omega) hp1
        have b := gle p pq ps
        exact ⟨p, by omega, hp1, by omega⟩
      · exact y
    obtain ⟨jq, js, jg⟩ := (hp j9 (by omega)).mp jv
    have zT : T < z9 := by omega
    rw [if_neg z, s1] at un
    have lo := lo_in (rec := K_follow_L2 (nI q) s0 fw ft pt n) (a := nI i) (v9 := nI B2) (r := nI z9) (v := v) (fr := FR) (fg := FG) U1 8 0 99991 (by decide)
    have un := un.trans lo
    rw [nI_1] at un
    have fin : yM q P pt w k9 z9 = M1 := by
      have y := yM_quiet (q := q) (P := P) (pt := pt) (w := w) (k := k9) (n := T + 1) (U := U) (fun x hx h1 h2 => by
        rw [hN] at h1
        cases e : hb pt x (U + 256) with
        | false => rfl
        | true =>
          exfalso
          by_cases y : c x = true
          · have := gC x hx y
            omega
          · exact y ((hc x hx).mpr ⟨by rw [← (gM x hx y).1]; exact h1, h2, e⟩)) (z9 - (T + 1)) (fun t t1 t2 => by
        rw [hN, eU]
        refine yS_ext (fun x hx => ?_)
        by_cases y : c x = true
        · obtain ⟨c1, c2, c3⟩ := gC x hx y
          have a1 := (hk x hx).2.1
          have a2 := s3 x (by omega) ((hp x (by omega)).mpr ⟨hx, by omega, by omega⟩)
          rw [gn0 x c2]
          exact ⟨fun a => absurd a (by omega), fun a => absurd a (by omega)⟩
        · obtain ⟨c1, c2⟩ := gM x hx y
          refine ⟨fun a => ?_, fun a => by omega⟩
          by_cases y2 : M1 x = 100000
          · rw [gn x y2] at a
            omega
          · refine Nat.le_of_not_lt (fun y3 => ?_)
            have a2 := s3 x (by omega) ((hp x (by omega)).mpr ⟨hx, y2, by omega⟩)
            omega)
      rw [show T + 1 + (z9 - (T + 1)) = z9 from by omega, hN] at y
      exact y
    have ez : (nI z9).toInt = (z9 : Int) := nI_toInt (by omega)
    have fgz : ∀ j, j < q → M1 j ≠ 100000 → ((FG j).toInt = (nI z9).toInt ↔ yG w k9 M1 j = z9) := fun j hj y => by
      have a := gle j hj y
      have e : (nI (yG w k9 M1 j)).toInt = ((yG w k9 M1 j : Nat) : Int) := nI_toInt (by omega)
      rw [(hF j hj y).2, e, ez]
      omega
    have U2l : xup (fun j => xb v j && decide ((FG j).toInt = (nI z9).toInt)) 8 U < 256 := xup_lt U1 8 (by decide)
    have U2b : ∀ j, (xup (fun j => xb v j && decide ((FG j).toInt = (nI z9).toInt)) 8 U).testBit j = true ↔ (U.testBit j = true ∨ (j < 8 ∧ xb v j = true ∧ (FG j).toInt = (nI z9).toInt)) := fun j => by
      rw [xup_bit]
      simp only [Bool.or_eq_true, Bool.and_eq_true, decide_eq_true_iff]
    have Ub : ∀ j, U.testBit j = true ↔ (j < q ∧ yG w k9 M j ≤ T) := fun j => by
      rw [hU j]
      simp only [Bool.and_eq_true, decide_eq_true_iff]
    have U2e : xup (fun j => xb v j && decide ((FG j).toInt = (nI z9).toInt)) 8 U = yS q (yG w k9 M1) z9 := by
      refine Nat.eq_of_testBit_eq (fun j => Bool.eq_iff_iff.mpr ?_)
      rw [U2b j, Ub j, yS_bit]
      simp only [Bool.and_eq_true, decide_eq_true_iff]
      constructor
      · rintro (⟨a1, a2⟩ | ⟨a1, a2, a3⟩)
        · refine ⟨a1, ?_⟩
          by_cases y : c j = true
          · rw [gn0 j (gC j a1 y).2.1] at a2
            omega
          · rw [(gM j a1 y).2]
            omega
        · obtain ⟨b1, b2, b3⟩ := (hp j (by omega)).mp a2
          have := (fgz j b1 b2).mp a3
          exact ⟨b1, by omega⟩
      · rintro ⟨a1, a2⟩
        by_cases y : M1 j = 100000
        · rw [gn j y] at a2
          omega
        · by_cases y2 : yG w k9 M1 j ≤ T
          · refine Or.inl ⟨a1, ?_⟩
            by_cases y3 : c j = true
            · obtain ⟨c1, c2, c3⟩ := gC j a1 y3
              have := (hk j a1).2.1
              omega
            · rw [← (gM j a1 y3).2]
              exact y2
          · have b := (hp j (by omega)).mpr ⟨a1, y, by omega⟩
            have b2 := s3 j (by omega) b
            exact Or.inr ⟨by omega, b, (fgz j a1 y).mpr (by omega)⟩
    generalize xup (fun j => xb v j && decide ((FG j).toInt = (nI z9).toInt)) 8 U = U' at un U2l U2b U2e
    have hx : xpc U + 1 ≤ xpc U' := xpc_or U1 U2l (fun j hj => (U2b j).mpr (Or.inl hj)) (fun e => by
      have b := (U2b j9).mpr (Or.inr ⟨j8, jv, (fgz j9 jq js).mpr jz⟩)
      rw [e, nU j9 (by omega) jv] at b
      exact absurd b (by decide))
    refine ⟨B2, U', z9, FR, FG, un, ?_, hx⟩
    unfold yI
    rw [fin]
    have a18 := gle j9 jq js
    exact ⟨by omega, B2l, hB2, U2e, by omega, Or.inr ⟨j9, jq, js, jz⟩, hF⟩
theorem fo_in {fw ft : Nat → Int32} {w k9 : Nat → Nat} {P : Nat → Bool} {pt : Nat → Int64} {s0 : Int32} {q : Nat} (q8 : q ≤ 8) (hw : ∀ j, j < q → fw j = nI (w j) ∧ w j ≤ 9) (hk : ∀ j, j < q → ft j = nI (k9 j) ∧ 1 ≤ k9 j ∧ k9 j ≤ 9) (hP : ∀ j, j < q → P j = xb s0 j) : ∀ (d n i B U T : Nat) (fr fg : Nat → Int32), 8 ≤ xpc U + d → yI q P pt w k9 i B U T fr fg → yPost q P pt w k9 (K_follow_L2 (nI q) s0 fw ft pt (n + d + 1) (nI i) (nI B) (nI U) (nI T) fr fg) := by
  intro d
  induction d with
  | zero =>
    intro n i B U T fr fg h8 h
    rcases fo_step q8 hw hk hP h (n + 0) with y | ⟨B', U', T', fr', fg', y1, y2, y3⟩
    · exact y
    · have := xpc_le U'
      omega
  | succ d ih =>
    intro n i B U T fr fg h8 h
    rcases fo_step q8 hw hk hP h (n + d + 1) with y | ⟨B', U', T', fr', fg', y1, y2, y3⟩
    · exact y
    · show yPost q P pt w k9 (K_follow_L2 (nI q) s0 fw ft pt ((n + d + 1) + 1) (nI i) (nI B) (nI U) (nI T) fr fg)
      rw [y1]
      exact ih n (i + 1) B' U' T' fr' fg' (by omega) y2
/-- the class's times -/
theorem r_follow {fw ft fr fg : Nat → Int32} {w k9 : Nat → Nat} {P : Nat → Bool} {pt : Nat → Int64} {s0 : Int32} {q : Nat} (q8 : q ≤ 8) (hw : ∀ j, j < q → fw j = nI (w j) ∧ w j ≤ 9) (hk : ∀ j, j < q → ft j = nI (k9 j) ∧ 1 ≤ k9 j ∧ k9 j ≤ 9) (hP : ∀ j, j < q → P j = xb s0 j) : yPost q P pt w k9 (M_follow (nI q) s0 fw ft pt fr fg) := by
  have u0 : (0 : Nat) = yS q (yG w k9 (yM q P pt w k9 0)) 0 := by
    refine Nat.eq_of_testBit_eq (fun j => ?_)
    rw [yS_bit, Nat.zero_testBit]
    have e : yG w k9 (yM q P pt w k9 0) j = 100000 := if_pos rfl
    simp [e]
  exact fo_in (fw := fw) (ft := ft) q8 hw hk hP 8 99991 0 0 0 0 fr fg (by omega) ⟨Nat.zero_le _, by decide, fun j => by
    rw [Nat.zero_testBit]
    have e : yM q P pt w k9 0 j = 100000 := rfl
    simp [e], u0, Nat.zero_le _, Or.inl ⟨rfl, rfl⟩, fun x _ y => absurd rfl y⟩
-- 98.c.find
theorem y_put256 (g : Fin 256) (r : Fin 8) : nI (g.val + 256) ||| ((1 : Int32) <<< (nI r.val &&& 31)) = nI ((g.val ||| 2 ^ r.val) + 256) := by
  have e : ∀ (g : Fin 256) (r : Fin 8), (g.val + 256) ||| 2 ^ r.val = (g.val ||| 2 ^ r.val) + 256 := by decide +kernel
  have p : 2 ^ r.val < 512 := Nat.lt_of_le_of_lt (Nat.pow_le_pow_right (by decide) (show r.val ≤ 8 by omega)) (by decide)
  rw [x_shl ⟨r.val, by omega⟩, x_or (by omega) p]
  exact congrArg nI (e g r)
theorem y_bit256 : ∀ (g : Fin 256) (k : Fin 9), (g.val + 256).testBit k.val = (decide (k.val = 8) || g.val.testBit k.val) := by decide +kernel
/-- a step of time, the reference's side: every RAIL -/
theorem mt_13 {rec : Int32 → (Nat → Int32) → (Nat → Int32) → Int32 × (Nat → Int32) × (Nat → Int32)} {Fw Fb Tb f g pn Td Nm : Nat → Int32} {pt : Nat → Int64} {w k9 M : Nat → Nat} {wt : Bool} {q X U t : Nat} (hE : xE wt q pn pt Td Nm Tb) (q8 : q ≤ 8) (hU : U < 256) (hw : ∀ j, j < q → Fw j = nI (w j)) (hk : ∀ j, j < q → Fb j = nI (k9 j)) (hM : ∀ j, j < q → M j ≤ 100000 ∧ f j = nI (M j)) : ∀ (m x k : Nat), x + m = q → K_m_findTimes_L13 (nI q) rec (nI t) (nI X) Fw Fb Tb (nI (U + 256)) (k + m + 1) (nI x) (yF (fun j => decide (M j = 100000) && (X.testBit j && hb pt j (U + 256))) (fun _ => nI t) f x) (yF (fun j => decide (M j = 100000) && (X.testBit j && hb pt j (U + 256))) (fun j => nI (t + w j + k9 j)) g x) = rec (nI (t + 1)) (yF (fun j => decide (M j = 100000) && (X.testBit j && hb pt j (U + 256))) (fun _ => nI t) f q) (yF (fun j => decide (M j = 100000) && (X.testBit j && hb pt j (U + 256))) (fun j => nI (t + w j + k9 j)) g q) := by
  have qq : (nI q).toInt = (q : Int) := nI_toInt (by omega)
  generalize hcc : (fun j => decide (M j = 100000) && (X.testBit j && hb pt j (U + 256))) = c
  have hc : ∀ j, c j = (decide (M j = 100000) && (X.testBit j && hb pt j (U + 256))) := fun j => by rw [← hcc]
  intro m
  induction m with
  | zero =>
    intro x k hx
    have ex : (nI x).toInt = (x : Int) := nI_toInt (by omega)
    obtain rfl : x = q := by omega
    simp only [K_m_findTimes_L13, K_m_findTimes_8, K_m_findTimes_14, K_m_findTimes_21, K_m_findTimes_22, K_m_findTimes_20, K_m_findTimes_19, K_m_findTimes_18, K_m_findTimes_17, K_m_findTimes_16, K_m_findTimes_15, K_m_findTimes_13, K_m_findTimes_11, K_m_findTimes_23, K_m_findTimes_24, K_m_findTimes_12, K_m_findTimes_10, K_m_findTimes_9, K_m_findTimes_7, K_m_findTimes_5, K_m_findTimes_6, K_m_findTimes_4, K_m_findTimes_3, K_m_findTimes_2, K_m_findTimes_1, M_m_findTimes]
    rw [if_pos (by omega), nI_1]
  | succ m ih =>
    intro x k hx
    have ex : (nI x).toInt = (x : Int) := nI_toInt (by omega)
    have exc : (nI x).toNatClampNeg = x := nI_clamp (by omega)
    obtain ⟨h1, h2⟩ := hM x (by omega)
    have em : (nI (M x)).toInt = ((M x : Nat) : Int) := nI_toInt (by omega)
    have z := ih (x + 1) k (by omega)
    rw [← z]
    show K_m_findTimes_L13 (nI q) rec (nI t) (nI X) Fw Fb Tb (nI (U + 256)) ((k + m + 1) + 1) (nI x) _ _ = _
    generalize k + m + 1 = j
    simp only [K_m_findTimes_L13, K_m_findTimes_8, K_m_findTimes_14, K_m_findTimes_21, K_m_findTimes_22, K_m_findTimes_20, K_m_findTimes_19, K_m_findTimes_18, K_m_findTimes_17, K_m_findTimes_16, K_m_findTimes_15, K_m_findTimes_13, K_m_findTimes_11, K_m_findTimes_23, K_m_findTimes_24, K_m_findTimes_12, K_m_findTimes_10, K_m_findTimes_9, K_m_findTimes_7, K_m_findTimes_5, K_m_findTimes_6, K_m_findTimes_4, K_m_findTimes_3, K_m_findTimes_2, K_m_findTimes_1, M_m_findTimes]
    rw [if_neg (by omega), exc, yF_s, h2, nI_1, t_so hE q8 (by omega) (by omega), hw x (by omega), hk x (by omega), nI_add, nI_add]
    by_cases a : M x = 100000
    · rw [if_pos (by omega)]
      by_cases b : X.testBit x = true
      · rw [if_pos ((xsr_1 (nI X) (by omega)).mpr (by rw [xb_nI (by omega)]; exact b))]
        by_cases d : hb pt x (U + 256) = true
        · have c9 : c x = true := by rw [hc x, b, d, a]; decide
          rw [if_pos d, if_neg (by decide)]
          rw [show upd (yF c (fun _ => nI t) f x) x (nI t) = _ from yF_put (v := fun _ => nI t) c9, show upd (yF c (fun j => nI (t + w j + k9 j)) g x) x (nI (t + w x + k9 x)) = _ from yF_put (v := fun j => nI (t + w j + k9 j)) c9]
        · have c9 : ¬ c x = true := by rw [hc x]; simp [d]
          rw [if_neg d, if_pos (by decide), yF_no c9, yF_no c9]
      · have c9 : ¬ c x = true := by rw [hc x]; simp [b]
        rw [if_neg (fun z => b (by have y := (xsr_1 (nI X) (by omega)).mp z; rw [xb_nI (by omega)] at y; exact y)), yF_no c9, yF_no c9]
    · have c9 : ¬ c x = true := by rw [hc x]; simp [a]
      rw [if_neg (by omega), yF_no c9, yF_no c9]
/-- who is GOOD at t, the reference's side -/
theorem mt_10 {rec : Int32 → (Nat → Int32) → (Nat → Int32) → Int32 × (Nat → Int32) × (Nat → Int32)} {Fw Fb Tb f g : Nat → Int32} {G : Nat → Nat} {r2 : Int32} {q t : Nat} (q8 : q ≤ 8) (ht : t ≤ 200) (hG : ∀ j, j < q → G j ≤ 100000 ∧ g j = nI (G j)) : ∀ (m x k : Nat), x + m = q → K_m_findTimes_L10 (nI q) rec (nI t) r2 Fw Fb Tb f g (k + m + 1) (nI x) (nI (xup (fun j => decide (G j ≤ t)) x 0 + 256)) = K_m_findTimes_L13 (nI q) rec (nI t) r2 Fw Fb Tb (nI (yS q G t + 256)) 100000 0 f g := by
  have qq : (nI q).toInt = (q : Int) := nI_toInt (by omega)
  have tt : (nI t).toInt = (t : Int) := nI_toInt (by omega)
  intro m
  induction m with
  | zero =>
    intro x k hx
    have ex : (nI x).toInt = (x : Int) := nI_toInt (by omega)
    obtain rfl : x = q := by omega
    simp only [K_m_findTimes_L10, K_m_findTimes_8, K_m_findTimes_14, K_m_findTimes_21, K_m_findTimes_22, K_m_findTimes_20, K_m_findTimes_19, K_m_findTimes_18, K_m_findTimes_17, K_m_findTimes_16, K_m_findTimes_15, K_m_findTimes_13, K_m_findTimes_11, K_m_findTimes_23, K_m_findTimes_24, K_m_findTimes_12, K_m_findTimes_10, K_m_findTimes_9, K_m_findTimes_7, K_m_findTimes_5, K_m_findTimes_6, K_m_findTimes_4, K_m_findTimes_3, K_m_findTimes_2, K_m_findTimes_1, M_m_findTimes]
    rw [if_pos (by omega)]
    rfl
  | succ m ih =>
    intro x k hx
    have ex : (nI x).toInt = (x : Int) := nI_toInt (by omega)
    have exc : (nI x).toNatClampNeg = x := nI_clamp (by omega)
    obtain ⟨h1, h2⟩ := hG x (by omega)
    have eg : (nI (G x)).toInt = ((G x : Nat) : Int) := nI_toInt (by omega)
    have l := xup_lt (c := fun j => decide (G j ≤ t)) (g := 0) (by decide) x (by omega)
    have z := ih (x + 1) k (by omega)
    rw [← z]
    show K_m_findTimes_L10 (nI q) rec (nI t) r2 Fw Fb Tb f g ((k + m + 1) + 1) (nI x) _ = _
    generalize k + m + 1 = j
    simp only [K_m_findTimes_L10, K_m_findTimes_8, K_m_findTimes_14, K_m_findTimes_21, K_m_findTimes_22, K_m_findTimes_20, K_m_findTimes_19, K_m_findTimes_18, K_m_findTimes_17, K_m_findTimes_16, K_m_findTimes_15, K_m_findTimes_13, K_m_findTimes_11, K_m_findTimes_23, K_m_findTimes_24, K_m_findTimes_12, K_m_findTimes_10, K_m_findTimes_9, K_m_findTimes_7, K_m_findTimes_5, K_m_findTimes_6, K_m_findTimes_4, K_m_findTimes_3, K_m_findTimes_2, K_m_findTimes_1, M_m_findTimes]
    rw [if_neg (by omega), exc, h2, nI_1, xup_st]
    by_cases a : G x ≤ t
    · rw [if_neg (by omega), if_pos (by simp [a]), y_put256 ⟨_, l⟩ ⟨x, by omega⟩]
    · rw [if_pos (by omega), if_neg (by simp [a]), xor00]
theorem yM_le {q : Nat} {P : Nat → Bool} {pt : Nat → Int64} {w k : Nat → Nat} {t x : Nat} (ht : t ≤ 100000) : yM q P pt w k t x ≤ 100000 := by
  rcases yM_lt (q := q) (P := P) (pt := pt) (w := w) (k := k) t x with y | y
  · omega
  · omega
/-- all of time, the reference's side -/
theorem mt_7 {Fw Fb Tb pn Td Nm : Nat → Int32} {pt : Nat → Int64} {w k9 : Nat → Nat} {wt : Bool} {q X : Nat} (hE : xE wt q pn pt Td Nm Tb) (q8 : q ≤ 8) (hw : ∀ j, j < q → Fw j = nI (w j) ∧ w j ≤ 9) (hk : ∀ j, j < q → Fb j = nI (k9 j) ∧ 1 ≤ k9 j ∧ k9 j ≤ 9) : ∀ (m t k : Nat) (f g : Nat → Int32), t + m = 201 → (∀ j, j < 8 → f j = nI (yM q (fun x => X.testBit x) pt w k9 t j) ∧ g j = nI (yG w k9 (yM q (fun x => X.testBit x) pt w k9 t) j)) → ∃ F G : Nat → Int32, K_m_findTimes_L7 (nI X) (nI q) Fw Fb Tb (k + m + 1) (nI t) f g = (nI X, F, G) ∧ ∀ j, j < 8 → F j = nI (yM q (fun x => X.testBit x) pt w k9 201 j) ∧ G j = nI (yG w k9 (yM q (fun x => X.testBit x) pt w k9 201) j) := by
  intro m
  induction m with
  | zero =>
    intro t k f g ht h
    obtain rfl : t = 201 := by omega
    refine ⟨f, g, ?_, h⟩
    simp only [K_m_findTimes_L7, K_m_findTimes_8, K_m_findTimes_14, K_m_findTimes_21, K_m_findTimes_22, K_m_findTimes_20, K_m_findTimes_19, K_m_findTimes_18, K_m_findTimes_17, K_m_findTimes_16, K_m_findTimes_15, K_m_findTimes_13, K_m_findTimes_11, K_m_findTimes_23, K_m_findTimes_24, K_m_findTimes_12, K_m_findTimes_10, K_m_findTimes_9, K_m_findTimes_7, K_m_findTimes_5, K_m_findTimes_6, K_m_findTimes_4, K_m_findTimes_3, K_m_findTimes_2, K_m_findTimes_1, M_m_findTimes]
    rw [if_pos (by decide)]
  | succ m ih =>
    intro t k f g ht h
    have et : (nI t).toInt = (t : Int) := nI_toInt (by omega)
    have un : K_m_findTimes_L7 (nI X) (nI q) Fw Fb Tb ((k + m + 1) + 1) (nI t) f g = K_m_findTimes_L10 (nI q) (K_m_findTimes_L7 (nI X) (nI q) Fw Fb Tb (k + m + 1)) (nI t) (nI X) Fw Fb Tb f g 100000 0 256 := by
      generalize k + m + 1 = j
      simp only [K_m_findTimes_L7, K_m_findTimes_8, K_m_findTimes_14, K_m_findTimes_21, K_m_findTimes_22, K_m_findTimes_20, K_m_findTimes_19, K_m_findTimes_18, K_m_findTimes_17, K_m_findTimes_16, K_m_findTimes_15, K_m_findTimes_13, K_m_findTimes_11, K_m_findTimes_23, K_m_findTimes_24, K_m_findTimes_12, K_m_findTimes_10, K_m_findTimes_9, K_m_findTimes_7, K_m_findTimes_5, K_m_findTimes_6, K_m_findTimes_4, K_m_findTimes_3, K_m_findTimes_2, K_m_findTimes_1, M_m_findTimes]
      rw [if_neg (by omega)]
    have hlt := yM_lt (q := q) (P := fun x => X.testBit x) (pt := pt) (w := w) (k := k9) t
    have hN : yM q (fun x => X.testBit x) pt w k9 (t + 1) = yN q (fun x => X.testBit x) pt w k9 t (yM q (fun x => X.testBit x) pt w k9 t) := rfl
    obtain ⟨M, hM⟩ : ∃ M, yM q (fun x => X.testBit x) pt w k9 t = M := ⟨_, rfl⟩
    rw [hM] at h hlt hN
    have gle : ∀ j, j < q → yG w k9 M j ≤ 100000 := fun j hj => by
      unfold yG
      split
      · exact Nat.le_refl _
      · have a1 := (hw j hj).2
        have a2 := (hk j hj).2.2
        rcases hlt j with y | y
        · omega
        · omega
    have U1 : yS q (yG w k9 M) t < 256 := yS_lt q8
    have a := mt_10 (rec := K_m_findTimes_L7 (nI X) (nI q) Fw Fb Tb (k + m + 1)) (Fw := Fw) (Fb := Fb) (Tb := Tb) (f := f) (g := g) (r2 := nI X) (t := t) (G := yG w k9 M) q8 (by omega) (fun j hj => ⟨gle j hj, (h j (by omega)).2⟩) q 0 (99999 - q) (by omega)
    rw [show 99999 - q + q + 1 = 100000 from by omega] at a
    have b := mt_13 (rec := K_m_findTimes_L7 (nI X) (nI q) Fw Fb Tb (k + m + 1)) (Fw := Fw) (Fb := Fb) (f := f) (g := g) (X := X) (t := t) (M := M) hE q8 U1 (fun j hj => (hw j hj).1) (fun j hj => (hk j hj).1) (fun j hj => ⟨by rcases hlt j with y | y <;> omega, (h j (by omega)).1⟩) q 0 (99999 - q) (by omega)
    rw [show 99999 - q + q + 1 = 100000 from by omega, yF_0, yF_0] at b
    have e := un.trans (a.trans b)
    have pick : ∀ j, j < q → ((decide (M j = 100000) && (X.testBit j && hb pt j (yS q (yG w k9 M) t + 256))) = true ↔ (j < q ∧ M j = 100000 ∧ X.testBit j = true ∧ hb pt j (yS q (yG w k9 M) t + 256) = true)) := fun j hj => by
      simp only [Bool.and_eq_true, decide_eq_true_iff]
      exact ⟨fun z => ⟨hj, z⟩, fun z => z.2⟩
    obtain ⟨F, G, e1, e2⟩ := ih (t + 1) k (yF (fun j => decide (M j = 100000) && (X.testBit j && hb pt j (yS q (yG w k9 M) t + 256))) (fun _ => nI t) f q) (yF (fun j => decide (M j = 100000) && (X.testBit j && hb pt j (yS q (yG w k9 M) t + 256))) (fun j => nI (t + w j + k9 j)) g q) (by omega) (fun j hj => by
      rw [hN]
      by_cases z : j < q ∧ (decide (M j = 100000) && (X.testBit j && hb pt j (yS q (yG w k9 M) t + 256))) = true
      · have e9 : yN q (fun x => X.testBit x) pt w k9 t M j = t := if_pos ((pick j z.1).mp z.2)
        refine ⟨?_, ?_⟩
        · rw [e9]
          exact yF_t z.1 z.2
        · unfold yG
          rw [e9, if_neg (by omega)]
          exact yF_t (v := fun j => nI (t + w j + k9 j)) z.1 z.2
      · have e9 : yN q (fun x => X.testBit x) pt w k9 t M j = M j := if_neg (fun y => z ⟨y.1, (pick j y.1).mpr y⟩)
        have e8 : yG w k9 (yN q (fun x => X.testBit x) pt w k9 t M) j = yG w k9 M j := by
          unfold yG
          rw [e9]
        rw [e9, e8]
        exact ⟨(show yF (fun j => decide (M j = 100000) && (X.testBit j && hb pt j (yS q (yG w k9 M) t + 256))) (fun _ => nI t) f q j = f j from if_neg z).trans (h j hj).1, (show yF (fun j => decide (M j = 100000) && (X.testBit j && hb pt j (yS q (yG w k9 M) t + 256))) (fun j => nI (t + w j + k9 j)) g q j = g j from if_neg z).trans (h j hj).2⟩)
    exact ⟨F, G, e.trans e1, e2⟩
theorem mt_4 {Fw Fb Tb : Nat → Int32} {r2 : Int32} {q : Nat} : ∀ (m x k : Nat) (f g : Nat → Int32), x + m = 8 → ∃ f' g' : Nat → Int32, K_m_findTimes_L4 r2 (nI q) Fw Fb Tb (k + m + 1) (nI x) f g = K_m_findTimes_L7 r2 (nI q) Fw Fb Tb 100000 0 f' g' ∧ (∀ j, x ≤ j → j < 8 → f' j = 100000 ∧ g' j = 100000) ∧ ∀ j, j < x → f' j = f j ∧ g' j = g j := by
  intro m
  induction m with
  | zero =>
    intro x k f g hx
    have ex : (nI x).toInt = (x : Int) := nI_toInt (by omega)
    refine ⟨f, g, ?_, fun j h1 h2 => absurd h2 (by omega), fun j _ => ⟨rfl, rfl⟩⟩
    simp only [K_m_findTimes_L4, K_m_findTimes_8, K_m_findTimes_14, K_m_findTimes_21, K_m_findTimes_22, K_m_findTimes_20, K_m_findTimes_19, K_m_findTimes_18, K_m_findTimes_17, K_m_findTimes_16, K_m_findTimes_15, K_m_findTimes_13, K_m_findTimes_11, K_m_findTimes_23, K_m_findTimes_24, K_m_findTimes_12, K_m_findTimes_10, K_m_findTimes_9, K_m_findTimes_7, K_m_findTimes_5, K_m_findTimes_6, K_m_findTimes_4, K_m_findTimes_3, K_m_findTimes_2, K_m_findTimes_1, M_m_findTimes]
    rw [if_pos (by omega)]
  | succ m ih =>
    intro x k f g hx
    have ex : (nI x).toInt = (x : Int) := nI_toInt (by omega)
    have exc : (nI x).toNatClampNeg = x := nI_clamp (by omega)
    obtain ⟨f', g', a1, a2, a3⟩ := ih (x + 1) k (upd f x 100000) (upd g x 100000) (by omega)
    refine ⟨f', g', ?_, fun j h1 h2 => ?_, fun j hj => ?_⟩
    · rw [← a1]
      show K_m_findTimes_L4 r2 (nI q) Fw Fb Tb ((k + m + 1) + 1) (nI x) f g = _
      generalize k + m + 1 = j
      simp only [K_m_findTimes_L4, K_m_findTimes_8, K_m_findTimes_14, K_m_findTimes_21, K_m_findTimes_22, K_m_findTimes_20, K_m_findTimes_19, K_m_findTimes_18, K_m_findTimes_17, K_m_findTimes_16, K_m_findTimes_15, K_m_findTimes_13, K_m_findTimes_11, K_m_findTimes_23, K_m_findTimes_24, K_m_findTimes_12, K_m_findTimes_10, K_m_findTimes_9, K_m_findTimes_7, K_m_findTimes_5, K_m_findTimes_6, K_m_findTimes_4, K_m_findTimes_3, K_m_findTimes_2, K_m_findTimes_1, M_m_findTimes]
      rw [if_neg (by omega), exc, nI_1]
    · by_cases y : j = x
      · rw [y, (a3 x (by omega)).1, (a3 x (by omega)).2, xupd_s, xupd_s]
        exact ⟨rfl, rfl⟩
      · exact a2 j (by omega) h2
    · rw [(a3 j (by omega)).1, (a3 j (by omega)).2, xupd_o (by omega), xupd_o (by omega)]
      exact ⟨rfl, rfl⟩
/-- those that can be up -/
def yX (q : Nat) (pt : Nat → Int64) (d : Int32) : Nat := xit (xCm pt (nI (xDb q d))) q 9 0
theorem yX_lt {q : Nat} {pt : Nat → Int64} {d : Int32} (q8 : q ≤ 8) : yX q pt d < 256 := xit_lt q8 9 0 (by decide)
/-- the times as both sides find them -/
def yT (q : Nat) (pt : Nat → Int64) (d : Int32) (w k : Nat → Nat) : Nat → Nat := yM q (fun x => (yX q pt d).testBit x) pt w k 201
theorem r_find {Fw Fb Tb Fm Fg D pn Td Nm : Nat → Int32} {pt : Nat → Int64} {w k9 : Nat → Nat} {wt : Bool} {q : Nat} {d : Int32} (hE : xE wt q pn pt Td Nm Tb) (q8 : q ≤ 8) (hd : xDd d D) (hw : ∀ j, j < q → Fw j = nI (w j) ∧ w j ≤ 9) (hk : ∀ j, j < q → Fb j = nI (k9 j) ∧ 1 ≤ k9 j ∧ k9 j ≤ 9) : ∃ F G : Nat → Int32, M_m_findTimes (nI q) Fw Fb Tb Fm Fg D = (nI (yX q pt d), F, G) ∧ ∀ j, j < 8 → F j = nI (yT q pt d w k9 j) ∧ G j = nI (yG w k9 (yT q pt d w k9) j) := by
  obtain ⟨f', g', a1, a2, -⟩ := mt_4 (Fw := Fw) (Fb := Fb) (Tb := Tb) (r2 := nI (yX q pt d)) (q := q) 8 0 99991 Fm Fg (by decide)
  obtain ⟨F, G, b1, b2⟩ := mt_7 (X := yX q pt d) hE q8 hw hk 201 0 99798 f' g' (by decide) (fun j hj => by
    obtain ⟨c1, c2⟩ := a2 j (by omega) hj
    exact ⟨c1, c2⟩)
  refine ⟨F, G, ?_, b2⟩
  rw [← b1]
  refine Eq.trans ?_ a1
  simp only [K_m_findTimes_8, K_m_findTimes_14, K_m_findTimes_21, K_m_findTimes_22, K_m_findTimes_20, K_m_findTimes_19, K_m_findTimes_18, K_m_findTimes_17, K_m_findTimes_16, K_m_findTimes_15, K_m_findTimes_13, K_m_findTimes_11, K_m_findTimes_23, K_m_findTimes_24, K_m_findTimes_12, K_m_findTimes_10, K_m_findTimes_9, K_m_findTimes_7, K_m_findTimes_5, K_m_findTimes_6, K_m_findTimes_4, K_m_findTimes_3, K_m_findTimes_2, K_m_findTimes_1, M_m_findTimes]
  rw [r_dead hd q8, r_up2 hE q8]
  rfl
-- 98.d.fix
/-- more GOOD, no less that may -/
def yMono (q : Nat) (pt : Nat → Int64) : Prop := ∀ r, r < q → ∀ s t, s < 512 → t < 512 → (∀ k, k < 9 → s.testBit k = true → t.testBit k = true) → hb pt r s = true → hb pt r t = true
theorem xE_mono {wt : Bool} {q : Nat} {pn Td Nm Tb : Nat → Int32} {pt : Nat → Int64} (h : xE wt q pn pt Td Nm Tb) : yMono q pt := fun r hr s t hs ht hst hv => (h r hr).2.2.2.1 s t hs ht (fun k hk _ z => hst k hk z) hv
theorem y_mono {q g h r : Nat} {pt : Nat → Int64} (m : yMono q pt) (hg : g < 256) (hh : h < 256) (hr : r < q) (s : ∀ j, g.testBit j = true → h.testBit j = true) (a : hb pt r (g + 256) = true) : hb pt r (h + 256) = true := m r hr (g + 256) (h + 256) (by omega) (by omega) (fun k hk z => by
  rw [y_bit256 ⟨g, hg⟩ ⟨k, hk⟩, Bool.or_eq_true] at z
  rw [y_bit256 ⟨h, hh⟩ ⟨k, hk⟩, Bool.or_eq_true]
  exact z.elim Or.inl (fun y => Or.inr (s k y))) a
theorem xit_fix {C : Nat → Nat → Bool} {q : Nat} (q8 : q ≤ 8) : ∀ k g, g < 256 → 9 ≤ xpc g + k → xup (C (xit C q k g)) q (xit C q k g) = xit C q k g := by
  intro k
  induction k with
  | zero =>
    intro g _ h
    have := xpc_le g
    omega
  | succ k ih =>
    intro g hg h
    by_cases z : xup (C g) q g = g
    · rw [show xit C q (k + 1) g = g from by unfold xit; exact if_pos z]
      exact z
    · rw [show xit C q (k + 1) g = xit C q k (xup (C g) q g) from by conv => lhs; unfold xit; rw [if_neg z]]
      have := xup_pc hg q8 z
      exact ih _ (xup_lt hg q q8) (by omega)
theorem xit_sub {C : Nat → Nat → Bool} {q Z : Nat} (q8 : q ≤ 8) (hZ : ∀ g r, g < 256 → r < q → (∀ j, g.testBit j = true → Z.testBit j = true) → C g r = true → Z.testBit r = true) : ∀ k g, g < 256 → (∀ j, g.testBit j = true → Z.testBit j = true) → ∀ j, (xit C q k g).testBit j = true → Z.testBit j = true := by
  intro k
  induction k with
  | zero => exact fun g _ h => h
  | succ k ih =>
    intro g hg h
    unfold xit
    split
    · exact h
    · refine ih _ (xup_lt hg q q8) (fun j hj => ?_)
      rw [xup_bit, Bool.or_eq_true, Bool.and_eq_true, decide_eq_true_iff] at hj
      rcases hj with y | ⟨y1, y2⟩
      · exact h j y
      · exact hZ g j hg y1 h y2
/-- what can be up is closed -/
theorem yX_closed {q : Nat} {pt : Nat → Int64} {d : Int32} (q8 : q ≤ 8) {r : Nat} (hr : r < q) (a : xb (nI (xDb q d)) r = false) (b : hb pt r (yX q pt d + 256) = true) : (yX q pt d).testBit r = true := by
  have z := xit_fix (C := xCm pt (nI (xDb q d))) q8 9 0 (by decide) (by decide)
  rw [show xit (xCm pt (nI (xDb q d))) q 9 0 = yX q pt d from rfl] at z
  rw [← z, xup_bit]
  have e : xCm pt (nI (xDb q d)) (yX q pt d) r = true := by unfold xCm; rw [a, b]; rfl
  simp [e, hr]
theorem yX_alive {q : Nat} {pt : Nat → Int64} {d : Int32} (q8 : q ≤ 8) {r : Nat} (h : (yX q pt d).testBit r = true) : r < q ∧ xb (nI (xDb q d)) r = false := by
  have a : ∀ k g : Nat, (∀ j, g.testBit j = true → j < q ∧ xb (nI (xDb q d)) j = false) → ∀ j, (xit (xCm pt (nI (xDb q d))) q k g).testBit j = true → j < q ∧ xb (nI (xDb q d)) j = false := by
    intro k
    induction k with
    | zero => exact fun g h => h
    | succ k ih =>
      intro g h
      unfold xit
      split
      · exact h
      · refine ih _ (fun j hj => ?_)
        rw [xup_bit, Bool.or_eq_true, Bool.and_eq_true, decide_eq_true_iff] at hj
        rcases hj with y | ⟨y1, y2⟩
        · exact h j y
        · unfold xCm at y2
          rw [Bool.and_eq_true] at y2
          refine ⟨y1, ?_⟩
          cases e : xb (nI (xDb q d)) j with
          | false => rfl
          | true => rw [e] at y2; exact absurd y2.1 (by decide)
  exact a 9 0 (fun j hj => by rw [Nat.zero_testBit] at hj; exact absurd hj (by decide)) r h
/-- who may be raised at all does not matter beyond what can be up -/
theorem yM_P {q : Nat} {P : Nat → Bool} {pt : Nat → Int64} {w k9 : Nat → Nat} {d : Int32} (q8 : q ≤ 8) (m : yMono q pt) (hP : ∀ j, j < q → (P j = true → xb (nI (xDb q d)) j = false) ∧ ((yX q pt d).testBit j = true → P j = true)) : ∀ t, t ≤ 100000 → yM q P pt w k9 t = yM q (fun x => (yX q pt d).testBit x) pt w k9 t := by
  intro t
  induction t with
  | zero => exact fun _ => rfl
  | succ t ih =>
    intro ht
    have i9 := ih (by omega)
    show yN q P pt w k9 t (yM q P pt w k9 t) = yN q (fun x => (yX q pt d).testBit x) pt w k9 t (yM q (fun x => (yX q pt d).testBit x) pt w k9 t)
    rw [i9]
    have hlt := yM_lt (q := q) (P := fun x => (yX q pt d).testBit x) (pt := pt) (w := w) (k := k9) t
    generalize yM q (fun x => (yX q pt d).testBit x) pt w k9 t = M at hlt
    have sub : ∀ j, (yS q (yG w k9 M) t).testBit j = true → (yX q pt d).testBit j = true := fun j hj => by
      rw [yS_bit, Bool.and_eq_true, decide_eq_true_iff, decide_eq_true_iff] at hj
      rcases hlt j with y | y
      · have e : yG w k9 M j = 100000 := if_pos y
        omega
      · exact y.2.2
    funext x
    unfold yN
    by_cases z : x < q ∧ M x = 100000 ∧ P x = true ∧ hb pt x (yS q (yG w k9 M) t + 256) = true
    · rw [if_pos z, if_pos ⟨z.1, z.2.1, yX_closed q8 z.1 ((hP x z.1).1 z.2.2.1) (y_mono m (yS_lt q8) (yX_lt q8) z.1 sub z.2.2.2), z.2.2.2⟩]
    · rw [if_neg z, if_neg (fun y => z ⟨y.1, y.2.1, (hP x y.1).2 y.2.2.1, y.2.2.2⟩)]
/-- all that can be up come up, in the end -/
theorem yE_all {q : Nat} {P : Nat → Bool} {pt : Nat → Int64} {w k9 : Nat → Nat} {d : Int32} {R : Int32 × Int32 × (Nat → Int32) × (Nat → Int32)} (q8 : q ≤ 8) (m : yMono q pt) (hP : ∀ j, j < q → (P j = true → xb (nI (xDb q d)) j = false) ∧ ((yX q pt d).testBit j = true → P j = true)) (hX : ∀ j, j < q → xb (nI (xDb q d)) j = false → P j = true ∨ (yX q pt d).testBit j = false) (h : yPost q P pt w k9 R) : yE q (yT q pt d w k9) = yX q pt d := by
  obtain ⟨-, -, -, h4⟩ := h
  rw [yM_P q8 m hP 201 (by decide)] at h4
  have eb : ∀ j, (yE q (yT q pt d w k9)).testBit j = true ↔ (j < q ∧ yT q pt d w k9 j ≠ 100000) := fun j => by
    unfold yE
    rw [xup_bit, Nat.zero_testBit, Bool.false_or, Bool.and_eq_true, decide_eq_true_iff, decide_eq_true_iff]
  have el : yE q (yT q pt d w k9) < 256 := xup_lt (by decide) q q8
  have hlt := yM_lt (q := q) (P := fun x => (yX q pt d).testBit x) (pt := pt) (w := w) (k := k9) 201
  refine Nat.eq_of_testBit_eq (fun j => Bool.eq_iff_iff.mpr ⟨fun z => ?_, fun z => ?_⟩)
  · obtain ⟨z1, z2⟩ := (eb j).mp z
    rcases hlt j with y | y
    · exact absurd y z2
    · exact y.2.2
  · refine xit_sub (C := xCm pt (nI (xDb q d))) q8 (fun g r hg hr hs hc => ?_) 9 0 (by decide) (fun j hj => by rw [Nat.zero_testBit] at hj; exact absurd hj (by decide)) j z
    unfold xCm at hc
    rw [Bool.and_eq_true] at hc
    have a : xb (nI (xDb q d)) r = false := by
      cases e : xb (nI (xDb q d)) r with
      | false => rfl
      | true => rw [e] at hc; exact absurd hc.1 (by decide)
    have b := y_mono m hg el hr hs hc.2
    refine (eb r).mpr ⟨hr, ?_⟩
    rcases hX r hr a with y | y
    · exact h4 r hr y b
    · exfalso
      have sub : ∀ j, (yE q (yT q pt d w k9)).testBit j = true → (yX q pt d).testBit j = true := fun j hj => by
        obtain ⟨z1, z2⟩ := (eb j).mp hj
        rcases hlt j with y | y
        · exact absurd y z2
        · exact y.2.2
      have c := yX_closed q8 hr a (y_mono m el (yX_lt q8) hr sub b)
      rw [c] at y
      exact absurd y (by decide)
-- 98.e.peak
theorem y_sub {a b c : Int32} : (a + b) + (c - b) = a + c := by
  rw [Int32.add_assoc, Int32.add_comm b (c - b), Int32.sub_add_cancel]
/-- what a RAIL draws at t -/
def yV (n3 n4 : Nat → Int32) (w M G : Nat → Nat) (t x : Nat) : Int32 := if G x ≤ t then n3 x else if M x ≠ 100000 ∧ M x + w x ≤ t then n4 x else 0
/-- the sum of the first n -/
def yD (v : Nat → Int32) : Nat → Int32
  | 0 => 0
  | n + 1 => yD v n + v n
theorem yD_ext {v u : Nat → Int32} : ∀ n, (∀ x, x < n → v x = u x) → yD v n = yD u n := by
  intro n
  induction n with
  | zero => exact fun _ => rfl
  | succ n ih =>
    intro h
    rw [yD, yD, ih (fun x hx => h x (by omega)), h n (by omega)]
theorem yD_rng {v : Nat → Int32} : ∀ n : Nat, n ≤ 8 → (∀ x, x < n → 0 ≤ (v x).toInt ∧ (v x).toInt ≤ 511) → 0 ≤ (yD v n).toInt ∧ (yD v n).toInt ≤ 511 * (n : Int) := by
  intro n
  induction n with
  | zero => exact fun _ _ => ⟨by show 0 ≤ (0 : Int32).toInt; decide, by show (0 : Int32).toInt ≤ 511 * ((0 : Nat) : Int); decide⟩
  | succ n ih =>
    intro hn h
    obtain ⟨a1, a2⟩ := ih (by omega) (fun x hx => h x (by omega))
    obtain ⟨b1, b2⟩ := h n (by omega)
    have e : (yD v n + v n).toInt = (yD v n).toInt + (v n).toInt := xadd rfl rfl (by omega) (by omega)
    rw [yD, e]
    exact ⟨by omega, by omega⟩
theorem t_isUp {X r : Int32} : M_isUp X r = if ((X >>> (r &&& 31)) &&& (1 : Int32)).toInt = 1 then 1 else 0 := by
  simp only [K_isUp_3, K_isUp_2, K_isUp_1, M_isUp]
/-- the class: what is drawn at t -/
theorem cd_in {fr fg pn n3 n4 : Nat → Int32} {w M G : Nat → Nat} {q X t : Nat} (q8 : q ≤ 8) (ht : t ≤ 1000) (h3 : ∀ x, x < q → pn (8 * x + 3) = n3 x ∧ pn (8 * x + 4) = n4 x) (hX : ∀ x, x < q → (X.testBit x = true ↔ M x ≠ 100000)) (hG : ∀ x, x < q → M x = 100000 → G x = 100000) (hf : ∀ x, x < q → M x ≠ 100000 → fr x = nI (M x + w x) ∧ fg x = nI (G x) ∧ M x + w x ≤ G x ∧ G x ≤ 1000) : ∀ (m x k : Nat), x + m = q → K_drawnAt_L2 (nI q) (nI t) fg fr pn (nI X) (k + m + 1) (nI x) (yD (yV n3 n4 w M G t) x) = yD (yV n3 n4 w M G t) q := by
  have qq : (nI q).toInt = (q : Int) := nI_toInt (by omega)
  have tt : (nI t).toInt = (t : Int) := nI_toInt (by omega)
  intro m
  induction m with
  | zero =>
    intro x k hx
    have ex : (nI x).toInt = (x : Int) := nI_toInt (by omega)
    obtain rfl : x = q := by omega
    simp only [K_drawnAt_L2, K_drawnAt_3, K_drawnAt_7, K_drawnAt_10, K_drawnAt_12, K_drawnAt_11, K_drawnAt_8, K_drawnAt_13, K_drawnAt_9, K_drawnAt_6, K_drawnAt_5, K_drawnAt_4, K_drawnAt_2, K_drawnAt_1, M_drawnAt]
    rw [if_pos (by omega)]
  | succ m ih =>
    intro x k hx
    have ex : (nI x).toInt = (x : Int) := nI_toInt (by omega)
    have exc : (nI x).toNatClampNeg = x := nI_clamp (by omega)
    obtain ⟨p3, p4⟩ := h3 x (by omega)
    have z := ih (x + 1) k (by omega)
    rw [← z]
    show K_drawnAt_L2 (nI q) (nI t) fg fr pn (nI X) ((k + m + 1) + 1) (nI x) _ = _
    generalize k + m + 1 = j
    simp only [K_drawnAt_L2, K_drawnAt_3, K_drawnAt_7, K_drawnAt_10, K_drawnAt_12, K_drawnAt_11, K_drawnAt_8, K_drawnAt_13, K_drawnAt_9, K_drawnAt_6, K_drawnAt_5, K_drawnAt_4, K_drawnAt_2, K_drawnAt_1, M_drawnAt]
    rw [if_neg (by omega), exc, nI_1, show M_number pn (nI x) 4 = n4 x from (t_nb (k := 4) (by omega) (by decide)).trans p4, show M_number pn (nI x) 3 = n3 x from (t_nb (k := 3) (by omega) (by decide)).trans p3, show yD (yV n3 n4 w M G t) (x + 1) = yD (yV n3 n4 w M G t) x + yV n3 n4 w M G t x from rfl, t_isUp]
    have bt : ((nI X >>> (nI x &&& 31)) &&& (1 : Int32)).toInt = 1 ↔ X.testBit x = true := by rw [xsr_1 (nI X) (by omega), xb_nI (by omega)]
    by_cases a : M x = 100000
    · rw [if_neg (fun y => (hX x (by omega)).mp (bt.mp y) a), if_pos (by decide)]
      have e : yV n3 n4 w M G t x = 0 := by
        unfold yV
        rw [hG x (by omega) a, if_neg (by omega), if_neg (fun y => y.1 a)]
      rw [e, xadd0]
    · obtain ⟨f1, f2, f3, f4⟩ := hf x (by omega) a
      have e1 : (nI (M x + w x)).toInt = ((M x + w x : Nat) : Int) := nI_toInt (by omega)
      have e2 : (nI (G x)).toInt = ((G x : Nat) : Int) := nI_toInt (by omega)
      rw [if_pos (bt.mpr ((hX x (by omega)).mpr a)), if_neg (by decide), f1, f2]
      unfold yV
      by_cases b : G x ≤ t
      · rw [if_neg (by omega), if_pos b]
      · rw [if_pos (by omega), if_neg b]
        by_cases c : M x + w x ≤ t
        · rw [if_neg (by omega), if_pos ⟨a, c⟩]
        · rw [if_pos (by omega), if_neg (fun y => c y.2), xadd0]
theorem t_drawnAt {fr fg pn n3 n4 : Nat → Int32} {w M G : Nat → Nat} {q X t : Nat} (q8 : q ≤ 8) (ht : t ≤ 1000) (h3 : ∀ x, x < q → pn (8 * x + 3) = n3 x ∧ pn (8 * x + 4) = n4 x) (hX : ∀ x, x < q → (X.testBit x = true ↔ M x ≠ 100000)) (hG : ∀ x, x < q → M x = 100000 → G x = 100000) (hf : ∀ x, x < q → M x ≠ 100000 → fr x = nI (M x + w x) ∧ fg x = nI (G x) ∧ M x + w x ≤ G x ∧ G x ≤ 1000) : M_drawnAt (nI q) (nI t) fg fr pn (nI X) = yD (yV n3 n4 w M G t) q := by
  have z := cd_in q8 ht h3 hX hG hf q 0 (99999 - q) (by omega)
  rw [show 99999 - q + q + 1 = 100000 from by omega] at z
  exact z
/-- the reference: what those of two sets draw -/
theorem md_of {Td n3 n4 : Nat → Int32} {q a b : Nat} (q8 : q ≤ 8) (h3 : ∀ x, x < q → Td (7 * x + 3) = n3 x ∧ Td (7 * x + 4) = n4 x) : ∀ (m x k : Nat), x + m = q → K_m_drawnOf_L2 (nI q) (nI a) Td (nI b) (k + m + 1) (nI x) (yD (fun x => if a.testBit x = true then n3 x else if b.testBit x = true then n4 x else 0) x) = yD (fun x => if a.testBit x = true then n3 x else if b.testBit x = true then n4 x else 0) q := by
  have qq : (nI q).toInt = (q : Int) := nI_toInt (by omega)
  intro m
  induction m with
  | zero =>
    intro x k hx
    have ex : (nI x).toInt = (x : Int) := nI_toInt (by omega)
    obtain rfl : x = q := by omega
    simp only [K_m_drawnOf_L2, K_m_drawnOf_3, K_m_drawnOf_10, K_m_drawnOf_6, K_m_drawnOf_9, K_m_drawnOf_8, K_m_drawnOf_7, K_m_drawnOf_5, K_m_drawnOf_4, K_m_drawnOf_2, K_m_drawnOf_1, M_m_drawnOf]
    rw [if_pos (by omega)]
  | succ m ih =>
    intro x k hx
    have ex : (nI x).toInt = (x : Int) := nI_toInt (by omega)
    obtain ⟨p3, p4⟩ := h3 x (by omega)
    have z := ih (x + 1) k (by omega)
    rw [← z]
    show K_m_drawnOf_L2 (nI q) (nI a) Td (nI b) ((k + m + 1) + 1) (nI x) _ = _
    generalize k + m + 1 = j
    simp only [K_m_drawnOf_L2, K_m_drawnOf_3, K_m_drawnOf_10, K_m_drawnOf_6, K_m_drawnOf_9, K_m_drawnOf_8, K_m_drawnOf_7, K_m_drawnOf_5, K_m_drawnOf_4, K_m_drawnOf_2, K_m_drawnOf_1, M_m_drawnOf]
    rw [if_neg (by omega), nI_1, show M_m_of Td (nI x) 4 = n4 x from (t_of7 (k := 4) (by omega) (by decide)).trans p4, show M_m_of Td (nI x) 3 = n3 x from (t_of7 (k := 3) (by omega) (by decide)).trans p3, show yD (fun x => if a.testBit x = true then n3 x else if b.testBit x = true then n4 x else 0) (x + 1) = yD (fun x => if a.testBit x = true then n3 x else if b.testBit x = true then n4 x else 0) x + (if a.testBit x = true then n3 x else if b.testBit x = true then n4 x else 0) from rfl]
    have ba : ((nI a >>> (nI x &&& 31)) &&& (1 : Int32)).toInt = 1 ↔ a.testBit x = true := by rw [xsr_1 (nI a) (by omega), xb_nI (by omega)]
    have bb : ((nI b >>> (nI x &&& 31)) &&& (1 : Int32)).toInt = 1 ↔ b.testBit x = true := by rw [xsr_1 (nI b) (by omega), xb_nI (by omega)]
    by_cases u : a.testBit x = true
    · rw [if_pos (ba.mpr u), if_pos u]
    · rw [if_neg (fun y => u (ba.mp y)), if_neg u]
      by_cases v : b.testBit x = true
      · rw [if_pos (bb.mpr v), if_pos v]
      · rw [if_neg (fun y => v (bb.mp y)), if_neg v]
theorem md_in {Fm Fg Fw Td n3 n4 : Nat → Int32} {w M G : Nat → Nat} {q t : Nat} (q8 : q ≤ 8) (ht : t ≤ 1000) (h3 : ∀ x, x < q → Td (7 * x + 3) = n3 x ∧ Td (7 * x + 4) = n4 x) (hG : ∀ x, x < q → M x = 100000 → G x = 100000) (hf : ∀ x, x < q → Fm x = nI (M x) ∧ Fg x = nI (G x) ∧ Fw x = nI (w x) ∧ M x ≤ 100000 ∧ G x ≤ 100000 ∧ w x ≤ 9) : ∀ (m x k : Nat), x + m = q → K_m_drawnAt_L2 (nI q) Td (nI t) Fg Fm Fw (k + m + 1) (nI x) (nI (xup (fun x => decide (M x ≠ 100000 ∧ M x + w x ≤ t ∧ t < G x)) x 0)) (nI (xup (fun x => decide (G x ≤ t)) x 0)) = yD (yV n3 n4 w M G t) q := by
  have qq : (nI q).toInt = (q : Int) := nI_toInt (by omega)
  have tt : (nI t).toInt = (t : Int) := nI_toInt (by omega)
  intro m
  induction m with
  | zero =>
    intro x k hx
    have ex : (nI x).toInt = (x : Int) := nI_toInt (by omega)
    obtain rfl : x = q := by omega
    simp only [K_m_drawnAt_L2, K_m_drawnAt_5, K_m_drawnAt_3, K_m_drawnAt_8, K_m_drawnAt_10, K_m_drawnAt_12, K_m_drawnAt_13, K_m_drawnAt_11, K_m_drawnAt_9, K_m_drawnAt_6, K_m_drawnAt_14, K_m_drawnAt_16, K_m_drawnAt_18, K_m_drawnAt_19, K_m_drawnAt_17, K_m_drawnAt_15, K_m_drawnAt_7, K_m_drawnAt_4, K_m_drawnAt_2, K_m_drawnAt_1, M_m_drawnAt]
    rw [if_pos (by omega)]
    have z := md_of (Td := Td) (n3 := n3) (n4 := n4) (a := xup (fun x => decide (G x ≤ t)) x 0) (b := xup (fun x => decide (M x ≠ 100000 ∧ M x + w x ≤ t ∧ t < G x)) x 0) q8 h3 x 0 (99999 - x) (by omega)
    rw [show 99999 - x + x + 1 = 100000 from by omega] at z
    refine Eq.trans (show M_m_drawnOf _ _ _ _ = _ from z) (yD_ext x (fun y hy => ?_))
    rw [xup_bit, xup_bit, Nat.zero_testBit, Bool.false_or, Bool.false_or]
    unfold yV
    by_cases a : G y ≤ t
    · rw [if_pos a, if_pos (by simp [hy, a])]
    · rw [if_neg a, if_neg (by simp [a])]
      by_cases b : M y ≠ 100000 ∧ M y + w y ≤ t
      · rw [if_pos b, if_pos (by simp only [Bool.and_eq_true, decide_eq_true_iff]; exact ⟨hy, b.1, b.2, by omega⟩)]
      · rw [if_neg b, if_neg (by simp only [Bool.and_eq_true, decide_eq_true_iff]; exact fun z => b ⟨z.2.1, z.2.2.1⟩)]
  | succ m ih =>
    intro x k hx
    have ex : (nI x).toInt = (x : Int) := nI_toInt (by omega)
    have exc : (nI x).toNatClampNeg = x := nI_clamp (by omega)
    obtain ⟨f1, f2, f3, f4, f5, f6⟩ := hf x (by omega)
    have e1 : (nI (M x)).toInt = ((M x : Nat) : Int) := nI_toInt (by omega)
    have e2 : (nI (G x)).toInt = ((G x : Nat) : Int) := nI_toInt (by omega)
    have e3 : (nI (M x + w x)).toInt = ((M x + w x : Nat) : Int) := nI_toInt (by omega)
    have l1 := xup_lt (c := fun x => decide (M x ≠ 100000 ∧ M x + w x ≤ t ∧ t < G x)) (g := 0) (by decide) x (by omega)
    have l2 := xup_lt (c := fun x => decide (G x ≤ t)) (g := 0) (by decide) x (by omega)
    have z := ih (x + 1) k (by omega)
    rw [← z]
    show K_m_drawnAt_L2 (nI q) Td (nI t) Fg Fm Fw ((k + m + 1) + 1) (nI x) _ _ = _
    generalize k + m + 1 = j
    simp only [K_m_drawnAt_L2, K_m_drawnAt_5, K_m_drawnAt_3, K_m_drawnAt_8, K_m_drawnAt_10, K_m_drawnAt_12, K_m_drawnAt_13, K_m_drawnAt_11, K_m_drawnAt_9, K_m_drawnAt_6, K_m_drawnAt_14, K_m_drawnAt_16, K_m_drawnAt_18, K_m_drawnAt_19, K_m_drawnAt_17, K_m_drawnAt_15, K_m_drawnAt_7, K_m_drawnAt_4, K_m_drawnAt_2, K_m_drawnAt_1, M_m_drawnAt]
    rw [if_neg (by omega), exc, nI_1, f1, f2, f3, nI_add, xup_st, xup_st]
    by_cases a : G x ≤ t
    · have c2 : (fun x => decide (G x ≤ t)) x = true := decide_eq_true a
      have c1 : ¬ (fun x => decide (M x ≠ 100000 ∧ M x + w x ≤ t ∧ t < G x)) x = true := fun y => by
        have := (of_decide_eq_true y).2.2
        omega
      rw [if_neg (by omega), if_pos c2, if_neg c1, x_put l2 (by omega), xor00]
      by_cases b : M x = 100000
      · rw [if_pos (by omega)]
      · rw [if_neg (by omega)]
        by_cases c : M x + w x ≤ t
        · rw [if_neg (by omega), if_pos (by omega)]
        · rw [if_pos (by omega)]
    · have c2 : ¬ (fun x => decide (G x ≤ t)) x = true := fun y => a (of_decide_eq_true y)
      rw [if_pos (by omega), if_neg c2, xor00]
      by_cases b : M x = 100000
      · have c1 : ¬ (fun x => decide (M x ≠ 100000 ∧ M x + w x ≤ t ∧ t < G x)) x = true := fun y => (of_decide_eq_true y).1 b
        rw [if_pos (by omega), if_neg c1, xor00]
      · rw [if_neg (by omega)]
        by_cases c : M x + w x ≤ t
        · have c1 : (fun x => decide (M x ≠ 100000 ∧ M x + w x ≤ t ∧ t < G x)) x = true := decide_eq_true ⟨b, c, by omega⟩
          rw [if_neg (by omega), if_neg (by omega), if_pos c1, x_put l1 (by omega), xor00]
        · have c1 : ¬ (fun x => decide (M x ≠ 100000 ∧ M x + w x ≤ t ∧ t < G x)) x = true := fun y => c (of_decide_eq_true y).2.1
          rw [if_pos (by omega), if_neg c1, xor00]
theorem r_drawnAt {Fm Fg Fw Td n3 n4 : Nat → Int32} {w M G : Nat → Nat} {q t : Nat} (q8 : q ≤ 8) (ht : t ≤ 1000) (h3 : ∀ x, x < q → Td (7 * x + 3) = n3 x ∧ Td (7 * x + 4) = n4 x) (hG : ∀ x, x < q → M x = 100000 → G x = 100000) (hf : ∀ x, x < q → Fm x = nI (M x) ∧ Fg x = nI (G x) ∧ Fw x = nI (w x) ∧ M x ≤ 100000 ∧ G x ≤ 100000 ∧ w x ≤ 9) : M_m_drawnAt (nI q) Td (nI t) Fg Fm Fw = yD (yV n3 n4 w M G t) q := by
  have z := md_in q8 ht h3 hG hf q 0 (99999 - q) (by omega)
  rw [show 99999 - q + q + 1 = 100000 from by omega] at z
  exact z
/-- the highest so far, and when it was first -/
def yPk (D : Nat → Int32) : Nat → Int32 × Int32
  | 0 => (D 0, 0)
  | t + 1 => if (D (t + 1)).toInt ≤ (yPk D t).1.toInt then yPk D t else (D (t + 1), nI (t + 1))
theorem yPk_ge {D : Nat → Int32} (t : Nat) : (D t).toInt ≤ (yPk D t).1.toInt := by
  cases t with
  | zero => exact Int.le_refl _
  | succ t =>
    rw [yPk]
    split
    · assumption
    · exact Int.le_refl _
theorem yPk_end {D : Nat → Int32} {T B : Nat} (h : ∀ t, T ≤ t → t ≤ B → D t = D T) : ∀ d, T + d ≤ B → yPk D (T + d) = yPk D T := by
  intro d
  induction d with
  | zero => exact fun _ => rfl
  | succ d ih =>
    intro hd
    show yPk D ((T + d) + 1) = yPk D T
    rw [yPk, ih (by omega), h (T + d + 1) (by omega) (by omega), if_pos (yPk_ge T)]
/-- the reference's peak -/
theorem mp_in {Td Fg Fm Fw : Nat → Int32} {D : Nat → Int32} {q : Nat} (hD : ∀ t, t ≤ 200 → M_m_drawnAt (nI q) Td (nI t) Fg Fm Fw = D t) : ∀ (m t k : Nat), t + m = 200 → K_m_peakNow_L2 (nI q) Td Fg Fm Fw (k + m + 1) (nI (t + 1)) (yPk D t).1 (yPk D t).2 = yPk D 200 := by
  intro m
  induction m with
  | zero =>
    intro t k ht
    obtain rfl : t = 200 := by omega
    simp only [K_m_peakNow_L2, K_m_peakNow_3, K_m_peakNow_8, K_m_peakNow_9, K_m_peakNow_6, K_m_peakNow_10, K_m_peakNow_11, K_m_peakNow_7, K_m_peakNow_5, K_m_peakNow_4, K_m_peakNow_2, K_m_peakNow_1, M_m_peakNow]
    rw [if_pos (by decide)]
  | succ m ih =>
    intro t k ht
    have et : (nI (t + 1)).toInt = ((t + 1 : Nat) : Int) := nI_toInt (by omega)
    have z := ih (t + 1) k (by omega)
    rw [← z]
    show K_m_peakNow_L2 (nI q) Td Fg Fm Fw ((k + m + 1) + 1) (nI (t + 1)) _ _ = _
    generalize k + m + 1 = j
    simp only [K_m_peakNow_L2, K_m_peakNow_3, K_m_peakNow_8, K_m_peakNow_9, K_m_peakNow_6, K_m_peakNow_10, K_m_peakNow_11, K_m_peakNow_7, K_m_peakNow_5, K_m_peakNow_4, K_m_peakNow_2, K_m_peakNow_1, M_m_peakNow]
    rw [if_neg (by omega), hD (t + 1) (by omega), nI_1, show yPk D (t + 1) = if (D (t + 1)).toInt ≤ (yPk D t).1.toInt then yPk D t else (D (t + 1), nI (t + 1)) from rfl]
    by_cases a : (D (t + 1)).toInt ≤ (yPk D t).1.toInt
    · rw [if_pos a, if_pos a, if_pos a]
    · rw [if_neg a, if_neg a, if_neg a]
theorem r_peak {Td Fg Fm Fw : Nat → Int32} {D : Nat → Int32} {q : Nat} {pa : Int32} (hD : ∀ t, t ≤ 200 → M_m_drawnAt (nI q) Td (nI t) Fg Fm Fw = D t) (h0 : 0 ≤ (D 0).toInt) : M_m_peakNow (nI q) Td Fg Fm Fw pa = yPk D 200 := by
  have z := mp_in hD 200 0 99798 (by decide)
  rw [← z]
  show K_m_peakNow_L2 (nI q) Td Fg Fm Fw (99999 + 1) 0 (-1) pa = _
  generalize hj : (99999 : Nat) = j
  rw [show 99798 + 200 + 1 = j from by omega]
  simp only [K_m_peakNow_L2, K_m_peakNow_3, K_m_peakNow_8, K_m_peakNow_9, K_m_peakNow_6, K_m_peakNow_10, K_m_peakNow_11, K_m_peakNow_7, K_m_peakNow_5, K_m_peakNow_4, K_m_peakNow_2, K_m_peakNow_1, M_m_peakNow]
  have m1 : (-1 : Int32).toInt = -1 := by decide
  have hz : M_m_drawnAt (nI q) Td 0 Fg Fm Fw = D 0 := hD 0 (by decide)
  rw [if_neg (by decide), hz, if_neg (by omega), if_neg (by omega)]
  rfl
-- 98.f.peak2
theorem yD_upd {f : Nat → Int32} {i : Nat} {a : Int32} : ∀ n, yD (upd f i (f i + a)) n = yD f n + (if i < n then a else 0) := by
  intro n
  induction n with
  | zero => rw [if_neg (by omega), xadd0]; rfl
  | succ n ih =>
    rw [yD, yD, ih]
    by_cases e : n = i
    · subst e
      rw [if_neg (by omega), if_pos (by omega), xadd0, xupd_s, Int32.add_assoc]
    · rw [xupd_o e]
      by_cases z : i < n
      · rw [if_pos z, if_pos (by omega), Int32.add_assoc, Int32.add_comm a (f n), ← Int32.add_assoc]
      · rw [if_neg z, if_neg (by omega), xadd0, xadd0]
/-- the class: what comes and goes, tick by tick -/
theorem fp_in {fr fg pn n3 n4 : Nat → Int32} {cl : Int32} {w M G : Nat → Nat} {q X T : Nat} (q8 : q ≤ 8) (hT : T ≤ 144) (h3 : ∀ x, x < q → pn (8 * x + 3) = n3 x ∧ pn (8 * x + 4) = n4 x) (hX : ∀ x, x < q → (X.testBit x = true ↔ M x ≠ 100000)) (hG : ∀ x, x < q → M x = 100000 → G x = 100000) (hf : ∀ x, x < q → M x ≠ 100000 → fr x = nI (M x + w x) ∧ fg x = nI (G x) ∧ M x + w x ≤ G x ∧ G x ≤ T) : ∀ (m x k : Nat) (f : Nat → Int32), x + m = q → (∀ t, t ≤ 144 → yD f (t + 1) = yD (yV n3 n4 w M G t) x) → (∀ j, T < j → j ≤ 144 → f j = 0) → ∃ f' : Nat → Int32, K_findPeak_L2 (nI q) cl fg fr pn (nI X) (k + m + 1) (nI x) f = K_findPeak_L5 cl 100000 0 0 (-4) (-4) f' ∧ (∀ t, t ≤ 144 → yD f' (t + 1) = yD (yV n3 n4 w M G t) q) ∧ ∀ j, T < j → j ≤ 144 → f' j = 0 := by
  have qq : (nI q).toInt = (q : Int) := nI_toInt (by omega)
  intro m
  induction m with
  | zero =>
    intro x k f hx h1 h2
    have ex : (nI x).toInt = (x : Int) := nI_toInt (by omega)
    obtain rfl : x = q := by omega
    refine ⟨f, ?_, h1, h2⟩
    simp only [K_findPeak_L2, K_findPeak_6, K_findPeak_8, K_findPeak_9, K_findPeak_7, K_findPeak_5, K_findPeak_3, K_findPeak_11, K_findPeak_13, K_findPeak_17, K_findPeak_16, K_findPeak_15, K_findPeak_14, K_findPeak_12, K_findPeak_10, K_findPeak_4, K_findPeak_2, K_findPeak_1, M_findPeak]
    rw [if_pos (by omega)]
  | succ m ih =>
    intro x k f hx h1 h2
    have ex : (nI x).toInt = (x : Int) := nI_toInt (by omega)
    have exc : (nI x).toNatClampNeg = x := nI_clamp (by omega)
    obtain ⟨p3, p4⟩ := h3 x (by omega)
    have bt : ((nI X >>> (nI x &&& 31)) &&& (1 : Int32)).toInt = 1 ↔ X.testBit x = true := by rw [xsr_1 (nI X) (by omega), xb_nI (by omega)]
    have e3 : M_number pn (nI x) 3 = n3 x := (t_nb (k := 3) (by omega) (by decide)).trans p3
    have e4 : M_number pn (nI x) 4 = n4 x := (t_nb (k := 4) (by omega) (by decide)).trans p4
    by_cases a : M x = 100000
    · have un : K_findPeak_L2 (nI q) cl fg fr pn (nI X) ((k + m + 1) + 1) (nI x) f = K_findPeak_L2 (nI q) cl fg fr pn (nI X) (k + m + 1) (nI (x + 1)) f := by
        generalize k + m + 1 = j
        simp only [K_findPeak_L2, K_findPeak_6, K_findPeak_8, K_findPeak_9, K_findPeak_7, K_findPeak_5, K_findPeak_3, K_findPeak_11, K_findPeak_13, K_findPeak_17, K_findPeak_16, K_findPeak_15, K_findPeak_14, K_findPeak_12, K_findPeak_10, K_findPeak_4, K_findPeak_2, K_findPeak_1, M_findPeak]
        rw [if_neg (by omega), t_isUp, if_neg (fun y => (hX x (by omega)).mp (bt.mp y) a), if_pos (by decide), nI_1]
      obtain ⟨f', a1, a2, a3⟩ := ih (x + 1) k f (by omega) (fun t ht => by
        have e : yV n3 n4 w M G t x = 0 := by
          unfold yV
          rw [hG x (by omega) a, if_neg (by omega), if_neg (fun y => y.1 a)]
        rw [h1 t ht, yD, e, xadd0]) h2
      exact ⟨f', un.trans a1, a2, a3⟩
    · obtain ⟨f1, f2, f3, f4⟩ := hf x (by omega) a
      have c1 : (nI (M x + w x)).toNatClampNeg = M x + w x := nI_clamp (by omega)
      have c2 : (nI (G x)).toNatClampNeg = G x := nI_clamp (by omega)
      have eg : (nI (G x)).toInt = ((G x : Nat) : Int) := nI_toInt (by omega)
      have un : K_findPeak_L2 (nI q) cl fg fr pn (nI X) ((k + m + 1) + 1) (nI x) f = K_findPeak_L2 (nI q) cl fg fr pn (nI X) (k + m + 1) (nI (x + 1)) (upd (upd f (M x + w x) (f (M x + w x) + n4 x)) (G x) ((upd f (M x + w x) (f (M x + w x) + n4 x)) (G x) + (n3 x - n4 x))) := by
        generalize k + m + 1 = j
        simp only [K_findPeak_L2, K_findPeak_6, K_findPeak_8, K_findPeak_9, K_findPeak_7, K_findPeak_5, K_findPeak_3, K_findPeak_11, K_findPeak_13, K_findPeak_17, K_findPeak_16, K_findPeak_15, K_findPeak_14, K_findPeak_12, K_findPeak_10, K_findPeak_4, K_findPeak_2, K_findPeak_1, M_findPeak]
        rw [if_neg (by omega), t_isUp, if_pos (bt.mpr ((hX x (by omega)).mpr a)), if_neg (by decide), exc, f1, f2, if_neg (by omega), e3, e4, c1, c2, nI_1]
      obtain ⟨f', a1, a2, a3⟩ := ih (x + 1) k (upd (upd f (M x + w x) (f (M x + w x) + n4 x)) (G x) ((upd f (M x + w x) (f (M x + w x) + n4 x)) (G x) + (n3 x - n4 x))) (by omega) (fun t ht => by
        rw [yD_upd, yD_upd, h1 t ht, show yD (yV n3 n4 w M G t) (x + 1) = yD (yV n3 n4 w M G t) x + yV n3 n4 w M G t x from rfl]
        unfold yV
        by_cases b : G x ≤ t
        · rw [if_pos (show G x < t + 1 by omega), if_pos (show M x + w x < t + 1 by omega), if_pos b, y_sub]
        · rw [if_neg (show ¬ G x < t + 1 by omega), if_neg b, xadd0]
          by_cases c : M x + w x ≤ t
          · rw [if_pos (show M x + w x < t + 1 by omega), if_pos ⟨a, c⟩]
          · rw [if_neg (show ¬ M x + w x < t + 1 by omega), if_neg (fun y => c y.2)]) (fun j j1 j2 => by
        rw [xupd_o (by omega), xupd_o (by omega)]
        exact h2 j j1 j2)
      exact ⟨f', un.trans a1, a2, a3⟩
/-- the first n are naught again -/
def yZ (f : Nat → Int32) (n : Nat) : Nat → Int32 := fun j => if j < n then 0 else f j
theorem yZ_put {f : Nat → Int32} {n : Nat} : upd (yZ f n) n 0 = yZ f (n + 1) := by
  funext j
  by_cases e : j = n
  · subst e
    rw [xupd_s]
    exact (if_pos (by omega)).symm
  · rw [xupd_o e]
    unfold yZ
    by_cases z : j < n
    · rw [if_pos z, if_pos (by omega)]
    · rw [if_neg z, if_neg (by omega)]
theorem fk_in {f D : Nat → Int32} {T : Nat} (hT : T ≤ 144) (hD : ∀ t, t ≤ 144 → yD f (t + 1) = D t) : ∀ (m t k : Nat), t + m = T → K_findPeak_L5 (nI T) (k + m + 1) (nI (t + 1)) (D t) (yPk D t).1 (yPk D t).2 (yZ f (t + 1)) = ((yPk D T).1, (yPk D T).2, yZ f (T + 1)) := by
  have tt : (nI T).toInt = (T : Int) := nI_toInt (by omega)
  intro m
  induction m with
  | zero =>
    intro t k ht
    obtain rfl : t = T := by omega
    have et : (nI (t + 1)).toInt = ((t + 1 : Nat) : Int) := nI_toInt (by omega)
    simp only [K_findPeak_L5, K_findPeak_6, K_findPeak_8, K_findPeak_9, K_findPeak_7, K_findPeak_5, K_findPeak_3, K_findPeak_11, K_findPeak_13, K_findPeak_17, K_findPeak_16, K_findPeak_15, K_findPeak_14, K_findPeak_12, K_findPeak_10, K_findPeak_4, K_findPeak_2, K_findPeak_1, M_findPeak]
    rw [if_pos (by omega)]
  | succ m ih =>
    intro t k ht
    have et : (nI (t + 1)).toInt = ((t + 1 : Nat) : Int) := nI_toInt (by omega)
    have etc : (nI (t + 1)).toNatClampNeg = t + 1 := nI_clamp (by omega)
    have z := ih (t + 1) k (by omega)
    rw [← z]
    show K_findPeak_L5 (nI T) ((k + m + 1) + 1) (nI (t + 1)) _ _ _ _ = _
    generalize k + m + 1 = j
    have ev : yZ f (t + 1) (t + 1) = f (t + 1) := if_neg (by omega)
    have es : D t + f (t + 1) = D (t + 1) := by
      rw [← hD t (by omega), ← hD (t + 1) (by omega)]
      rfl
    simp only [K_findPeak_L5, K_findPeak_6, K_findPeak_8, K_findPeak_9, K_findPeak_7, K_findPeak_5, K_findPeak_3, K_findPeak_11, K_findPeak_13, K_findPeak_17, K_findPeak_16, K_findPeak_15, K_findPeak_14, K_findPeak_12, K_findPeak_10, K_findPeak_4, K_findPeak_2, K_findPeak_1, M_findPeak]
    rw [if_neg (by omega), etc, ev, es, yZ_put, nI_1, show yPk D (t + 1) = if (D (t + 1)).toInt ≤ (yPk D t).1.toInt then yPk D t else (D (t + 1), nI (t + 1)) from rfl]
    by_cases a : (D (t + 1)).toInt ≤ (yPk D t).1.toInt
    · rw [if_pos a, if_pos a]
    · rw [if_neg a, if_neg a]
theorem t_findPeak {fr fg pn n3 n4 cx : Nat → Int32} {w M G : Nat → Nat} {q X T : Nat} (q8 : q ≤ 8) (hT : T ≤ 144) (h3 : ∀ x, x < q → pn (8 * x + 3) = n3 x ∧ pn (8 * x + 4) = n4 x) (hr : ∀ x, x < q → (0 ≤ (n3 x).toInt ∧ (n3 x).toInt ≤ 511) ∧ (0 ≤ (n4 x).toInt ∧ (n4 x).toInt ≤ 511)) (hX : ∀ x, x < q → (X.testBit x = true ↔ M x ≠ 100000)) (hG : ∀ x, x < q → M x = 100000 → G x = 100000) (hf : ∀ x, x < q → M x ≠ 100000 → fr x = nI (M x + w x) ∧ fg x = nI (G x) ∧ M x + w x ≤ G x ∧ G x ≤ T) (hc : ∀ j, j ≤ 144 → cx j = 0) : ∃ cx' : Nat → Int32, M_findPeak (nI q) (nI T) fg fr pn (nI X) cx = ((yPk (fun t => yD (yV n3 n4 w M G t) q) T).1, (yPk (fun t => yD (yV n3 n4 w M G t) q) T).2, cx') ∧ ∀ j, j ≤ 144 → cx' j = 0 := by
  have z0 : ∀ n, n ≤ 145 → yD cx n = 0 := by
    intro n
    induction n with
    | zero => exact fun _ => rfl
    | succ n ih =>
      intro hn
      rw [yD, ih (by omega), hc n (by omega), xadd0]
  obtain ⟨f', a1, a2, a3⟩ := fp_in (cl := nI T) q8 hT h3 hX hG hf q 0 (99999 - q) cx (by omega) (fun t ht => z0 (t + 1) (by omega)) (fun j _ j2 => hc j j2)
  rw [show 99999 - q + q + 1 = 100000 from by omega] at a1
  have pos : 0 ≤ (yD (yV n3 n4 w M G 0) q).toInt := (yD_rng q q8 (fun x hx => by
    unfold yV
    split
    · exact (hr x hx).1
    · split
      · exact (hr x hx).2
      · exact ⟨by decide, by decide⟩)).1
  have b := fk_in (f := f') (D := fun t => yD (yV n3 n4 w M G t) q) hT a2 T 0 (99998 - T) (by omega)
  refine ⟨yZ f' (T + 1), ?_, fun j hj => ?_⟩
  · refine Eq.trans (show M_findPeak (nI q) (nI T) fg fr pn (nI X) cx = _ from a1) ?_
    rw [← b]
    show K_findPeak_L5 (nI T) (99999 + 1) 0 0 (-4) (-4) f' = _
    rw [show 99998 - T + T + 1 = 99999 from by omega]
    generalize (99999 : Nat) = j
    have tt : (nI T).toInt = (T : Int) := nI_toInt (by omega)
    have z9 : (0 : Int32).toInt = 0 := by decide
    have c9 : (0 : Int32).toNatClampNeg = 0 := by decide
    have m4 : (-4 : Int32).toInt = -4 := by decide
    have e1 : (0 : Int32) + f' 0 = yD (yV n3 n4 w M G 0) q := by rw [← a2 0 (by decide)]; rfl
    have e2 : upd f' 0 0 = yZ f' 1 := by
      rw [← yZ_put]
      congr 1
    simp only [K_findPeak_L5, K_findPeak_6, K_findPeak_8, K_findPeak_9, K_findPeak_7, K_findPeak_5, K_findPeak_3, K_findPeak_11, K_findPeak_13, K_findPeak_17, K_findPeak_16, K_findPeak_15, K_findPeak_14, K_findPeak_12, K_findPeak_10, K_findPeak_4, K_findPeak_2, K_findPeak_1, M_findPeak]
    rw [if_neg (by omega), c9, e1, if_neg (by omega), e2]
    rfl
  · unfold yZ
    by_cases y : j < T + 1
    · rw [if_pos y]
    · rw [if_neg y]
      exact a3 j (by omega) hj
/-- the last that is GOOD, the reference's side -/
theorem lg_in {Fg : Nat → Int32} {G : Nat → Nat} {q : Nat} (q8 : q ≤ 8) (hG : ∀ x, x < q → Fg x = nI (G x) ∧ G x ≤ 100000) : ∀ (m x k : Nat) (a : Int32), x + m = q → ((a = -4 ∧ ∀ y, y < x → G y = 100000) ∨ ∃ b : Nat, a = nI b ∧ b < 100000 ∧ (∃ y, y < x ∧ G y = b) ∧ ∀ y, y < x → G y ≠ 100000 → G y ≤ b) → (∀ x, x < q → G x = 100000 ∨ G x ≤ 1000) → (K_m_lastGood_L2 (nI q) Fg (k + m + 1) (nI x) a = -4 ∧ ∀ y, y < q → G y = 100000) ∨ ∃ b : Nat, K_m_lastGood_L2 (nI q) Fg (k + m + 1) (nI x) a = nI b ∧ b < 100000 ∧ (∃ y, y < q ∧ G y = b) ∧ ∀ y, y < q → G y ≠ 100000 → G y ≤ b := by
  have qq : (nI q).toInt = (q : Int) := nI_toInt (by omega)
  intro m
  induction m with
  | zero =>
    intro x k a hx h _
    have ex : (nI x).toInt = (x : Int) := nI_toInt (by omega)
    obtain rfl : x = q := by omega
    have un : K_m_lastGood_L2 (nI x) Fg (k + 0 + 1) (nI x) a = a := by
      simp only [K_m_lastGood_L2, K_m_lastGood_3, K_m_lastGood_5, K_m_lastGood_7, K_m_lastGood_8, K_m_lastGood_6, K_m_lastGood_4, K_m_lastGood_2, K_m_lastGood_1, M_m_lastGood]
      rw [if_pos (by omega)]
    rw [un]
    exact h
  | succ m ih =>
    intro x k a hx h hs
    have ex : (nI x).toInt = (x : Int) := nI_toInt (by omega)
    have exc : (nI x).toNatClampNeg = x := nI_clamp (by omega)
    obtain ⟨g1, g2⟩ := hG x (by omega)
    have eg : (nI (G x)).toInt = ((G x : Nat) : Int) := nI_toInt (by omega)
    have go : ∀ a' : Int32, K_m_lastGood_L2 (nI q) Fg ((k + m + 1) + 1) (nI x) a = K_m_lastGood_L2 (nI q) Fg (k + m + 1) (nI (x + 1)) a' → ((a' = -4 ∧ ∀ y, y < x + 1 → G y = 100000) ∨ ∃ b : Nat, a' = nI b ∧ b < 100000 ∧ (∃ y, y < x + 1 ∧ G y = b) ∧ ∀ y, y < x + 1 → G y ≠ 100000 → G y ≤ b) → (K_m_lastGood_L2 (nI q) Fg (k + (m + 1) + 1) (nI x) a = -4 ∧ ∀ y, y < q → G y = 100000) ∨ ∃ b : Nat, K_m_lastGood_L2 (nI q) Fg (k + (m + 1) + 1) (nI x) a = nI b ∧ b < 100000 ∧ (∃ y, y < q ∧ G y = b) ∧ ∀ y, y < q → G y ≠ 100000 → G y ≤ b := fun a' e h9 => by
      have z := ih (x + 1) k a' (by omega) h9 hs
      rw [← e] at z
      exact z
    have un : K_m_lastGood_L2 (nI q) Fg ((k + m + 1) + 1) (nI x) a = if 100000 ≤ (nI (G x)).toInt then K_m_lastGood_L2 (nI q) Fg (k + m + 1) (nI (x + 1)) a else if (nI (G x)).toInt ≤ a.toInt then K_m_lastGood_L2 (nI q) Fg (k + m + 1) (nI (x + 1)) a else K_m_lastGood_L2 (nI q) Fg (k + m + 1) (nI (x + 1)) (nI (G x)) := by
      generalize k + m + 1 = j
      simp only [K_m_lastGood_L2, K_m_lastGood_3, K_m_lastGood_5, K_m_lastGood_7, K_m_lastGood_8, K_m_lastGood_6, K_m_lastGood_4, K_m_lastGood_2, K_m_lastGood_1, M_m_lastGood]
      rw [if_neg (by omega), exc, nI_1, g1]
    by_cases b : G x = 100000
    · rw [if_pos (by omega)] at un
      refine go a un ?_
      rcases h with ⟨h1, h2⟩ | ⟨c, c1, c2, ⟨y, c3, c4⟩, c5⟩
      · exact Or.inl ⟨h1, fun y hy => by
          by_cases e : y = x
          · rw [e]; exact b
          · exact h2 y (by omega)⟩
      · exact Or.inr ⟨c, c1, c2, ⟨y, by omega, c4⟩, fun y hy z => by
          by_cases e : y = x
          · rw [e] at z; exact absurd b z
          · exact c5 y (by omega) z⟩
    · have g3 : G x ≤ 1000 := (hs x (by omega)).resolve_left b
      rw [if_neg (by omega)] at un
      have m4 : (-4 : Int32).toInt = -4 := by decide
      rcases h with ⟨h1, h2⟩ | ⟨c, c1, c2, ⟨y, c3, c4⟩, c5⟩
      · rw [h1] at un ⊢
        rw [h1] at go
        rw [if_neg (by omega)] at un
        exact go _ un (Or.inr ⟨G x, rfl, by omega, ⟨x, by omega, rfl⟩, fun y hy z => by
          by_cases e : y = x
          · rw [e]; exact Nat.le_refl _
          · exact absurd (h2 y (by omega)) z⟩)
      · have ec : a.toInt = (c : Int) := by rw [c1]; exact nI_toInt (by omega)
        by_cases d : G x ≤ c
        · rw [if_pos (by omega)] at un
          exact go a un (Or.inr ⟨c, c1, c2, ⟨y, by omega, c4⟩, fun y hy z => by
            by_cases e : y = x
            · rw [e]; exact d
            · exact c5 y (by omega) z⟩)
        · rw [if_neg (by omega)] at un
          exact go _ un (Or.inr ⟨G x, rfl, by omega, ⟨x, by omega, rfl⟩, fun y hy z => by
            by_cases e : y = x
            · rw [e]; exact Nat.le_refl _
            · have := c5 y (by omega) z
              omega⟩)
theorem r_last {Fg : Nat → Int32} {G : Nat → Nat} {q : Nat} (q8 : q ≤ 8) (hG : ∀ x, x < q → Fg x = nI (G x) ∧ (G x = 100000 ∨ G x ≤ 1000)) : (M_m_lastGood (nI q) Fg = -4 ∧ ∀ y, y < q → G y = 100000) ∨ ∃ b : Nat, M_m_lastGood (nI q) Fg = nI b ∧ b < 100000 ∧ (∃ y, y < q ∧ G y = b) ∧ ∀ y, y < q → G y ≠ 100000 → G y ≤ b := by
  have z := lg_in (Fg := Fg) (G := G) q8 (fun x hx => ⟨(hG x hx).1, by rcases (hG x hx).2 with y | y <;> omega⟩) q 0 (99999 - q) (-4) (by omega) (Or.inl ⟨rfl, fun y hy => absurd hy (by omega)⟩) (fun x hx => (hG x hx).2)
  rw [show 99999 - q + q + 1 = 100000 from by omega] at z
  exact z
-- 98.g.rows
/-- the latest of the first n, naught if there is none -/
def yMx (G : Nat → Nat) : Nat → Nat
  | 0 => 0
  | n + 1 => if G n = 100000 then yMx G n else max (yMx G n) (G n)
theorem yMx_ge {G : Nat → Nat} : ∀ n x, x < n → G x ≠ 100000 → G x ≤ yMx G n := by
  intro n
  induction n with
  | zero => exact fun x hx => absurd hx (by omega)
  | succ n ih =>
    intro x hx h
    unfold yMx
    by_cases e : x = n
    · subst e
      rw [if_neg h]
      exact Nat.le_max_right _ _
    · have a := ih x (by omega) h
      split
      · exact a
      · exact Nat.le_trans a (Nat.le_max_left _ _)
theorem yMx_at {G : Nat → Nat} : ∀ n, (yMx G n = 0 ∧ ∀ x, x < n → G x = 100000) ∨ ∃ x, x < n ∧ G x ≠ 100000 ∧ G x = yMx G n := by
  intro n
  induction n with
  | zero => exact Or.inl ⟨rfl, fun x hx => absurd hx (by omega)⟩
  | succ n ih =>
    unfold yMx
    by_cases e : G n = 100000
    · rw [if_pos e]
      rcases ih with ⟨a, b⟩ | ⟨x, a, b, c⟩
      · exact Or.inl ⟨a, fun x hx => by
          by_cases y : x = n
          · rw [y]; exact e
          · exact b x (by omega)⟩
      · exact Or.inr ⟨x, by omega, b, c⟩
    · rw [if_neg e]
      rcases ih with ⟨a, b⟩ | ⟨x, a, b, c⟩
      · exact Or.inr ⟨n, by omega, e, by rw [a]; exact (Nat.max_eq_right (Nat.zero_le _)).symm⟩
      · by_cases y : yMx G n ≤ G n
        · exact Or.inr ⟨n, by omega, e, (Nat.max_eq_right y).symm⟩
        · exact Or.inr ⟨x, by omega, b, by rw [c]; exact (Nat.max_eq_left (by omega)).symm⟩
theorem yMx_eq {G : Nat → Nat} {n T : Nat} (h1 : ∀ x, x < n → G x ≠ 100000 → G x ≤ T) (h2 : (T = 0 ∧ ∀ x, x < n → G x = 100000) ∨ ∃ x, x < n ∧ G x ≠ 100000 ∧ G x = T) : yMx G n = T := by
  rcases yMx_at (G := G) n with ⟨a, b⟩ | ⟨x, a, b, c⟩
  · rcases h2 with ⟨y, -⟩ | ⟨x, c1, c2, -⟩
    · omega
    · exact absurd (b x c1) c2
  · have l1 := h1 x a b
    rcases h2 with ⟨-, y⟩ | ⟨z, c1, c2, c3⟩
    · exact absurd (y x a) b
    · have l2 := yMx_ge n z c1 c2
      omega
/-- a row of waits in the reference's order -/
def yW (q x j : Nat) : Nat := x / 4 ^ (q - 1 - j) % 4
theorem yW_lt {q x j : Nat} : yW q x j < 4 := Nat.mod_lt _ (by decide)
/-- its number -/
def yNo (w : Nat → Nat) : Nat → Nat
  | 0 => 0
  | n + 1 => 4 * yNo w n + w n
/-- its number among those that wait at none but the RAILS of X -/
def yKa (X : Nat) (w : Nat → Nat) : Nat → Nat
  | 0 => 0
  | n + 1 => if X.testBit n = true then 4 * yKa X w n + w n else yKa X w n
theorem yNo_W {q x : Nat} : ∀ n, n ≤ q → yNo (yW q x) n = x / 4 ^ (q - n) % 4 ^ n := by
  intro n
  induction n with
  | zero => intro _; rw [yNo, Nat.pow_zero, Nat.mod_one]
  | succ n ih =>
    intro hn
    have e1 : q - n = (q - (n + 1)) + 1 := by omega
    have e2 : q - 1 - n = q - (n + 1) := by omega
    rw [yNo, ih (by omega), e1]
    unfold yW
    rw [e2, Nat.pow_succ, ← Nat.div_div_eq_div_mul]
    generalize x / 4 ^ (q - (n + 1)) = y
    rw [Nat.pow_succ, Nat.mul_comm (4 ^ n) 4, Nat.mod_mul]
    omega
theorem yNo_lt {w : Nat → Nat} (h : ∀ j, w j < 4) : ∀ n, yNo w n < 4 ^ n := by
  intro n
  induction n with
  | zero => exact Nat.zero_lt_one
  | succ n ih =>
    have := h n
    rw [yNo, Nat.pow_succ]
    omega
theorem yKa_lt {X : Nat} {w : Nat → Nat} (h : ∀ j, w j < 4) : ∀ n, yKa X w n < 4 ^ n := by
  intro n
  induction n with
  | zero => exact Nat.zero_lt_one
  | succ n ih =>
    have := h n
    rw [yKa, Nat.pow_succ]
    split <;> omega
/-- rows that wait at none but the RAILS of X: one order by both numbers -/
theorem y_order {X : Nat} {w v : Nat → Nat} (hw : ∀ j, w j < 4) (hv : ∀ j, v j < 4) (cw : ∀ j, ¬ X.testBit j = true → w j = 0) (cv : ∀ j, ¬ X.testBit j = true → v j = 0) : ∀ n, (yNo w n < yNo v n ↔ yKa X w n < yKa X v n) ∧ (yNo w n = yNo v n ↔ yKa X w n = yKa X v n) := by
  intro n
  induction n with
  | zero => exact ⟨Iff.rfl, Iff.rfl⟩
  | succ n ih =>
    have a := hw n
    have b := hv n
    rw [yNo, yNo, yKa, yKa]
    by_cases z : X.testBit n = true
    · rw [if_pos z, if_pos z]
      constructor <;> constructor <;> intro h <;> omega
    · rw [if_neg z, if_neg z, cw n z, cv n z]
      constructor <;> constructor <;> intro h <;> omega
theorem yNo_ext {w v : Nat → Nat} : ∀ n, (∀ j, j < n → w j = v j) → yNo w n = yNo v n := by
  intro n
  induction n with
  | zero => exact fun _ => rfl
  | succ n ih => intro h; rw [yNo, yNo, ih (fun j hj => h j (by omega)), h n (by omega)]
theorem yKa_ext {X : Nat} {w v : Nat → Nat} : ∀ n, (∀ j, j < n → w j = v j) → yKa X w n = yKa X v n := by
  intro n
  induction n with
  | zero => exact fun _ => rfl
  | succ n ih => intro h; rw [yKa, yKa, ih (fun j hj => h j (by omega)), h n (by omega)]
theorem yNo_inj {w v : Nat → Nat} (hw : ∀ j, w j < 4) (hv : ∀ j, v j < 4) : ∀ n, yNo w n = yNo v n → ∀ j, j < n → w j = v j := by
  intro n
  induction n with
  | zero => exact fun _ j hj => absurd hj (by omega)
  | succ n ih =>
    intro h j hj
    have a := hw n
    have b := hv n
    rw [yNo, yNo] at h
    by_cases e : j = n
    · rw [e]
      omega
    · exact ih (by omega) j (by omega)
/-- a row is the one of its number -/
theorem yW_No {q : Nat} {w : Nat → Nat} (hw : ∀ j, w j < 4) : ∀ j, j < q → yW q (yNo w q) j = w j := by
  refine yNo_inj (fun j => yW_lt) hw q ?_
  rw [yNo_W q (Nat.le_refl _), Nat.sub_self, Nat.pow_zero, Nat.div_one, Nat.mod_eq_of_lt (yNo_lt hw q)]
/-- the waits matter at those that come up alone -/
theorem yM_w {q : Nat} {P : Nat → Bool} {pt : Nat → Int64} {w v k : Nat → Nat} (h : ∀ x, x < q → P x = true → w x = v x) : ∀ t, t ≤ 100000 → yM q P pt w k t = yM q P pt v k t := by
  intro t
  induction t with
  | zero => exact fun _ => rfl
  | succ t ih =>
    intro ht
    have i9 := ih (by omega)
    show yN q P pt w k t (yM q P pt w k t) = yN q P pt v k t (yM q P pt v k t)
    rw [i9]
    have hlt := yM_lt (q := q) (P := P) (pt := pt) (w := v) (k := k) t
    generalize yM q P pt v k t = M at hlt
    have e : yG w k M = yG v k M := funext (fun x => by
      unfold yG
      by_cases z : M x = 100000
      · rw [if_pos z, if_pos z]
      · obtain ⟨-, y1, y2⟩ := (hlt x).resolve_left z
        rw [if_neg z, if_neg z, h x y1 y2])
    unfold yN
    rw [e]
/-- when each is GOOD, the last of them, what is drawn and its peak: for a row of waits -/
def yGT (q : Nat) (pt : Nat → Int64) (d : Int32) (k w : Nat → Nat) : Nat → Nat := yG w k (yT q pt d w k)
def yLT (q : Nat) (pt : Nat → Int64) (d : Int32) (k w : Nat → Nat) : Nat := yMx (yGT q pt d k w) q
theorem yT_w {q : Nat} {pt : Nat → Int64} {d : Int32} {w v k : Nat → Nat} (h : ∀ x, x < q → (yX q pt d).testBit x = true → w x = v x) : yT q pt d w k = yT q pt d v k := yM_w h 201 (by decide)
theorem yGT_w {q : Nat} {pt : Nat → Int64} {d : Int32} {w v k : Nat → Nat} (h : ∀ x, x < q → (yX q pt d).testBit x = true → w x = v x) : yGT q pt d k w = yGT q pt d k v := by
  have e := yT_w (k := k) h
  have hlt := yM_lt (q := q) (P := fun x => (yX q pt d).testBit x) (pt := pt) (w := v) (k := k) 201
  rw [show yM q (fun x => (yX q pt d).testBit x) pt v k 201 = yT q pt d v k from rfl] at hlt
  unfold yGT
  rw [e]
  funext x
  unfold yG
  by_cases z : yT q pt d v k x = 100000
  · rw [if_pos z, if_pos z]
  · obtain ⟨-, y1, y2⟩ := (hlt x).resolve_left z
    rw [if_neg z, if_neg z, h x y1 y2]
/-- what is drawn, tick by tick -/
def yDr (q : Nat) (pt : Nat → Int64) (d : Int32) (k : Nat → Nat) (n3 n4 : Nat → Int32) (w : Nat → Nat) (t : Nat) : Int32 := yD (yV n3 n4 w (yT q pt d w k) (yGT q pt d k w) t) q
theorem yDr_w {q : Nat} {pt : Nat → Int64} {d : Int32} {w v k : Nat → Nat} {n3 n4 : Nat → Int32} (h : ∀ x, x < q → (yX q pt d).testBit x = true → w x = v x) : yDr q pt d k n3 n4 w = yDr q pt d k n3 n4 v := by
  have hlt := yM_lt (q := q) (P := fun x => (yX q pt d).testBit x) (pt := pt) (w := v) (k := k) 201
  rw [show yM q (fun x => (yX q pt d).testBit x) pt v k 201 = yT q pt d v k from rfl] at hlt
  funext t
  unfold yDr
  rw [yT_w (k := k) h, yGT_w (k := k) h]
  refine yD_ext q (fun x hx => ?_)
  unfold yV
  by_cases z : yT q pt d v k x = 100000
  · rw [if_neg (fun y => y.1 z : ¬ (yT q pt d v k x ≠ 100000 ∧ yT q pt d v k x + w x ≤ t)), if_neg (fun y => y.1 z : ¬ (yT q pt d v k x ≠ 100000 ∧ yT q pt d v k x + v x ≤ t))]
  · obtain ⟨-, y1, y2⟩ := (hlt x).resolve_left z
    rw [h x y1 y2]
/-- no RAIL comes sooner for waiting -/
theorem yM_slow {q : Nat} {P : Nat → Bool} {pt : Nat → Int64} {w k : Nat → Nat} (q8 : q ≤ 8) (m : yMono q pt) : ∀ t, t ≤ 100000 → ∀ x, yM q P pt w k t x ≠ 100000 → yM q P pt (fun _ => 0) k t x ≠ 100000 ∧ yM q P pt (fun _ => 0) k t x ≤ yM q P pt w k t x := by
  intro t
  induction t with
  | zero => exact fun _ x h => absurd rfl h
  | succ t ih =>
    intro ht x
    have i9 := ih (by omega)
    show yN q P pt w k t (yM q P pt w k t) x ≠ 100000 → yN q P pt (fun _ => 0) k t (yM q P pt (fun _ => 0) k t) x ≠ 100000 ∧ yN q P pt (fun _ => 0) k t (yM q P pt (fun _ => 0) k t) x ≤ yN q P pt w k t (yM q P pt w k t) x
    have h1 := yM_lt (q := q) (P := P) (pt := pt) (w := w) (k := k) t
    have h2 := yM_lt (q := q) (P := P) (pt := pt) (w := fun _ => 0) (k := k) t
    generalize yM q P pt w k t = M at i9 h1
    generalize yM q P pt (fun _ => 0) k t = N at i9 h2
    have sub : ∀ j, (yS q (yG w k M) t).testBit j = true → (yS q (yG (fun _ => 0) k N) t).testBit j = true := fun j hj => by
      rw [yS_bit, Bool.and_eq_true, decide_eq_true_iff, decide_eq_true_iff] at hj ⊢
      refine ⟨hj.1, ?_⟩
      by_cases z : M j = 100000
      · have e : yG w k M j = 100000 := if_pos z
        omega
      · obtain ⟨a, b⟩ := i9 j z
        have e1 : yG w k M j = M j + w j + k j := if_neg z
        have e2 : yG (fun _ => 0) k N j = N j + 0 + k j := if_neg a
        omega
    unfold yN
    by_cases c1 : x < q ∧ N x = 100000 ∧ P x = true ∧ hb pt x (yS q (yG (fun _ => 0) k N) t + 256) = true
    · rw [if_pos c1]
      intro h
      refine ⟨by omega, ?_⟩
      by_cases c2 : x < q ∧ M x = 100000 ∧ P x = true ∧ hb pt x (yS q (yG w k M) t + 256) = true
      · rw [if_pos c2]
        exact Nat.le_refl _
      · rw [if_neg c2] at h
        exact absurd c1.2.1 (i9 x h).1
    · rw [if_neg c1]
      by_cases c2 : x < q ∧ M x = 100000 ∧ P x = true ∧ hb pt x (yS q (yG w k M) t + 256) = true
      · rw [if_pos c2]
        intro _
        have n1 : N x ≠ 100000 := fun z => c1 ⟨c2.1, z, c2.2.2.1, y_mono m (yS_lt q8) (yS_lt q8) c2.1 sub c2.2.2.2⟩
        have := (h2 x).resolve_left n1
        exact ⟨n1, by omega⟩
      · rw [if_neg c2]
        exact i9 x
-- 98.h.fold
/-- one row of waits tried -/
def yStep (lim : Int) (L : (Nat → Nat) → Nat) (p : (Nat → Nat) → Int) (w : Nat → Nat) : Option (Nat × (Nat → Nat)) → Option (Nat × (Nat → Nat))
  | none => if lim < p w then none else some (L w, w)
  | some (s, b) => if s ≤ L w then some (s, b) else if lim < p w then some (s, b) else some (L w, w)
/-- the first x rows tried, in the reference's order -/
def yR (lim : Int) (L : (Nat → Nat) → Nat) (p : (Nat → Nat) → Int) (q : Nat) : Nat → Option (Nat × (Nat → Nat))
  | 0 => none
  | x + 1 => yStep lim L p (yW q x) (yR lim L p q x)
/-- what was tried is no better than what is kept -/
theorem yR_dom {lim : Int} {L : (Nat → Nat) → Nat} {p : (Nat → Nat) → Int} {q : Nat} : ∀ x y, y < x → lim < p (yW q y) ∨ ∃ s b, yR lim L p q x = some (s, b) ∧ s ≤ L (yW q y) := by
  intro x
  induction x with
  | zero => exact fun y hy => absurd hy (by omega)
  | succ x ih =>
    intro y hy
    rw [yR]
    cases e : yR lim L p q x with
    | none =>
      by_cases z : lim < p (yW q x)
      · rw [yStep, if_pos z]
        by_cases e2 : y = x
        · rw [e2]; exact Or.inl z
        · rcases ih y (by omega) with a | ⟨s, b, a, -⟩
          · exact Or.inl a
          · rw [e] at a; exact absurd a (by simp)
      · rw [yStep, if_neg z]
        by_cases e2 : y = x
        · rw [e2]; exact Or.inr ⟨_, _, rfl, Nat.le_refl _⟩
        · rcases ih y (by omega) with a | ⟨s, b, a, -⟩
          · exact Or.inl a
          · rw [e] at a; exact absurd a (by simp)
    | some S =>
      obtain ⟨s, b⟩ := S
      rw [yStep]
      have old : y ≠ x → lim < p (yW q y) ∨ s ≤ L (yW q y) := fun e2 => by
        rcases ih y (by omega) with a | ⟨s', b', a, a2⟩
        · exact Or.inl a
        · rw [e] at a
          have a3 := Option.some.inj a
          rw [Prod.mk.injEq] at a3
          rw [← a3.1] at a2
          exact Or.inr a2
      by_cases z : s ≤ L (yW q x)
      · rw [if_pos z]
        by_cases e2 : y = x
        · rw [e2]; exact Or.inr ⟨_, _, rfl, z⟩
        · exact (old e2).elim Or.inl (fun a => Or.inr ⟨_, _, rfl, a⟩)
      · rw [if_neg z]
        by_cases z2 : lim < p (yW q x)
        · rw [if_pos z2]
          by_cases e2 : y = x
          · rw [e2]; exact Or.inl z2
          · exact (old e2).elim Or.inl (fun a => Or.inr ⟨_, _, rfl, a⟩)
        · rw [if_neg z2]
          by_cases e2 : y = x
          · rw [e2]; exact Or.inr ⟨_, _, rfl, Nat.le_refl _⟩
          · exact (old e2).elim Or.inl (fun a => Or.inr ⟨_, _, rfl, by omega⟩)
theorem yNo_le {v w : Nat → Nat} : ∀ n, (∀ j, j < n → v j ≤ w j) → yNo v n ≤ yNo w n ∧ ((∃ j, j < n ∧ v j < w j) → yNo v n < yNo w n) := by
  intro n
  induction n with
  | zero => exact fun _ => ⟨Nat.le_refl _, fun ⟨j, hj, _⟩ => absurd hj (by omega)⟩
  | succ n ih =>
    intro h
    obtain ⟨a, b⟩ := ih (fun j hj => h j (by omega))
    have c := h n (by omega)
    rw [yNo, yNo]
    refine ⟨by omega, fun ⟨j, hj, hl⟩ => ?_⟩
    by_cases e : j = n
    · rw [e] at hl
      omega
    · have := b ⟨j, by omega, hl⟩
      omega
theorem yKa_le {X : Nat} {v w : Nat → Nat} : ∀ n, (∀ j, j < n → X.testBit j = true → v j ≤ w j) → yKa X v n ≤ yKa X w n := by
  intro n
  induction n with
  | zero => exact fun _ => Nat.le_refl _
  | succ n ih =>
    intro h
    have a := ih (fun j hj => h j (by omega))
    rw [yKa, yKa]
    by_cases z : X.testBit n = true
    · have := h n (by omega) z
      rw [if_pos z, if_pos z]
      omega
    · rw [if_neg z, if_neg z]
      exact a
/-- a row that waits elsewhere too changes nothing -/
theorem yR_skip {lim : Int} {L : (Nat → Nat) → Nat} {p : (Nat → Nat) → Int} {q X x : Nat} (dep : ∀ w v : Nat → Nat, (∀ j, j < q → X.testBit j = true → w j = v j) → L w = L v ∧ p w = p v) (hx : x < 4 ^ q) (hn : ∃ j, j < q ∧ ¬ X.testBit j = true ∧ yW q x j ≠ 0) : yR lim L p q (x + 1) = yR lim L p q x := by
  obtain ⟨j0, j1, j2, j3⟩ := hn
  have v4 : ∀ j, (fun j => if X.testBit j = true then yW q x j else 0) j < 4 := fun j => by
    show (if X.testBit j = true then yW q x j else 0) < 4
    split
    · exact yW_lt
    · decide
  have le : ∀ j, j < q → (fun j => if X.testBit j = true then yW q x j else 0) j ≤ yW q x j := fun j _ => by
    show (if X.testBit j = true then yW q x j else 0) ≤ yW q x j
    split
    · exact Nat.le_refl _
    · exact Nat.zero_le _
  have ex : yNo (yW q x) q = x := by rw [yNo_W q (Nat.le_refl _), Nat.sub_self, Nat.pow_zero, Nat.div_one, Nat.mod_eq_of_lt hx]
  have lt : yNo (fun j => if X.testBit j = true then yW q x j else 0) q < x := by
    have a := (yNo_le q le).2 ⟨j0, j1, by
      show (if X.testBit j0 = true then yW q x j0 else 0) < yW q x j0
      rw [if_neg j2]
      omega⟩
    rw [ex] at a
    exact a
  have ag := yW_No (q := q) v4
  obtain ⟨d1, d2⟩ := dep (yW q x) (yW q (yNo (fun j => if X.testBit j = true then yW q x j else 0) q)) (fun j hj hb9 => by
    rw [ag j hj]
    exact (if_pos hb9).symm)
  have dm := yR_dom (lim := lim) (L := L) (p := p) (q := q) x _ lt
  rw [← d1, ← d2] at dm
  rw [yR]
  cases e : yR lim L p q x with
  | none =>
    rcases dm with a | ⟨s, b, a, -⟩
    · rw [yStep, if_pos a]
    · rw [e] at a; exact absurd a (by simp)
  | some S =>
    obtain ⟨s, b⟩ := S
    rw [yStep]
    by_cases z : s ≤ L (yW q x)
    · rw [if_pos z]
    · rw [if_neg z]
      rcases dm with a | ⟨s', b', a, a2⟩
      · rw [if_pos a]
      · rw [e] at a
        have a3 := Option.some.inj a
        rw [Prod.mk.injEq] at a3
        rw [← a3.1] at a2
        exact absurd a2 z
theorem yR_skips {lim : Int} {L : (Nat → Nat) → Nat} {p : (Nat → Nat) → Int} {q X n : Nat} (dep : ∀ w v : Nat → Nat, (∀ j, j < q → X.testBit j = true → w j = v j) → L w = L v ∧ p w = p v) : ∀ d, n + d ≤ 4 ^ q → (∀ y, n ≤ y → y < n + d → ∃ j, j < q ∧ ¬ X.testBit j = true ∧ yW q y j ≠ 0) → yR lim L p q (n + d) = yR lim L p q n := by
  intro d
  induction d with
  | zero => exact fun _ _ => rfl
  | succ d ih =>
    intro h1 h2
    rw [show n + (d + 1) = (n + d) + 1 from by omega, yR_skip dep (by omega) (h2 (n + d) (by omega) (by omega))]
    exact ih (by omega) (fun y a b => h2 y a (by omega))
/-- nothing is sooner than what cannot be sooner -/
theorem yR_end {lim : Int} {L : (Nat → Nat) → Nat} {p : (Nat → Nat) → Int} {q n s : Nat} {b : Nat → Nat} (hs : ∀ x, s ≤ L (yW q x)) (h : yR lim L p q n = some (s, b)) : ∀ d, yR lim L p q (n + d) = some (s, b) := by
  intro d
  induction d with
  | zero => exact h
  | succ d ih => rw [show n + (d + 1) = (n + d) + 1 from by omega, yR, ih, yStep, if_pos (hs _)]
/-- rows by the RAILS of X alone -/
def yCan (q X : Nat) (w : Nat → Nat) : Prop := (∀ j, w j < 4) ∧ ∀ j, ¬ (j < q ∧ X.testBit j = true) → w j = 0
theorem y_between {q X y : Nat} {w : Nat → Nat} (hX : ∀ j, X.testBit j = true → j < q) (hw : yCan q X w) (h1 : yNo w q < y) (h2 : y < 4 ^ q) (h : ∀ u : Nat → Nat, yCan q X u → yKa X w q < yKa X u q → yNo u q ≠ y) : ∃ j, j < q ∧ ¬ X.testBit j = true ∧ yW q y j ≠ 0 := by
  by_cases z : ∃ j, j < q ∧ ¬ X.testBit j = true ∧ yW q y j ≠ 0
  · exact z
  · exfalso
    have c : ∀ j, ¬ X.testBit j = true → (fun j => if j < q then yW q y j else 0) j = 0 := fun j hj => by
      show (if j < q then yW q y j else 0) = 0
      by_cases a : j < q
      · rw [if_pos a]
        by_cases b : yW q y j = 0
        · exact b
        · exact absurd ⟨j, a, hj, b⟩ z
      · exact if_neg a
    have u4 : ∀ j, (fun j => if j < q then yW q y j else 0) j < 4 := fun j => by
      show (if j < q then yW q y j else 0) < 4
      split
      · exact yW_lt
      · decide
    have eu : yNo (fun j => if j < q then yW q y j else 0) q = y := by
      rw [yNo_ext (v := yW q y) q (fun j hj => if_pos hj), yNo_W q (Nat.le_refl _), Nat.sub_self, Nat.pow_zero, Nat.div_one, Nat.mod_eq_of_lt h2]
    refine h _ ⟨u4, fun j hj => ?_⟩ ?_ eu
    · by_cases a : j < q
      · exact c j (fun b => hj ⟨a, b⟩)
      · exact if_neg a
    · rw [← (y_order hw.1 u4 (fun j hj => hw.2 j (fun a => hj a.2)) c q).1, eu]
      exact h1
-- 98.i.class
/-- the next row, by the RAILS of X -/
theorem nx_in {X : Nat} : ∀ (n k : Nat) (i : Int32) (u : Nat → Nat) (f : Nat → Int32), n ≤ 8 → i.toInt = (n : Int) - 1 → (∀ j, j < 8 → f j = nI (u j)) → (∀ j, u j < 4) → ∃ (u' : Nat → Nat) (f' : Nat → Int32) (g : Int32), K_nextRow_L2 (nI X) (k + n + 1) i f = (g, f') ∧ (∀ j, j < 8 → f' j = nI (u' j)) ∧ (∀ j, u' j < 4) ∧ (∀ j, n ≤ j → u' j = u j) ∧ (∀ j, ¬ X.testBit j = true → u' j = u j) ∧ ((g = 1 ∧ yKa X u' n = yKa X u n + 1) ∨ (g = 0 ∧ ∀ j, j < n → X.testBit j = true → u j = 3)) := by
  intro n
  induction n with
  | zero =>
    intro k i u f _ hi hf h4
    refine ⟨u, f, 0, ?_, hf, h4, fun _ _ => rfl, fun _ _ => rfl, Or.inr ⟨rfl, fun j hj => absurd hj (by omega)⟩⟩
    simp only [K_nextRow_L2, K_nextRow_3, K_nextRow_6, K_nextRow_7, K_nextRow_8, K_nextRow_5, K_nextRow_4, K_nextRow_2, K_nextRow_1, M_nextRow]
    rw [if_pos (by omega)]
  | succ n ih =>
    intro k i u f hn hi hf h4
    have en : (nI n).toInt = (n : Int) := nI_toInt (by omega)
    obtain rfl : i = nI n := Int32.toInt_inj.mp (by omega)
    have enc : (nI n).toNatClampNeg = n := nI_clamp (by omega)
    have m1 : (nI n + (-1)).toInt = (n : Int) + (-1) := xadd en (by decide) (by omega) (by omega)
    obtain ⟨nz, enz⟩ : ∃ nz : Int32, nI n + (-1) = nz := ⟨_, rfl⟩
    rw [enz] at m1
    have eu : (nI (u n)).toInt = ((u n : Nat) : Int) := nI_toInt (by have := h4 n; omega)
    have un : K_nextRow_L2 (nI X) ((k + n + 1) + 1) (nI n) f = if ((nI X >>> (nI n &&& 31)) &&& (1 : Int32)).toInt = 0 then K_nextRow_L2 (nI X) (k + n + 1) nz f else if 3 ≤ (nI (u n)).toInt then K_nextRow_L2 (nI X) (k + n + 1) nz (upd f n 0) else (1, upd f n (nI (u n) + 1)) := by
      generalize k + n + 1 = j
      simp only [K_nextRow_L2, K_nextRow_3, K_nextRow_6, K_nextRow_7, K_nextRow_8, K_nextRow_5, K_nextRow_4, K_nextRow_2, K_nextRow_1, M_nextRow, enz]
      rw [if_neg (by omega), enc, hf n (by omega)]
    have bt : ((nI X >>> (nI n &&& 31)) &&& (1 : Int32)).toInt = 0 ↔ X.testBit n = false := by rw [xsr_0 (nI X) (by omega), xb_nI (by omega)]
    by_cases b : X.testBit n = true
    · rw [if_neg (fun z => by rw [bt.mp z] at b; exact absurd b (by decide))] at un
      by_cases c : u n = 3
      · rw [if_pos (by omega)] at un
        obtain ⟨u', f', g, a1, a2, a3, a4, a5, a6⟩ := ih k nz (fun j => if j = n then 0 else u j) (upd f n 0) (by omega) (by omega) (fun j hj => by
          by_cases e : j = n
          · rw [e, xupd_s]
            show (0 : Int32) = nI (if n = n then 0 else u n)
            rw [if_pos rfl]
            rfl
          · rw [xupd_o e, hf j hj]
            show nI (u j) = nI (if j = n then 0 else u j)
            rw [if_neg e]) (fun j => by
          show (if j = n then 0 else u j) < 4
          split
          · decide
          · exact h4 j)
        have u0 : u' n = 0 := (a4 n (Nat.le_refl _)).trans (if_pos rfl)
        have ke : yKa X (fun j => if j = n then 0 else u j) n = yKa X u n := yKa_ext n (fun j hj => if_neg (by omega))
        refine ⟨u', f', g, un.trans a1, a2, a3, fun j hj => (a4 j (by omega)).trans (if_neg (by omega)), fun j hj => (a5 j hj).trans (if_neg (fun e => hj (by rw [e]; exact b))), ?_⟩
        rcases a6 with ⟨c1, c2⟩ | ⟨c1, c2⟩
        · refine Or.inl ⟨c1, ?_⟩
          rw [yKa, yKa, if_pos b, if_pos b, c2, ke, u0, c]
          omega
        · refine Or.inr ⟨c1, fun j hj hb9 => ?_⟩
          by_cases e : j = n
          · rw [e]; exact c
          · have z := c2 j (by omega) hb9
            rw [if_neg e] at z
            exact z
      · have u4 := h4 n
        rw [if_neg (by omega), nI_1] at un
        refine ⟨fun j => if j = n then u n + 1 else u j, _, 1, un, fun j hj => ?_, fun j => ?_, fun j hj => if_neg (by omega), fun j hj => if_neg (fun e => hj (by rw [e]; exact b)), Or.inl ⟨rfl, ?_⟩⟩
        · by_cases e : j = n
          · rw [e, xupd_s]
            show _ = nI (if n = n then u n + 1 else u n)
            rw [if_pos rfl]
          · rw [xupd_o e, hf j hj]
            show nI (u j) = nI (if j = n then u n + 1 else u j)
            rw [if_neg e]
        · show (if j = n then u n + 1 else u j) < 4
          split
          · omega
          · exact h4 j
        · rw [yKa, yKa, if_pos b, if_pos b, yKa_ext (v := u) n (fun j hj => if_neg (by omega)), if_pos rfl]
          omega
    · have b2 : X.testBit n = false := by
        cases e : X.testBit n with
        | false => rfl
        | true => exact absurd e b
      rw [if_pos (bt.mpr b2)] at un
      obtain ⟨u', f', g, a1, a2, a3, a4, a5, a6⟩ := ih k nz u f (by omega) (by omega) hf h4
      refine ⟨u', f', g, un.trans a1, a2, a3, fun j hj => a4 j (by omega), a5, ?_⟩
      rcases a6 with ⟨c1, c2⟩ | ⟨c1, c2⟩
      · refine Or.inl ⟨c1, ?_⟩
        rw [yKa, yKa, if_neg b, if_neg b]
        exact c2
      · refine Or.inr ⟨c1, fun j hj hb9 => ?_⟩
        by_cases e : j = n
        · rw [e] at hb9; exact absurd hb9 b
        · exact c2 j (by omega) hb9
theorem t_nextRow {X : Nat} {u : Nat → Nat} {f : Nat → Int32} (hf : ∀ j, j < 8 → f j = nI (u j)) (h4 : ∀ j, u j < 4) : ∃ (u' : Nat → Nat) (f' : Nat → Int32) (g : Int32), M_nextRow (nI X) f = (g, f') ∧ (∀ j, j < 8 → f' j = nI (u' j)) ∧ (∀ j, u' j < 4) ∧ (∀ j, ¬ X.testBit j = true → u' j = u j) ∧ ((g = 1 ∧ yKa X u' 8 = yKa X u 8 + 1) ∨ (g = 0 ∧ ∀ j, j < 8 → X.testBit j = true → u j = 3)) := by
  obtain ⟨u', f', g, a1, a2, a3, -, a5, a6⟩ := nx_in (X := X) 8 99991 7 u f (by decide) (by decide) hf h4
  exact ⟨u', f', g, a1, a2, a3, a5, a6⟩
theorem yKa_8 {X q : Nat} {w : Nat → Nat} (hX : ∀ j, X.testBit j = true → j < q) : ∀ d, yKa X w (q + d) = yKa X w q := by
  intro d
  induction d with
  | zero => rfl
  | succ d ih =>
    show yKa X w ((q + d) + 1) = yKa X w q
    rw [yKa, if_neg (fun z => by have := hX _ z; omega), ih]
/-- the class's times for a row of waits -/
theorem t_row {fw ft fr fg : Nat → Int32} {w k : Nat → Nat} {pt : Nat → Int64} {q : Nat} {d : Int32} (q8 : q ≤ 8) (m : yMono q pt) (hw : ∀ j, j < q → fw j = nI (w j) ∧ w j ≤ 9) (hk : ∀ j, j < q → ft j = nI (k j) ∧ 1 ≤ k j ∧ k j ≤ 9) {s0 : Int32} {P : Nat → Bool} (hP : ∀ j, j < q → P j = xb s0 j) (h1 : ∀ j, j < q → (P j = true → xb (nI (xDb q d)) j = false) ∧ ((yX q pt d).testBit j = true → P j = true)) (h2 : ∀ j, j < q → xb (nI (xDb q d)) j = false → P j = true ∨ (yX q pt d).testBit j = false) : ∃ fr' fg' : Nat → Int32, M_follow (nI q) s0 fw ft pt fr fg = (nI (yX q pt d), nI (yLT q pt d k w), fr', fg') ∧ yLT q pt d k w ≤ 144 ∧ (∀ x, x < q → yT q pt d w k x ≠ 100000 → fr' x = nI (yT q pt d w k x + w x) ∧ fg' x = nI (yGT q pt d k w x) ∧ yT q pt d w k x + w x ≤ yGT q pt d k w x ∧ yGT q pt d k w x ≤ yLT q pt d k w) ∧ ∀ x, x < q → ((yX q pt d).testBit x = true ↔ yT q pt d w k x ≠ 100000) := by
  have po := r_follow (fr := fr) (fg := fg) (pt := pt) (P := P) q8 hw hk hP
  have al := yE_all q8 m h1 h2 po
  have eP := yM_P (w := w) (k9 := k) q8 m h1 201 (by decide)
  generalize M_follow (nI q) s0 fw ft pt fr fg = R at po
  obtain ⟨p1, ⟨T, t1, t2, t3, t4⟩, p3, -⟩ := po
  rw [eP] at p1 t3 t4 p3
  have p1 : R.1 = nI (yE q (yT q pt d w k)) := p1
  rw [al] at p1
  have t3 : ∀ x, x < q → yT q pt d w k x ≠ 100000 → yGT q pt d k w x ≤ T := t3
  have t4 : (T = 0 ∧ ∀ x, x < q → yT q pt d w k x = 100000) ∨ ∃ x, x < q ∧ yT q pt d w k x ≠ 100000 ∧ yGT q pt d k w x = T := t4
  have p3 : ∀ x, x < q → yT q pt d w k x ≠ 100000 → R.2.2.1 x = nI (yT q pt d w k x + w x) ∧ R.2.2.2 x = nI (yGT q pt d k w x) := p3
  have gs : ∀ x, yT q pt d w k x ≠ 100000 → yGT q pt d k w x = yT q pt d w k x + w x + k x := fun x h => if_neg h
  have gn : ∀ x, yT q pt d w k x = 100000 → yGT q pt d k w x = 100000 := fun x h => if_pos h
  have ne : ∀ x, x < q → (yGT q pt d k w x ≠ 100000 ↔ yT q pt d w k x ≠ 100000) := fun x hx => ⟨fun a b => a (gn x b), fun a => by have := t3 x hx a; omega⟩
  have eL : yLT q pt d k w = T := yMx_eq (fun x hx h => t3 x hx ((ne x hx).mp h)) (by
    rcases t4 with ⟨a, b⟩ | ⟨x, a, b, c⟩
    · exact Or.inl ⟨a, fun x hx => gn x (b x hx)⟩
    · exact Or.inr ⟨x, a, (ne x a).mpr b, c⟩)
  refine ⟨R.2.2.1, R.2.2.2, ?_, by omega, fun x hx h => ⟨(p3 x hx h).1, (p3 x hx h).2, by rw [gs x h]; omega, by rw [eL]; exact t3 x hx h⟩, fun x hx => ?_⟩
  · rw [eL, ← p1, ← t2]
  · rw [← al]
    unfold yE
    rw [xup_bit, Nat.zero_testBit, Bool.false_or, Bool.and_eq_true, decide_eq_true_iff, decide_eq_true_iff]
    exact ⟨fun z => z.2, fun z => ⟨hx, z⟩⟩
/-- the peak for a row of waits -/
def yPT (q : Nat) (pt : Nat → Int64) (d : Int32) (k : Nat → Nat) (n3 n4 : Nat → Int32) (w : Nat → Nat) : Int32 × Int32 := yPk (yDr q pt d k n3 n4 w) 200
theorem yDr_end {q : Nat} {pt : Nat → Int64} {d : Int32} {w k : Nat → Nat} {n3 n4 : Nat → Int32} (h1 : yLT q pt d k w ≤ 144) (h2 : ∀ x, x < q → yT q pt d w k x ≠ 100000 → yT q pt d w k x + w x ≤ yGT q pt d k w x ∧ yGT q pt d k w x ≤ yLT q pt d k w) : yPT q pt d k n3 n4 w = yPk (yDr q pt d k n3 n4 w) (yLT q pt d k w) := by
  have gn : ∀ x, yT q pt d w k x = 100000 → yGT q pt d k w x = 100000 := fun x h => if_pos h
  have z := yPk_end (D := yDr q pt d k n3 n4 w) (T := yLT q pt d k w) (B := 200) (fun t t1 t2 => by
    unfold yDr
    refine yD_ext q (fun x hx => ?_)
    unfold yV
    by_cases a : yT q pt d w k x = 100000
    · rw [gn x a, if_neg (show ¬ 100000 ≤ t by omega), if_neg (fun y : yT q pt d w k x ≠ 100000 ∧ yT q pt d w k x + w x ≤ t => y.1 a), if_neg (show ¬ 100000 ≤ yLT q pt d k w by omega), if_neg (fun y : yT q pt d w k x ≠ 100000 ∧ yT q pt d w k x + w x ≤ yLT q pt d k w => y.1 a)]
    · obtain ⟨b1, b2⟩ := h2 x hx a
      rw [if_pos (by omega), if_pos (by omega)]) (200 - yLT q pt d k w) (by omega)
  rw [show yLT q pt d k w + (200 - yLT q pt d k w) = 200 from by omega] at z
  exact z
-- 98.j.stagger
theorem y_cpy8 {f g : Nat → Int32} {j : Nat} (hj : j < 8) : va_cpy f g (0 : Int32).toNatClampNeg (0 : Int32).toNatClampNeg (8 : Int32).toNatClampNeg j = f j := by
  have e0 : (0 : Int32).toNatClampNeg = 0 := by decide
  have e8 : (8 : Int32).toNatClampNeg = 8 := by decide
  unfold va_cpy
  rw [e0, e8, if_pos (by omega)]
  congr 1
  omega
/-- what is kept, as the machine has it -/
def yBest (q : Nat) (S : Option (Nat × (Nat → Nat))) (sl : Int32) (srow : Nat → Int32) : Prop := (S = none ∧ sl = -4) ∨ ∃ s b, S = some (s, b) ∧ s ≤ 144 ∧ sl = nI s ∧ (∀ j, j < q → srow j = nI (b j)) ∧ ∀ j, j < q → b j < 4
theorem t_keepIf {fr fg fw pn n3 n4 cx srow : Nat → Int32} {w k : Nat → Nat} {pt : Nat → Int64} {q : Nat} {d lim sl : Int32} (q8 : q ≤ 8) (h3 : ∀ x, x < q → pn (8 * x + 3) = n3 x ∧ pn (8 * x + 4) = n4 x) (hr : ∀ x, x < q → (0 ≤ (n3 x).toInt ∧ (n3 x).toInt ≤ 511) ∧ (0 ≤ (n4 x).toInt ∧ (n4 x).toInt ≤ 511)) (hX : ∀ x, x < q → ((yX q pt d).testBit x = true ↔ yT q pt d w k x ≠ 100000)) (hL : yLT q pt d k w ≤ 144) (hf : ∀ x, x < q → yT q pt d w k x ≠ 100000 → fr x = nI (yT q pt d w k x + w x) ∧ fg x = nI (yGT q pt d k w x) ∧ yT q pt d w k x + w x ≤ yGT q pt d k w x ∧ yGT q pt d k w x ≤ yLT q pt d k w) (hc : ∀ j, j ≤ 144 → cx j = 0) : ∃ (a b : Int32) (cx' : Nat → Int32), M_keepIf lim sl srow (nI (yLT q pt d k w)) fw (nI q) fg fr pn (nI (yX q pt d)) cx = (if lim.toInt < (yPT q pt d k n3 n4 w).1.toInt then sl else nI (yLT q pt d k w), if lim.toInt < (yPT q pt d k n3 n4 w).1.toInt then srow else va_cpy fw srow (0 : Int32).toNatClampNeg (0 : Int32).toNatClampNeg (8 : Int32).toNatClampNeg, a, b, cx') ∧ ∀ j, j ≤ 144 → cx' j = 0 := by
  obtain ⟨cx', a1, a2⟩ := t_findPeak (n3 := n3) (n4 := n4) (w := w) (M := yT q pt d w k) (G := yGT q pt d k w) (X := yX q pt d) (cx := cx) q8 hL h3 hr hX (fun x _ h => if_pos h) hf hc
  have e := yDr_end (n3 := n3) (n4 := n4) hL (fun x hx h => (hf x hx h).2.2)
  refine ⟨(yPT q pt d k n3 n4 w).1, (yPT q pt d k n3 n4 w).2, cx', ?_, a2⟩
  have a1 : M_findPeak (nI q) (nI (yLT q pt d k w)) fg fr pn (nI (yX q pt d)) cx = ((yPT q pt d k n3 n4 w).1, (yPT q pt d k n3 n4 w).2, cx') := by
    rw [a1, e]
    rfl
  simp only [K_keepIf_3, K_keepIf_4, K_keepIf_2, K_keepIf_1, M_keepIf]
  rw [a1]
  by_cases z : lim.toInt < (yPT q pt d k n3 n4 w).1.toInt
  · rw [if_pos z, if_pos z, if_pos z]
  · rw [if_neg z, if_neg z, if_neg z]
/-- one row kept or not: the machine's way and the fold's -/
theorem yBest_step {q : Nat} {S : Option (Nat × (Nat → Nat))} {sl lim : Int32} {srow fw : Nat → Int32} {L : (Nat → Nat) → Nat} {p : (Nat → Nat) → Int} {w v : Nat → Nat} (q8 : q ≤ 8) (h : yBest q S sl srow) (hL : L v = L w) (hp : p v = p w) (hL4 : L w ≤ 144) (hw : ∀ j, j < q → fw j = nI (w j) ∧ w j < 4 ∧ v j = w j) : yBest q (yStep lim.toInt L p v S) (if sl.toInt = -4 then (if lim.toInt < p w then sl else nI (L w)) else if sl.toInt ≤ (nI (L w)).toInt then sl else (if lim.toInt < p w then sl else nI (L w))) (if sl.toInt = -4 then (if lim.toInt < p w then srow else va_cpy fw srow (0 : Int32).toNatClampNeg (0 : Int32).toNatClampNeg (8 : Int32).toNatClampNeg) else if sl.toInt ≤ (nI (L w)).toInt then srow else (if lim.toInt < p w then srow else va_cpy fw srow (0 : Int32).toNatClampNeg (0 : Int32).toNatClampNeg (8 : Int32).toNatClampNeg)) := by
  have m4 : (-4 : Int32).toInt = -4 := by decide
  have el : (nI (L w)).toInt = ((L w : Nat) : Int) := nI_toInt (by omega)
  have new : yBest q (some (L v, v)) (nI (L w)) (va_cpy fw srow (0 : Int32).toNatClampNeg (0 : Int32).toNatClampNeg (8 : Int32).toNatClampNeg) := Or.inr ⟨L v, v, rfl, by omega, by rw [hL], fun j hj => by
    rw [y_cpy8 (by omega), (hw j hj).1, (hw j hj).2.2], fun j hj => by
    rw [(hw j hj).2.2]
    exact (hw j hj).2.1⟩
  rcases h with ⟨h1, h2⟩ | ⟨s, b, h1, h2, h3, h4, h5⟩
  · rw [h1, yStep, hp, if_pos (show sl.toInt = -4 by rw [h2]; exact m4), if_pos (show sl.toInt = -4 by rw [h2]; exact m4)]
    by_cases z : lim.toInt < p w
    · rw [if_pos z, if_pos z, if_pos z]
      exact Or.inl ⟨rfl, h2⟩
    · rw [if_neg z, if_neg z, if_neg z]
      exact new
  · have es : sl.toInt = (s : Int) := by rw [h3]; exact nI_toInt (by omega)
    rw [h1, yStep, hp, if_neg (show ¬ sl.toInt = -4 by omega), if_neg (show ¬ sl.toInt = -4 by omega)]
    by_cases z : s ≤ L v
    · rw [if_pos z, if_pos (show sl.toInt ≤ (nI (L w)).toInt by omega), if_pos (show sl.toInt ≤ (nI (L w)).toInt by omega)]
      exact Or.inr ⟨s, b, rfl, h2, h3, h4, h5⟩
    · rw [if_neg z, if_neg (show ¬ sl.toInt ≤ (nI (L w)).toInt by omega), if_neg (show ¬ sl.toInt ≤ (nI (L w)).toInt by omega)]
      by_cases z2 : lim.toInt < p w
      · rw [if_pos z2, if_pos z2, if_pos z2]
        exact Or.inr ⟨s, b, rfl, h2, h3, h4, h5⟩
      · rw [if_neg z2, if_neg z2, if_neg z2]
        exact new
theorem cl_in {ft pn n3 n4 : Nat → Int32} {k : Nat → Nat} {pt : Nat → Int64} {q : Nat} {d lim : Int32} (q6 : q ≤ 6) (m : yMono q pt) (hk : ∀ j, j < q → ft j = nI (k j) ∧ 1 ≤ k j ∧ k j ≤ 9) (h3 : ∀ x, x < q → pn (8 * x + 3) = n3 x ∧ pn (8 * x + 4) = n4 x) (hr : ∀ x, x < q → (0 ≤ (n3 x).toInt ∧ (n3 x).toInt ≤ 511) ∧ (0 ≤ (n4 x).toInt ∧ (n4 x).toInt ≤ 511)) (X0 : ∀ w : Nat → Nat, (∀ j, w j < 4) → yLT q pt d k (fun _ => 0) ≤ yLT q pt d k w) : ∀ (n c kk : Nat) (g sl c1 c2 c3 c4 : Int32) (cx srow fw fr fg : Nat → Int32) (w : Nat → Nat), c + n = 4096 → (∀ j, j ≤ 144 → cx j = 0) → (∀ j, j < 8 → fw j = nI (w j)) → (∀ j, w j < 4) → ((g = 1 ∧ yCan q (yX q pt d) w ∧ yKa (yX q pt d) w q = c ∧ yBest q (yR lim.toInt (yLT q pt d k) (fun v => (yPT q pt d k n3 n4 v).1.toInt) q (yNo w q)) sl srow) ∨ (g = 0 ∧ yBest q (yR lim.toInt (yLT q pt d k) (fun v => (yPT q pt d k n3 n4 v).1.toInt) q (4 ^ q)) sl srow)) → ∃ (sl' e1 e2 e3 e4 : Int32) (srow' fw' fr' fg' cx' : Nat → Int32), K_findRow_L10 ft (nI (yLT q pt d k (fun _ => 0))) (nI (yX q pt d)) lim (nI q) pn pt (kk + n + 1) (nI c) g sl cx srow c1 c2 c3 c4 fw fr fg = (1, sl', srow', e1, e2, e3, e4, fw', ft, fr', fg', cx') ∧ yBest q (yR lim.toInt (yLT q pt d k) (fun v => (yPT q pt d k n3 n4 v).1.toInt) q (4 ^ q)) sl' srow' ∧ ∀ j, j ≤ 144 → cx' j = 0 := by
  have q46 : 4 ^ q ≤ 4 ^ 6 := Nat.pow_le_pow_right (by decide) q6
  have q4 : 4 ^ q ≤ 4096 := q46
  have hX : ∀ j, (yX q pt d).testBit j = true → j < q := fun j hj => (yX_alive (by omega) hj).1
  have dep : ∀ w v : Nat → Nat, (∀ j, j < q → (yX q pt d).testBit j = true → w j = v j) → yLT q pt d k w = yLT q pt d k v ∧ (yPT q pt d k n3 n4 w).1.toInt = (yPT q pt d k n3 n4 v).1.toInt := fun w v h => ⟨by unfold yLT; rw [yGT_w h], by unfold yPT; rw [yDr_w h]⟩
  intro n
  induction n with
  | zero =>
    intro c kk g sl c1 c2 c3 c4 cx srow fw fr fg w hc hz hw h4 hI
    obtain rfl : c = 4096 := by omega
    rcases hI with ⟨g1, ca, ka, -⟩ | ⟨g0, hb9⟩
    · have := yKa_lt (X := yX q pt d) h4 q
      omega
    · refine ⟨sl, c1, c2, c3, c4, srow, fw, fr, fg, cx, ?_, hb9, hz⟩
      simp only [K_findRow_L10, K_findRow_9, K_findRow_11, K_findRow_13, K_findRow_15, K_findRow_21, K_findRow_20, K_findRow_18, K_findRow_24, K_findRow_22, K_findRow_26, K_findRow_25, K_findRow_23, K_findRow_19, K_findRow_17, K_findRow_16, K_findRow_14, K_findRow_12, K_findRow_10, K_findRow_8, K_findRow_7, K_findRow_6, K_findRow_5, K_findRow_4, K_findRow_2, K_findRow_3, K_findRow_1, M_findRow]
      rw [if_pos (by decide)]
  | succ n ih =>
    intro c kk g sl c1 c2 c3 c4 cx srow fw fr fg w hc hz hw h4 hI
    have ec : (nI c).toInt = (c : Int) := nI_toInt (by omega)
    rcases hI with ⟨g1, ca, ka, hb9⟩ | ⟨g0, hb9⟩
    · subst g1
      by_cases st : sl.toInt = (nI (yLT q pt d k (fun _ => 0))).toInt
      · refine ⟨sl, c1, c2, c3, c4, srow, fw, fr, fg, cx, ?_, ?_, hz⟩
        · simp only [K_findRow_L10, K_findRow_9, K_findRow_11, K_findRow_13, K_findRow_15, K_findRow_21, K_findRow_20, K_findRow_18, K_findRow_24, K_findRow_22, K_findRow_26, K_findRow_25, K_findRow_23, K_findRow_19, K_findRow_17, K_findRow_16, K_findRow_14, K_findRow_12, K_findRow_10, K_findRow_8, K_findRow_7, K_findRow_6, K_findRow_5, K_findRow_4, K_findRow_2, K_findRow_3, K_findRow_1, M_findRow]
          rw [if_neg (by omega), if_neg (by decide), if_pos st]
        · have lt := yNo_lt h4 q
          have fin : yR lim.toInt (yLT q pt d k) (fun v => (yPT q pt d k n3 n4 v).1.toInt) q (4 ^ q) = yR lim.toInt (yLT q pt d k) (fun v => (yPT q pt d k n3 n4 v).1.toInt) q (yNo w q) := by
            rcases hb9 with ⟨-, b2⟩ | ⟨s, b, b1, b2, b3, -, -⟩
            · exfalso
              rw [b2] at st
              have m4 : (-4 : Int32).toInt = -4 := by decide
              have := Int32.toInt_inj.mp st
              have nn : 0 ≤ (nI (yLT q pt d k (fun _ => 0))).toInt := by
                obtain ⟨-, -, -, a, -⟩ := t_row (fw := fun _ => 0) (fr := fr) (fg := fg) (ft := ft) (s0 := nI (yX q pt d)) (P := fun j => (yX q pt d).testBit j) (w := fun _ => 0) (k := k) (pt := pt) (q := q) (d := d) (by omega) m (fun j _ => ⟨rfl, by decide⟩) hk (fun j hj => (xb_nI (by omega)).symm) (fun j hj => ⟨fun z => (yX_alive (by omega) z).2, fun z => z⟩) (fun j hj _ => by cases (yX q pt d).testBit j <;> simp)
                rw [show (nI (yLT q pt d k (fun _ => 0))).toInt = ((yLT q pt d k (fun _ => 0) : Nat) : Int) from nI_toInt (by omega)]
                omega
              omega
            · have es : sl.toInt = (s : Int) := by rw [b3]; exact nI_toInt (by omega)
              have l0 : yLT q pt d k (fun _ => 0) ≤ 144 := by
                obtain ⟨-, -, -, a, -⟩ := t_row (fw := fun _ => 0) (fr := fr) (fg := fg) (ft := ft) (s0 := nI (yX q pt d)) (P := fun j => (yX q pt d).testBit j) (w := fun _ => 0) (k := k) (pt := pt) (q := q) (d := d) (by omega) m (fun j _ => ⟨rfl, by decide⟩) hk (fun j hj => (xb_nI (by omega)).symm) (fun j hj => ⟨fun z => (yX_alive (by omega) z).2, fun z => z⟩) (fun j hj _ => by cases (yX q pt d).testBit j <;> simp)
                exact a
              have el : (nI (yLT q pt d k (fun _ => 0))).toInt = ((yLT q pt d k (fun _ => 0) : Nat) : Int) := nI_toInt (by omega)
              have s0 : s = yLT q pt d k (fun _ => 0) := by omega
              have z := yR_end (lim := lim.toInt) (L := yLT q pt d k) (p := fun v => (yPT q pt d k n3 n4 v).1.toInt) (q := q) (n := yNo w q) (s := s) (b := b) (fun v => by rw [s0]; exact X0 _ (fun j => yW_lt)) b1 (4 ^ q - yNo w q)
              rw [show yNo w q + (4 ^ q - yNo w q) = 4 ^ q from by omega] at z
              rw [z, b1]
          rw [fin]
          exact hb9
      · obtain ⟨fr', fg', r1, r2, r3, r4⟩ := t_row (fw := fw) (fr := fr) (fg := fg) (ft := ft) (s0 := nI (yX q pt d)) (P := fun j => (yX q pt d).testBit j) (w := w) (k := k) (pt := pt) (q := q) (d := d) (by omega) m (fun j hj => ⟨hw j (by omega), by have := h4 j; omega⟩) hk (fun j hj => (xb_nI (by omega)).symm) (fun j hj => ⟨fun z => (yX_alive (by omega) z).2, fun z => z⟩) (fun j hj _ => by cases (yX q pt d).testBit j <;> simp)
        obtain ⟨pa, pb, cx', k1, k2⟩ := t_keepIf (fw := fw) (cx := cx) (srow := srow) (sl := sl) (lim := lim) (fr := fr') (fg := fg') (pn := pn) (n3 := n3) (n4 := n4) (w := w) (k := k) (pt := pt) (q := q) (d := d) (by omega) h3 hr r4 r2 r3 hz
        obtain ⟨w', fw', g', x1, x2, x3, x4, x5⟩ := t_nextRow (X := yX q pt d) hw h4
        have lt := yNo_lt h4 q
        have agW := yW_No (q := q) h4
        have d9 := dep (yW q (yNo w q)) w (fun j hj _ => agW j hj)
        have bs := yBest_step (lim := lim) (fw := fw) (L := yLT q pt d k) (p := fun v => (yPT q pt d k n3 n4 v).1.toInt) (w := w) (v := yW q (yNo w q)) (by omega) hb9 d9.1 d9.2 r2 (fun j hj => ⟨hw j (by omega), h4 j, agW j hj⟩)
        rw [show yStep lim.toInt (yLT q pt d k) (fun v => (yPT q pt d k n3 n4 v).1.toInt) (yW q (yNo w q)) (yR lim.toInt (yLT q pt d k) (fun v => (yPT q pt d k n3 n4 v).1.toInt) q (yNo w q)) = yR lim.toInt (yLT q pt d k) (fun v => (yPT q pt d k n3 n4 v).1.toInt) q (yNo w q + 1) from rfl] at bs
        -- what the next row is to what is kept
        have nxt : (g' = 1 ∧ yCan q (yX q pt d) w' ∧ yKa (yX q pt d) w' q = c + 1 ∧ yR lim.toInt (yLT q pt d k) (fun v => (yPT q pt d k n3 n4 v).1.toInt) q (yNo w' q) = yR lim.toInt (yLT q pt d k) (fun v => (yPT q pt d k n3 n4 v).1.toInt) q (yNo w q + 1)) ∨ (g' = 0 ∧ yR lim.toInt (yLT q pt d k) (fun v => (yPT q pt d k n3 n4 v).1.toInt) q (4 ^ q) = yR lim.toInt (yLT q pt d k) (fun v => (yPT q pt d k n3 n4 v).1.toInt) q (yNo w q + 1)) := by
          have e8 := yKa_8 (X := yX q pt d) (q := q) (w := w) hX (8 - q)
          have e8' := yKa_8 (X := yX q pt d) (q := q) (w := w') hX (8 - q)
          rw [show q + (8 - q) = 8 from by omega] at e8 e8'
          have ca' : yCan q (yX q pt d) w' := ⟨x3, fun j hj => by
            by_cases y : (yX q pt d).testBit j = true
            · exact absurd ⟨hX j y, y⟩ hj
            · rw [x4 j y]
              exact ca.2 j hj⟩
          rcases x5 with ⟨y1, y2⟩ | ⟨y1, y2⟩
          · refine Or.inl ⟨y1, ca', by omega, ?_⟩
            have o := (y_order ca.1 ca'.1 (fun j hj => ca.2 j (fun a => hj a.2)) (fun j hj => ca'.2 j (fun a => hj a.2)) q).1
            have l1 : yNo w q < yNo w' q := o.mpr (by omega)
            have l2 := yNo_lt ca'.1 q
            have z := yR_skips (lim := lim.toInt) (L := yLT q pt d k) (p := fun v => (yPT q pt d k n3 n4 v).1.toInt) (q := q) (X := yX q pt d) (n := yNo w q + 1) dep (yNo w' q - (yNo w q + 1)) (by omega) (fun y a b => y_between hX ca (by omega) (by omega) (fun u cu lu eu => by
              have o2 := (y_order ca'.1 cu.1 (fun j hj => ca'.2 j (fun a => hj a.2)) (fun j hj => cu.2 j (fun a => hj a.2)) q)
              rcases Nat.lt_or_ge (yKa (yX q pt d) w' q) (yKa (yX q pt d) u q) with c9 | c9
              · have := o2.1.mpr c9
                omega
              · have := o2.2.mpr (by omega)
                omega))
            rw [show yNo w q + 1 + (yNo w' q - (yNo w q + 1)) = yNo w' q from by omega] at z
            exact z
          · refine Or.inr ⟨y1, ?_⟩
            have z := yR_skips (lim := lim.toInt) (L := yLT q pt d k) (p := fun v => (yPT q pt d k n3 n4 v).1.toInt) (q := q) (X := yX q pt d) (n := yNo w q + 1) dep (4 ^ q - (yNo w q + 1)) (by omega) (fun y a b => y_between hX ca (by omega) (by omega) (fun u cu lu eu => by
              have := yKa_le (X := yX q pt d) (v := u) (w := w) q (fun j hj hb8 => by
                rw [y2 j (by omega) hb8]
                have := cu.1 j
                omega)
              omega))
            rw [show yNo w q + 1 + (4 ^ q - (yNo w q + 1)) = 4 ^ q from by omega] at z
            exact z
        have un : ∃ (c5 c6 : Int32) (cx9 : Nat → Int32), (∀ j, j ≤ 144 → cx9 j = 0) ∧ K_findRow_L10 ft (nI (yLT q pt d k (fun _ => 0))) (nI (yX q pt d)) lim (nI q) pn pt ((kk + n + 1) + 1) (nI c) 1 sl cx srow c1 c2 c3 c4 fw fr fg = K_findRow_L10 ft (nI (yLT q pt d k (fun _ => 0))) (nI (yX q pt d)) lim (nI q) pn pt (kk + n + 1) (nI (c + 1)) g' (if sl.toInt = -4 then (if lim.toInt < (yPT q pt d k n3 n4 w).1.toInt then sl else nI (yLT q pt d k w)) else if sl.toInt ≤ (nI (yLT q pt d k w)).toInt then sl else (if lim.toInt < (yPT q pt d k n3 n4 w).1.toInt then sl else nI (yLT q pt d k w))) cx9 (if sl.toInt = -4 then (if lim.toInt < (yPT q pt d k n3 n4 w).1.toInt then srow else va_cpy fw srow (0 : Int32).toNatClampNeg (0 : Int32).toNatClampNeg (8 : Int32).toNatClampNeg) else if sl.toInt ≤ (nI (yLT q pt d k w)).toInt then srow else (if lim.toInt < (yPT q pt d k n3 n4 w).1.toInt then srow else va_cpy fw srow (0 : Int32).toNatClampNeg (0 : Int32).toNatClampNeg (8 : Int32).toNatClampNeg)) (nI (yX q pt d)) (nI (yLT q pt d k w)) c5 c6 fw' fr' fg' := by
          generalize kk + n + 1 = j9
          by_cases a : sl.toInt = -4
          · refine ⟨pa, pb, cx', k2, ?_⟩
            simp only [K_findRow_L10, K_findRow_9, K_findRow_11, K_findRow_13, K_findRow_15, K_findRow_21, K_findRow_20, K_findRow_18, K_findRow_24, K_findRow_22, K_findRow_26, K_findRow_25, K_findRow_23, K_findRow_19, K_findRow_17, K_findRow_16, K_findRow_14, K_findRow_12, K_findRow_10, K_findRow_8, K_findRow_7, K_findRow_6, K_findRow_5, K_findRow_4, K_findRow_2, K_findRow_3, K_findRow_1, M_findRow]
            rw [if_neg (by omega), if_neg (by decide), if_neg st, r1]
            dsimp only
            rw [if_pos a, if_pos a, if_pos a, k1]
            dsimp only
            rw [x1, nI_1]
          · by_cases b : sl.toInt ≤ (nI (yLT q pt d k w)).toInt
            · refine ⟨c3, c4, cx, hz, ?_⟩
              simp only [K_findRow_L10, K_findRow_9, K_findRow_11, K_findRow_13, K_findRow_15, K_findRow_21, K_findRow_20, K_findRow_18, K_findRow_24, K_findRow_22, K_findRow_26, K_findRow_25, K_findRow_23, K_findRow_19, K_findRow_17, K_findRow_16, K_findRow_14, K_findRow_12, K_findRow_10, K_findRow_8, K_findRow_7, K_findRow_6, K_findRow_5, K_findRow_4, K_findRow_2, K_findRow_3, K_findRow_1, M_findRow]
              rw [if_neg (by omega), if_neg (by decide), if_neg st, r1]
              dsimp only
              rw [if_neg a, if_neg a, if_neg a, if_pos b, if_pos b, if_pos b, x1, nI_1]
            · refine ⟨pa, pb, cx', k2, ?_⟩
              simp only [K_findRow_L10, K_findRow_9, K_findRow_11, K_findRow_13, K_findRow_15, K_findRow_21, K_findRow_20, K_findRow_18, K_findRow_24, K_findRow_22, K_findRow_26, K_findRow_25, K_findRow_23, K_findRow_19, K_findRow_17, K_findRow_16, K_findRow_14, K_findRow_12, K_findRow_10, K_findRow_8, K_findRow_7, K_findRow_6, K_findRow_5, K_findRow_4, K_findRow_2, K_findRow_3, K_findRow_1, M_findRow]
              rw [if_neg (by omega), if_neg (by decide), if_neg st, r1]
              dsimp only
              rw [if_neg a, if_neg a, if_neg a, if_neg b, if_neg b, if_neg b, k1]
              dsimp only
              rw [x1, nI_1]
        obtain ⟨c5, c6, cx9, u1, u2⟩ := un
        have bs' := fun (Z : Option (Nat × (Nat → Nat))) (e : Z = yR lim.toInt (yLT q pt d k) (fun v => (yPT q pt d k n3 n4 v).1.toInt) q (yNo w q + 1)) => Eq.mpr (congrArg (fun S => yBest q S _ _) e) bs
        obtain ⟨sl', e1, e2, e3, e4, srow', fw2, fr2, fg2, cx2, y1, y2, y3⟩ := ih (c + 1) kk g' _ (nI (yX q pt d)) (nI (yLT q pt d k w)) c5 c6 cx9 _ fw' fr' fg' w' (by omega) u1 x2 x3 (Or.elim nxt (fun z => Or.inl ⟨z.1, z.2.1, z.2.2.1, bs' _ z.2.2.2⟩) (fun z => Or.inr ⟨z.1, bs' _ z.2⟩))
        exact ⟨sl', e1, e2, e3, e4, srow', fw2, fr2, fg2, cx2, u2.trans y1, y2, y3⟩
    · subst g0
      refine ⟨sl, c1, c2, c3, c4, srow, fw, fr, fg, cx, ?_, hb9, hz⟩
      simp only [K_findRow_L10, K_findRow_9, K_findRow_11, K_findRow_13, K_findRow_15, K_findRow_21, K_findRow_20, K_findRow_18, K_findRow_24, K_findRow_22, K_findRow_26, K_findRow_25, K_findRow_23, K_findRow_19, K_findRow_17, K_findRow_16, K_findRow_14, K_findRow_12, K_findRow_10, K_findRow_8, K_findRow_7, K_findRow_6, K_findRow_5, K_findRow_4, K_findRow_2, K_findRow_3, K_findRow_1, M_findRow]
      rw [if_neg (by omega), if_pos (by decide)]
