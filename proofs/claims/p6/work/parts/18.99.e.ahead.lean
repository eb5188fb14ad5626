/-- a formula looks at its names alone -/
theorem y_dep {wt : Bool} {q r s t : Nat} {pn Td Nm Tb : Nat → Int32} {pt : Nat → Int64} (hE : xE wt q pn pt Td Nm Tb) (hr : r < q) (hs : s < 512) (ht : t < 512) (h : ∀ k, k < 9 → xb (Nm r) k = true → s.testBit k = t.testBit k) : hb pt r s = hb pt r t := by
  have d := (hE r hr).2.2.2.1
  have a : hb pt r s = true → hb pt r t = true := d s t hs ht (fun k hk n z => by rw [← h k hk n]; exact z)
  have b : hb pt r t = true → hb pt r s = true := d t s ht hs (fun k hk n z => by rw [h k hk n]; exact z)
  exact Bool.eq_iff_iff.mpr ⟨a, b⟩
/-- closed: with a RAIL stand those that its formula names -/
def yCl (q : Nat) (pn : Nat → Int32) (x S : Nat) : Prop := ∀ r, x ≤ r → r < q → S.testBit r = true → ∀ k, k < q → xb (pn (8 * r + 7)) k = true → S.testBit k = true
theorem y_names {q : Nat} (q8 : q ≤ 8) (v : Int32) : v &&& xA q = nI (xup (fun k => xb v k) q 0) := xb_ext (fun r hr => by
  rw [xb_and, xA_b q8 hr, xb_nI hr, xup_bit, Nat.zero_testBit, Bool.false_or, Bool.and_comm])
theorem ss_in {rec : Int32 → Int32 → Int32} {n : Int32} {pn : Nat → Int32} {q : Nat} (q8 : q ≤ 8) : ∀ (m x k S : Nat), x + m = q → S < 256 → ∃ S' : Nat, K_sourcesOf_L5 (nI q) rec n pn (k + m + 1) (nI x) (nI S) = rec (n + 1) (nI S') ∧ S' < 256 ∧ (∀ j, S.testBit j = true → S'.testBit j = true) ∧ (S' = S → yCl q pn x S) ∧ (yCl q pn x S → S' = S) := by
  have qq : (nI q).toInt = (q : Int) := nI_toInt (by omega)
  intro m
  induction m with
  | zero =>
    intro x k S hx hS
    have ex : (nI x).toInt = (x : Int) := nI_toInt (by omega)
    refine ⟨S, ?_, hS, fun _ z => z, fun _ r r1 r2 => absurd r2 (by omega), fun _ => rfl⟩
    simp only [K_sourcesOf_L5, K_sourcesOf_3, K_sourcesOf_6, K_sourcesOf_11, K_sourcesOf_10, K_sourcesOf_9, K_sourcesOf_8, K_sourcesOf_7, K_sourcesOf_5, K_sourcesOf_4, K_sourcesOf_1, M_sourcesOf]
    rw [if_pos (by omega)]
  | succ m ih =>
    intro x k S hx hS
    have ex : (nI x).toInt = (x : Int) := nI_toInt (by omega)
    have bt : ((nI S >>> (nI x &&& 31)) &&& (1 : Int32)).toInt = 1 ↔ S.testBit x = true := by rw [xsr_1 (nI S) (by omega), xb_nI (by omega)]
    have nl : xup (fun k => xb (pn (8 * x + 7)) k) q 0 < 256 := xup_lt (by decide) q q8
    have un : K_sourcesOf_L5 (nI q) rec n pn ((k + m + 1) + 1) (nI x) (nI S) = if ((nI S >>> (nI x &&& 31)) &&& (1 : Int32)).toInt = 1 then K_sourcesOf_L5 (nI q) rec n pn (k + m + 1) (nI (x + 1)) (nI (S ||| xup (fun k => xb (pn (8 * x + 7)) k) q 0)) else K_sourcesOf_L5 (nI q) rec n pn (k + m + 1) (nI (x + 1)) (nI S) := by
      generalize k + m + 1 = j
      simp only [K_sourcesOf_L5, K_sourcesOf_3, K_sourcesOf_6, K_sourcesOf_11, K_sourcesOf_10, K_sourcesOf_9, K_sourcesOf_8, K_sourcesOf_7, K_sourcesOf_5, K_sourcesOf_4, K_sourcesOf_1, M_sourcesOf]
      rw [if_neg (by omega), nI_1, show M_number pn (nI x) 7 = pn (8 * x + 7) from t_nb (k := 7) (by omega) (by decide), t_allR, y_names q8, x_or (by omega) (by omega)]
    by_cases b : S.testBit x = true
    · rw [if_pos (bt.mpr b)] at un
      have S1 : S ||| xup (fun k => xb (pn (8 * x + 7)) k) q 0 < 256 := Nat.or_lt_two_pow (n := 8) hS nl
      obtain ⟨S', a1, a2, a3, a4, a5⟩ := ih (x + 1) k (S ||| xup (fun k => xb (pn (8 * x + 7)) k) q 0) (by omega) S1
      have up : ∀ j, S.testBit j = true → (S ||| xup (fun k => xb (pn (8 * x + 7)) k) q 0).testBit j = true := fun j hj => by
        rw [Nat.testBit_or, hj, Bool.true_or]
      have nb : ∀ j, j < q → xb (pn (8 * x + 7)) j = true → (S ||| xup (fun k => xb (pn (8 * x + 7)) k) q 0).testBit j = true := fun j hj hb9 => by
        rw [Nat.testBit_or, xup_bit, Nat.zero_testBit, Bool.false_or, hb9]
        simp [hj]
      refine ⟨S', un.trans a1, a2, fun j hj => a3 j (up j hj), fun e => ?_, fun c => ?_⟩
      · have e1 : S ||| xup (fun k => xb (pn (8 * x + 7)) k) q 0 = S := Nat.eq_of_testBit_eq (fun j => Bool.eq_iff_iff.mpr ⟨fun z => by
          have y := a3 j z
          rw [e] at y
          exact y, up j⟩)
        have c := a4 (e.trans e1.symm)
        rw [e1] at c nb
        intro r r1 r2 r3 k2 k3 k4
        by_cases y : r = x
        · rw [y] at k4
          exact nb k2 k3 k4
        · exact c r (by omega) r2 r3 k2 k3 k4
      · have e1 : S ||| xup (fun k => xb (pn (8 * x + 7)) k) q 0 = S := Nat.eq_of_testBit_eq (fun j => Bool.eq_iff_iff.mpr ⟨fun z => by
          rw [Nat.testBit_or, xup_bit, Nat.zero_testBit, Bool.false_or, Bool.or_eq_true, Bool.and_eq_true, decide_eq_true_iff] at z
          rcases z with z | ⟨z1, z2⟩
          · exact z
          · exact c x (Nat.le_refl _) (by omega) b j z1 z2, up j⟩)
        rw [a5 (by rw [e1]; exact fun r r1 => c r (by omega)), e1]
    · rw [if_neg (fun z => b (bt.mp z))] at un
      obtain ⟨S', a1, a2, a3, a4, a5⟩ := ih (x + 1) k S (by omega) hS
      refine ⟨S', un.trans a1, a2, a3, fun e r r1 r2 r3 => ?_, fun c => a5 (fun r r1 => c r (by omega))⟩
      by_cases y : r = x
      · rw [y] at r3
        exact absurd r3 b
      · exact a4 e r (by omega) r2 r3
theorem so2_in {pn : Nat → Int32} {q : Nat} (q8 : q ≤ 8) : ∀ (m k i S : Nat), i + m = 8 → S < 256 → (9 ≤ xpc S + m ∨ yCl q pn 0 S) → ∃ Y : Nat, K_sourcesOf_L2 (nI q) pn (k + m + 1) (nI i) (nI S) = nI Y ∧ Y < 256 ∧ (∀ j, S.testBit j = true → Y.testBit j = true) ∧ yCl q pn 0 Y := by
  intro m
  induction m with
  | zero =>
    intro k i S hi hS h
    have ei : (nI i).toInt = (i : Int) := nI_toInt (by omega)
    have c : yCl q pn 0 S := by
      rcases h with h | h
      · have := xpc_le S
        omega
      · exact h
    refine ⟨S, ?_, hS, fun _ z => z, c⟩
    simp only [K_sourcesOf_L2, K_sourcesOf_3, K_sourcesOf_6, K_sourcesOf_11, K_sourcesOf_10, K_sourcesOf_9, K_sourcesOf_8, K_sourcesOf_7, K_sourcesOf_5, K_sourcesOf_4, K_sourcesOf_2, K_sourcesOf_1, M_sourcesOf]
    rw [if_pos (by omega)]
  | succ m ih =>
    intro k i S hi hS h
    have ei : (nI i).toInt = (i : Int) := nI_toInt (by omega)
    obtain ⟨S', a1, a2, a3, a4, a5⟩ := ss_in (rec := K_sourcesOf_L2 (nI q) pn (k + m + 1)) (n := nI i) (pn := pn) q8 q 0 (99999 - q) S (by omega) hS
    rw [show 99999 - q + q + 1 = 100000 from by omega] at a1
    have un : K_sourcesOf_L2 (nI q) pn ((k + m + 1) + 1) (nI i) (nI S) = K_sourcesOf_L5 (nI q) (K_sourcesOf_L2 (nI q) pn (k + m + 1)) (nI i) pn 100000 (nI 0) (nI S) := by
      generalize k + m + 1 = j
      simp only [K_sourcesOf_L2, K_sourcesOf_3, K_sourcesOf_6, K_sourcesOf_11, K_sourcesOf_10, K_sourcesOf_9, K_sourcesOf_8, K_sourcesOf_7, K_sourcesOf_5, K_sourcesOf_4, K_sourcesOf_2, K_sourcesOf_1, M_sourcesOf]
      rw [if_neg (by omega)]
      rfl
    have st := un.trans a1
    rw [nI_1] at st
    obtain ⟨Y, y1, y2, y3, y4⟩ := ih k (i + 1) S' (by omega) a2 (by
      by_cases e : S' = S
      · exact Or.inr (by rw [e]; exact a4 e)
      · rcases h with h | h
        · have := xpc_or hS a2 a3 e
          exact Or.inl (by omega)
        · exact absurd (a5 h) e)
    exact ⟨Y, st.trans y1, y2, fun j hj => y3 j (a3 j hj), y4⟩
theorem xpc_1 {S a : Nat} (ha : a < 8) (h : S.testBit a = true) : 1 ≤ xpc S := by
  have c : a = 0 ∨ a = 1 ∨ a = 2 ∨ a = 3 ∨ a = 4 ∨ a = 5 ∨ a = 6 ∨ a = 7 := by omega
  unfold xpc
  rcases c with c | c | c | c | c | c | c | c <;> subst c <;> rw [h] <;> simp only [if_true] <;> omega
/-- those that bear on a and b -/
theorem t_src {pn : Nat → Int32} {q a b : Nat} (q8 : q ≤ 8) (ha : a < 8) (hb9 : b < 8) : ∃ Y : Nat, M_sourcesOf (nI q) pn (((1 : Int32) <<< (nI a &&& 31)) ||| ((1 : Int32) <<< (nI b &&& 31))) = nI Y ∧ Y < 256 ∧ Y.testBit a = true ∧ Y.testBit b = true ∧ yCl q pn 0 Y := by
  have pa : 2 ^ a < 512 := Nat.lt_of_le_of_lt (Nat.pow_le_pow_right (by decide) (show a ≤ 8 by omega)) (by decide)
  have pb : 2 ^ b < 512 := Nat.lt_of_le_of_lt (Nat.pow_le_pow_right (by decide) (show b ≤ 8 by omega)) (by decide)
  have qa : 2 ^ a < 2 ^ 8 := Nat.pow_lt_pow_right (by decide) ha
  have qb : 2 ^ b < 2 ^ 8 := Nat.pow_lt_pow_right (by decide) hb9
  have S1 : 2 ^ a ||| 2 ^ b < 256 := Nat.or_lt_two_pow (n := 8) qa qb
  have ba : (2 ^ a ||| 2 ^ b).testBit a = true := by rw [Nat.testBit_or, Nat.testBit_two_pow_self, Bool.true_or]
  have bb : (2 ^ a ||| 2 ^ b).testBit b = true := by rw [Nat.testBit_or, Nat.testBit_two_pow_self, Bool.or_true]
  have x1 := xpc_1 ha ba
  obtain ⟨Y, y1, y2, y3, y4⟩ := so2_in (pn := pn) q8 8 99991 0 (2 ^ a ||| 2 ^ b) (by decide) S1 (Or.inl (by omega))
  refine ⟨Y, ?_, y2, y3 a ba, y3 b bb, y4⟩
  rw [x_shl ⟨a, by omega⟩, x_shl ⟨b, by omega⟩, x_or pa pb]
  exact y1
/-- on a closed set the others do not matter -/
theorem yM_sub {wt : Bool} {q Y : Nat} {P Q : Nat → Bool} {pn Td Nm Tb : Nat → Int32} {pt : Nat → Int64} {w k : Nat → Nat} (q8 : q ≤ 8) (hE : xE wt q pn pt Td Nm Tb) (cl : yCl q pn 0 Y) (hQ : ∀ j, j < q → Y.testBit j = true → Q j = P j) : ∀ t, t ≤ 100000 → ∀ x, x < q → Y.testBit x = true → yM q Q pt w k t x = yM q P pt w k t x := by
  intro t
  induction t with
  | zero => exact fun _ x _ _ => rfl
  | succ t ih =>
    intro ht x hx hY
    have i9 := ih (by omega)
    show yN q Q pt w k t (yM q Q pt w k t) x = yN q P pt w k t (yM q P pt w k t) x
    generalize yM q Q pt w k t = M at i9
    generalize yM q P pt w k t = N at i9
    have e : hb pt x (yS q (yG w k M) t + 256) = hb pt x (yS q (yG w k N) t + 256) := y_dep hE hx (by have := yS_lt (G := yG w k M) (t := t) q8; omega) (by have := yS_lt (G := yG w k N) (t := t) q8; omega) (fun j hj hn => by
      rw [y_bit256 ⟨_, yS_lt q8⟩ ⟨j, hj⟩, y_bit256 ⟨_, yS_lt q8⟩ ⟨j, hj⟩]
      show (decide (j = 8) || (yS q (yG w k M) t).testBit j) = (decide (j = 8) || (yS q (yG w k N) t).testBit j)
      rw [yS_bit, yS_bit]
      by_cases jq : j < q
      · have yj := cl x (Nat.zero_le _) hx hY j jq (by rw [(hE x hx).2.1]; exact hn)
        have g : yG w k M j = yG w k N j := by
          unfold yG
          rw [i9 j jq yj]
        rw [g]
      · simp [jq])
    unfold yN
    rw [i9 x hx hY, hQ x hx hY, e]
/-- by how much a is behind b in a way -/
def yAv (q : Nat) (pt : Nat → Int64) (d : Int32) (Td : Nat → Int32) (a b : Nat) (u : Nat → Nat) : Int32 := nI (yGT q pt d u (yw Td) a) - nI (yGT q pt d u (yw Td) b)
theorem y_both {X a b : Nat} (hX : X < 256) (ha : a < 8) (hb9 : b < 8) : ((nI X &&& (((1 : Int32) <<< (nI a &&& 31)) ||| ((1 : Int32) <<< (nI b &&& 31)))).toInt = (((1 : Int32) <<< (nI a &&& 31)) ||| ((1 : Int32) <<< (nI b &&& 31))).toInt) ↔ (X.testBit a = true ∧ X.testBit b = true) := by
  have sh : ∀ k r : Nat, k < 32 → r < 32 → xb ((1 : Int32) <<< (nI k &&& 31)) r = decide (r = k) := fun k r hk hr => by
    have z := xb_shl ⟨k, hk⟩ ⟨r, hr⟩
    dsimp only at z
    rw [z]
    exact decide_eq_decide.mpr ⟨fun y => Fin.mk.inj y, fun y => by subst y; rfl⟩
  constructor
  · intro h
    have e := Int32.toInt_inj.mp h
    have g : ∀ r, r < 32 → xb (nI X &&& (((1 : Int32) <<< (nI a &&& 31)) ||| ((1 : Int32) <<< (nI b &&& 31)))) r = xb (((1 : Int32) <<< (nI a &&& 31)) ||| ((1 : Int32) <<< (nI b &&& 31))) r := fun r _ => by rw [e]
    refine ⟨?_, ?_⟩
    · have z := g a (by omega)
      rw [xb_and, xb_or, sh a a (by omega) (by omega), xb_nI (by omega)] at z
      simpa using z
    · have z := g b (by omega)
      rw [xb_and, xb_or, sh b b (by omega) (by omega), xb_nI (by omega)] at z
      simpa using z
  · rintro ⟨h1, h2⟩
    congr 1
    refine xb_ext (fun r hr => ?_)
    rw [xb_and, xb_or, sh a r (by omega) hr, sh b r (by omega) hr, xb_nI hr]
    by_cases e1 : r = a
    · rw [e1, h1]
      rfl
    · by_cases e2 : r = b
      · rw [e2, h2]
        rfl
      · simp [e1, e2]
theorem y_and_bit {Y X j : Nat} : (Y &&& X).testBit j = true ↔ (Y.testBit j = true ∧ X.testBit j = true) := by
  rw [Nat.testBit_and, Bool.and_eq_true]
/-- one way of the class, where those alone are followed that bear on a and b -/
theorem t_wayA {pn Td Nm Tb D fw f fr fg : Nat → Int32} {u : Nat → Nat} {pt : Nat → Int64} {q Y a b : Nat} {d : Int32} (q8 : q ≤ 8) (hE : xE true q pn pt Td Nm Tb) (hd : xDd d D) (hn : ∀ j, j < 64 → 0 ≤ (pn j).toInt ∧ (pn j).toInt ≤ 511) (cl : yCl q pn 0 Y) (Y1 : Y < 256) (ha : a < q) (hb9 : b < q) (Ya : Y.testBit a = true) (Yb : Y.testBit b = true) (Xa : (yX q pt d).testBit a = true) (Xb : (yX q pt d).testBit b = true) (hw : ∀ j, j < q → fw j = nI (yw Td j) ∧ yw Td j ≤ 9) (hf : ∀ j, j < q → f j = nI (u j) ∧ 1 ≤ u j ∧ u j ≤ 9) : (∃ (L c : Int32) (fr' fg' : Nat → Int32), M_follow (nI q) (nI (Y &&& yX q pt d)) fw f pt fr fg = (c, L, fr', fg') ∧ fg' a = nI (yGT q pt d u (yw Td) a) ∧ fg' b = nI (yGT q pt d u (yw Td) b)) ∧ (1 ≤ yGT q pt d u (yw Td) a ∧ yGT q pt d u (yw Td) a ≤ 144) ∧ (1 ≤ yGT q pt d u (yw Td) b ∧ yGT q pt d u (yw Td) b ≤ 144) := by
  have xl := yX_lt (pt := pt) (d := d) q8
  have ma := y_mayX (q := q) (pt := pt) (d := d) q8
  obtain ⟨fr1, fg1, r1, r2, r3, r4⟩ := t_row (fw := fw) (fr := fr) (fg := fg) (ft := f) (s0 := nI (yX q pt d)) (P := fun j => xb (nI (yX q pt d)) j) (w := yw Td) (k := u) (pt := pt) (q := q) (d := d) q8 (xE_mono hE) hw hf (fun j _ => rfl) ma.1 ma.2
  have po := r_follow (fr := fr) (fg := fg) (pt := pt) (fw := fw) (ft := f) (s0 := nI (Y &&& yX q pt d)) (P := fun j => (Y &&& yX q pt d).testBit j) (w := yw Td) (k9 := u) q8 hw hf (fun j hj => (xb_nI (by omega)).symm)
  generalize M_follow (nI q) (nI (Y &&& yX q pt d)) fw f pt fr fg = R at po
  obtain ⟨-, -, p3, -⟩ := po
  have su := yM_sub (P := fun x => (yX q pt d).testBit x) (Q := fun j => (Y &&& yX q pt d).testBit j) (w := yw Td) (k := u) q8 hE cl (fun j hj y => by
    show (Y &&& yX q pt d).testBit j = (yX q pt d).testBit j
    rw [Nat.testBit_and, y, Bool.true_and]) 201 (by decide)
  have one : ∀ x, x < q → Y.testBit x = true → (yX q pt d).testBit x = true → R.2.2.2 x = nI (yGT q pt d u (yw Td) x) ∧ 1 ≤ yGT q pt d u (yw Td) x ∧ yGT q pt d u (yw Td) x ≤ 144 := fun x hx y1 y2 => by
    have e := su x hx y1
    have e : yM q (fun j => (Y &&& yX q pt d).testBit j) pt (yw Td) u 201 x = yT q pt d (yw Td) u x := e
    have nz := (r4 x hx).mp y2
    have g := (p3 x hx (by rw [e]; exact nz)).2
    have eg : yG (yw Td) u (yM q (fun j => (Y &&& yX q pt d).testBit j) pt (yw Td) u 201) x = yGT q pt d u (yw Td) x := by
      unfold yGT yG
      rw [e]
    rw [eg] at g
    have c := r3 x hx nz
    have gs : yGT q pt d u (yw Td) x = yT q pt d (yw Td) u x + yw Td x + u x := if_neg nz
    have := (hf x hx).2.1
    exact ⟨g, by omega, by omega⟩
  have oa := one a ha Ya Xa
  have ob := one b hb9 Yb Xb
  exact ⟨⟨R.2.1, R.1, R.2.2.1, R.2.2.2, rfl, oa.1, ob.1⟩, oa.2, ob.2⟩
/-- the value depends on those alone that bear on a and b -/
theorem yAv_dep {pn Td Nm Tb D : Nat → Int32} {pt : Nat → Int64} {q Y a b : Nat} {d : Int32} (q8 : q ≤ 8) (hE : xE true q pn pt Td Nm Tb) (cl : yCl q pn 0 Y) (ha : a < q) (hb9 : b < q) (Ya : Y.testBit a = true) (Yb : Y.testBit b = true) : ∀ v v' : Nat → Nat, (∀ j, j < q → (fun j => (Y &&& yX q pt d).testBit j) j = true → v j = v' j) → (yX q pt d).testBit a = true → (yX q pt d).testBit b = true → yAv q pt d Td a b v = yAv q pt d Td a b v' := by
  intro v v' h Xa Xb
  have su : ∀ (u : Nat → Nat) (x : Nat), x < q → Y.testBit x = true → yM q (fun j => (Y &&& yX q pt d).testBit j) pt (yw Td) u 201 x = yT q pt d (yw Td) u x := fun u x hx y1 => yM_sub (P := fun x => (yX q pt d).testBit x) (Q := fun j => (Y &&& yX q pt d).testBit j) (w := yw Td) (k := u) q8 hE cl (fun j hj y => by
    show (Y &&& yX q pt d).testBit j = (yX q pt d).testBit j
    rw [Nat.testBit_and, y, Bool.true_and]) 201 (by decide) x hx y1
  have km := yM_k (P := fun j => (Y &&& yX q pt d).testBit j) (pt := pt) (w := yw Td) h 201 (by decide)
  have one : ∀ x, x < q → Y.testBit x = true → (yX q pt d).testBit x = true → yGT q pt d v (yw Td) x = yGT q pt d v' (yw Td) x := fun x hx y1 y2 => by
    have e1 := su v x hx y1
    have e2 := su v' x hx y1
    rw [km] at e1
    unfold yGT yG
    rw [← e1, ← e2, h x hx (y_and_bit.mpr ⟨y1, y2⟩)]
  unfold yAv
  rw [one a ha Ya Xa, one b hb9 Yb Xb]
theorem mb_in {pn Td Nm Tb D fw wb wk : Nat → Int32} {pt : Nat → Int64} {q Y a b : Nat} {d v2 : Int32} (q8 : q ≤ 8) (hE : xE true q pn pt Td Nm Tb) (hd : xDd d D) (hn : ∀ j, j < 64 → 0 ≤ (pn j).toInt ∧ (pn j).toInt ≤ 511) (ht : xTD Td q) (cl : yCl q pn 0 Y) (Y1 : Y < 256) (ha : a < q) (hb9 : b < q) (Ya : Y.testBit a = true) (Yb : Y.testBit b = true) (Xa : (yX q pt d).testBit a = true) (Xb : (yX q pt d).testBit b = true) (hw : ∀ j, j < q → fw j = nI (yw Td j) ∧ yw Td j ≤ 9) : ∀ (m c kk : Nat) (u : Nat → Nat) (most e1 e2 : Int32) (fr fg f : Nat → Int32), c + m + 1 ≤ 20000 → yBx q (ylo Td) (yhi Td) u → (∀ j, j < q → f j = nI (u j)) → yRk (fun j => (Y &&& yX q pt d).testBit j) (ylo Td) (yhi Td) u q = c → c + m + 1 = yPz (fun j => (Y &&& yX q pt d).testBit j) (ylo Td) (yhi Td) q → ((most = -144 ∧ c = 0) ∨ yUp (fun j => (Y &&& yX q pt d).testBit j) (ylo Td) (yhi Td) q (yAv q pt d Td a b) c most) → ∃ (most' e1' e2' : Int32) (f' fr' fg' : Nat → Int32), K_mostBehind_L7 wb v2 wk fw (nI a) (nI b) (nI q) (nI (Y &&& yX q pt d)) pn pt (kk + m + 2) (nI c) 1 most fr fg e1 e2 f = (most', upd wb v2.toNatClampNeg most', upd wk v2.toNatClampNeg 1, e1', e2', fw, f', fr', fg') ∧ yTop (ylo Td) (yhi Td) q (yAv q pt d Td a b) most' := by
  obtain ⟨gp9, g9, g1⟩ := y_lh hE ht
  have n1 : vp_nar .boolean (1 : Int32) = 1 := by decide
  have m144 : (-144 : Int32).toInt = -144 := by decide
  have ac : (nI a).toNatClampNeg = a := nI_clamp (by omega)
  have bc : (nI b).toNatClampNeg = b := nI_clamp (by omega)
  have dep : ∀ v v' : Nat → Nat, (∀ j, j < q → (fun j => (Y &&& yX q pt d).testBit j) j = true → v j = v' j) → yAv q pt d Td a b v = yAv q pt d Td a b v' := fun v v' h => yAv_dep (D := D) q8 hE cl ha hb9 Ya Yb v v' h Xa Xb
  have dn : ∀ (n c : Nat) (most e1 e2 : Int32) (fr fg f : Nat → Int32), c ≤ 20000 → K_mostBehind_L7 wb v2 wk fw (nI a) (nI b) (nI q) (nI (Y &&& yX q pt d)) pn pt (n + 1) (nI c) 0 most fr fg e1 e2 f = (most, upd wb v2.toNatClampNeg most, upd wk v2.toNatClampNeg 1, e1, e2, fw, f, fr, fg) := fun n c most e1 e2 fr fg f hc => by
    have ec : (nI c).toInt = (c : Int) := nI_toInt (by omega)
    simp only [K_mostBehind_L7, K_mostBehind_7, K_mostBehind_8, K_mostBehind_9, K_mostBehind_10, n1]
    by_cases z : 20000 ≤ (nI c).toInt
    · rw [if_pos z]
    · rw [if_neg z, if_pos (by decide)]
  have st : ∀ (n c : Nat) (u : Nat → Nat) (most e1 e2 : Int32) (fr fg f : Nat → Int32), c < 20000 → yBx q (ylo Td) (yhi Td) u → (∀ j, j < q → f j = nI (u j)) → ∃ (u' : Nat → Nat) (g e1' e2' : Int32) (f' fr' fg' : Nat → Int32), K_mostBehind_L7 wb v2 wk fw (nI a) (nI b) (nI q) (nI (Y &&& yX q pt d)) pn pt (n + 1) (nI c) 1 most fr fg e1 e2 f = K_mostBehind_L7 wb v2 wk fw (nI a) (nI b) (nI q) (nI (Y &&& yX q pt d)) pn pt n (nI (c + 1)) g (if (yAv q pt d Td a b u).toInt ≤ most.toInt then most else yAv q pt d Td a b u) fr' fg' e1' e2' f' ∧ (∀ j, j < q → f' j = nI (u' j)) ∧ yBx q (ylo Td) (yhi Td) u' ∧ yNx (fun j => (Y &&& yX q pt d).testBit j) (ylo Td) (yhi Td) q 0 u u' g ∧ -144 < (yAv q pt d Td a b u).toInt := fun n c u most e1 e2 fr fg f hc hu hf => by
    have ec : (nI c).toInt = (c : Int) := nI_toInt (by omega)
    obtain ⟨⟨L, cu, fr', fg', a1, a2, a3⟩, b1, b2⟩ := t_wayA (fr := fr) (fg := fg) (f := f) (u := u) q8 hE hd hn cl Y1 ha hb9 Ya Yb Xa Xb hw (fun j hj => ⟨hf j hj, by have := g1 j hj; have := hu j hj; omega, by have := (g9 j hj).2.2.2; have := hu j hj; omega⟩)
    obtain ⟨u', f', g, c1, c2, c3, c4⟩ := t_nextWay (X := Y &&& yX q pt d) (f := f) q8 gp9 hu hf
    have v1 : (nI (yGT q pt d u (yw Td) a)).toInt = ((yGT q pt d u (yw Td) a : Nat) : Int) := nI_toInt (by omega)
    have v2' : (nI (yGT q pt d u (yw Td) b)).toInt = ((yGT q pt d u (yw Td) b : Nat) : Int) := nI_toInt (by omega)
    have v3 : (yAv q pt d Td a b u).toInt = ((yGT q pt d u (yw Td) a : Nat) : Int) - ((yGT q pt d u (yw Td) b : Nat) : Int) := xsub v1 v2' (by omega) (by omega)
    refine ⟨u', g, cu, L, f', fr', fg', ?_, c2, c3, c4, by omega⟩
    simp only [K_mostBehind_L7, K_mostBehind_7, K_mostBehind_9, K_mostBehind_11, K_mostBehind_12, K_mostBehind_13]
    rw [if_neg (by omega), if_neg (by decide), a1]
    dsimp only
    rw [c1, ac, bc, y_max, a2, a3, nI_1]
    rfl
  have nU : ∀ (u : Nat → Nat) (c : Nat) (most : Int32), yBx q (ylo Td) (yhi Td) u → yRk (fun j => (Y &&& yX q pt d).testBit j) (ylo Td) (yhi Td) u q = c → -144 < (yAv q pt d Td a b u).toInt → ((most = -144 ∧ c = 0) ∨ yUp (fun j => (Y &&& yX q pt d).testBit j) (ylo Td) (yhi Td) q (yAv q pt d Td a b) c most) → yUp (fun j => (Y &&& yX q pt d).testBit j) (ylo Td) (yhi Td) q (yAv q pt d Td a b) (c + 1) (if (yAv q pt d Td a b u).toInt ≤ most.toInt then most else yAv q pt d Td a b u) := fun u c most hu hr hv h => by
    rcases h with ⟨c1, c2⟩ | h
    · rw [if_neg (by rw [c1, m144]; omega), c2]
      exact yUp_0 dep hu (by omega)
    · exact yUp_st dep hu hr h
  intro m
  induction m with
  | zero =>
    intro c kk u most e1 e2 fr fg f hc hu hf hr hm hU
    obtain ⟨u', g, e1', e2', f', fr', fg', s1, s2, s3, s4, s5⟩ := st (kk + 1) c u most e1 e2 fr fg f (by omega) hu hf
    have nU := nU u c most hu hr s5 hU
    rcases yRk_next (fun j hj => (g9 j hj).2.2.1) hu s4 with ⟨g0, r0⟩ | ⟨-, r0⟩
    · rw [g0, dn kk (c + 1) _ _ _ _ _ _ (by omega)] at s1
      rw [show c + 1 = yPz (fun j => (Y &&& yX q pt d).testBit j) (ylo Td) (yhi Td) q from by omega] at nU
      exact ⟨_, _, _, _, _, _, s1, yUp_all nU⟩
    · have := yRk_lt (Z := fun j => (Y &&& yX q pt d).testBit j) q s3
      omega
  | succ m ih =>
    intro c kk u most e1 e2 fr fg f hc hu hf hr hm hU
    obtain ⟨u', g, e1', e2', f', fr', fg', s1, s2, s3, s4, s5⟩ := st (kk + m + 2) c u most e1 e2 fr fg f (by omega) hu hf
    have nU := nU u c most hu hr s5 hU
    rcases yRk_next (fun j hj => (g9 j hj).2.2.1) hu s4 with ⟨-, r0⟩ | ⟨g1, r0⟩
    · omega
    · rw [g1] at s1
      obtain ⟨most', x1, x2, y1, y2, y3, z1, z2⟩ := ih (c + 1) kk u' _ e1' e2' fr' fg' f' (by omega) s3 s2 (by omega) (by omega) (Or.inr nU)
      exact ⟨most', x1, x2, y1, y2, y3, s1.trans z1, z2⟩
/-- by how much at most: the class, found anew -/
theorem t_mostB {pn Td Nm Tb D fw ft fr fg wb wk : Nat → Int32} {pt : Nat → Int64} {q a b : Nat} {d s0 cup cl : Int32} (q8 : q ≤ 8) (hE : xE true q pn pt Td Nm Tb) (hd : xDd d D) (hn : ∀ j, j < 64 → 0 ≤ (pn j).toInt ∧ (pn j).toInt ≤ 511) (ht : xTD Td q) (hs : M_upAmong (nI q) s0 pt = nI (yX q pt d)) (hW : yPz (fun _ => true) (ylo Td) (yhi Td) q ≤ 20000) (ha : a < q) (hb9 : b < q) (Xa : (yX q pt d).testBit a = true) (Xb : (yX q pt d).testBit b = true) (hk : wk (8 * a + b) = 0) : ∃ (most' e1' e2' : Int32) (fw' f' fr' fg' : Nat → Int32), M_mostBehind wk (nI a) (nI b) wb (nI q) pn pt fr fg cup cl ft fw s0 = (most', upd wb (8 * a + b) most', upd wk (8 * a + b) 1, e1', e2', fw', f', fr', fg') ∧ yTop (ylo Td) (yhi Td) q (yAv q pt d Td a b) most' := by
  obtain ⟨gp9, g9, g1⟩ := y_lh hE ht
  obtain ⟨Y, y1, y2, y3, y4, y5⟩ := t_src (pn := pn) (a := a) (b := b) q8 (by omega) (by omega)
  have xl := yX_lt (pt := pt) (d := d) q8
  have le := yPz_le (Z := fun j => (Y &&& yX q pt d).testBit j) (lo := ylo Td) (hi := yhi Td) q
  have ps := yPz_pos (Z := fun j => (Y &&& yX q pt d).testBit j) (lo := ylo Td) (hi := yhi Td) q
  have ei : ((nI a * 8) + nI b).toNatClampNeg = 8 * a + b := xi8 (q := a) (k := b) (by omega) (by omega)
  have hf : ∀ j, j < q → M_cSetTakes (nI q) pn 0 ft j = nI (ylo Td j) := fun j hj => by
    rw [show M_cSetTakes (nI q) pn 0 ft = _ from t_cSetT (c := 0) q8 (by decide), yF_t hj rfl]
    exact (gp9 j hj).1
  have hu : yBx q (ylo Td) (yhi Td) (ylo Td) := fun j hj => ⟨Nat.le_refl _, (g9 j hj).2.2.1⟩
  have r0 := yRk_lo (Z := fun j => (Y &&& yX q pt d).testBit j) (lo := ylo Td) (hi := yhi Td) (u := ylo Td) q (fun j _ _ => rfl)
  obtain ⟨most', x1, x2, z1, z2, z3, z4, z5⟩ := mb_in (fw := M_cSetWaits (nI q) pn fw) (wb := wb) (wk := wk) (v2 := (nI a * 8) + nI b) q8 hE hd hn ht y5 y2 ha hb9 y3 y4 Xa Xb (fun j hj => yw_c q8 hE hj) (yPz (fun j => (Y &&& yX q pt d).testBit j) (ylo Td) (yhi Td) q - 1) 0 (99998 - (yPz (fun j => (Y &&& yX q pt d).testBit j) (ylo Td) (yhi Td) q - 1)) (ylo Td) (-144) cup cl fr fg (M_cSetTakes (nI q) pn 0 ft) (by omega) hu hf r0 (by omega) (Or.inl ⟨rfl, rfl⟩)
  rw [show 99998 - (yPz (fun j => (Y &&& yX q pt d).testBit j) (ylo Td) (yhi Td) q - 1) + (yPz (fun j => (Y &&& yX q pt d).testBit j) (ylo Td) (yhi Td) q - 1) + 2 = 100000 from by omega, ei] at z4
  refine ⟨most', x1, x2, M_cSetWaits (nI q) pn fw, z1, z2, z3, ?_, z5⟩
  rw [← z4]
  simp only [M_mostBehind, K_mostBehind_1, K_mostBehind_2, K_mostBehind_4, K_mostBehind_5, K_mostBehind_6, K_wStart_3, K_wStart_2, K_wStart_1, M_wStart]
  rw [ei, hk, if_pos (by decide), y1, hs, x_and (by omega) (by omega)]
  rfl
/-- what the class keeps of them: nothing, or those of the plan -/
def yKw (q : Nat) (pt : Nat → Int64) (d : Int32) (Td wk wb : Nat → Int32) : Prop := ∀ a b, a < q → b < q → wk (8 * a + b) = 0 ∨ (wk (8 * a + b) = 1 ∧ yTop (ylo Td) (yhi Td) q (yAv q pt d Td a b) (wb (8 * a + b)))
/-- by how much at most: the reference -/
theorem mah_in {pn Td Nm Tb D Fw : Nat → Int32} {pt : Nat → Int64} {q a b : Nat} {d a2 : Int32} (q8 : q ≤ 8) (hE : xE true q pn pt Td Nm Tb) (hd : xDd d D) (hn : ∀ j, j < 64 → 0 ≤ (pn j).toInt ∧ (pn j).toInt ≤ 511) (ht : xTD Td q) (ha : a < q) (hb9 : b < q) (Xa : (yX q pt d).testBit a = true) (Xb : (yX q pt d).testBit b = true) (hw : ∀ j, j < q → Fw j = nI (yw Td j) ∧ yw Td j ≤ 9) : ∀ (m kk : Nat) (u : Nat → Nat) (most up : Int32) (Fm Fg f : Nat → Int32), yBx q (ylo Td) (yhi Td) u → (∀ j, j < q → f j = nI (u j)) → yRk (fun _ => true) (ylo Td) (yhi Td) u q + m + 1 = yPz (fun _ => true) (ylo Td) (yhi Td) q → ((most = -100000 ∧ yRk (fun _ => true) (ylo Td) (yhi Td) u q = 0) ∨ yUp (fun _ => true) (ylo Td) (yhi Td) q (yAv q pt d Td a b) (yRk (fun _ => true) (ylo Td) (yhi Td) u q) most) → ∃ (most' up' : Int32) (Fm' Fg' f' : Nat → Int32), K_m_ahead_L21 a2 Fw (nI a) (nI b) (nI q) Td Tb D (kk + m + 2) 1 most Fm Fg up f = (if a2.toInt = 1 then most' else if 0 ≤ most'.toInt then (if most'.toInt = 0 then 1 else 0) else 2, up', Fm', Fg', f', Fw) ∧ yTop (ylo Td) (yhi Td) q (yAv q pt d Td a b) most' := by
  obtain ⟨gp9, g9, g1⟩ := y_lh hE ht
  have ac : (nI a).toNatClampNeg = a := nI_clamp (by omega)
  have bc : (nI b).toNatClampNeg = b := nI_clamp (by omega)
  have m5 : (-100000 : Int32).toInt = -100000 := by decide
  have dep : ∀ v v' : Nat → Nat, (∀ j, j < q → (fun _ : Nat => true) j = true → v j = v' j) → yAv q pt d Td a b v = yAv q pt d Td a b v' := fun v v' h => by
    unfold yAv
    rw [yGT_k (fun x hx _ => h x hx rfl)]
  have dn : ∀ (n : Nat) (most up : Int32) (Fm Fg f : Nat → Int32), K_m_ahead_L21 a2 Fw (nI a) (nI b) (nI q) Td Tb D (n + 1) 0 most Fm Fg up f = (if a2.toInt = 1 then most else if 0 ≤ most.toInt then (if most.toInt = 0 then 1 else 0) else 2, up, Fm, Fg, f, Fw) := fun n most up Fm Fg f => by
    simp only [K_m_ahead_L21, K_m_ahead_21, K_m_ahead_22, K_m_ahead_24, K_m_ahead_25, K_m_ahead_26, K_m_ahead_27, K_m_ahead_28, K_m_ahead_29]
    rw [if_pos (by decide)]
    by_cases z : a2.toInt = 1
    · rw [if_pos z, if_pos z]
    · rw [if_neg z, if_neg z]
      by_cases y : 0 ≤ most.toInt
      · rw [if_pos y, if_pos y]
        by_cases x : most.toInt = 0
        · rw [if_pos x, if_pos x]
        · rw [if_neg x, if_neg x]
      · rw [if_neg y, if_neg y]
  have st : ∀ (n : Nat) (u : Nat → Nat) (most up : Int32) (Fm Fg f : Nat → Int32), yBx q (ylo Td) (yhi Td) u → (∀ j, j < q → f j = nI (u j)) → ∃ (u' : Nat → Nat) (g up' : Int32) (Fm' Fg' f' : Nat → Int32), K_m_ahead_L21 a2 Fw (nI a) (nI b) (nI q) Td Tb D (n + 1) 1 most Fm Fg up f = K_m_ahead_L21 a2 Fw (nI a) (nI b) (nI q) Td Tb D n g (if (yAv q pt d Td a b u).toInt ≤ most.toInt then most else yAv q pt d Td a b u) Fm' Fg' up' f' ∧ (∀ j, j < q → f' j = nI (u' j)) ∧ yBx q (ylo Td) (yhi Td) u' ∧ yNx (fun _ => true) (ylo Td) (yhi Td) q 0 u u' g ∧ -100000 < (yAv q pt d Td a b u).toInt := fun n u most up Fm Fg f hu hf => by
    obtain ⟨pt2, F, G, a1, -, a3⟩ := r_way (Fm := Fm) (Fg := Fg) (f := f) (u := u) q8 hE hd hn hw (fun j hj => ⟨hf j hj, by have := g1 j hj; have := hu j hj; omega, by have := (g9 j hj).2.2.2; have := hu j hj; omega⟩)
    obtain ⟨u', f', g, b1, b2, b3, b4⟩ := r_goesOn (f := f) q8 g9 hu hf
    obtain ⟨ga, la⟩ := a3 a ha Xa
    obtain ⟨gb, lb⟩ := a3 b hb9 Xb
    have v1 : (nI (yGT q pt d u (yw Td) a)).toInt = ((yGT q pt d u (yw Td) a : Nat) : Int) := nI_toInt (by omega)
    have v2 : (nI (yGT q pt d u (yw Td) b)).toInt = ((yGT q pt d u (yw Td) b : Nat) : Int) := nI_toInt (by omega)
    have v3 : (yAv q pt d Td a b u).toInt = ((yGT q pt d u (yw Td) a : Nat) : Int) - ((yGT q pt d u (yw Td) b : Nat) : Int) := xsub v1 v2 (by omega) (by omega)
    refine ⟨u', g, nI (yX q pt d), F, G, f', ?_, b2, b3, b4, by omega⟩
    simp only [K_m_ahead_L21, K_m_ahead_21, K_m_ahead_23, K_m_ahead_30, K_m_ahead_31, K_m_ahead_32, K_m_ahead_33, K_m_ahead_34]
    rw [if_neg (by decide), a1]
    dsimp only
    rw [b1, ac, bc]
    have e9 : G a - G b = yAv q pt d Td a b u := by
      rw [ga, gb]
      rfl
    by_cases c : (yAv q pt d Td a b u).toInt ≤ most.toInt
    · rw [if_pos (show (G a - G b).toInt ≤ most.toInt by rw [e9]; exact c), if_pos c]
    · rw [if_neg (show ¬ (G a - G b).toInt ≤ most.toInt by rw [e9]; exact c), if_neg c, e9]
  have nU : ∀ (u : Nat → Nat) (most : Int32), yBx q (ylo Td) (yhi Td) u → -100000 < (yAv q pt d Td a b u).toInt → ((most = -100000 ∧ yRk (fun _ => true) (ylo Td) (yhi Td) u q = 0) ∨ yUp (fun _ => true) (ylo Td) (yhi Td) q (yAv q pt d Td a b) (yRk (fun _ => true) (ylo Td) (yhi Td) u q) most) → yUp (fun _ => true) (ylo Td) (yhi Td) q (yAv q pt d Td a b) (yRk (fun _ => true) (ylo Td) (yhi Td) u q + 1) (if (yAv q pt d Td a b u).toInt ≤ most.toInt then most else yAv q pt d Td a b u) := fun u most hu hv h => by
    rcases h with ⟨c1, c2⟩ | h
    · rw [if_neg (by rw [c1, m5]; omega), c2]
      exact yUp_0 dep hu c2
    · exact yUp_st dep hu rfl h
  intro m
  induction m with
  | zero =>
    intro kk u most up Fm Fg f hu hf hm hI
    obtain ⟨u', g, up', Fm', Fg', f', s1, s2, s3, s4, s5⟩ := st (kk + 1) u most up Fm Fg f hu hf
    have b9 := nU u most hu s5 hI
    rcases yRk_next (fun j hj => (g9 j hj).2.2.1) hu s4 with ⟨g0, r0⟩ | ⟨-, r0⟩
    · rw [g0, dn kk] at s1
      rw [r0] at b9
      exact ⟨_, _, _, _, _, s1, yUp_all b9⟩
    · have := yRk_lt (Z := fun _ => true) q s3
      omega
  | succ m ih =>
    intro kk u most up Fm Fg f hu hf hm hI
    obtain ⟨u', g, up', Fm', Fg', f', s1, s2, s3, s4, s5⟩ := st (kk + m + 2) u most up Fm Fg f hu hf
    have b9 := nU u most hu s5 hI
    rcases yRk_next (fun j hj => (g9 j hj).2.2.1) hu s4 with ⟨-, r0⟩ | ⟨g1, r0⟩
    · omega
    · rw [g1] at s1
      rw [← r0] at b9
      obtain ⟨most', x1, y1, y2, y3, z1, z2⟩ := ih kk u' _ up' Fm' Fg' f' s3 s2 (by omega) (Or.inr b9)
      exact ⟨most', x1, y1, y2, y3, s1.trans z1, z2⟩
/-- ahead: one on both sides -/
theorem x_ahead_eq {pn Td Nm Tb fw ft Fw By fr fg wb wk Fm Fg D K : Nat → Int32} {pt : Nat → Int64} {q : Nat} {d a0 a1 a2 cup cl up : Int32} (q8 : q ≤ 8) (hE : xE true q pn pt Td Nm Tb) (hd : xDd d D) (hn : ∀ j, j < 64 → 0 ≤ (pn j).toInt ∧ (pn j).toInt ≤ 511) (ht : xTD Td q) (hc : yKw q pt d Td wk wb) {r cup9 cl9 v up9 : Int32} {wb9 wk9 fw9 ft9 fr9 fg9 Fm9 Fg9 By9 Fw9 : Nat → Int32} (x1 : M_x_ahead a0 (nI q) a1 wb wk cup cl fw ft fr fg a2 pn pt d = (r, wb9, wk9, cup9, cl9, fw9, ft9, fr9, fg9)) (x2 : M_m_ahead a0 (nI q) a1 up Fm Fg By Fw a2 Td Tb D K = (v, up9, Fm9, Fg9, By9, Fw9)) : r = v ∧ yKw q pt d Td wk9 wb9 := by
  have qq : (nI q).toInt = (q : Int) := nI_toInt (by omega)
  have ua : M_upAmong (nI q) (xA q &&& (d ^^^ (-1))) pt = nI (yX q pt d) := (up_alive hE q8).trans (r_up2 hE q8)
  have ub : M_m_upBut (nI q) (nI (xDb q d)) Tb = nI (yX q pt d) := r_up2 hE q8
  have xl := yX_lt (pt := pt) (d := d) q8
  obtain ⟨gp9, g9, g1⟩ := y_lh hE ht
  have no : ∀ {r9 : Int32}, (r9, wb, wk, cup, cl, fw, ft, fr, fg) = (r, wb9, wk9, cup9, cl9, fw9, ft9, fr9, fg9) → (r9, up, Fm, Fg, By, Fw) = (v, up9, Fm9, Fg9, By9, Fw9) → r = v ∧ yKw q pt d Td wk9 wb9 := fun h1 h2 => by
    simp only [Prod.mk.injEq] at h1 h2
    obtain ⟨y1, y2, y3, -⟩ := h1
    exact ⟨by rw [← y1, ← h2.1], by rw [← y2, ← y3]; exact hc⟩
  simp only [K_x_ahead_6, K_x_ahead_8, K_x_ahead_22, K_x_ahead_26, K_x_ahead_25, K_x_ahead_23, K_x_ahead_24, K_x_ahead_21, K_x_ahead_20, K_x_ahead_19, K_x_ahead_17, K_x_ahead_18, K_x_ahead_16, K_x_ahead_15, K_x_ahead_13, K_x_ahead_14, K_x_ahead_12, K_x_ahead_10, K_x_ahead_11, K_x_ahead_9, K_x_ahead_7, K_x_ahead_5, K_x_ahead_4, K_x_ahead_3, K_x_ahead_2, K_x_ahead_1, M_x_ahead] at x1
  simp only [K_m_ahead_6, K_m_ahead_15, K_m_ahead_18, K_m_ahead_20, K_m_ahead_19, K_m_ahead_17, K_m_ahead_16, K_m_ahead_14, K_m_ahead_13, K_m_ahead_11, K_m_ahead_12, K_m_ahead_10, K_m_ahead_8, K_m_ahead_9, K_m_ahead_7, K_m_ahead_5, K_m_ahead_4, K_m_ahead_3, K_m_ahead_2, K_m_ahead_1, M_m_ahead] at x2
  by_cases c1 : 0 ≤ a0.toInt ∧ a0.toInt < (nI q).toInt
  · rw [if_pos c1] at x1 x2
    by_cases c2 : 0 ≤ a1.toInt ∧ a1.toInt < (nI q).toInt
    · rw [if_pos c2] at x1 x2
      by_cases c3 : a0.toInt = a1.toInt
      · rw [if_pos c3] at x1 x2
        exact no x1 x2
      · rw [if_neg c3] at x1 x2
        by_cases c4 : 0 ≤ a2.toInt ∧ a2.toInt ≤ 1
        · rw [if_neg (by omega), if_pos c4.2] at x1
          rw [if_pos c4] at x2
          obtain ⟨W, w1, w2, w3, w4, w5⟩ := r_ways q8 hE ht
          have eP : (nI (yPz (fun _ => true) (ylo Td) (yhi Td) q)).toInt = ((yPz (fun _ => true) (ylo Td) (yhi Td) q : Nat) : Int) := nI_toInt (by omega)
          have eW : (nI W).toInt = (W : Int) := nI_toInt (by omega)
          rw [w1] at x1
          rw [w3] at x2
          rcases w5 with ⟨w5, w6⟩ | ⟨w5, w6⟩
          · have an := xtn (x := a0) c1.1
            have bn := xtn (x := a1) c2.1
            have ea : nI a0.toNatClampNeg = a0 := xnI c1.1
            have eb : nI a1.toNatClampNeg = a1 := xnI c2.1
            have bo := y_both (X := yX q pt d) (a := a0.toNatClampNeg) (b := a1.toNatClampNeg) xl (by omega) (by omega)
            have ba : ((nI (yX q pt d) >>> (a0 &&& 31)) &&& (1 : Int32)).toInt = 0 ↔ (yX q pt d).testBit a0.toNatClampNeg = false := by
              have z := xsr_0 (nI (yX q pt d)) (r := a0.toNatClampNeg) (by omega)
              rw [ea, xb_nI (by omega)] at z
              exact z
            have bb : ((nI (yX q pt d) >>> (a1 &&& 31)) &&& (1 : Int32)).toInt = 0 ↔ (yX q pt d).testBit a1.toNatClampNeg = false := by
              have z := xsr_0 (nI (yX q pt d)) (r := a1.toNatClampNeg) (by omega)
              rw [eb, xb_nI (by omega)] at z
              exact z
            rw [ea, eb] at bo
            rw [if_pos (by omega), t_alive, ua] at x1
            rw [if_pos (by omega), r_dead hd q8, ub] at x2
            by_cases u : (yX q pt d).testBit a0.toNatClampNeg = true
            · rw [if_neg (fun z => by rw [ba.mp z] at u; exact absurd u (by decide))] at x2
              by_cases u2 : (yX q pt d).testBit a1.toNatClampNeg = true
              · rw [if_pos (bo.mpr ⟨u, u2⟩)] at x1
                rw [if_neg (fun z => by rw [bb.mp z] at u2; exact absurd u2 (by decide))] at x2
                have ps := yPz_pos (Z := fun _ => true) (lo := ylo Td) (hi := yhi Td) q
                have hu : yBx q (ylo Td) (yhi Td) (ylo Td) := fun j hj => ⟨Nat.le_refl _, (g9 j hj).2.2.1⟩
                have r0 := yRk_lo (Z := fun _ => true) (lo := ylo Td) (hi := yhi Td) (u := ylo Td) q (fun j _ _ => rfl)
                have hf : ∀ j, j < q → M_m_setTimes (nI q) 1 K Td By j = nI (ylo Td j) := fun j hj => by
                  rw [r_setT (c := 0) q8 (by decide) (by decide) (by decide), yF_t hj rfl]
                  exact (g9 j hj).1
                obtain ⟨most2, k1, k2, k3, k4, m1, m2⟩ := mah_in (Fw := M_m_setWaits (nI q) Td Fw) (a := a0.toNatClampNeg) (b := a1.toNatClampNeg) (a2 := a2) q8 hE hd hn ht (by omega) (by omega) u u2 (fun j hj => ⟨yw_m q8 hE hj, (yw_c (f := By) q8 hE hj).2⟩) (yPz (fun _ => true) (ylo Td) (yhi Td) q - 1) (199999998 - (yPz (fun _ => true) (ylo Td) (yhi Td) q - 1)) (ylo Td) (-100000) up Fm Fg (M_m_setTimes (nI q) 1 K Td By) hu hf (by omega) (Or.inl ⟨rfl, r0⟩)
                rw [show 199999998 - (yPz (fun _ => true) (ylo Td) (yhi Td) q - 1) + (yPz (fun _ => true) (ylo Td) (yhi Td) q - 1) + 2 = 200000000 from by omega, ea, eb] at m1
                have fb : ∃ (most' e1' e2' : Int32) (wb' wk' fw' f' fr' fg' : Nat → Int32), M_mostBehind wk a0 a1 wb (nI q) pn pt fr fg cup cl ft fw (xA q &&& (d ^^^ (-1))) = (most', wb', wk', e1', e2', fw', f', fr', fg') ∧ yTop (ylo Td) (yhi Td) q (yAv q pt d Td a0.toNatClampNeg a1.toNatClampNeg) most' ∧ yKw q pt d Td wk' wb' := by
                  rcases hc a0.toNatClampNeg a1.toNatClampNeg (by omega) (by omega) with e | ⟨e, e1⟩
                  · obtain ⟨most', e1', e2', fw', f', fr', fg', n1, n2⟩ := t_mostB (wb := wb) (wk := wk) (fr := fr) (fg := fg) (fw := fw) (ft := ft) (cup := cup) (cl := cl) (a := a0.toNatClampNeg) (b := a1.toNatClampNeg) q8 hE hd hn ht ua (by omega) (by omega) (by omega) u u2 e
                    rw [ea, eb] at n1
                    refine ⟨most', e1', e2', _, _, fw', f', fr', fg', n1, n2, fun a b h1 h2 => ?_⟩
                    by_cases y : a = a0.toNatClampNeg ∧ b = a1.toNatClampNeg
                    · obtain ⟨ya, yb⟩ := y
                      subst ya
                      subst yb
                      rw [xupd_s, xupd_s]
                      exact Or.inr ⟨rfl, n2⟩
                    · rw [xupd_o (by omega), xupd_o (by omega)]
                      exact hc a b h1 h2
                  · have ei : ((nI a0.toNatClampNeg * 8) + nI a1.toNatClampNeg).toNatClampNeg = 8 * a0.toNatClampNeg + a1.toNatClampNeg := xi8 (by omega) (by omega)
                    rw [ea, eb] at ei
                    refine ⟨wb (8 * a0.toNatClampNeg + a1.toNatClampNeg), cup, cl, wb, wk, fw, ft, fr, fg, ?_, e1, hc⟩
                    simp only [M_mostBehind, K_mostBehind_1, K_mostBehind_3]
                    rw [ei, e, if_neg (by decide)]
                obtain ⟨most', e1', e2', wb', wk', fw', f', fr', fg', n1, n2, n3⟩ := fb
                have one := yTop_one n2 m2
                rw [n1] at x1
                rw [m1] at x2
                dsimp only at x1
                simp only [Prod.mk.injEq] at x2
                by_cases z : a2.toInt = 1
                · rw [if_pos z] at x1 x2
                  simp only [Prod.mk.injEq] at x1
                  obtain ⟨y1, y2, y3, -⟩ := x1
                  exact ⟨by rw [← y1, ← x2.1, one], by rw [← y2, ← y3]; exact n3⟩
                · rw [if_neg z] at x1 x2
                  by_cases z2 : 0 ≤ most'.toInt
                  · rw [if_pos z2] at x1
                    rw [if_pos (by rw [← one]; exact z2)] at x2
                    by_cases z3 : most'.toInt = 0
                    · rw [if_pos z3] at x1
                      rw [if_pos (by rw [← one]; exact z3)] at x2
                      simp only [Prod.mk.injEq] at x1
                      obtain ⟨y1, y2, y3, -⟩ := x1
                      exact ⟨by rw [← y1, ← x2.1], by rw [← y2, ← y3]; exact n3⟩
                    · rw [if_neg z3] at x1
                      rw [if_neg (by rw [← one]; exact z3)] at x2
                      simp only [Prod.mk.injEq] at x1
                      obtain ⟨y1, y2, y3, -⟩ := x1
                      exact ⟨by rw [← y1, ← x2.1], by rw [← y2, ← y3]; exact n3⟩
                  · rw [if_neg z2] at x1
                    rw [if_neg (by rw [← one]; exact z2)] at x2
                    simp only [Prod.mk.injEq] at x1
                    obtain ⟨y1, y2, y3, -⟩ := x1
                    exact ⟨by rw [← y1, ← x2.1], by rw [← y2, ← y3]; exact n3⟩
              · rw [if_neg (fun z => u2 (bo.mp z).2)] at x1
                rw [if_pos (bb.mpr (by simpa using u2))] at x2
                exact no x1 x2
            · rw [if_neg (fun z => u (bo.mp z).1)] at x1
              rw [if_pos (ba.mpr (by simpa using u))] at x2
              exact no x1 x2
          · rw [if_neg (by omega)] at x1 x2
            exact no x1 x2
        · rw [if_neg c4] at x2
          by_cases b : a2.toInt < 0
          · rw [if_pos b] at x1
            exact no x1 x2
          · rw [if_neg b, if_neg (by omega)] at x1
            exact no x1 x2
    · rw [if_neg c2] at x1 x2
      exact no x1 x2
  · rw [if_neg c1] at x1 x2
    exact no x1 x2
