-- 99.e.ahead
/-- a formula looks at its names alone -/
theorem y_dep {wt : Bool} {q r s t : Nat} {pn Td Nm Tb : Nat → Int32} {pt : Nat → Int64} (hE : xE wt q pn pt Td Nm Tb) (hr : r < q) (hs : s < 512) (ht : t < 512) (h : ∀ k, k < 9 → xb (Nm r) k = true → s.testBit k = t.testBit k) : hb pt r s = hb pt r t := by
  have d := (hE r hr).2.2.2.1
  have a : hb pt r s = true → hb pt r t = true := d s t hs ht (fun k hk n z => by rw [← h k hk n]; exact z)
  have b : hb pt r t = true → hb pt r s = true := d t s ht hs (fun k hk n z => by rw [h k hk n]; exact z)
  exact Bool.eq_iff_iff.mpr ⟨a, b⟩
/-- closed: with a RAIL stand those that its formula names -/
def yCl (q : Nat) (pn : Nat → Int32) (x S : Nat) : Prop := ∀ r, x ≤ r → r < q → S.testBit r = true → ∀ k, k < q → xb (pn (8 * r + 7)) k = true → S.testBit k = true
theorem y_names {q : Nat} (q8 : q ≤ 8) (v : Int32) : v &&& xA q = nI (xup (fun k => xb v k) q 0) := xb_ext (fun r hr => by
  rw [xb_and, xA_b q8 hr, xb_nI hr, xup_bit, Nat.zero_testBit, Bool.false_or, Bool.and_comm])
theorem ss_in {rec : Int32 → Int32 → Int32} {n : Int32} {pn : Nat → Int32} {q : Nat} (q8 : q ≤ 8) : ∀ (m x k S : Nat), x + m = q → S < 256 → ∃ S' : Nat, K_sourcesOf_L5 (nI q) rec n pn (k + m + 1) (nI x) (nI S) = rec (n + 1) (nI S') ∧ S' < 256 ∧ (∀ j, S.testBit j = true → S'.testBit j = true) ∧ (S' = S → yCl q pn x S) ∧ (yCl q pn x S → S' = S) := by
  have qq : (nI q).toInt = (q : Int) := nI_toInt (by omega)
  intro m
  induction m with
  | zero =>
    intro x k S hx hS
    have ex : (nI x).toInt = (x : Int) := nI_toInt (by omega)
    refine ⟨S, ?_, hS, fun _ z => z, fun _ r r1 r2 => absurd r2 (by omega), fun _ => rfl⟩
    simp only [K_sourcesOf_L5, K_sourcesOf_3, K_sourcesOf_6, K_sourcesOf_11, K_sourcesOf_10, K_sourcesOf_9, K_sourcesOf_8, K_sourcesOf_7, K_sourcesOf_5, K_sourcesOf_4, K_sourcesOf_1, M_sourcesOf]
    rw [if_pos (by omega)]
  | succ m ih =>
    intro x k S hx hS
    have ex : (nI x).toInt = (x : Int) := nI_toInt (by omega)
    have bt : ((nI S >>> (nI x &&& 31)) &&& (1 : Int32)).toInt = 1 ↔ S.testBit x = true := by rw [xsr_1 (nI S) (by omega), xb_nI (by omega)]
    have nl : xup (fun k => xb (pn (8 * x + 7)) k) q 0 < 256 := xup_lt (by decide) q q8
    have un : K_sourcesOf_L5 (nI q) rec n pn ((k + m + 1) + 1) (nI x) (nI S) = if ((nI S >>> (nI x &&& 31)) &&& (1 : Int32)).toInt = 1 then K_sourcesOf_L5 (nI q) rec n pn (k + m + 1) (nI (x + 1)) (nI (S ||| xup (fun k => xb (pn (8 * x + 7)) k) q 0)) else K_sourcesOf_L5 (nI q) rec n pn (k + m + 1) (nI (x + 1)) (nI S) := by
      generalize k + m + 1 = j
      simp only [K_sourcesOf_L5, K_sourcesOf_3, K_sourcesOf_6, K_sourcesOf_11, K_sourcesOf_10, K_sourcesOf_9, K_sourcesOf_8, K_sourcesOf_7, K_sourcesOf_5, K_sourcesOf_4, K_sourcesOf_1, M_sourcesOf]
      rw [if_neg (by omega), nI_1, show M_number pn (nI x) 7 = pn (8 * x + 7) from t_nb (k := 7) (by omega) (by decide), t_allR, y_names q8, x_or (by omega) (by omega)]
    by_cases b : S.testBit x = true
    · rw [if_pos (bt.mpr b)] at un
      have S1 : S ||| xup (fun k => xb (pn (8 * x + 7)) k) q 0 < 256 := Nat.or_lt_two_pow (n := 8) hS nl
      obtain ⟨S', a1, a2, a3, a4, a5⟩ := ih (x + 1) k (S ||| xup (fun k => xb (pn (8 * x + 7)) k) q 0) (by omega) S1
      have up : ∀ j, S.testBit j = true → (S ||| xup (fun k => xb (pn (8 * x + 7)) k) q 0).testBit j = true := fun j hj => by
        rw [Nat.testBit_or, hj, Bool.true_or]
      have nb : ∀ j, j < q → xb (pn (8 * x + 7)) j = true → (S ||| xup (fun k => xb (pn (8 * x + 7)) k) q 0).testBit j = true := fun j hj hb9 => by
        rw [Nat.testBit_or, xup_bit, Nat.zero_testBit, Bool.false_or, hb9]
        simp [hj]
      refine ⟨S', un.trans a1, a2, fun j hj => a3 j (up j hj), fun e => ?_, fun c => ?_⟩
      · have e1 : S ||| xup (fun k => xb (pn (8 * x + 7)) k) q 0 = S := Nat.eq_of_testBit_eq (fun j => Bool.eq_iff_iff.mpr ⟨fun z => by
          have y := a3 j z
          rw [e] at y
          exact y, up j⟩)
        have c := a4 (e.trans e1.symm)
        rw [e1] at c nb
        intro r r1 r2 r3 k2 k3 k4
        by_cases y : r = x
        · rw [y] at k4
          exact nb k2 k3 k4
        · exact c r (by omega) r2 r3 k2 k3 k4
      · have e1 : S ||| xup (fun k => xb (pn (8 * x + 7)) k) q 0 = S := Nat.eq_of_testBit_eq (fun j => Bool.eq_iff_iff.mpr ⟨fun z => by
          rw [Nat.testBit_or, xup_bit, Nat.zero_testBit, Bool.false_or, Bool.or_eq_true, Bool.and_eq_true, decide_eq_true_iff] at z
          rcases z with z | ⟨z1, z2⟩
          · exact z
          · exact c x (Nat.le_refl _) (by omega) b j z1 z2, up j⟩)
        rw [a5 (by rw [e1]; exact fun r r1 => c r (by omega)), e1]
    · rw [if_neg (fun z => b (bt.mp z))] at un
      obtain ⟨S', a1, a2, a3, a4, a5⟩ := ih (x + 1) k S (by omega) hS
      refine ⟨S', un.trans a1, a2, a3, fun e r r1 r2 r3 => ?_, fun c => a5 (fun r r1 => c r (by omega))⟩
      by_cases y : r = x
      · rw [y] at r3
        exact absurd r3 b
      · exact a4 e r (by omega) r2 r3
theorem so2_in {pn : Nat → Int32} {q : Nat} (q8 : q ≤ 8) : ∀ (m k i S : Nat), i + m = 8 → S < 256 → (9 ≤ xpc S + m ∨ yCl q pn 0 S) → ∃ Y : Nat, K_sourcesOf_L2 (nI q) pn (k + m + 1) (nI i) (nI S) = nI Y ∧ Y < 256 ∧ (∀ j, S.testBit j = true → Y.testBit j = true) ∧ yCl q pn 0 Y := by
  intro m
  induction m with
  | zero =>
    intro k i S hi hS h
    have ei : (nI i).toInt = (i : Int) := nI_toInt (by omega)
    have c : yCl q pn 0 S := by
      rcases h with h | h
      · have := xpc_le S
        omega
      · exact h
    refine ⟨S, ?_, hS, fun _ z => z, c⟩
    simp only [K_sourcesOf_L2, K_sourcesOf_3, K_sourcesOf_6, K_sourcesOf_11, K_sourcesOf_10, K_sourcesOf_9, K_sourcesOf_8, K_sourcesOf_7, K_sourcesOf_5, K_sourcesOf_4, K_sourcesOf_2, K_sourcesOf_1, M_sourcesOf]
    rw [if_pos (by omega)]
  | succ m ih =>
    intro k i S hi hS h
    have ei : (nI i).toInt = (i : Int) := nI_toInt (by omega)
    obtain ⟨S', a1, a2, a3, a4, a5⟩ := ss_in (rec := K_sourcesOf_L2 (nI q) pn (k + m + 1)) (n := nI i) (pn := pn) q8 q 0 (99999 - q) S (by omega) hS
    rw [show 99999 - q + q + 1 = 100000 from by omega] at a1
    have un : K_sourcesOf_L2 (nI q) pn ((k + m + 1) + 1) (nI i) (nI S) = K_sourcesOf_L5 (nI q) (K_sourcesOf_L2 (nI q) pn (k + m + 1)) (nI i) pn 100000 (nI 0) (nI S) := by
      generalize k + m + 1 = j
      simp only [K_sourcesOf_L2, K_sourcesOf_3, K_sourcesOf_6, K_sourcesOf_11, K_sourcesOf_10, K_sourcesOf_9, K_sourcesOf_8, K_sourcesOf_7, K_sourcesOf_5, K_sourcesOf_4, K_sourcesOf_2, K_sourcesOf_1, M_sourcesOf]
      rw [if_neg (by omega)]
      rfl
    have st := un.trans a1
    rw [nI_1] at st
    obtain ⟨Y, y1, y2, y3, y4⟩ := ih k (i + 1) S' (by omega) a2 (by
      by_cases e : S' = S
      · exact Or.inr (by rw [e]; exact a4 e)
      · rcases h with h | h
        · have := xpc_or hS a2 a3 e
          exact Or.inl (by omega)
        · exact absurd (a5 h) e)
    exact ⟨Y, st.trans y1, y2, fun j hj => y3 j (a3 j hj), y4⟩
theorem xpc_1 {S a : Nat} (ha : a < 8) (h : S.testBit a = true) : 1 ≤ xpc S := by
  have c : a = 0 ∨ a = 1 ∨ a = 2 ∨ a = 3 ∨ a = 4 ∨ a = 5 ∨ a = 6 ∨ a = 7 := by omega
  unfold xpc
  rcases c with c | c | c | c | c | c | c | c <;> subst c <;> rw [h] <;> simp only [if_true] <;> omega
/-- those that bear on a and b -/
theorem t_src {pn : Nat → Int32} {q a b : Nat} (q8 : q ≤ 8) (ha : a < 8) (hb9 : b < 8) : ∃ Y : Nat, M_sourcesOf (nI q) pn (((1 : Int32) <<< (nI a &&& 31)) ||| ((1 : Int32) <<< (nI b &&& 31))) = nI Y ∧ Y < 256 ∧ Y.testBit a = true ∧ Y.testBit b = true ∧ yCl q pn 0 Y := by
  have pa : 2 ^ a < 512 := Nat.lt_of_le_of_lt (Nat.pow_le_pow_right (by decide) (show a ≤ 8 by omega)) (by decide)
  have pb : 2 ^ b < 512 := Nat.lt_of_le_of_lt (Nat.pow_le_pow_right (by decide) (show b ≤ 8 by omega)) (by decide)
  have qa : 2 ^ a < 2 ^ 8 := Nat.pow_lt_pow_right (by decide) ha
  have qb : 2 ^ b < 2 ^ 8 := Nat.pow_lt_pow_right (by decide) hb9
  have S1 : 2 ^ a ||| 2 ^ b < 256 := Nat.or_lt_two_pow (n := 8) qa qb
  have ba : (2 ^ a ||| 2 ^ b).testBit a = true := by rw [Nat.testBit_or, Nat.testBit_two_pow_self, Bool.true_or]
  have bb : (2 ^ a ||| 2 ^ b).testBit b = true := by rw [Nat.testBit_or, Nat.testBit_two_pow_self, Bool.or_true]
  have x1 := xpc_1 ha ba
  obtain ⟨Y, y1, y2, y3, y4⟩ := so2_in (pn := pn) q8 8 99991 0 (2 ^ a ||| 2 ^ b) (by decide) S1 (Or.inl (by omega))
  refine ⟨Y, ?_, y2, y3 a ba, y3 b bb, y4⟩
  rw [x_shl ⟨a, by omega⟩, x_shl ⟨b, by omega⟩, x_or pa pb]
  exact y1
/-- on a closed set the others do not matter -/
theorem yM_sub {wt : Bool} {q Y : Nat} {P Q : Nat → Bool} {pn Td Nm Tb : Nat → Int32} {pt : Nat → Int64} {w k : Nat → Nat} (q8 : q ≤ 8) (hE : xE wt q pn pt Td Nm Tb) (cl : yCl q pn 0 Y) (hQ : ∀ j, j < q → Y.testBit j = true → Q j = P j) : ∀ t, t ≤ 100000 → ∀ x, x < q → Y.testBit x = true → yM q Q pt w k t x = yM q P pt w k t x := by
  intro t
  induction t with
  | zero => exact fun _ x _ _ => rfl
  | succ t ih =>
    intro ht x hx hY
    have i9 := ih (by omega)
    show yN q Q pt w k t (yM q Q pt w k t) x = yN q P pt w k t (yM q P pt w k t) x
    generalize yM q Q pt w k t = M at i9
    generalize yM q P pt w k t = N at i9
    have e : hb pt x (yS q (yG w k M) t + 256) = hb pt x (yS q (yG w k N) t + 256) := y_dep hE hx (by have := yS_lt (G := yG w k M) (t := t) q8; omega) (by have := yS_lt (G := yG w k N) (t := t) q8; omega) (fun j hj hn => by
      rw [y_bit256 ⟨_, yS_lt q8⟩ ⟨j, hj⟩, y_bit256 ⟨_, yS_lt q8⟩ ⟨j, hj⟩]
      show (decide (j = 8) || (yS q (yG w k M) t).testBit j) = (decide (j = 8) || (yS q (yG w k N) t).testBit j)
      rw [yS_bit, yS_bit]
      by_cases jq : j < q
      · have yj := cl x (Nat.zero_le _) hx hY j jq (by rw [(hE x hx).2.1]; exact hn)
        have g : yG w k M j = yG w k N j := by
          unfold yG
          rw [i9 j jq yj]
        rw [g]
      · simp [jq])
    unfold yN
    rw [i9 x hx hY, hQ x hx hY, e]
/-- by how much a is behind b in a way -/
def yAv (q : Nat) (pt : Nat → Int64) (d : Int32) (Td : Nat → Int32) (a b : Nat) (u : Nat → Nat) : Int32 := nI (yGT q pt d u (yw Td) a) - nI (yGT q pt d u (yw Td) b)
theorem y_both {X a b : Nat} (hX : X < 256) (ha : a < 8) (hb9 : b < 8) : ((nI X &&& (((1 : Int32) <<< (nI a &&& 31)) ||| ((1 : Int32) <<< (nI b &&& 31)))).toInt = (((1 : Int32) <<< (nI a &&& 31)) ||| ((1 : Int32) <<< (nI b &&& 31))).toInt) ↔ (X.testBit a = true ∧ X.testBit b = true) := by
  have sh : ∀ k r : Nat, k < 32 → r < 32 → xb ((1 : Int32) <<< (nI k &&& 31)) r = decide (r = k) := fun k r hk hr => by
    have z := xb_shl ⟨k, hk⟩ ⟨r, hr⟩
    dsimp only at z
    rw [z]
    exact decide_eq_decide.mpr ⟨fun y => Fin.mk.inj y, fun y => by subst y; rfl⟩
  constructor
  · intro h
    have e := Int32.toInt_inj.mp h
    have g : ∀ r, r < 32 → xb (nI X &&& (((1 : Int32) <<< (nI a &&& 31)) ||| ((1 : Int32) <<< (nI b &&& 31)))) r = xb (((1 : Int32) <<< (nI a &&& 31)) ||| ((1 : Int32) <<< (nI b &&& 31))) r := fun r _ => by rw [e]
    refine ⟨?_, ?_⟩
    · have z := g a (by omega)
      rw [xb_and, xb_or, sh a a (by omega) (by omega), xb_nI (by omega)] at z
      simpa using z
    · have z := g b (by omega)
      rw [xb_and, xb_or, sh b b (by omega) (by omega), xb_nI (by omega)] at z
      simpa using z
  · rintro ⟨h1, h2⟩
    congr 1
    refine xb_ext (fun r hr => ?_)
    rw [xb_and, xb_or, sh a r (by omega) hr, sh b r (by omega) hr, xb_nI hr]
    by_cases e1 : r = a
    · rw [e1, h1]
      rfl
    · by_cases e2 : r = b
      · rw [e2, h2]
        rfl
      · simp [e1, e2]
theorem y_and_bit {Y X j : Nat} : (Y &&& X).testBit j = true ↔ (Y.testBit j = true ∧ X.testBit j = true) := by
  rw [Nat.testBit_and, Bool.and_eq_true]
/-- one way of the class, where those alone are followed that bear on a and b -/
theorem t_wayA {pn Td Nm Tb D fw f fr fg : Nat → Int32} {u : Nat → Nat} {pt : Nat → Int64} {q Y a b : Nat} {d : Int32} (q8 : q ≤ 8) (hE : xE true q pn pt Td Nm Tb) (hd : xDd d D) (hn : ∀ j, j < 64 → 0 ≤ (pn j).toInt ∧ (pn j).toInt ≤ 511) (cl : yCl q pn 0 Y) (Y1 : Y < 256) (ha : a < q) (hb9 : b < q) (Ya : Y.testBit a = true) (Yb : Y.testBit b = true) (Xa : (yX q pt d).testBit a = true) (Xb : (yX q pt d).testBit b = true) (hw : ∀ j, j < q → fw j = nI (yw Td j) ∧ yw Td j ≤ 9) (hf : ∀ j, j < q → f j = nI (u j) ∧ 1 ≤ u j ∧ u j ≤ 9) : (∃ (L c : Int32) (fr' fg' : Nat → Int32), M_follow (nI q) (nI (Y &&& yX q pt d)) fw f pt fr fg = (c, L, fr', fg') ∧ fg' a = nI (yGT q pt d u (yw Td) a) ∧ fg' b = nI (yGT q pt d u (yw Td) b)) ∧ (1 ≤ yGT q pt d u (yw Td) a ∧ yGT q pt d u (yw Td) a ≤ 144) ∧ (1 ≤ yGT q pt d u (yw Td) b ∧ yGT q pt d u (yw Td) b ≤ 144) := by
  have xl := yX_lt (pt := pt) (d := d) q8
  have ma := y_mayX (q := q) (pt := pt) (d := d) q8
  obtain ⟨fr1, fg1, r1, r2, r3, r4⟩ := t_row (fw := fw) (fr := fr) (fg := fg) (ft := f) (s0 := nI (yX q pt d)) (P := fun j => xb (nI (yX q pt d)) j) (w := yw Td) (k := u) (pt := pt) (q := q) (d := d) q8 (xE_mono hE) hw hf (fun j _ => rfl) ma.1 ma.2
  have po := r_follow (fr := fr) (fg := fg) (pt := pt) (fw := fw) (ft := f) (s0 := nI (Y &&& yX q pt d)) (P := fun j => (Y &&& yX q pt d).testBit j) (w := yw Td) (k9 := u) q8 hw hf (fun j hj => (xb_nI (by omega)).symm)
  generalize M_follow (nI q) (nI (Y &&& yX q pt d)) fw f pt fr fg = R at po
  obtain ⟨-, -, p3, -⟩ := po
  have su := yM_sub (P := fun x => (yX q pt d).testBit x) (Q := fun j => (Y &&& yX q pt d).testBit j) (w := yw Td) (k := u) q8 hE cl (fun j hj y => by
    show (Y &&& yX q pt d).testBit j = (yX q pt d).testBit j
    rw [Nat.testBit_and, y, Bool.true_and]) 201 (by decide)
  have one : ∀ x, x < q → Y.testBit x = true → (yX q pt d).testBit x = true → R.2.2.2 x = nI (yGT q pt d u (yw Td) x) ∧ 1 ≤ yGT q pt d u (yw Td) x ∧ yGT q pt d u (yw Td) x ≤ 144 := fun x hx y1 y2 => by
    have e := su x hx y1
    have e : yM q (fun j => (Y &&& yX q pt d).testBit j) pt (yw Td) u 201 x = yT q pt d (yw Td) u x := e
    have nz := (r4 x hx).mp y2
    have g := (p3 x hx (by rw [e]; exact nz)).2
    have eg : yG (yw Td) u (yM q (fun j => (Y &&& yX q pt d).testBit j) pt (yw Td) u 201) x = yGT q pt d u (yw Td) x := by
      unfold yGT yG
      rw [e]
    rw [eg] at g
    have c := r3 x hx nz
    have gs : yGT q pt d u (yw Td) x = yT q pt d (yw Td) u x + yw Td x + u x := if_neg nz
    have := (hf x hx).2.1
    exact ⟨g, by omega, by omega⟩
  have oa := one a ha Ya Xa
  have ob := one b hb9 Yb Xb
  exact ⟨⟨R.2.1, R.1, R.2.2.1, R.2.2.2, rfl, oa.1, ob.1⟩, oa.2, ob.2⟩
/-- the value depends on those alone that bear on a and b -/
theorem yAv_dep {pn Td Nm Tb D : Nat → Int32} {pt : Nat → Int64} {q Y a b : Nat} {d : Int32} (q8 : q ≤ 8) (hE : xE true q pn pt Td Nm Tb) (cl : yCl q pn 0 Y) (ha : a < q) (hb9 : b < q) (Ya : Y.testBit a = true) (Yb : Y.testBit b = true) : ∀ v v' : Nat → Nat, (∀ j, j < q → (fun j => (Y &&& yX q pt d).testBit j) j = true → v j = v' j) → (yX q pt d).testBit a = true → (yX q pt d).testBit b = true → yAv q pt d Td a b v = yAv q pt d Td a b v' := by
  intro v v' h Xa Xb
  have su : ∀ (u : Nat → Nat) (x : Nat), x < q → Y.testBit x = true → yM q (fun j => (Y &&& yX q pt d).testBit j) pt (yw Td) u 201 x = yT q pt d (yw Td) u x := fun u x hx y1 => yM_sub (P := fun x => (yX q pt d).testBit x) (Q := fun j => (Y &&& yX q pt d).testBit j) (w := yw Td) (k := u) q8 hE cl (fun j hj y => by
    show (Y &&& yX q pt d).testBit j = (yX q pt d).testBit j
    rw [Nat.testBit_and, y, Bool.true_and]) 201 (by decide) x hx y1
  have km := yM_k (P := fun j => (Y &&& yX q pt d).testBit j) (pt := pt) (w := yw Td) h 201 (by decide)
  have one : ∀ x, x < q → Y.testBit x = true → (yX q pt d).testBit x = true → yGT q pt d v (yw Td) x = yGT q pt d v' (yw Td) x := fun x hx y1 y2 => by
    have e1 := su v x hx y1
    have e2 := su v' x hx y1
    rw [km] at e1
    unfold yGT yG
    rw [← e1, ← e2, h x hx (y_and_bit.mpr ⟨y1, y2⟩)]
  unfold yAv
  rw [one a ha Ya Xa, one b hb9 Yb Xb]
theorem mb_in {pn Td Nm Tb D fw wb wk : Nat → Int32} {pt : Nat → Int64} {q Y a b : Nat} {d v2 : Int32} (q8 : q ≤ 8) (hE : xE true q pn pt Td Nm Tb) (hd : xDd d D) (hn : ∀ j, j < 64 → 0 ≤ (pn j).toInt ∧ (pn j).toInt ≤ 511) (ht : xTD Td q) (cl : yCl q pn 0 Y) (Y1 : Y < 256) (ha : a < q) (hb9 : b < q) (Ya : Y.testBit a = true) (Yb : Y.testBit b = true) (Xa : (yX q pt d).testBit a = true) (Xb : (yX q pt d).testBit b = true) (hw : ∀ j, j < q → fw j = nI (yw Td j) ∧ yw Td j ≤ 9) : ∀ (m c kk : Nat) (u : Nat → Nat) (most e1 e2 : Int32) (fr fg f : Nat → Int32), c + m + 1 ≤ 20000 → yBx q (ylo Td) (yhi Td) u → (∀ j, j < q → f j = nI (u j)) → yRk (fun j => (Y &&& yX q pt d).testBit j) (ylo Td) (yhi Td) u q = c → c + m + 1 = yPz (fun j => (Y &&& yX q pt d).testBit j) (ylo Td) (yhi Td) q → ((most = -144 ∧ c = 0) ∨ yUp (fun j => (Y &&& yX q pt d).testBit j) (ylo Td) (yhi Td) q (yAv q pt d Td a b) c most) → ∃ (most' e1' e2' : Int32) (f' fr' fg' : Nat → Int32), K_mostBehind_L7 wb v2 wk fw (nI a) (nI b) (nI q) (nI (Y &&& yX q pt d)) pn pt (kk + m + 2) (nI c) 1 most fr fg e1 e2 f = (most', upd wb v2.toNatClampNeg most', upd wk v2.toNatClampNeg 1, e1', e2', fw, f', fr', fg') ∧ yTop (ylo Td) (yhi Td) q (yAv q pt d Td a b) most' := by
  obtain ⟨gp9, g9, g1⟩ := y_lh hE ht
  have n1 : vp_nar .boolean (1 : Int32) = 1 := by decide
  have m144 : (-144 : Int32).toInt = -144 := by decide
  have ac : (nI a).toNatClampNeg = a := nI_clamp (by omega)
  have bc : (nI b).toNatClampNeg = b := nI_clamp (by omega)
  have dep : ∀ v v' : Nat → Nat, (∀ j, j < q → (fun j => (Y &&& yX q pt d).testBit j) j = true → v j = v' j) → yAv q pt d Td a b v = yAv q pt d Td a b v' := fun v v' h => yAv_dep (D := D) q8 hE cl ha hb9 Ya Yb v v' h Xa Xb
  have dn : ∀ (n c : Nat) (most e1 e2 : Int32) (fr fg f : Nat → Int32), c ≤ 20000 → K_mostBehind_L7 wb v2 wk fw (nI a) (nI b) (nI q) (nI (Y &&& yX q pt d)) pn pt (n + 1) (nI c) 0 most fr fg e1 e2 f = (most, upd wb v2.toNatClampNeg most, upd wk v2.toNatClampNeg 1, e1, e2, fw, f, fr, fg) := fun n c most e1 e2 fr fg f hc => by
    have ec : (nI c).toInt = (c : Int) := nI_toInt (by omega)
    simp only [K_mostBehind_L7, K_mostBehind_7, K_mostBehind_8, K_mostBehind_9, K_mostBehind_10, n1]
    by_cases z : 20000 ≤ (nI c).toInt
    · rw [if_pos z]
    · rw [if_neg z, if_pos (by decide)]
  have st : ∀ (n c : Nat) (u : Nat → Nat) (most e1 e2 : Int32) (fr fg f : Nat → Int32), c < 20000 → yBx q (ylo Td) (yhi Td) u → (∀ j, j < q → f j = nI (u j)) → ∃ (u' : Nat → Nat) (g e1' e2' : Int32) (f' fr' fg' : Nat → Int32), K_mostBehind_L7 wb v2 wk fw (nI a) (nI b) (nI q) (nI (Y &&& yX q pt d)) pn pt (n + 1) (nI c) 1 most fr fg e1 e2 f = K_mostBehind_L7 wb v2 wk fw (nI a) (nI b) (nI q) (nI (Y &&& yX q pt d)) pn pt n (nI (c + 1)) g (if (yAv q pt d Td a b u).toInt ≤ most.toInt then most else yAv q pt d Td a b u) fr' fg' e1' e2' f' ∧ (∀ j, j < q → f' j = nI (u' j)) ∧ yBx q (ylo Td) (yhi Td) u' ∧ yNx (fun j => (Y &&& yX q pt d).testBit j) (ylo Td) (yhi Td) q 0 u u' g ∧ -144 < (yAv q pt d Td a b u).toInt := fun n c u most e1 e2 fr fg f hc hu hf => by
    have ec : (nI c).toInt = (c : Int) := nI_toInt (by omega)
    obtain ⟨⟨L, cu, fr', fg', a1, a2, a3⟩, b1, b2⟩ := t_wayA (fr := fr) (fg := fg) (f := f) (u := u) q8 hE hd hn cl Y1 ha hb9 Ya Yb Xa Xb hw (fun j hj => ⟨hf j hj, by have := g1 j hj; have := hu j hj; omega, by have := (g9 j hj).2.2.2; have := hu j hj; omega⟩)
    obtain ⟨u', f', g, c1, c2, c3, c4⟩ := t_nextWay (X := Y &&& yX q pt d) (f := f) q8 gp9 hu hf
    have v1 : (nI (yGT q pt d u (yw Td) a)).toInt = ((yGT q pt d u (yw Td) a : Nat) : Int) := nI_toInt (by omega)
    have v2' : (nI (yGT q pt d u (yw Td) b)).toInt = ((yGT q pt d u (yw Td) b : Nat) : Int) := nI_toInt (by omega)
    have v3 : (yAv q pt d Td a b u).toInt = ((yGT q pt d u (yw Td) a : Nat) : Int) - ((yGT q pt d u (yw Td) b : Nat) : Int) := xsub v1 v2' (by omega) (by omega)
    refine ⟨u', g, cu, L, f', fr', fg', ?_, c2, c3, c4, by omega⟩
    simp only [K_mostBehind_L7, K_mostBehind_7, K_mostBehind_9, K_mostBehind_11, K_mostBehind_12, K_mostBehind_13]
    rw [if_neg (by omega), if_neg (by decide), a1]
    dsimp only
    rw [c1, ac, bc, y_max, a2, a3, nI_1]
    rfl
  have nU : ∀ (u : Nat → Nat) (c : Nat) (most : Int32), yBx q (ylo Td) (yhi Td) u → yRk (fun j => (Y &&& yX q pt d).testBit j) (ylo Td) (yhi Td) u q = c → -144 < (yAv q pt d Td a b u).toInt → ((most = -144 ∧ c = 0) ∨ yUp (fun j => (Y &&& yX q pt d).testBit j) (ylo Td) (yhi Td) q (yAv q pt d Td a b) c most) → yUp (fun j => (Y &&& yX q pt d).testBit j) (ylo Td) (yhi Td) q (yAv q pt d Td a b) (c + 1) (if (yAv q pt d Td a b u).toInt ≤ most.toInt then most else yAv q pt d Td a b u) := fun u c most hu hr hv h => by
    rcases h with ⟨c1, c2⟩ | h
    · rw [if_neg (by rw [c1, m144]; omega), c2]
      exact yUp_0 dep hu (by omega)
    · exact yUp_st dep hu hr h
  intro m
  induction m with
  | zero =>
    intro c kk u most e1 e2 fr fg f hc hu hf hr hm hU
    obtain ⟨u', g, e1', e2', f', fr', fg', s1, s2, s3, s4, s5⟩ := st (kk + 1) c u most e1 e2 fr fg f (by omega) hu hf
    have nU := nU u c most hu hr s5 hU
    rcases yRk_next (fun j hj => (g9 j hj).2.2.1) hu s4 with ⟨g0, r0⟩ | ⟨-, r0⟩
    · rw [g0, dn kk (c + 1) _ _ _ _ _ _ (by omega)] at s1
      rw [show c + 1 = yPz (fun j => (Y &&& yX q pt d).testBit j) (ylo Td) (yhi Td) q from by omega] at nU
      exact ⟨_, _, _, _, _, _, s1, yUp_all nU⟩
    · have := yRk_lt (Z := fun j => (Y &&& yX q pt d).testBit j) q s3
      omega
  | succ m ih =>
    intro c kk u most e1 e2 fr fg f hc hu hf hr hm hU
    obtain ⟨u', g, e1', e2', f', fr', fg', s1, s2, s3, s4, s5⟩ := st (kk + m + 2) c u most e1 e2 fr fg f (by omega) hu hf
    have nU := nU u c most hu hr s5 hU
    rcases yRk_next (fun j hj => (g9 j hj).2.2.1) hu s4 with ⟨-, r0⟩ | ⟨g1, r0⟩
    · omega
    · rw [g1] at s1
      obtain ⟨most', x1, x2, y1, y2, y3, z1, z2⟩ := ih (c + 1) kk u' _ e1' e2' fr' fg' f' (by omega) s3 s2 (by omega) (by omega) (Or.inr nU)
      exact ⟨most', x1, x2, y1, y2, y3, s1.trans z1, z2⟩
/-- by how much at most: the class, found anew -/
theorem t_mostB {pn Td Nm Tb D fw ft fr fg wb wk : Nat → Int32} {pt : Nat → Int64} {q a b : Nat} {d s0 cup cl : Int32} (q8 : q ≤ 8) (hE : xE true q pn pt Td Nm Tb) (hd : xDd d D) (hn : ∀ j, j < 64 → 0 ≤ (pn j).toInt ∧ (pn j).toInt ≤ 511) (ht : xTD Td q) (hs : M_upAmong (nI q) s0 pt = nI (yX q pt d)) (hW : yPz (fun _ => true) (ylo Td) (yhi Td) q ≤ 20000) (ha : a < q) (hb9 : b < q) (Xa : (yX q pt d).testBit a = true) (Xb : (yX q pt d).testBit b = true) (hk : wk (8 * a + b) = 0) : ∃ (most' e1' e2' : Int32) (fw' f' fr' fg' : Nat → Int32), M_mostBehind wk (nI a) (nI b) wb (nI q) pn pt fr fg cup cl ft fw s0 = (most', upd wb (8 * a + b) most', upd wk (8 * a + b) 1, e1', e2', fw', f', fr', fg') ∧ yTop (ylo Td) (yhi Td) q (yAv q pt d Td a b) most' := by
  obtain ⟨gp9, g9, g1⟩ := y_lh hE ht
  obtain ⟨Y, y1, y2, y3, y4, y5⟩ := t_src (pn := pn) (a := a) (b := b) q8 (by omega) (by omega)
  have xl := yX_lt (pt := pt) (d := d) q8
  have le := yPz_le (Z := fun j => (Y &&& yX q pt d).testBit j) (lo := ylo Td) (hi := yhi Td) q
  have ps := yPz_pos (Z := fun j => (Y &&& yX q pt d).testBit j) (lo := ylo Td) (hi := yhi Td) q
  have ei : ((nI a * 8) + nI b).toNatClampNeg = 8 * a + b := xi8 (q := a) (k := b) (by omega) (by omega)
  have hf : ∀ j, j < q → M_cSetTakes (nI q) pn 0 ft j = nI (ylo Td j) := fun j hj => by
    rw [show M_cSetTakes (nI q) pn 0 ft = _ from t_cSetT (c := 0) q8 (by decide), yF_t hj rfl]
    exact (gp9 j hj).1
  have hu : yBx q (ylo Td) (yhi Td) (ylo Td) := fun j hj => ⟨Nat.le_refl _, (g9 j hj).2.2.1⟩
  have r0 := yRk_lo (Z := fun j => (Y &&& yX q pt d).testBit j) (lo := ylo Td) (hi := yhi Td) (u := ylo Td) q (fun j _ _ => rfl)
  obtain ⟨most', x1, x2, z1, z2, z3, z4, z5⟩ := mb_in (fw := M_cSetWaits (nI q) pn fw) (wb := wb) (wk := wk) (v2 := (nI a * 8) + nI b) q8 hE hd hn ht y5 y2 ha hb9 y3 y4 Xa Xb (fun j hj => yw_c q8 hE hj) (yPz (fun j => (Y &&& yX q pt d).testBit j) (ylo Td) (yhi Td) q - 1) 0 (99998 - (yPz (fun j => (Y &&& yX q pt d).testBit j) (ylo Td) (yhi Td) q - 1)) (ylo Td) (-144) cup cl fr fg (M_cSetTakes (nI q) pn 0 ft) (by omega) hu hf r0 (by omega) (Or.inl ⟨rfl, rfl⟩)
  rw [show 99998 - (yPz (fun j => (Y &&& yX q pt d).testBit j) (ylo Td) (yhi Td) q - 1) + (yPz (fun j => (Y &&& yX q pt d).testBit j) (ylo Td) (yhi Td) q - 1) + 2 = 100000 from by omega, ei] at z4
  refine ⟨most', x1, x2, M_cSetWaits (nI q) pn fw, z1, z2, z3, ?_, z5⟩
  rw [← z4]
  simp only [M_mostBehind, K_mostBehind_1, K_mostBehind_2, K_mostBehind_4, K_mostBehind_5, K_mostBehind_6, K_wStart_3, K_wStart_2, K_wStart_1, M_wStart]
  rw [ei, hk, if_pos (by decide), y1, hs, x_and (by omega) (by omega)]
  rfl
/-- what the class keeps of them: nothing, or those of the plan -/
def yKw (q : Nat) (pt : Nat → Int64) (d : Int32) (Td wk wb : Nat → Int32) : Prop := ∀ a b, a < q → b < q → wk (8 * a + b) = 0 ∨ (wk (8 * a + b) = 1 ∧ yTop (ylo Td) (yhi Td) q (yAv q pt d Td a b) (wb (8 * a + b)))
/-- by how much at most: the reference -/
theorem mah_in {pn Td Nm Tb D Fw : Nat → Int32} {pt : Nat → Int64} {q a b : Nat} {d a2 : Int32} (q8 : q ≤ 8) (hE : xE true q pn pt Td Nm Tb) (hd : xDd d D) (hn : ∀ j, j < 64 → 0 ≤ (pn j).toInt ∧ (pn j).toInt ≤ 511) (ht : xTD Td q) (ha : a < q) (hb9 : b < q) (Xa : (yX q pt d).testBit a = true) (Xb : (yX q pt d).testBit b = true) (hw : ∀ j, j < q → Fw j = nI (yw Td j) ∧ yw Td j ≤ 9) : ∀ (m kk : Nat) (u : Nat → Nat) (most up : Int32) (Fm Fg f : Nat → Int32), yBx q (ylo Td) (yhi Td) u → (∀ j, j < q → f j = nI (u j)) → yRk (fun _ => true) (ylo Td) (yhi Td) u q + m + 1 = yPz (fun _ => true) (ylo Td) (yhi Td) q → ((most = -100000 ∧ yRk (fun _ => true) (ylo Td) (yhi Td) u q = 0) ∨ yUp (fun _ => true) (ylo Td) (yhi Td) q (yAv q pt d Td a b) (yRk (fun _ => true) (ylo Td) (yhi Td) u q) most) → ∃ (most' up' : Int32) (Fm' Fg' f' : Nat → Int32), K_m_ahead_L21 a2 Fw (nI a) (nI b) (nI q) Td Tb D (kk + m + 2) 1 most Fm Fg up f = (if a2.toInt = 1 then most' else if 0 ≤ most'.toInt then (if most'.toInt = 0 then 1 else 0) else 2, up', Fm', Fg', f', Fw) ∧ yTop (ylo Td) (yhi Td) q (yAv q pt d Td a b) most' := by
  obtain ⟨gp9, g9, g1⟩ := y_lh hE ht
  have ac : (nI a).toNatClampNeg = a := nI_clamp (by omega)
  have bc : (nI b).toNatClampNeg = b := nI_clamp (by omega)
  have m5 : (-100000 : Int32).toInt = -100000 := by decide
  have dep : ∀ v v' : Nat → Nat, (∀ j, j < q → (fun _ : Nat => true) j = true → v j = v' j) → yAv q pt d Td a b v = yAv q pt d Td a b v' := fun v v' h => by
    unfold yAv
    rw [yGT_k (fun x hx _ => h x hx rfl)]
  have dn : ∀ (n : Nat) (most up : Int32) (Fm Fg f : Nat → Int32), K_m_ahead_L21 a2 Fw (nI a) (nI b) (nI q) Td Tb D (n + 1) 0 most Fm Fg up f = (if a2.toInt = 1 then most else if 0 ≤ most.toInt then (if most.toInt = 0 then 1 else 0) else 2, up, Fm, Fg, f, Fw) := fun n most up Fm Fg f => by
    simp only [K_m_ahead_L21, K_m_ahead_21, K_m_ahead_22, K_m_ahead_24, K_m_ahead_25, K_m_ahead_26, K_m_ahead_27, K_m_ahead_28, K_m_ahead_29]
    rw [if_pos (by decide)]
    by_cases z : a2.toInt = 1
    · rw [if_pos z, if_pos z]
    · rw [if_neg z, if_neg z]
      by_cases y : 0 ≤ most.toInt
      · rw [if_pos y, if_pos y]
        by_cases x : most.toInt = 0
        · rw [if_pos x, if_pos x]
        · rw [if_neg x, if_neg x]
      · rw [if_neg y, if_neg y]
  have st : ∀ (n : Nat) (u : Nat → Nat) (most up : Int32) (Fm Fg f : Nat → Int32), yBx q (ylo Td) (yhi Td) u → (∀ j, j < q → f j = nI (u j)) → ∃ (u' : Nat → Nat) (g up' : Int32) (Fm' Fg' f' : Nat → Int32), K_m_ahead_L21 a2 Fw (nI a) (nI b) (nI q) Td Tb D (n + 1) 1 most Fm Fg up f = K_m_ahead_L21 a2 Fw (nI a) (nI b) (nI q) Td Tb D n g (if (yAv q pt d Td a b u).toInt ≤ most.toInt then most else yAv q pt d Td a b u) Fm' Fg' up' f' ∧ (∀ j, j < q → f' j = nI (u' j)) ∧ yBx q (ylo Td) (yhi Td) u' ∧ yNx (fun _ => true) (ylo Td) (yhi Td) q 0 u u' g ∧ -100000 < (yAv q pt d Td a b u).toInt := fun n u most up Fm Fg f hu hf => by
    obtain ⟨pt2, F, G, a1, -, a3⟩ := r_way (Fm := Fm) (Fg := Fg) (f := f) (u := u) q8 hE hd hn hw (fun j hj => ⟨hf j hj, by have := g1 j hj; have := hu j hj; omega, by have := (g9 j hj).2.2.2; have := hu j hj; omega⟩)
    obtain ⟨u', f', g, b1, b2, b3, b4⟩ := r_goesOn (f := f) q8 g9 hu hf
    obtain ⟨ga, la⟩ := a3 a ha Xa
    obtain ⟨gb, lb⟩ := a3 b hb9 Xb
    have v1 : (nI (yGT q pt d u (yw Td) a)).toInt = ((yGT q pt d u (yw Td) a : Nat) : Int) := nI_toInt (by omega)
    have v2 : (nI (yGT q pt d u (yw Td) b)).toInt = ((yGT q pt d u (yw Td) b : Nat) : Int) := nI_toInt (by omega)
    have v3 : (yAv q pt d Td a b u).toInt = ((yGT q pt d u (yw Td) a : Nat) : Int) - ((yGT q pt d u (yw Td) b : Nat) : Int) := xsub v1 v2 (by omega) (by omega)
    refine ⟨u', g, nI (yX q pt d), F, G, f', ?_, b2, b3, b4, by omega⟩
    simp only [K_m_ahead_L21, K_m_ahead_21, K_m_ahead_23, K_m_ahead_30, K_m_ahead_31, K_m_ahead_32, K_m_ahead_33, K_m_ahead_34]
    rw [if_neg (by decide), a1]
    dsimp only
    rw [b1, ac, bc]
    have e9 : G a - G b = yAv q pt d Td a b u := by
      rw [ga, gb]
      rfl
    by_cases c : (yAv q pt d Td a b u).toInt ≤ most.toInt
    · rw [if_pos (show (G a - G b).toInt ≤ most.toInt by rw [e9]; exact c), if_pos c]
    · rw [if_neg (show ¬ (G a - G b).toInt ≤ most.toInt by rw [e9]; exact c), if_neg c, e9]
  have nU : ∀ (u : Nat → Nat) (most : Int32), yBx q (ylo Td) (yhi Td) u → -100000 < (yAv q pt d Td a b u).toInt → ((most = -100000 ∧ yRk (fun _ => true) (ylo Td) (yhi Td) u q = 0) ∨ yUp (fun _ => true) (ylo Td) (yhi Td) q (yAv q pt d Td a b) (yRk (fun _ => true) (ylo Td) (yhi Td) u q) most) → yUp (fun _ => true) (ylo Td) (yhi Td) q (yAv q pt d Td a b) (yRk (fun _ => true) (ylo Td) (yhi Td) u q + 1) (if (yAv q pt d Td a b u).toInt ≤ most.toInt then most else yAv q pt d Td a b u) := fun u most hu hv h => by
    rcases h with ⟨c1, c2⟩ | h
    · rw [if_neg (by rw [c1, m5]; omega), c2]
      exact yUp_0 dep hu c2
    · exact yUp_st dep hu rfl h
  intro m
  induction m with
  | zero =>
    intro kk u most up Fm Fg f hu hf hm hI
    obtain ⟨u', g, up', Fm', Fg', f', s1, s2, s3, s4, s5⟩ := st (kk + 1) u most up Fm Fg f hu hf
    have b9 := nU u most hu s5 hI
    rcases yRk_next (fun j hj => (g9 j hj).2.2.1) hu s4 with ⟨g0, r0⟩ | ⟨-, r0⟩
    · rw [g0, dn kk] at s1
      rw [r0] at b9
      exact ⟨_, _, _, _, _, s1, yUp_all b9⟩
    · have := yRk_lt (Z := fun _ => true) q s3
      omega
  | succ m ih =>
    intro kk u most up Fm Fg f hu hf hm hI
    obtain ⟨u', g, up', Fm', Fg', f', s1, s2, s3, s4, s5⟩ := st (kk + m + 2) u most up Fm Fg f hu hf
    have b9 := nU u most hu s5 hI
    rcases yRk_next (fun j hj => (g9 j hj).2.2.1) hu s4 with ⟨-, r0⟩ | ⟨g1, r0⟩
    · omega
    · rw [g1] at s1
      rw [← r0] at b9
      obtain ⟨most', x1, y1, y2, y3, z1, z2⟩ := ih kk u' _ up' Fm' Fg' f' s3 s2 (by omega) (Or.inr b9)
      exact ⟨most', x1, y1, y2, y3, s1.trans z1, z2⟩
/-- ahead: one on both sides -/
theorem x_ahead_eq {pn Td Nm Tb fw ft Fw By fr fg wb wk Fm Fg D K : Nat → Int32} {pt : Nat → Int64} {q : Nat} {d a0 a1 a2 cup cl up : Int32} (q8 : q ≤ 8) (hE : xE true q pn pt Td Nm Tb) (hd : xDd d D) (hn : ∀ j, j < 64 → 0 ≤ (pn j).toInt ∧ (pn j).toInt ≤ 511) (ht : xTD Td q) (hc : yKw q pt d Td wk wb) {r cup9 cl9 v up9 : Int32} {wb9 wk9 fw9 ft9 fr9 fg9 Fm9 Fg9 By9 Fw9 : Nat → Int32} (x1 : M_x_ahead a0 (nI q) a1 wb wk cup cl fw ft fr fg a2 pn pt d = (r, wb9, wk9, cup9, cl9, fw9, ft9, fr9, fg9)) (x2 : M_m_ahead a0 (nI q) a1 up Fm Fg By Fw a2 Td Tb D K = (v, up9, Fm9, Fg9, By9, Fw9)) : r = v ∧ yKw q pt d Td wk9 wb9 := by
  have qq : (nI q).toInt = (q : Int) := nI_toInt (by omega)
  have ua : M_upAmong (nI q) (xA q &&& (d ^^^ (-1))) pt = nI (yX q pt d) := (up_alive hE q8).trans (r_up2 hE q8)
  have ub : M_m_upBut (nI q) (nI (xDb q d)) Tb = nI (yX q pt d) := r_up2 hE q8
  have xl := yX_lt (pt := pt) (d := d) q8
  obtain ⟨gp9, g9, g1⟩ := y_lh hE ht
  have no : ∀ {r9 : Int32}, (r9, wb, wk, cup, cl, fw, ft, fr, fg) = (r, wb9, wk9, cup9, cl9, fw9, ft9, fr9, fg9) → (r9, up, Fm, Fg, By, Fw) = (v, up9, Fm9, Fg9, By9, Fw9) → r = v ∧ yKw q pt d Td wk9 wb9 := fun h1 h2 => by
    simp only [Prod.mk.injEq] at h1 h2
    obtain ⟨y1, y2, y3, -⟩ := h1
    exact ⟨by rw [← y1, ← h2.1], by rw [← y2, ← y3]; exact hc⟩
  simp only [K_x_ahead_6, K_x_ahead_8, K_x_ahead_22, K_x_ahead_26, K_x_ahead_25, K_x_ahead_23, K_x_ahead_24, K_x_ahead_21, K_x_ahead_20, K_x_ahead_19, K_x_ahead_17, K_x_ahead_18, K_x_ahead_16, K_x_ahead_15, K_x_ahead_13, K_x_ahead_14, K_x_ahead_12, K_x_ahead_10, K_x_ahead_11, K_x_ahead_9, K_x_ahead_7, K_x_ahead_5, K_x_ahead_4, K_x_ahead_3, K_x_ahead_2, K_x_ahead_1, M_x_ahead] at x1
  simp only [K_m_ahead_6, K_m_ahead_15, K_m_ahead_18, K_m_ahead_20, K_m_ahead_19, K_m_ahead_17, K_m_ahead_16, K_m_ahead_14, K_m_ahead_13, K_m_ahead_11, K_m_ahead_12, K_m_ahead_10, K_m_ahead_8, K_m_ahead_9, K_m_ahead_7, K_m_ahead_5, K_m_ahead_4, K_m_ahead_3, K_m_ahead_2, K_m_ahead_1, M_m_ahead] at x2
  by_cases c1 : 0 ≤ a0.toInt ∧ a0.toInt < (nI q).toInt
  · rw [if_pos c1] at x1 x2
    by_cases c2 : 0 ≤ a1.toInt ∧ a1.toInt < (nI q).toInt
    · rw [if_pos c2] at x1 x2
      by_cases c3 : a0.toInt = a1.toInt
      · rw [if_pos c3] at x1 x2
        exact no x1 x2
      · rw [if_neg c3] at x1 x2
        by_cases c4 : 0 ≤ a2.toInt ∧ a2.toInt ≤ 1
        · rw [if_neg (by omega), if_pos c4.2] at x1
          rw [if_pos c4] at x2
          obtain ⟨W, w1, w2, w3, w4, w5⟩ := r_ways q8 hE ht
          have eP : (nI (yPz (fun _ => true) (ylo Td) (yhi Td) q)).toInt = ((yPz (fun _ => true) (ylo Td) (yhi Td) q : Nat) : Int) := nI_toInt (by omega)
          have eW : (nI W).toInt = (W : Int) := nI_toInt (by omega)
          rw [w1] at x1
          rw [w3] at x2
          rcases w5 with ⟨w5, w6⟩ | ⟨w5, w6⟩
          · have an := xtn (x := a0) c1.1
            have bn := xtn (x := a1) c2.1
            have ea : nI a0.toNatClampNeg = a0 := xnI c1.1
            have eb : nI a1.toNatClampNeg = a1 := xnI c2.1
            have bo := y_both (X := yX q pt d) (a := a0.toNatClampNeg) (b := a1.toNatClampNeg) xl (by omega) (by omega)
            have ba : ((nI (yX q pt d) >>> (a0 &&& 31)) &&& (1 : Int32)).toInt = 0 ↔ (yX q pt d).testBit a0.toNatClampNeg = false := by
              have z := xsr_0 (nI (yX q pt d)) (r := a0.toNatClampNeg) (by omega)
              rw [ea, xb_nI (by omega)] at z
              exact z
            have bb : ((nI (yX q pt d) >>> (a1 &&& 31)) &&& (1 : Int32)).toInt = 0 ↔ (yX q pt d).testBit a1.toNatClampNeg = false := by
              have z := xsr_0 (nI (yX q pt d)) (r := a1.toNatClampNeg) (by omega)
              rw [eb, xb_nI (by omega)] at z
              exact z
            rw [ea, eb] at bo
            rw [if_pos (by omega), t_alive, ua] at x1
            rw [if_pos (by omega), r_dead hd q8, ub] at x2
            by_cases u : (yX q pt d).testBit a0.toNatClampNeg = true
            · rw [if_neg (fun z => by rw [ba.mp z] at u; exact absurd u (by decide))] at x2
              by_cases u2 : (yX q pt d).testBit a1.toNatClampNeg = true
              · rw [if_pos (bo.mpr ⟨u, u2⟩)] at x1
                rw [if_neg (fun z => by rw [bb.mp z] at u2; exact absurd u2 (by decide))] at x2
                have ps := yPz_pos (Z := fun _ => true) (lo := ylo Td) (hi := yhi Td) q
                have hu : yBx q (ylo Td) (yhi Td) (ylo Td) := fun j hj => ⟨Nat.le_refl _, (g9 j hj).2.2.1⟩
                have r0 := yRk_lo (Z := fun _ => true) (lo := ylo Td) (hi := yhi Td) (u := ylo Td) q (fun j _ _ => rfl)
                have hf : ∀ j, j < q → M_m_setTimes (nI q) 1 K Td By j = nI (ylo Td j) := fun j hj => by
                  rw [r_setT (c := 0) q8 (by decide) (by decide) (by decide), yF_t hj rfl]
                  exact (g9 j hj).1
                obtain ⟨most2, k1, k2, k3, k4, m1, m2⟩ := mah_in (Fw := M_m_setWaits (nI q) Td Fw) (a := a0.toNatClampNeg) (b := a1.toNatClampNeg) (a2 := a2) q8 hE hd hn ht (by omega) (by omega) u u2 (fun j hj => ⟨yw_m q8 hE hj, (yw_c (f := By) q8 hE hj).2⟩) (yPz (fun _ => true) (ylo Td) (yhi Td) q - 1) (199999998 - (yPz (fun _ => true) (ylo Td) (yhi Td) q - 1)) (ylo Td) (-100000) up Fm Fg (M_m_setTimes (nI q) 1 K Td By) hu hf (by omega) (Or.inl ⟨rfl, r0⟩)
                rw [show 199999998 - (yPz (fun _ => true) (ylo Td) (yhi Td) q - 1) + (yPz (fun _ => true) (ylo Td) (yhi Td) q - 1) + 2 = 200000000 from by omega, ea, eb] at m1
                have fb : ∃ (most' e1' e2' : Int32) (wb' wk' fw' f' fr' fg' : Nat → Int32), M_mostBehind wk a0 a1 wb (nI q) pn pt fr fg cup cl ft fw (xA q &&& (d ^^^ (-1))) = (most', wb', wk', e1', e2', fw', f', fr', fg') ∧ yTop (ylo Td) (yhi Td) q (yAv q pt d Td a0.toNatClampNeg a1.toNatClampNeg) most' ∧ yKw q pt d Td wk' wb' := by
                  rcases hc a0.toNatClampNeg a1.toNatClampNeg (by omega) (by omega) with e | ⟨e, e1⟩
                  · obtain ⟨most', e1', e2', fw', f', fr', fg', n1, n2⟩ := t_mostB (wb := wb) (wk := wk) (fr := fr) (fg := fg) (fw := fw) (ft := ft) (cup := cup) (cl := cl) (a := a0.toNatClampNeg) (b := a1.toNatClampNeg) q8 hE hd hn ht ua (by omega) (by omega) (by omega) u u2 e
                    rw [ea, eb] at n1
                    refine ⟨most', e1', e2', _, _, fw', f', fr', fg', n1, n2, fun a b h1 h2 => ?_⟩
                    by_cases y : a = a0.toNatClampNeg ∧ b = a1.toNatClampNeg
                    · obtain ⟨ya, yb⟩ := y
                      subst ya
                      subst yb
                      rw [xupd_s, xupd_s]
                      exact Or.inr ⟨rfl, n2⟩
                    · rw [xupd_o (by omega), xupd_o (by omega)]
                      exact hc a b h1 h2
                  · have ei : ((nI a0.toNatClampNeg * 8) + nI a1.toNatClampNeg).toNatClampNeg = 8 * a0.toNatClampNeg + a1.toNatClampNeg := xi8 (by omega) (by omega)
                    rw [ea, eb] at ei
                    refine ⟨wb (8 * a0.toNatClampNeg + a1.toNatClampNeg), cup, cl, wb, wk, fw, ft, fr, fg, ?_, e1, hc⟩
                    simp only [M_mostBehind, K_mostBehind_1, K_mostBehind_3]
                    rw [ei, e, if_neg (by decide)]
                obtain ⟨most', e1', e2', wb', wk', fw', f', fr', fg', n1, n2, n3⟩ := fb
                have one := yTop_one n2 m2
                rw [n1] at x1
                rw [m1] at x2
                dsimp only at x1
                simp only [Prod.mk.injEq] at x2
                by_cases z : a2.toInt = 1
                · rw [if_pos z] at x1 x2
                  simp only [Prod.mk.injEq] at x1
                  obtain ⟨y1, y2, y3, -⟩ := x1
                  exact ⟨by rw [← y1, ← x2.1, one], by rw [← y2, ← y3]; exact n3⟩
                · rw [if_neg z] at x1 x2
                  by_cases z2 : 0 ≤ most'.toInt
                  · rw [if_pos z2] at x1
                    rw [if_pos (by rw [← one]; exact z2)] at x2
                    by_cases z3 : most'.toInt = 0
                    · rw [if_pos z3] at x1
                      rw [if_pos (by rw [← one]; exact z3)] at x2
                      simp only [Prod.mk.injEq] at x1
                      obtain ⟨y1, y2, y3, -⟩ := x1
                      exact ⟨by rw [← y1, ← x2.1], by rw [← y2, ← y3]; exact n3⟩
                    · rw [if_neg z3] at x1
                      rw [if_neg (by rw [← one]; exact z3)] at x2
                      simp only [Prod.mk.injEq] at x1
                      obtain ⟨y1, y2, y3, -⟩ := x1
                      exact ⟨by rw [← y1, ← x2.1], by rw [← y2, ← y3]; exact n3⟩
                  · rw [if_neg z2] at x1
                    rw [if_neg (by rw [← one]; exact z2)] at x2
                    simp only [Prod.mk.injEq] at x1
                    obtain ⟨y1, y2, y3, -⟩ := x1
                    exact ⟨by rw [← y1, ← x2.1], by rw [← y2, ← y3]; exact n3⟩
              · rw [if_neg (fun z => u2 (bo.mp z).2)] at x1
                rw [if_pos (bb.mpr (by simpa using u2))] at x2
                exact no x1 x2
            · rw [if_neg (fun z => u (bo.mp z).1)] at x1
              rw [if_pos (ba.mpr (by simpa using u))] at x2
              exact no x1 x2
          · rw [if_neg (by omega)] at x1 x2
            exact no x1 x2
        · rw [if_neg c4] at x2
          by_cases b : a2.toInt < 0
          · rw [if_pos b] at x1
            exact no x1 x2
          · rw [if_neg b, if_neg (by omega)] at x1
            exact no x1 x2
    · rw [if_neg c2] at x1 x2
      exact no x1 x2
  · rw [if_neg c1] at x1 x2
    exact no x1 x2
-- 99.m.sheet
/-- the rows of the four places -/
def ysc (c0 c1 c2 c3 : Nat → Int32) : Nat → (Nat → Int32)
  | 0 => c0
  | 1 => c1
  | 2 => c2
  | _ => c3
/-- the sheets: one on both sides -/
def ySh (szs sl : Nat → Int32) (sc : Nat → (Nat → Int32)) (lanes sizes cells : Nat → Int32) : Prop := ∀ k, k < 4 → (szs k = -4 ∧ lanes k = -4) ∨ ((szs k).toInt ≠ -4 ∧ (lanes k).toInt ≠ -4 ∧ szs k = sizes k ∧ sl k = lanes k ∧ 0 ≤ (szs k).toInt ∧ (szs k).toInt ≤ 40 ∧ ∀ j, j < 40 → sc k j = cells (40 * k + j))
theorem y_abs {v : Int32} (h1 : -100000 ≤ v.toInt) : (if 0 ≤ v then v else 0 - v) = if 0 ≤ v.toInt then v else -v := by
  have z0 : (0 : Int32).toInt = 0 := by decide
  have l : (0 : Int32) ≤ v ↔ 0 ≤ v.toInt := by
    rw [Int32.le_iff_toInt_le, z0]
  by_cases c : 0 ≤ v.toInt
  · rw [if_pos (l.mpr c), if_pos c]
  · rw [if_neg (fun z => c (l.mp z)), if_neg c, Int32.zero_sub]
theorem y_idx {f : Int32} {t : Nat} (ht : t ≤ 100) : (f + nI t).toInt = f.toInt + (t : Int) ∨ ((f + nI t).toInt < 0 ∧ 2147483648 ≤ f.toInt + (t : Int)) := by
  have et : (nI t).toInt = (t : Int) := nI_toInt (by omega)
  have lo := Int32.le_toInt f
  have hi := Int32.toInt_lt f
  by_cases o : f.toInt + (t : Int) < 2147483648
  · exact Or.inl (xadd rfl et (by omega) (by omega))
  · refine Or.inr ⟨?_, by omega⟩
    have e : (f + nI t).toInt = (f.toInt + (nI t).toInt).bmod (2 ^ 32) := Int32.toInt_add f (nI t)
    rw [e, et, Int.bmod_def]
    split <;> omega
theorem cs_un {n w f cup sa fo ap : Int32} {szs c0 c1 c2 c3 fg fr pn D3 : Nat → Int32} {q k t : Nat} (hk : k < 4) (ht : t ≤ 100) (hD : M_drawnAt (nI q) (nI t) fg fr pn cup = D3 t) (j : Nat) : K_compareSheet_L2 n w f szs (nI k) c0 (nI q) fg fr pn cup c1 c2 c3 (j + 1) (nI t) ap fo sa = if n.toInt ≤ (nI t).toInt then (if w.toInt = 0 then sa else if w.toInt = 1 then fo else ap) else if (f + nI t).toInt < 0 then -12 else if (f + nI t).toInt < (szs k).toInt then (if (ysc c0 c1 c2 c3 k (f + nI t).toNatClampNeg).toInt < 0 then -20 - nI t else if (ysc c0 c1 c2 c3 k (f + nI t).toNatClampNeg).toInt ≤ 9999 then (if (if 0 ≤ (ysc c0 c1 c2 c3 k (f + nI t).toNatClampNeg - D3 t) then (ysc c0 c1 c2 c3 k (f + nI t).toNatClampNeg - D3 t) else 0 - (ysc c0 c1 c2 c3 k (f + nI t).toNatClampNeg - D3 t)).toInt = 0 then K_compareSheet_L2 n w f szs (nI k) c0 (nI q) fg fr pn cup c1 c2 c3 j (nI (t + 1)) (ap + (if 0 ≤ (ysc c0 c1 c2 c3 k (f + nI t).toNatClampNeg - D3 t) then (ysc c0 c1 c2 c3 k (f + nI t).toNatClampNeg - D3 t) else 0 - (ysc c0 c1 c2 c3 k (f + nI t).toNatClampNeg - D3 t))) fo (sa + 1) else if fo.toInt = -4 then K_compareSheet_L2 n w f szs (nI k) c0 (nI q) fg fr pn cup c1 c2 c3 j (nI (t + 1)) (ap + (if 0 ≤ (ysc c0 c1 c2 c3 k (f + nI t).toNatClampNeg - D3 t) then (ysc c0 c1 c2 c3 k (f + nI t).toNatClampNeg - D3 t) else 0 - (ysc c0 c1 c2 c3 k (f + nI t).toNatClampNeg - D3 t))) (nI t) sa else K_compareSheet_L2 n w f szs (nI k) c0 (nI q) fg fr pn cup c1 c2 c3 j (nI (t + 1)) (ap + (if 0 ≤ (ysc c0 c1 c2 c3 k (f + nI t).toNatClampNeg - D3 t) then (ysc c0 c1 c2 c3 k (f + nI t).toNatClampNeg - D3 t) else 0 - (ysc c0 c1 c2 c3 k (f + nI t).toNatClampNeg - D3 t))) fo sa) else -20 - nI t) else -12 := by
  have kc : (nI k).toNatClampNeg = k := nI_clamp (by omega)
  simp only [K_compareSheet_L2, K_compareSheet_6, K_compareSheet_8, K_compareSheet_7, K_compareSheet_5, K_compareSheet_3, K_compareSheet_9, K_compareSheet_15, K_compareSheet_21, K_compareSheet_23, K_compareSheet_22, K_compareSheet_20, K_compareSheet_19, K_compareSheet_17, K_compareSheet_18, K_compareSheet_16, K_compareSheet_13, K_compareSheet_26, K_compareSheet_32, K_compareSheet_34, K_compareSheet_33, K_compareSheet_31, K_compareSheet_30, K_compareSheet_28, K_compareSheet_29, K_compareSheet_27, K_compareSheet_24, K_compareSheet_37, K_compareSheet_43, K_compareSheet_45, K_compareSheet_44, K_compareSheet_42, K_compareSheet_41, K_compareSheet_39, K_compareSheet_40, K_compareSheet_38, K_compareSheet_35, K_compareSheet_46, K_compareSheet_52, K_compareSheet_54, K_compareSheet_53, K_compareSheet_51, K_compareSheet_50, K_compareSheet_48, K_compareSheet_49, K_compareSheet_47, K_compareSheet_36, K_compareSheet_25, K_compareSheet_14, K_compareSheet_11, K_compareSheet_12, K_compareSheet_10, K_compareSheet_4, K_compareSheet_2, K_compareSheet_1, M_compareSheet, kc]
  rw [hD, nI_1]
  match k, hk with
  | 0, _ =>
    rw [if_pos (show (nI 0).toInt = 0 from by decide)]
    rfl
  | 1, _ =>
    rw [if_neg (show ¬ (nI 1).toInt = 0 from by decide), if_pos (show (nI 1).toInt = 1 from by decide)]
    rfl
  | 2, _ =>
    rw [if_neg (show ¬ (nI 2).toInt = 0 from by decide), if_neg (show ¬ (nI 2).toInt = 1 from by decide), if_pos (show (nI 2).toInt = 2 from by decide)]
    rfl
  | 3, _ =>
    rw [if_neg (show ¬ (nI 3).toInt = 0 from by decide), if_neg (show ¬ (nI 3).toInt = 1 from by decide), if_neg (show ¬ (nI 3).toInt = 2 from by decide)]
    rfl
theorem ms2_in {w f cup up : Int32} {szs c0 c1 c2 c3 sizes cells fg fr pn Td Fm Fg By Fw D3 : Nat → Int32} {q k n : Nat} (hk : k < 4) (n40 : n ≤ 40) (hD : ∀ t, t ≤ 1000 → M_drawnAt (nI q) (nI t) fg fr pn cup = D3 t ∧ M_m_drawnAt (nI q) Td (nI t) Fg Fm Fw = D3 t ∧ 0 ≤ (D3 t).toInt ∧ (D3 t).toInt ≤ 4088) (e1 : szs k = sizes k) (e2 : (szs k).toInt ≤ 40) (e3 : ∀ j, j < 40 → ysc c0 c1 c2 c3 k j = cells (40 * k + j)) : ∀ (m t kk : Nat) (ap fo sa : Int32), t + m = n → K_compareSheet_L2 (nI n) w f szs (nI k) c0 (nI q) fg fr pn cup c1 c2 c3 (kk + m + 1) (nI t) ap fo sa = (K_m_measured_L13 (nI n) w up Fm Fg By Fw f sizes (nI k) cells (nI q) Td (kk + m + 1) (nI t) ap fo sa).1 := by
  have en : (nI n).toInt = (n : Int) := nI_toInt (by omega)
  have kc : (nI k).toNatClampNeg = k := nI_clamp (by omega)
  intro m
  induction m with
  | zero =>
    intro t kk ap fo sa ht
    have et : (nI t).toInt = (t : Int) := nI_toInt (by omega)
    rw [show kk + 0 + 1 = kk + 1 from rfl, cs_un hk (by omega) (hD t (by omega)).1, if_pos (by omega)]
    simp only [K_m_measured_L13, K_m_measured_13, K_m_measured_14, K_m_measured_16, K_m_measured_17, K_m_measured_18, K_m_measured_19]
    rw [if_pos (show (nI n).toInt ≤ (nI t).toInt by omega)]
    by_cases a : w.toInt = 0
    · rw [if_pos a, if_pos a]
    · rw [if_neg a, if_neg a]
      by_cases b : w.toInt = 1
      · rw [if_pos b, if_pos b]
      · rw [if_neg b, if_neg b]
  | succ m ih =>
    intro t kk ap fo sa ht
    have et : (nI t).toInt = (t : Int) := nI_toInt (by omega)
    obtain ⟨d1, d2, d3, d4⟩ := hD t (by omega)
    have i9 := fun ap fo sa => ih (t + 1) kk ap fo sa (by omega)
    show K_compareSheet_L2 (nI n) w f szs (nI k) c0 (nI q) fg fr pn cup c1 c2 c3 ((kk + m + 1) + 1) (nI t) ap fo sa = (K_m_measured_L13 (nI n) w up Fm Fg By Fw f sizes (nI k) cells (nI q) Td ((kk + m + 1) + 1) (nI t) ap fo sa).1
    generalize kk + m + 1 = j at i9 ⊢
    rw [cs_un hk (by omega) d1, if_neg (by omega)]
    have r1 : K_m_measured_L13 (nI n) w up Fm Fg By Fw f sizes (nI k) cells (nI q) Td (j + 1) (nI t) ap fo sa = K_m_measured_15 f (nI t) up Fm Fg By Fw sizes (nI k) cells (K_m_measured_L13 (nI n) w up Fm Fg By Fw f sizes (nI k) cells (nI q) Td j) ap fo sa (nI q) Td := by
      simp only [K_m_measured_L13, K_m_measured_13]
      rw [if_neg (by omega)]
    rw [r1]
    by_cases i1 : 0 ≤ f.toInt + (t : Int) ∧ f.toInt + (t : Int) < (szs k).toInt
    · have ei : (f + nI t).toInt = f.toInt + (t : Int) := xadd rfl et (by omega) (by omega)
      have inn := xtn (x := f + nI t) (by omega)
      have es : nI (f + nI t).toNatClampNeg = f + nI t := xnI (by omega)
      have lx : (f.toInt64 + (nI t).toInt64).toInt32 = f + nI t := by
        rw [Int64.toInt32_add, Int32.toInt32_toInt64, Int32.toInt32_toInt64]
      have ix : ((40 : Int32) * nI k + (f + nI t)).toNatClampNeg = 40 * k + (f + nI t).toNatClampNeg := by
        rw [← es, show (40 : Int32) * nI k = nI (40 * k) from pk_mul 40 k, nI_add, nI_clamp (by omega), nI_clamp (by omega)]
      have ec := e3 (f + nI t).toNatClampNeg (by omega)
      rw [if_neg (by omega), if_pos (by omega), ec]
      simp only [K_m_measured_15, K_m_measured_21, K_m_measured_22, kc]
      rw [if_neg (show ¬ f.toInt + (nI t).toInt < 0 by omega), if_pos (show f.toInt + (nI t).toInt < (sizes k).toInt by rw [← e1]; omega), lx, ix]
      generalize cells (40 * k + (f + nI t).toNatClampNeg) = c
      by_cases b : 0 ≤ c.toInt ∧ c.toInt ≤ 9999
      · rw [if_neg (show ¬ c.toInt < 0 by omega), if_pos b.2, if_pos b]
        have ev : (c - D3 t).toInt = c.toInt - (D3 t).toInt := xsub rfl rfl (by omega) (by omega)
        have n0 : (-(c - D3 t)).toInt = 0 ↔ (c - D3 t).toInt = 0 := by
          have z : (0 - (c - D3 t)).toInt = 0 - (c - D3 t).toInt := xsub (by decide) rfl (by omega) (by omega)
          rw [Int32.zero_sub] at z
          omega
        simp only [K_m_measured_24, K_m_measured_26, K_m_measured_27, K_m_measured_28, K_m_measured_29, K_m_measured_30, K_m_measured_31, K_m_measured_32, K_m_measured_33, K_m_measured_34, K_m_measured_35, K_m_measured_36]
        rw [d2, y_abs (by omega), nI_1, xadd0]
        generalize c - D3 t = v at ev n0
        by_cases z : v.toInt = 0
        · rw [if_pos (show 0 ≤ v.toInt by omega), if_pos z, if_pos z]
          exact i9 _ _ _
        · rw [if_neg z, if_neg z]
          by_cases g : 0 ≤ v.toInt
          · rw [if_pos g, if_neg z]
            by_cases fo4 : fo.toInt = -4
            · rw [if_pos fo4, if_pos fo4, if_pos g]
              exact i9 _ _ _
            · rw [if_neg fo4, if_neg fo4, if_pos g]
              exact i9 _ _ _
          · rw [if_neg g, if_neg (fun y => z (n0.mp y))]
            by_cases fo4 : fo.toInt = -4
            · rw [if_pos fo4, if_pos fo4, if_neg g]
              exact i9 _ _ _
            · rw [if_neg fo4, if_neg fo4, if_neg g]
              exact i9 _ _ _
      · rw [if_neg b]
        simp only [K_m_measured_25]
        by_cases g : c.toInt < 0
        · rw [if_pos g]
        · rw [if_neg g, if_neg (by omega)]
    · have lhs : (f + nI t).toInt < 0 ∨ (szs k).toInt ≤ (f + nI t).toInt := by
        rcases y_idx (f := f) (t := t) (by omega) with a | a
        · omega
        · exact Or.inl a.1
      simp only [K_m_measured_15, K_m_measured_20, K_m_measured_21, K_m_measured_23, kc]
      rw [et]
      have rhs : (f.toInt + (t : Int) < 0) ∨ (¬ f.toInt + (t : Int) < 0 ∧ ¬ f.toInt + (t : Int) < (sizes k).toInt) := by
        rw [← e1]
        omega
      rcases rhs with a | ⟨a1, a2⟩
      · rw [if_pos a]
        rcases lhs with b | b
        · rw [if_pos b]
        · by_cases b2 : (f + nI t).toInt < 0
          · rw [if_pos b2]
          · rw [if_neg b2, if_neg (by omega)]
      · rw [if_neg a1, if_neg a2]
        rcases lhs with b | b
        · rw [if_pos b]
        · by_cases b2 : (f + nI t).toInt < 0
          · rw [if_pos b2]
          · rw [if_neg b2, if_neg (by omega)]
/-- measured: one on both sides -/
theorem x_meas_eq {pn Td Nm Tb fw ft Fw By fr fg Fm Fg D rt K szs sl c0 c1 c2 c3 lanes sizes cells : Nat → Int32} {pt : Nat → Int64} {q : Nat} {d a0 a1 a2 a3 a4 cup cl up : Int32} (q8 : q ≤ 8) (hE : xE true q pn pt Td Nm Tb) (hd : xDd d D) (hn : ∀ j, j < 64 → 0 ≤ (pn j).toInt ∧ (pn j).toInt ≤ 511) (hk : ∀ j, j < q → rt j = K j ∧ 1 ≤ (K j).toInt ∧ (K j).toInt ≤ 9) (hs : ySh szs sl (ysc c0 c1 c2 c3) lanes sizes cells) : (M_x_measured a0 a1 a3 cup cl fw ft fr fg a4 szs sl a2 c0 (nI q) pn c1 c2 c3 pt d rt).1 = (M_m_measured a0 a1 a3 a4 lanes a2 sizes cells (nI q) Td Tb Fm Fg D K By Fw up).1 := by
  have m4 : (-4 : Int32).toInt = -4 := by decide
  simp only [K_x_measured_6, K_x_measured_8, K_x_measured_10, K_x_measured_15, K_x_measured_19, K_x_measured_18, K_x_measured_16, K_x_measured_17, K_x_measured_14, K_x_measured_12, K_x_measured_13, K_x_measured_11, K_x_measured_9, K_x_measured_7, K_x_measured_4, K_x_measured_5, K_x_measured_3, K_x_measured_2, K_x_measured_1, M_x_measured]
  simp only [K_m_measured_12, K_m_measured_11, K_m_measured_10, K_m_measured_8, K_m_measured_38, K_m_measured_37, K_m_measured_9, K_m_measured_6, K_m_measured_7, K_m_measured_5, K_m_measured_4, K_m_measured_3, K_m_measured_2, K_m_measured_1, M_m_measured]
  by_cases c1' : 0 ≤ a0.toInt ∧ a0.toInt < 4
  · rw [if_pos c1']
    have an := xtn (x := a0) c1'.1
    have ea : nI a0.toNatClampNeg = a0 := xnI c1'.1
    by_cases c2' : 0 ≤ a1.toInt ∧ a1.toInt ≤ 2
    · rw [if_pos c2', if_pos (show (0 ≤ a0.toInt ∧ a0.toInt ≤ 3) ∧ 0 ≤ a1.toInt ∧ a1.toInt ≤ 2 from ⟨by omega, c2'⟩)]
      by_cases c3' : 0 ≤ a3.toInt ∧ a3.toInt ≤ 40
      · rw [if_neg (by omega), if_neg (by omega), if_pos c3']
        by_cases c4 : 0 ≤ a4.toInt ∧ a4.toInt ≤ 2
        · rw [if_neg (by omega), if_pos c4.2, if_pos c4]
          rcases hs a0.toNatClampNeg (by omega) with ⟨s1, s2⟩ | ⟨s1, s2, s3, s4, s5, s6, s7⟩
          · rw [s1, s2, if_pos m4, if_neg (by omega), if_pos m4]
          · rw [if_neg s1, s4]
            by_cases l : (lanes a0.toNatClampNeg).toInt = a1.toInt
            · rw [if_pos l, if_pos l]
              obtain ⟨L, D3, P2, fr', fg', F, G, f1, f2, -, f4, -, -⟩ := y_now (fw := fw) (ft := ft) (Fw := Fw) (By := By) (fr := fr) (fg := fg) (Fm := Fm) (Fg := Fg) q8 hE hd hn hk
              rw [f1, f2]
              dsimp only
              have a3n := xtn (x := a3) c3'.1
              have e3 : nI a3.toNatClampNeg = a3 := xnI c3'.1
              have z := ms2_in (w := a4) (f := a2) (up := nI (yX q pt d)) (szs := szs) (c0 := c0) (c1 := c1) (c2 := c2) (c3 := c3) (sizes := sizes) (cells := cells) (By := M_m_setTimes (nI q) 0 K Td By) (k := a0.toNatClampNeg) (n := a3.toNatClampNeg) (by omega) (by omega) f4 s3 s6 s7 a3.toNatClampNeg 0 (99999 - a3.toNatClampNeg) 0 (-4) 0 (by omega)
              rw [show 99999 - a3.toNatClampNeg + a3.toNatClampNeg + 1 = 100000 from by omega, e3, ea] at z
              exact z
            · rw [if_neg l, if_neg l, if_neg s2]
        · rw [if_neg c4]
          by_cases b : a4.toInt < 0
          · rw [if_pos b]
          · rw [if_neg b, if_neg (by omega)]
      · rw [if_neg c3']
        by_cases b : a3.toInt < 0
        · rw [if_pos b]
        · rw [if_neg b, if_pos (by omega)]
    · rw [if_neg c2', if_neg (fun z => c2' z.2)]
  · rw [if_neg c1', if_neg (fun z => c1' ⟨z.1.1, by omega⟩)]
/-- count: one on both sides -/
theorem x_count_eq {pn Td Nm Tb D szs lanes sizes : Nat → Int32} {pt : Nat → Int64} {wt : Bool} {q : Nat} {d a0 ysz mh tl tp : Int32} (q8 : q ≤ 8) (hE : xE wt q pn pt Td Nm Tb) (hd : xDd d D) (ht : xTD Td q) (hq : ∀ j, q ≤ j → j < 32 → xb d j = false) (e1 : ysz = mh) (e2 : tl = tp) (hs : (szs 0 = -4 ∧ lanes 0 = -4) ∨ ((lanes 0).toInt ≠ -4 ∧ szs 0 = sizes 0)) : M_x_count a0 (nI q) d ysz pn tl szs = M_m_count a0 (nI q) D mh Td tp lanes sizes := by
  subst e1
  subst e2
  have m4 : (-4 : Int32).toInt = -4 := by decide
  obtain ⟨W, w1, w2, w3, w4, w5⟩ := r_ways q8 hE ht
  have eP : (nI (yPz (fun _ => true) (ylo Td) (yhi Td) q)).toInt = ((yPz (fun _ => true) (ylo Td) (yhi Td) q : Nat) : Int) := nI_toInt (by omega)
  have eW : (nI W).toInt = (W : Int) := nI_toInt (by omega)
  have dl := xDb_lt (d := d) q8
  have db : d = nI (xDb q d) := xb_ext (fun r hr => by
    rw [xDb_b hr]
    by_cases z : r < q
    · simp [z]
    · rw [hq r (by omega) hr]
      simp)
  have ct : M_bitCount d = M_m_countOf (M_m_deadOnes (nI q) D) := by
    rw [r_dead hd q8]
    conv => lhs; rw [db]
    exact x_cnt ⟨xDb q d, dl⟩
  simp only [K_x_count_2, K_x_count_6, K_x_count_4, K_x_count_7, K_x_count_14, K_x_count_12, K_x_count_13, K_x_count_11, K_x_count_9, K_x_count_15, K_x_count_17, K_x_count_18, K_x_count_16, K_x_count_10, K_x_count_8, K_x_count_5, K_x_count_3, K_x_count_1, M_x_count, K_m_count_2, K_m_count_7, K_m_count_6, K_m_count_4, K_m_count_8, K_m_count_15, K_m_count_13, K_m_count_14, K_m_count_12, K_m_count_10, K_m_count_16, K_m_count_21, K_m_count_20, K_m_count_18, K_m_count_19, K_m_count_17, K_m_count_11, K_m_count_9, K_m_count_5, K_m_count_3, K_m_count_1, M_m_count]
  rw [ct, w1, w3]
  by_cases a0' : a0.toInt = 0
  · rw [if_pos a0', if_pos a0']
  · rw [if_neg a0', if_neg a0']
    by_cases a1' : a0.toInt = 1
    · rw [if_pos a1', if_pos a1']
    · rw [if_neg a1', if_neg a1']
      by_cases a2' : a0.toInt = 2
      · rw [if_pos a2', if_pos a2']
      · rw [if_neg a2', if_neg a2']
        by_cases a3' : a0.toInt = 3
        · rw [if_pos a3', if_pos a3']
          rcases w5 with ⟨w5, w6⟩ | ⟨w5, w6⟩
          · rw [if_pos (by omega), if_pos (by omega), w6]
          · rw [if_neg (by omega), if_neg (by omega)]
        · rw [if_neg a3', if_neg a3']
          by_cases a4' : a0.toInt = 4
          · rw [if_pos a4', if_pos a4']
          · rw [if_neg a4', if_neg a4']
            by_cases a5' : a0.toInt = 5
            · rw [if_pos a5', if_pos a5']
              rcases hs with ⟨s1, s2⟩ | ⟨s1, s2⟩
              · rw [s1, s2, if_pos m4]
              · rw [if_neg s1, s2]
            · rw [if_neg a5', if_neg a5']
-- 99.t.tick
theorem xsub0 (x : Int32) : x - 0 = x := by
  apply Int32.toBitVec_inj.mp
  rw [Int32.toBitVec_sub]
  exact BitVec.sub_zero _
/-- what is drawn now: the class -/
theorem sd_in {rs S pn n3 n4 : Nat → Int32} {q : Nat} (q8 : q ≤ 8) (hs : ∀ j, j < q → rs j = S j) (h3 : ∀ x, x < q → pn (8 * x + 3) = n3 x ∧ pn (8 * x + 4) = n4 x) : ∀ (m x k : Nat), x + m = q → K_sumDraw_L2 (nI q) rs pn (k + m + 1) (nI x) (yD (fun x => if (S x).toInt = 3 then n3 x else if (S x).toInt = 2 then n4 x else 0) x) = yD (fun x => if (S x).toInt = 3 then n3 x else if (S x).toInt = 2 then n4 x else 0) q := by
  have qq : (nI q).toInt = (q : Int) := nI_toInt (by omega)
  intro m
  induction m with
  | zero =>
    intro x k hx
    have ex : (nI x).toInt = (x : Int) := nI_toInt (by omega)
    obtain rfl : x = q := by omega
    simp only [K_sumDraw_L2, K_sumDraw_3, K_sumDraw_10, K_sumDraw_6, K_sumDraw_9, K_sumDraw_8, K_sumDraw_7, K_sumDraw_5, K_sumDraw_4, K_sumDraw_2, K_sumDraw_1, M_sumDraw]
    rw [if_pos (by omega)]
  | succ m ih =>
    intro x k hx
    have ex : (nI x).toInt = (x : Int) := nI_toInt (by omega)
    have exc : (nI x).toNatClampNeg = x := nI_clamp (by omega)
    obtain ⟨p3, p4⟩ := h3 x (by omega)
    have z := ih (x + 1) k (by omega)
    rw [← z]
    show K_sumDraw_L2 (nI q) rs pn ((k + m + 1) + 1) (nI x) _ = _
    generalize k + m + 1 = j
    simp only [K_sumDraw_L2, K_sumDraw_3, K_sumDraw_10, K_sumDraw_6, K_sumDraw_9, K_sumDraw_8, K_sumDraw_7, K_sumDraw_5, K_sumDraw_4, K_sumDraw_2, K_sumDraw_1, M_sumDraw]
    rw [if_neg (by omega), exc, hs x (by omega), nI_1, show M_number pn (nI x) 4 = n4 x from (t_nb (k := 4) (by omega) (by decide)).trans p4, show M_number pn (nI x) 3 = n3 x from (t_nb (k := 3) (by omega) (by decide)).trans p3, show yD (fun x => if (S x).toInt = 3 then n3 x else if (S x).toInt = 2 then n4 x else 0) (x + 1) = yD (fun x => if (S x).toInt = 3 then n3 x else if (S x).toInt = 2 then n4 x else 0) x + (if (S x).toInt = 3 then n3 x else if (S x).toInt = 2 then n4 x else 0) from rfl]
    by_cases a : (S x).toInt = 3
    · rw [if_pos a, if_pos a]
    · rw [if_neg a, if_neg a]
      by_cases b : (S x).toInt = 2
      · rw [if_pos b, if_pos b]
      · rw [if_neg b, if_neg b, xadd0]
/-- what is drawn now: one on both sides -/
theorem r_draw {rs ri ra rg S I U G pn Td n3 n4 : Nat → Int32} {q : Nat} (q8 : q ≤ 8) (h : xR4 q rs ri ra rg S I U G) (h3 : ∀ x, x < q → pn (8 * x + 3) = n3 x ∧ pn (8 * x + 4) = n4 x) (h7 : ∀ x, x < q → Td (7 * x + 3) = n3 x ∧ Td (7 * x + 4) = n4 x) : M_sumDraw (nI q) rs pn = M_m_drawnOf (nI q) (M_m_allIn (nI q) S 3) Td (M_m_allIn (nI q) S 2) := by
  have z := sd_in (rs := rs) (S := S) q8 (fun j hj => (h.1 j hj).1) h3 q 0 (99999 - q) (by omega)
  rw [show 99999 - q + q + 1 = 100000 from by omega] at z
  have y := md_of (Td := Td) (n3 := n3) (n4 := n4) (a := xup (fun j => decide ((S j).toInt = (3 : Int32).toInt)) q 0) (b := xup (fun j => decide ((S j).toInt = (2 : Int32).toInt)) q 0) q8 h7 q 0 (99999 - q) (by omega)
  rw [show 99999 - q + q + 1 = 100000 from by omega] at y
  rw [r_allIn q8, r_allIn q8]
  refine Eq.trans (show M_sumDraw (nI q) rs pn = _ from z) (Eq.trans (yD_ext q (fun x hx => ?_)) (show _ = M_m_drawnOf (nI q) _ Td _ from y.symm))
  have e3 : (3 : Int32).toInt = 3 := by decide
  have e2 : (2 : Int32).toInt = 2 := by decide
  rw [xup_bit, xup_bit, Nat.zero_testBit, Bool.false_or, Bool.false_or, e3, e2]
  by_cases a : (S x).toInt = 3
  · rw [if_pos a, if_pos (by simp [hx, a])]
  · rw [if_neg a, if_neg (show ¬ (decide (x < q) && decide ((S x).toInt = 3)) = true by simp [a])]
    by_cases b : (S x).toInt = 2
    · rw [if_pos b, if_pos (show (decide (x < q) && decide ((S x).toInt = 2)) = true by simp [hx, b])]
    · rw [if_neg b, if_neg (show ¬ (decide (x < q) && decide ((S x).toInt = 2)) = true by simp [b])]
/-- a RAIL that comes too late -/
def yLate (S U n6 : Nat → Int32) (x : Nat) : Prop := 0 < (n6 x).toInt ∧ ((S x).toInt = 1 ∨ (S x).toInt = 2) ∧ (n6 x).toInt ≤ (U x).toInt
theorem wt_in {rs ra S U pn n6 : Nat → Int32} {q : Nat} (q8 : q ≤ 8) (hs : ∀ j, j < q → rs j = S j ∧ ra j = U j) (h6 : ∀ x, x < q → pn (8 * x + 6) = n6 x) : ∀ (m x k : Nat), x + m = q → ((∀ j, x ≤ j → j < q → ¬ yLate S U n6 j) ∧ K_whyTrip_L4 (nI q) rs ra pn (k + m + 1) (nI x) = 0) ∨ ((∃ j, x ≤ j ∧ j < q ∧ yLate S U n6 j) ∧ K_whyTrip_L4 (nI q) rs ra pn (k + m + 1) (nI x) = 2) := by
  have qq : (nI q).toInt = (q : Int) := nI_toInt (by omega)
  intro m
  induction m with
  | zero =>
    intro x k hx
    have ex : (nI x).toInt = (x : Int) := nI_toInt (by omega)
    refine Or.inl ⟨fun j a b => absurd a (by omega), ?_⟩
    simp only [K_whyTrip_L4, K_whyTrip_5, K_whyTrip_10, K_whyTrip_12, K_whyTrip_13, K_whyTrip_11, K_whyTrip_8, K_whyTrip_18, K_whyTrip_20, K_whyTrip_21, K_whyTrip_19, K_whyTrip_15, K_whyTrip_16, K_whyTrip_17, K_whyTrip_14, K_whyTrip_9, K_whyTrip_7, K_whyTrip_6, K_whyTrip_4, K_whyTrip_2, K_whyTrip_3, K_whyTrip_1, M_whyTrip]
    rw [if_pos (by omega)]
  | succ m ih =>
    intro x k hx
    have ex : (nI x).toInt = (x : Int) := nI_toInt (by omega)
    have exc : (nI x).toNatClampNeg = x := nI_clamp (by omega)
    obtain ⟨s1, s2⟩ := hs x (by omega)
    have go : K_whyTrip_L4 (nI q) rs ra pn ((k + m + 1) + 1) (nI x) = if 0 < (n6 x).toInt ∧ ((S x).toInt = 1 ∨ (S x).toInt = 2) ∧ (n6 x).toInt ≤ (U x).toInt then 2 else K_whyTrip_L4 (nI q) rs ra pn (k + m + 1) (nI (x + 1)) := by
      generalize k + m + 1 = j
      simp only [K_whyTrip_L4, K_whyTrip_5, K_whyTrip_10, K_whyTrip_12, K_whyTrip_13, K_whyTrip_11, K_whyTrip_8, K_whyTrip_18, K_whyTrip_20, K_whyTrip_21, K_whyTrip_19, K_whyTrip_15, K_whyTrip_16, K_whyTrip_17, K_whyTrip_14, K_whyTrip_9, K_whyTrip_7, K_whyTrip_6, K_whyTrip_4, K_whyTrip_2, K_whyTrip_3, K_whyTrip_1, M_whyTrip]
      rw [if_neg (by omega), exc, s1, s2, nI_1, show M_number pn (nI x) 6 = n6 x from (t_nb (k := 6) (by omega) (by decide)).trans (h6 x (by omega))]
      by_cases a : (S x).toInt = 1
      · rw [if_pos a]
        by_cases b : (n6 x).toInt ≤ 0
        · rw [if_pos b, if_neg (by omega)]
        · rw [if_neg b]
          by_cases c : (U x).toInt < (n6 x).toInt
          · rw [if_pos c, if_neg (by omega)]
          · rw [if_neg c, if_pos (by omega)]
      · rw [if_neg a]
        by_cases a2 : (S x).toInt = 2
        · rw [if_pos a2]
          by_cases b : (n6 x).toInt ≤ 0
          · rw [if_pos b, if_neg (by omega)]
          · rw [if_neg b]
            by_cases c : (U x).toInt < (n6 x).toInt
            · rw [if_pos c, if_neg (by omega)]
            · rw [if_neg c, if_pos (by omega)]
        · rw [if_neg a2]
          by_cases b : (n6 x).toInt ≤ 0
          · rw [if_pos b, if_neg (by omega)]
          · rw [if_neg b, if_neg (by omega)]
    show (_ ∧ K_whyTrip_L4 (nI q) rs ra pn ((k + m + 1) + 1) (nI x) = 0) ∨ (_ ∧ K_whyTrip_L4 (nI q) rs ra pn ((k + m + 1) + 1) (nI x) = 2)
    rw [go]
    by_cases L : yLate S U n6 x
    · exact Or.inr ⟨⟨x, Nat.le_refl _, by omega, L⟩, if_pos L⟩
    · rw [if_neg (show ¬ (0 < (n6 x).toInt ∧ ((S x).toInt = 1 ∨ (S x).toInt = 2) ∧ (n6 x).toInt ≤ (U x).toInt) from L)]
      rcases ih (x + 1) k (by omega) with ⟨a, b⟩ | ⟨⟨j, a1, a2, a3⟩, b⟩
      · refine Or.inl ⟨fun j j1 j2 => ?_, b⟩
        by_cases e : j = x
        · rw [e]; exact L
        · exact a j (by omega) j2
      · exact Or.inr ⟨⟨j, by omega, a2, a3⟩, b⟩
theorem tn1_in {S U Td : Nat → Int32} {dn lim : Int32} {q : Nat} (q8 : q ≤ 8) : ∀ (m x k : Nat), x + m = q → K_m_tripNow_L2 (nI q) dn lim S U Td (k + m + 1) (nI x) 1 = if dn.toInt ≤ lim.toInt then 2 else 1 := by
  have qq : (nI q).toInt = (q : Int) := nI_toInt (by omega)
  intro m
  induction m with
  | zero =>
    intro x k hx
    have ex : (nI x).toInt = (x : Int) := nI_toInt (by omega)
    simp only [K_m_tripNow_L2, K_m_tripNow_7, K_m_tripNow_8, K_m_tripNow_5, K_m_tripNow_6, K_m_tripNow_3, K_m_tripNow_12, K_m_tripNow_17, K_m_tripNow_18, K_m_tripNow_16, K_m_tripNow_14, K_m_tripNow_22, K_m_tripNow_23, K_m_tripNow_21, K_m_tripNow_20, K_m_tripNow_19, K_m_tripNow_15, K_m_tripNow_13, K_m_tripNow_11, K_m_tripNow_10, K_m_tripNow_9, K_m_tripNow_4, K_m_tripNow_2, K_m_tripNow_1, M_m_tripNow]
    rw [if_pos (by omega)]
    by_cases c : dn.toInt ≤ lim.toInt
    · rw [if_pos c, if_pos c, if_neg (by decide)]
    · rw [if_neg c, if_neg c]
  | succ m ih =>
    intro x k hx
    have ex : (nI x).toInt = (x : Int) := nI_toInt (by omega)
    have z := ih (x + 1) k (by omega)
    show K_m_tripNow_L2 (nI q) dn lim S U Td ((k + m + 1) + 1) (nI x) 1 = _
    generalize k + m + 1 = j at z ⊢
    rw [← z]
    simp only [K_m_tripNow_L2, K_m_tripNow_7, K_m_tripNow_8, K_m_tripNow_5, K_m_tripNow_6, K_m_tripNow_3, K_m_tripNow_12, K_m_tripNow_17, K_m_tripNow_18, K_m_tripNow_16, K_m_tripNow_14, K_m_tripNow_22, K_m_tripNow_23, K_m_tripNow_21, K_m_tripNow_20, K_m_tripNow_19, K_m_tripNow_15, K_m_tripNow_13, K_m_tripNow_11, K_m_tripNow_10, K_m_tripNow_9, K_m_tripNow_4, K_m_tripNow_2, K_m_tripNow_1, M_m_tripNow]
    rw [if_neg (by omega), if_neg (by decide), nI_1]
theorem tn0_in {S U Td n6 : Nat → Int32} {dn lim : Int32} {q : Nat} (q8 : q ≤ 8) (h6 : ∀ x, x < q → Td (7 * x + 6) = n6 x) : ∀ (m x k : Nat), x + m = q → ((∀ j, x ≤ j → j < q → ¬ yLate S U n6 j) ∧ K_m_tripNow_L2 (nI q) dn lim S U Td (k + m + 1) (nI x) 0 = if dn.toInt ≤ lim.toInt then 0 else 1) ∨ ((∃ j, x ≤ j ∧ j < q ∧ yLate S U n6 j) ∧ K_m_tripNow_L2 (nI q) dn lim S U Td (k + m + 1) (nI x) 0 = if dn.toInt ≤ lim.toInt then 2 else 1) := by
  have qq : (nI q).toInt = (q : Int) := nI_toInt (by omega)
  intro m
  induction m with
  | zero =>
    intro x k hx
    have ex : (nI x).toInt = (x : Int) := nI_toInt (by omega)
    refine Or.inl ⟨fun j a b => absurd a (by omega), ?_⟩
    simp only [K_m_tripNow_L2, K_m_tripNow_7, K_m_tripNow_8, K_m_tripNow_5, K_m_tripNow_6, K_m_tripNow_3, K_m_tripNow_12, K_m_tripNow_17, K_m_tripNow_18, K_m_tripNow_16, K_m_tripNow_14, K_m_tripNow_22, K_m_tripNow_23, K_m_tripNow_21, K_m_tripNow_20, K_m_tripNow_19, K_m_tripNow_15, K_m_tripNow_13, K_m_tripNow_11, K_m_tripNow_10, K_m_tripNow_9, K_m_tripNow_4, K_m_tripNow_2, K_m_tripNow_1, M_m_tripNow]
    rw [if_pos (by omega)]
    by_cases c : dn.toInt ≤ lim.toInt
    · rw [if_pos c, if_pos c, if_pos (by decide)]
    · rw [if_neg c, if_neg c]
  | succ m ih =>
    intro x k hx
    have ex : (nI x).toInt = (x : Int) := nI_toInt (by omega)
    have exc : (nI x).toNatClampNeg = x := nI_clamp (by omega)
    have go : K_m_tripNow_L2 (nI q) dn lim S U Td ((k + m + 1) + 1) (nI x) 0 = if 0 < (n6 x).toInt ∧ ((S x).toInt = 1 ∨ (S x).toInt = 2) ∧ (n6 x).toInt ≤ (U x).toInt then K_m_tripNow_L2 (nI q) dn lim S U Td (k + m + 1) (nI (x + 1)) 1 else K_m_tripNow_L2 (nI q) dn lim S U Td (k + m + 1) (nI (x + 1)) 0 := by
      generalize k + m + 1 = j
      simp only [K_m_tripNow_L2, K_m_tripNow_7, K_m_tripNow_8, K_m_tripNow_5, K_m_tripNow_6, K_m_tripNow_3, K_m_tripNow_12, K_m_tripNow_17, K_m_tripNow_18, K_m_tripNow_16, K_m_tripNow_14, K_m_tripNow_22, K_m_tripNow_23, K_m_tripNow_21, K_m_tripNow_20, K_m_tripNow_19, K_m_tripNow_15, K_m_tripNow_13, K_m_tripNow_11, K_m_tripNow_10, K_m_tripNow_9, K_m_tripNow_4, K_m_tripNow_2, K_m_tripNow_1, M_m_tripNow]
      rw [if_neg (by omega), if_pos (by decide), exc, nI_1, show M_m_of Td (nI x) 6 = n6 x from (t_of7 (k := 6) (by omega) (by decide)).trans (h6 x (by omega))]
      by_cases b : (n6 x).toInt ≤ 0
      · rw [if_pos b, if_neg (by omega)]
      · rw [if_neg b]
        by_cases a : (S x).toInt = 1
        · rw [if_pos a]
          by_cases c : (U x).toInt < (n6 x).toInt
          · rw [if_pos c, if_neg (by omega)]
          · rw [if_neg c, if_pos (by omega)]
        · rw [if_neg a]
          by_cases a2 : (S x).toInt = 2
          · rw [if_pos a2]
            by_cases c : (U x).toInt < (n6 x).toInt
            · rw [if_pos c, if_neg (by omega)]
            · rw [if_neg c, if_pos (by omega)]
          · rw [if_neg a2, if_neg (by omega)]
    show (_ ∧ K_m_tripNow_L2 (nI q) dn lim S U Td ((k + m + 1) + 1) (nI x) 0 = _) ∨ (_ ∧ K_m_tripNow_L2 (nI q) dn lim S U Td ((k + m + 1) + 1) (nI x) 0 = _)
    rw [go]
    by_cases L : yLate S U n6 x
    · refine Or.inr ⟨⟨x, Nat.le_refl _, by omega, L⟩, ?_⟩
      rw [if_pos (show 0 < (n6 x).toInt ∧ ((S x).toInt = 1 ∨ (S x).toInt = 2) ∧ (n6 x).toInt ≤ (U x).toInt from L)]
      exact tn1_in q8 m (x + 1) k (by omega)
    · rw [if_neg (show ¬ (0 < (n6 x).toInt ∧ ((S x).toInt = 1 ∨ (S x).toInt = 2) ∧ (n6 x).toInt ≤ (U x).toInt) from L)]
      rcases ih (x + 1) k (by omega) with ⟨a, b⟩ | ⟨⟨j, a1, a2, a3⟩, b⟩
      · refine Or.inl ⟨fun j j1 j2 => ?_, b⟩
        by_cases e : j = x
        · rw [e]; exact L
        · exact a j (by omega) j2
      · exact Or.inr ⟨⟨j, by omega, a2, a3⟩, b⟩
/-- why a trip: one on both sides -/
theorem r_why {rs ri ra rg S I U G pn Td n6 : Nat → Int32} {ld lim : Int32} {q : Nat} (q8 : q ≤ 8) (h : xR4 q rs ri ra rg S I U G) (h6 : ∀ x, x < q → pn (8 * x + 6) = n6 x) (h7 : ∀ x, x < q → Td (7 * x + 6) = n6 x) : M_whyTrip ld lim (nI q) rs ra pn = M_m_tripNow (nI q) ld lim S U Td ∧ 0 ≤ (M_m_tripNow (nI q) ld lim S U Td).toInt := by
  have z := wt_in (rs := rs) (ra := ra) (S := S) (U := U) q8 (fun j hj => ⟨(h.1 j hj).1, (h.1 j hj).2.2.1⟩) h6 q 0 (99999 - q) (by omega)
  have y := tn0_in (S := S) (U := U) (dn := ld) (lim := lim) q8 h7 q 0 (99999 - q) (by omega)
  rw [show 99999 - q + q + 1 = 100000 from by omega] at z y
  have e : M_m_tripNow (nI q) ld lim S U Td = K_m_tripNow_L2 (nI q) ld lim S U Td 100000 (nI 0) 0 := rfl
  have c : M_whyTrip ld lim (nI q) rs ra pn = if ld.toInt ≤ lim.toInt then K_whyTrip_L4 (nI q) rs ra pn 100000 (nI 0) else 1 := by
    simp only [K_whyTrip_5, K_whyTrip_10, K_whyTrip_12, K_whyTrip_13, K_whyTrip_11, K_whyTrip_8, K_whyTrip_18, K_whyTrip_20, K_whyTrip_21, K_whyTrip_19, K_whyTrip_15, K_whyTrip_16, K_whyTrip_17, K_whyTrip_14, K_whyTrip_9, K_whyTrip_7, K_whyTrip_6, K_whyTrip_2, K_whyTrip_3, K_whyTrip_1, M_whyTrip]
    rfl
  rw [e, c]
  by_cases l : ld.toInt ≤ lim.toInt
  · rw [if_pos l]
    rw [if_pos l, if_pos l] at y
    rcases z with ⟨a, b⟩ | ⟨⟨j, a1, a2, a3⟩, b⟩
    · rcases y with ⟨a', b'⟩ | ⟨⟨j, c1, c2, c3⟩, b'⟩
      · rw [b, b']
        exact ⟨rfl, by decide⟩
      · exact absurd c3 (a j c1 c2)
    · rcases y with ⟨a', b'⟩ | ⟨-, b'⟩
      · exact absurd a3 (a' j a1 a2)
      · rw [b, b']
        exact ⟨rfl, by decide⟩
  · rw [if_neg l]
    rw [if_neg l, if_neg l] at y
    have b' : K_m_tripNow_L2 (nI q) ld lim S U Td 100000 (nI 0) 0 = 1 := y.elim (fun z => z.2) (fun z => z.2)
    rw [b']
    exact ⟨rfl, by decide⟩
theorem t_trip {tries trips behind ysz tk w : Int32} {ya yb yc : Nat → Int32} : M_trip tries trips behind ysz ya tk yb yc w = (if tries.toInt ≤ 0 then -4 else behind, if tries.toInt ≤ 0 then tries else tries - 1, trips + 1, (M_note ysz ya tk yb (-4) yc (5 + w)).1, (M_note ysz ya tk yb (-4) yc (5 + w)).2.1, (M_note ysz ya tk yb (-4) yc (5 + w)).2.2.1, (M_note ysz ya tk yb (-4) yc (5 + w)).2.2.2) := by
  simp only [K_trip_3, K_trip_4, K_trip_2, K_trip_1, M_trip]
  by_cases a : tries.toInt ≤ 0
  · rw [if_pos a, if_pos a, if_pos a]
  · rw [if_neg a, if_neg a, if_neg a]
/-- all grows older: the class -/
theorem gr_in {held tk : Int32} {q : Nat} (q8 : q ≤ 8) : ∀ (m x k : Nat) (f g : Nat → Int32), x + m = q → ∃ f' g' : Nat → Int32, K_growOlder_L2 (nI q) held tk (k + m + 1) (nI x) f g = (tk + 1, if held.toInt ≤ 0 then held else held - 1, f', g') ∧ (∀ j, x ≤ j → j < q → f' j = f j + 1 ∧ g' j = g j + 1) ∧ ∀ j, j < x → f' j = f j ∧ g' j = g j := by
  have qq : (nI q).toInt = (q : Int) := nI_toInt (by omega)
  intro m
  induction m with
  | zero =>
    intro x k f g hx
    have ex : (nI x).toInt = (x : Int) := nI_toInt (by omega)
    refine ⟨f, g, ?_, fun j a b => absurd a (by omega), fun j _ => ⟨rfl, rfl⟩⟩
    simp only [K_growOlder_L2, K_growOlder_5, K_growOlder_6, K_growOlder_3, K_growOlder_4, K_growOlder_2, K_growOlder_1, M_growOlder]
    rw [if_pos (by omega)]
    by_cases c : held.toInt ≤ 0
    · rw [if_pos c, if_pos c]
    · rw [if_neg c, if_neg c]
  | succ m ih =>
    intro x k f g hx
    have ex : (nI x).toInt = (x : Int) := nI_toInt (by omega)
    have exc : (nI x).toNatClampNeg = x := nI_clamp (by omega)
    obtain ⟨f', g', a1, a2, a3⟩ := ih (x + 1) k (upd f x (f x + 1)) (upd g x (g x + 1)) (by omega)
    refine ⟨f', g', ?_, fun j h1 h2 => ?_, fun j hj => ?_⟩
    · rw [← a1]
      show K_growOlder_L2 (nI q) held tk ((k + m + 1) + 1) (nI x) f g = _
      generalize k + m + 1 = j
      simp only [K_growOlder_L2, K_growOlder_5, K_growOlder_6, K_growOlder_3, K_growOlder_4, K_growOlder_2, K_growOlder_1, M_growOlder]
      rw [if_neg (by omega), exc, nI_1]
    · by_cases y : j = x
      · rw [y, (a3 x (by omega)).1, (a3 x (by omega)).2, xupd_s, xupd_s]
        exact ⟨rfl, rfl⟩
      · have b := a2 j (by omega) h2
        rw [xupd_o y, xupd_o y] at b
        exact b
    · rw [(a3 j (by omega)).1, (a3 j (by omega)).2, xupd_o (by omega), xupd_o (by omega)]
      exact ⟨rfl, rfl⟩
/-- all grows older: the reference -/
theorem gm_in {held tk tr ld gd tp mh : Int32} {S G H : Nat → Int32} {q : Nat} (q8 : q ≤ 8) : ∀ (m x k : Nat) (f g : Nat → Int32), x + m = q → ∃ f' g' : Nat → Int32, K_m_aTick_L9 (nI q) held tk tr ld gd tp mh S G H (k + m + 1) (nI x) f g = (tk + 1, if held.toInt ≤ 0 then held else held - 1, tr, ld, gd, tp, mh, S, f', g', G, H) ∧ (∀ j, x ≤ j → j < q → f' j = f j + 1 ∧ g' j = g j + 1) ∧ ∀ j, j < x → f' j = f j ∧ g' j = g j := by
  have qq : (nI q).toInt = (q : Int) := nI_toInt (by omega)
  intro m
  induction m with
  | zero =>
    intro x k f g hx
    have ex : (nI x).toInt = (x : Int) := nI_toInt (by omega)
    refine ⟨f, g, ?_, fun j a b => absurd a (by omega), fun j _ => ⟨rfl, rfl⟩⟩
    simp only [K_m_aTick_L9, K_m_aTick_9, K_m_aTick_10, K_m_aTick_13, K_m_aTick_14, K_m_aTick_12, xsub0]
    rw [if_pos (by omega)]
    by_cases c : held.toInt ≤ 0
    · rw [if_pos c, if_pos c]
    · rw [if_neg c, if_neg c]
  | succ m ih =>
    intro x k f g hx
    have ex : (nI x).toInt = (x : Int) := nI_toInt (by omega)
    have exc : (nI x).toNatClampNeg = x := nI_clamp (by omega)
    obtain ⟨f', g', a1, a2, a3⟩ := ih (x + 1) k (upd f x (f x + 1)) (upd g x (g x + 1)) (by omega)
    refine ⟨f', g', ?_, fun j h1 h2 => ?_, fun j hj => ?_⟩
    · rw [← a1]
      show K_m_aTick_L9 (nI q) held tk tr ld gd tp mh S G H ((k + m + 1) + 1) (nI x) f g = _
      generalize k + m + 1 = j
      simp only [K_m_aTick_L9, K_m_aTick_9, K_m_aTick_11]
      rw [if_neg (by omega), exc, nI_1]
    · by_cases y : j = x
      · rw [y, (a3 x (by omega)).1, (a3 x (by omega)).2, xupd_s, xupd_s]
        exact ⟨rfl, rfl⟩
      · have b := a2 j (by omega) h2
        rw [xupd_o y, xupd_o y] at b
        exact b
    · rw [(a3 j (by omega)).1, (a3 j (by omega)).2, xupd_o (by omega), xupd_o (by omega)]
      exact ⟨rfl, rfl⟩
theorem r_grow {held tk tr ld gd tp mh : Int32} {rs ri ra rg S I U G H : Nat → Int32} {q : Nat} (q8 : q ≤ 8) (h : xR4 q rs ri ra rg S I U G) : ∃ ri' ra' I' U' : Nat → Int32, M_growOlder (nI q) held tk ri ra = (tk + 1, if held.toInt ≤ 0 then held else held - 1, ri', ra') ∧ K_m_aTick_8 (nI q) held tk tr ld gd tp mh S G H I U = (tk + 1, if held.toInt ≤ 0 then held else held - 1, tr, ld, gd, tp, mh, S, I', U', G, H) ∧ xR4 q rs ri' ra' rg S I' U' G := by
  obtain ⟨ri', ra', a1, a2, -⟩ := gr_in (held := held) (tk := tk) q8 q 0 (99999 - q) ri ra (by omega)
  obtain ⟨I', U', b1, b2, -⟩ := gm_in (held := held) (tk := tk) (tr := tr) (ld := ld) (gd := gd) (tp := tp) (mh := mh) (S := S) (G := G) (H := H) q8 q 0 (99999 - q) I U (by omega)
  rw [show 99999 - q + q + 1 = 100000 from by omega] at a1 b1
  refine ⟨ri', ra', I', U', a1, b1, fun j hj => ?_, h.2⟩
  obtain ⟨h1, h2, h3, h4, h5⟩ := h.1 j hj
  refine ⟨h1, ?_, ?_, h4, h5⟩
  · rw [(a2 j (by omega) hj).1, (b2 j (by omega) hj).1, h2]
  · rw [(a2 j (by omega) hj).2, (b2 j (by omega) hj).2, h3]
/-- a tick: one on both sides -/
theorem r_tick {tk dead held key ysz mh tries trips ld0 gd behind limit : Int32} {pn rt Td D K Tb Nm rs ri ra rg ya yb yc I U G H S : Nat → Int32} {pt : Nat → Int64} {q : Nat} (hE : xE true q pn pt Td Nm Tb) (q8 : q ≤ 8) (hd : xDd dead D) (hrt : ∀ j, j < q → rt j = K j ∧ 1 ≤ (K j).toInt) (h4 : xR4 q rs ri ra rg S I U G) (hh : xHi ysz ya yb yc mh H) (hy : 0 ≤ ysz.toInt ∧ ysz.toInt ≤ 64) :
    ∃ (tk' held' tries' trips' ld' gd' ysz' mh' : Int32) (rs' ri' ra' rg' ya' yb' yc' I' U' G' H' S' : Nat → Int32), M_passTick tries trips gd (nI q) held tk dead pn rt key pt behind limit rs ri ra rg ysz ya yb yc = (tk', held', tries', trips', ld', gd', rs', ri', ra', rg', ysz', ya', yb', yc') ∧ M_m_aTick gd (nI q) held tk tries trips key Td D K Tb behind limit mh S I U G H = (tk', held', tries', ld', gd', trips', mh', S', I', U', G', H') ∧ xR4 q rs' ri' ra' rg' S' I' U' G' ∧ xHi ysz' ya' yb' yc' mh' H' ∧ (0 ≤ ysz'.toInt ∧ ysz'.toInt ≤ 64) := by
  obtain ⟨y1, m1, rs1, ri1, ra1, rg1, ya1, yb1, yc1, I1, U1, G1, H1, S1, s1, s2, s3, s4, s5⟩ := r_settle (tk := tk) (held := held) (key := key) hE q8 hd hrt h4 hh hy
  have dr := r_draw (pn := pn) (Td := Td) (n3 := fun x => pn (8 * x + 3)) (n4 := fun x => pn (8 * x + 4)) q8 s3 (fun x _ => ⟨rfl, rfl⟩) (fun x hx => ⟨((hE x hx).1 3 (by decide) (Or.inr rfl)).symm, ((hE x hx).1 4 (by decide) (Or.inr rfl)).symm⟩)
  obtain ⟨ld, hld⟩ : ∃ ld, M_sumDraw (nI q) rs1 pn = ld := ⟨_, rfl⟩
  rw [hld] at dr
  obtain ⟨w1, w2⟩ := r_why (pn := pn) (Td := Td) (n6 := fun x => pn (8 * x + 6)) (ld := ld) (lim := limit) q8 s3 (fun x _ => rfl) (fun x hx => ((hE x hx).1 6 (by decide) (Or.inr rfl)).symm)
  obtain ⟨why, hwhy⟩ : ∃ why, M_m_tripNow (nI q) ld limit S1 U1 Td = why := ⟨_, rfl⟩
  rw [hwhy] at w1 w2
  obtain ⟨gm, hgm⟩ : ∃ gm : Int32, (if ld.toInt ≤ gd.toInt then gd else ld) = gm := ⟨_, rfl⟩
  have mu : M_m_aTick gd (nI q) held tk tries trips key Td D K Tb behind limit mh S I U G H = K_m_aTick_7 why (nI q) held tk tries ld gm trips m1 S1 G1 H1 I1 U1 key Td D K Tb behind := by
    simp only [M_m_aTick, K_m_aTick_1, K_m_aTick_2, K_m_aTick_3, K_m_aTick_4, K_m_aTick_5, K_m_aTick_22, K_m_aTick_23, K_m_aTick_6]
    rw [s2]
    dsimp only
    rw [← dr, hwhy, ← hgm]
    by_cases c : ld.toInt ≤ gd.toInt
    · rw [if_pos c, if_pos c]
    · rw [if_neg c, if_neg c]
  rw [mu]
  have cu : M_passTick tries trips gd (nI q) held tk dead pn rt key pt behind limit rs ri ra rg ysz ya yb yc = K_passTick_4 why tries trips ld gm rs1 rg1 y1 ya1 yb1 yc1 (nI q) held tk ri1 ra1 dead pn rt key pt behind := by
    simp only [M_passTick, K_passTick_1, K_passTick_2, K_passTick_3]
    rw [s1]
    dsimp only
    rw [hld, w1, y_max, hgm]
  rw [cu]
  by_cases z : why.toInt = 0
  · obtain ⟨ri', ra', I', U', g1, g2, g3⟩ := r_grow (held := held) (tk := tk) (tr := tries) (ld := ld) (gd := gm) (tp := trips) (mh := m1) (H := H1) q8 s3
    refine ⟨tk + 1, if held.toInt ≤ 0 then held else held - 1, tries, trips, ld, gm, y1, m1, rs1, ri', ra', rg1, ya1, yb1, yc1, I', U', G1, H1, S1, ?_, ?_, g3, s4, s5⟩
    · simp only [K_passTick_4, K_passTick_5, K_passTick_7]
      rw [if_pos z, g1]
    · simp only [K_m_aTick_7, K_m_aTick_15]
      rw [if_pos (by omega), g2]
  · have nt := r_note (t := tk) (r := -4) (w := 5 + why) s4 s5
    obtain ⟨h2, hh2⟩ : ∃ h2 : Int32, (if tries.toInt ≤ 0 then (-4 : Int32) else behind) = h2 := ⟨_, rfl⟩
    obtain ⟨t2, ht2⟩ : ∃ t2 : Int32, (if tries.toInt ≤ 0 then tries else tries - 1) = t2 := ⟨_, rfl⟩
    obtain ⟨y3, m3, rs3, ri3, ra3, rg3, ya3, yb3, yc3, I3, U3, G3, H3, S3, u1, u2, u3, u4, u5⟩ := r_settle (tk := tk) (held := h2) (key := key) hE q8 hd hrt s3 nt.1 nt.2
    obtain ⟨ri', ra', I', U', g1, g2, g3⟩ := r_grow (held := h2) (tk := tk) (tr := t2) (ld := ld) (gd := gm) (tp := trips + 1) (mh := m3) (H := H3) q8 u3
    refine ⟨tk + 1, if h2.toInt ≤ 0 then h2 else h2 - 1, t2, trips + 1, ld, gm, y3, m3, rs3, ri', ra', rg3, ya3, yb3, yc3, I', U', G3, H3, S3, ?_, ?_, g3, u4, u5⟩
    · simp only [K_passTick_4, K_passTick_6, K_passTick_8, K_passTick_9, K_passTick_10]
      rw [if_neg z, t_trip, hh2, ht2]
      dsimp only
      rw [u1]
      dsimp only
      rw [g1]
    · simp only [K_m_aTick_7, K_m_aTick_16, K_m_aTick_17, K_m_aTick_18, K_m_aTick_19, K_m_aTick_20, K_m_aTick_21, xsub0]
      rw [if_neg (by omega)]
      by_cases c : tries.toInt ≤ 0
      · rw [if_pos c] at hh2 ht2
        subst hh2
        subst ht2
        rw [if_pos c, u2]
        dsimp only
        rw [g2]
      · rw [if_neg c] at hh2 ht2
        subst hh2
        subst ht2
        rw [if_neg c, u2]
        dsimp only
        rw [g2]
-- 99.u.go
/-- ticks: one on both sides -/
theorem b_go {a0 tp0 dead key behind limit : Int32} {pn rt Td D K Tb Nm : Nat → Int32} {pt : Nat → Int64} {q n : Nat} (hn : n ≤ 999) (ha : a0.toInt = (n : Int)) (hE : xE true q pn pt Td Nm Tb) (q8 : q ≤ 8) (hd : xDd dead D) (hrt : ∀ j, j < q → rt j = K j ∧ 1 ≤ (K j).toInt) : ∀ (m c k : Nat) (tk held tries trips ld gd ysz mh : Int32) (rs ri ra rg ya yb yc I U G H S : Nat → Int32), c + m = n → xR4 q rs ri ra rg S I U G → xHi ysz ya yb yc mh H → (0 ≤ ysz.toInt ∧ ysz.toInt ≤ 64) →
    ∃ (tk' held' tries' trips' ld' gd' ysz' mh' : Int32) (rs' ri' ra' rg' ya' yb' yc' I' U' G' H' S' : Nat → Int32), K_x_go_L6 a0 tp0 (nI q) dead pn rt key pt behind limit (k + m + 1) (nI c) tk held tries trips ld gd rs ri ra rg ysz ya yb yc = (trips' - tp0, tk', held', tries', trips', ld', gd', rs', ri', ra', rg', ysz', ya', yb', yc') ∧ K_m_go_L4 a0 tp0 (nI q) key Td D K Tb behind limit (k + m + 1) (nI c) tk held tries ld gd trips mh S I U G H = (trips' - tp0, tk', held', tries', ld', gd', trips', mh', S', I', U', G', H') ∧ xR4 q rs' ri' ra' rg' S' I' U' G' ∧ xHi ysz' ya' yb' yc' mh' H' ∧ (0 ≤ ysz'.toInt ∧ ysz'.toInt ≤ 64) := by
  intro m
  induction m with
  | zero =>
    intro c k tk held tries trips ld gd ysz mh rs ri ra rg ya yb yc I U G H S hc h4 hh hy
    have ec : (nI c).toInt = (c : Int) := nI_toInt (by omega)
    refine ⟨tk, held, tries, trips, ld, gd, ysz, mh, rs, ri, ra, rg, ya, yb, yc, I, U, G, H, S, ?_, ?_, h4, hh, hy⟩
    · simp only [K_x_go_L6, K_x_go_2, K_x_go_7, K_x_go_9, K_x_go_8, K_x_go_6, K_x_go_4, K_x_go_5, K_x_go_3, K_x_go_1, M_x_go]
      rw [if_pos (by omega)]
    · simp only [K_m_go_L4, K_m_go_5, K_m_go_7, K_m_go_6, K_m_go_4, K_m_go_2, K_m_go_3, K_m_go_1, M_m_go]
      rw [if_pos (by omega)]
  | succ m ih =>
    intro c k tk held tries trips ld gd ysz mh rs ri ra rg ya yb yc I U G H S hc h4 hh hy
    have ec : (nI c).toInt = (c : Int) := nI_toInt (by omega)
    obtain ⟨tk1, held1, tries1, trips1, ld1, gd1, ysz1, mh1, rs1, ri1, ra1, rg1, ya1, yb1, yc1, I1, U1, G1, H1, S1, t1, t2, t3, t4, t5⟩ := r_tick (tk := tk) (held := held) (key := key) (tries := tries) (trips := trips) (ld0 := ld) (gd := gd) (behind := behind) (limit := limit) hE q8 hd hrt h4 hh hy
    obtain ⟨tk', held', tries', trips', ld', gd', ysz', mh', rs', ri', ra', rg', ya', yb', yc', I', U', G', H', S', g1, g2, g3, g4, g5⟩ := ih (c + 1) k tk1 held1 tries1 trips1 ld1 gd1 ysz1 mh1 rs1 ri1 ra1 rg1 ya1 yb1 yc1 I1 U1 G1 H1 S1 (by omega) t3 t4 t5
    refine ⟨tk', held', tries', trips', ld', gd', ysz', mh', rs', ri', ra', rg', ya', yb', yc', I', U', G', H', S', ?_, ?_, g3, g4, g5⟩
    · rw [← g1]
      show K_x_go_L6 a0 tp0 (nI q) dead pn rt key pt behind limit ((k + m + 1) + 1) (nI c) tk held tries trips ld gd rs ri ra rg ysz ya yb yc = _
      generalize k + m + 1 = j
      simp only [K_x_go_L6, K_x_go_2, K_x_go_7, K_x_go_9, K_x_go_8, K_x_go_6, K_x_go_4, K_x_go_5, K_x_go_3, K_x_go_1, M_x_go]
      rw [if_neg (by omega), t1, nI_1]
    · rw [← g2]
      show K_m_go_L4 a0 tp0 (nI q) key Td D K Tb behind limit ((k + m + 1) + 1) (nI c) tk held tries ld gd trips mh S I U G H = _
      generalize k + m + 1 = j
      simp only [K_m_go_L4, K_m_go_5, K_m_go_7, K_m_go_6, K_m_go_4, K_m_go_2, K_m_go_3, K_m_go_1, M_m_go]
      rw [if_neg (by omega), t2, nI_1]
/-- go: one on both sides -/
theorem x_go_eq {a0 dead key behind limit tk held tries trips ld gd ysz mh : Int32} {pn rt Td D K Tb Nm rs ri ra rg ya yb yc I U G H S : Nat → Int32} {pt : Nat → Int64} {q : Nat} (hE : xE true q pn pt Td Nm Tb) (q8 : q ≤ 8) (hd : xDd dead D) (hrt : ∀ j, j < q → rt j = K j ∧ 1 ≤ (K j).toInt) (h4 : xR4 q rs ri ra rg S I U G) (hh : xHi ysz ya yb yc mh H) (hy : 0 ≤ ysz.toInt ∧ ysz.toInt ≤ 64) :
    ∃ (r tk' held' tries' trips' ld' gd' ysz' mh' : Int32) (rs' ri' ra' rg' ya' yb' yc' I' U' G' H' S' : Nat → Int32), M_x_go a0 tk held tries trips ld gd rs ri ra rg ysz ya yb yc (nI q) dead pn rt key pt behind limit = (r, tk', held', tries', trips', ld', gd', rs', ri', ra', rg', ysz', ya', yb', yc') ∧ M_m_go a0 trips (nI q) key Td D K Tb behind limit tk held tries ld gd mh S I U G H = (r, tk', held', tries', ld', gd', trips', mh', S', I', U', G', H') ∧ xR4 q rs' ri' ra' rg' S' I' U' G' ∧ xHi ysz' ya' yb' yc' mh' H' ∧ (0 ≤ ysz'.toInt ∧ ysz'.toInt ≤ 64) := by
  by_cases a : 1 ≤ a0.toInt ∧ a0.toInt ≤ 999
  · have an := xtn (x := a0) (by omega)
    obtain ⟨tk', held', tries', trips', ld', gd', ysz', mh', rs', ri', ra', rg', ya', yb', yc', I', U', G', H', S', g1, g2, g3, g4, g5⟩ := b_go (a0 := a0) (tp0 := trips) (key := key) (behind := behind) (limit := limit) (n := a0.toNatClampNeg) (by omega) (by omega) hE q8 hd hrt a0.toNatClampNeg 0 (99999 - a0.toNatClampNeg) tk held tries trips ld gd ysz mh rs ri ra rg ya yb yc I U G H S (by omega) h4 hh hy
    rw [show 99999 - a0.toNatClampNeg + a0.toNatClampNeg + 1 = 100000 from by omega] at g1 g2
    refine ⟨trips' - trips, tk', held', tries', trips', ld', gd', ysz', mh', rs', ri', ra', rg', ya', yb', yc', I', U', G', H', S', ?_, ?_, g3, g4, g5⟩
    · rw [← g1]
      simp only [K_x_go_2, K_x_go_7, K_x_go_9, K_x_go_8, K_x_go_4, K_x_go_5, K_x_go_3, K_x_go_1, M_x_go]
      rw [if_neg (by omega), if_pos (by omega)]
      rfl
    · rw [← g2]
      simp only [K_m_go_5, K_m_go_7, K_m_go_6, K_m_go_2, K_m_go_3, K_m_go_1, M_m_go]
      rw [if_pos a]
      rfl
  · refine ⟨-1, tk, held, tries, trips, ld, gd, ysz, mh, rs, ri, ra, rg, ya, yb, yc, I, U, G, H, S, ?_, ?_, h4, hh, hy⟩
    · simp only [K_x_go_2, K_x_go_7, K_x_go_9, K_x_go_8, K_x_go_4, K_x_go_5, K_x_go_3, K_x_go_1, M_x_go]
      by_cases b : a0.toInt < 1
      · rw [if_pos b]
      · rw [if_neg b, if_neg (by omega)]
    · simp only [K_m_go_5, K_m_go_7, K_m_go_6, K_m_go_2, K_m_go_3, K_m_go_1, M_m_go]
      rw [if_neg a]
/-- now: one on both sides -/
theorem x_now_eq {a0 key tk held tries trips ld gd : Int32} {rs ri ra rg I U G S : Nat → Int32} {q : Nat} (q8 : q ≤ 8) (h4 : xR4 q rs ri ra rg S I U G) : M_x_now a0 tk rs ld held tries gd key trips = M_m_now a0 tk (nI q) S ld held tries gd key trips := by
  simp only [K_x_now_2, K_x_now_6, K_x_now_4, K_x_now_9, K_x_now_7, K_x_now_10, K_x_now_12, K_x_now_14, K_x_now_16, K_x_now_18, K_x_now_20, K_x_now_21, K_x_now_19, K_x_now_17, K_x_now_15, K_x_now_13, K_x_now_11, K_x_now_8, K_x_now_5, K_x_now_3, K_x_now_1, M_x_now, K_m_now_2, K_m_now_6, K_m_now_4, K_m_now_9, K_m_now_7, K_m_now_10, K_m_now_12, K_m_now_14, K_m_now_16, K_m_now_18, K_m_now_20, K_m_now_21, K_m_now_19, K_m_now_17, K_m_now_15, K_m_now_13, K_m_now_11, K_m_now_8, K_m_now_5, K_m_now_3, K_m_now_1, M_m_now]
  rw [r_are q8 (by decide) h4, r_are q8 (by decide) h4]
theorem y_dbit {d : Int32} {D : Nat → Int32} {r : Nat} (hd : xDd d D) (hr : r < 8) : (d >>> (nI r &&& 31)) &&& (1 : Int32) = sp_b (D r) := by
  have o : ((d >>> (nI r &&& 31)) &&& (1 : Int32)).toInt = 1 ∨ ((d >>> (nI r &&& 31)) &&& (1 : Int32)).toInt = 0 := by
    cases e : xb d r with
    | true => exact Or.inl ((xsr_1 d (by omega)).mpr e)
    | false => exact Or.inr ((xsr_0 d (by omega)).mpr e)
  rcases hd r hr with ⟨f0, b0⟩ | ⟨f1, b1⟩
  · have z : ((d >>> (nI r &&& 31)) &&& (1 : Int32)).toInt = 0 := (xsr_0 d (by omega)).mpr b0
    have y : (d >>> (nI r &&& 31)) &&& (1 : Int32) = 0 := Int32.toInt_inj.mp (by rw [z]; decide)
    rw [y, f0]
    decide
  · have z : ((d >>> (nI r &&& 31)) &&& (1 : Int32)).toInt = 1 := (xsr_1 d (by omega)).mpr b1
    have y : (d >>> (nI r &&& 31)) &&& (1 : Int32) = 1 := Int32.toInt_inj.mp (by rw [z]; decide)
    rw [y, f1]
    decide
/-- is: one on both sides -/
theorem x_is_eq {a0 a1 dead : Int32} {rs ri ra rg rt I U G S K D : Nat → Int32} {q : Nat} (q8 : q ≤ 8) (h4 : xR4 q rs ri ra rg S I U G) (hd : xDd dead D) (hk : ∀ j, j < q → rt j = K j) : M_x_is a0 (nI q) a1 rs ri dead rt rg = M_m_is_ a0 (nI q) a1 S I D K G := by
  have qq : (nI q).toInt = (q : Int) := nI_toInt (by omega)
  simp only [K_x_is_4, K_x_is_6, K_x_is_8, K_x_is_10, K_x_is_12, K_x_is_13, K_x_is_11, K_x_is_9, K_x_is_7, K_x_is_5, K_x_is_2, K_x_is_3, K_x_is_1, M_x_is, K_m_is__7, K_m_is__9, K_m_is__11, K_m_is__13, K_m_is__12, K_m_is__10, K_m_is__8, K_m_is__6, K_m_is__4, K_m_is__5, K_m_is__3, K_m_is__2, K_m_is__1, M_m_is_]
  by_cases a : 0 ≤ a0.toInt ∧ a0.toInt < (nI q).toInt
  · rw [if_pos a, if_pos a]
    have an := xtn (x := a0) a.1
    have ea : nI a0.toNatClampNeg = a0 := xnI a.1
    obtain ⟨h1, h2, h3, h5, -⟩ := h4.1 a0.toNatClampNeg (by omega)
    have db := y_dbit (r := a0.toNatClampNeg) hd (by omega)
    rw [ea] at db
    rw [h1, h2, h5, hk _ (by omega), db]
    by_cases c0 : a1.toInt = 0
    · rw [if_pos c0, if_pos (by omega), if_pos c0]
    · rw [if_neg c0]
      by_cases c1 : a1.toInt = 1
      · rw [if_pos c1, if_pos (by omega), if_neg c0, if_pos c1]
      · rw [if_neg c1]
        by_cases c2 : a1.toInt = 2
        · rw [if_pos c2, if_pos (by omega), if_neg c0, if_neg c1, if_pos c2]
        · rw [if_neg c2]
          by_cases c3 : a1.toInt = 3
          · rw [if_pos c3, if_pos (by omega), if_neg c0, if_neg c1, if_neg c2, if_pos c3]
          · rw [if_neg c3]
            by_cases c4 : a1.toInt = 4
            · rw [if_pos c4, if_pos (by omega), if_neg c0, if_neg c1, if_neg c2, if_neg c3]
            · rw [if_neg c4, if_neg (by omega)]
  · rw [if_neg a, if_neg a]
/-- happened: one on both sides -/
theorem x_hap_eq {a0 a1 ysz mh : Int32} {ya yb yc H : Nat → Int32} (hh : xHi ysz ya yb yc mh H) (hy : 0 ≤ ysz.toInt ∧ ysz.toInt ≤ 64) : M_x_happened a0 ysz a1 ya yb yc = M_m_happened a0 mh a1 H := by
  obtain ⟨e, hj⟩ := hh
  subst e
  have y1 : (ysz - 1).toInt = ysz.toInt - 1 := xsub rfl (by decide) (by omega) (by omega)
  simp only [K_x_happened_2, K_x_happened_6, K_x_happened_8, K_x_happened_10, K_x_happened_11, K_x_happened_9, K_x_happened_7, K_x_happened_4, K_x_happened_5, K_x_happened_3, K_x_happened_1, M_x_happened, K_m_happened_5, K_m_happened_4, K_m_happened_3, K_m_happened_2, K_m_happened_1, M_m_happened]
  by_cases a : 0 ≤ a0.toInt ∧ a0.toInt < ysz.toInt
  · rw [if_neg (by omega), if_pos a.2, if_pos (show 0 ≤ a0.toInt ∧ a0.toInt ≤ ysz.toInt - 1 by omega)]
    have an := xtn (x := a0) a.1
    have ea : nI a0.toNatClampNeg = a0 := xnI a.1
    obtain ⟨h0, h1, h2⟩ := hj a0.toNatClampNeg (by omega)
    have ix : ∀ c : Nat, c ≤ 2 → ((3 : Int32) * a0 + nI c).toNatClampNeg = 3 * a0.toNatClampNeg + c := fun c hc => by
      rw [← ea, show (3 : Int32) * nI a0.toNatClampNeg = nI (3 * a0.toNatClampNeg) from pk_mul 3 _, nI_add, nI_clamp (by omega), nI_clamp (by omega)]
    by_cases b : 0 ≤ a1.toInt ∧ a1.toInt ≤ 2
    · have bn := xtn (x := a1) b.1
      have eb : nI a1.toNatClampNeg = a1 := xnI b.1
      have ib := ix a1.toNatClampNeg (by omega)
      rw [eb] at ib
      rw [if_pos b, ib, h0, h1, h2]
      by_cases c0 : a1.toInt = 0
      · rw [if_pos c0, show a1.toNatClampNeg = 0 from by omega]
        rfl
      · rw [if_neg c0]
        by_cases c1 : a1.toInt = 1
        · rw [if_pos c1, show a1.toNatClampNeg = 1 from by omega]
        · rw [if_neg c1, if_pos (by omega), show a1.toNatClampNeg = 2 from by omega]
    · rw [if_neg b, if_neg (by omega), if_neg (by omega), if_neg (by omega)]
  · rw [if_neg (show ¬ (0 ≤ a0.toInt ∧ a0.toInt ≤ ysz.toInt - 1) by omega)]
    by_cases b : a0.toInt < 0
    · rw [if_pos b]
    · rw [if_neg b, if_neg (by omega)]
-- 99.v.text
/-- the run: one on both sides -/
def yRun (rails tick held tries trips ldraw gdraw ysz : Int32) (rs ri ra rg ya yb yc : Nat → Int32) (mtk mhe mtr mtp mdn mdm mhp : Int32) (S I U G H : Nat → Int32) : Prop := tick = mtk ∧ held = mhe ∧ tries = mtr ∧ trips = mtp ∧ ldraw = mdn ∧ gdraw = mdm ∧ xR4 rails.toNatClampNeg rs ri ra rg S I U G ∧ xHi ysz ya yb yc mhp H
/-- what the class keeps between calls -/
def yCac (rails limit dead pk gpk lpk kn slast : Int32) (pn : Nat → Int32) (pt : Nat → Int64) (wk wb srow cx Td K : Nat → Int32) : Prop := yKp rails.toNatClampNeg pt dead pn Td pk gpk lpk ∧ yKw rails.toNatClampNeg pt dead Td wk wb ∧ yKn rails.toNatClampNeg pt dead (fun j => (K j).toNatClampNeg) (fun x => pn (8 * x + 3)) (fun x => pn (8 * x + 4)) limit kn slast srow ∧ ∀ j, j ≤ 144 → cx j = 0
theorem yCac_0 {rails limit dead pk gpk lpk kn slast : Int32} {pn wk wb srow cx Td K : Nat → Int32} {pt : Nat → Int64} (r8 : 0 ≤ rails.toInt ∧ rails.toInt ≤ 8) (h1 : pk = 0) (h2 : kn = 0) (h3 : ∀ j, j < 64 → wk j = 0) (h4 : ∀ j, j ≤ 144 → cx j = 0) : yCac rails limit dead pk gpk lpk kn slast pn pt wk wb srow cx Td K := by
  have rn := xtn r8.1
  exact ⟨Or.inl h1, fun a b ha hb9 => Or.inl (h3 _ (by omega)), Or.inl h2, h4⟩
/-- no RAIL that is not told is dead by hand -/
def yDz (rails dead : Int32) : Prop := ∀ j : Nat, rails.toInt ≤ (j : Int) → j < 32 → xb dead j = false
/-- times by hand stay within the nine -/
def yT9 (rails : Int32) (K : Nat → Int32) : Prop := ∀ j : Nat, (j : Int) < rails.toInt → (K j).toInt ≤ 9
theorem yCac_text {pt : Nat → Int64} {pn rs ri ra rt rg wk sS sI sU sD sT sG oT oN oD pn9 rs9 ri9 ra9 rt9 rg9 wk9 Ftold9 Fnames9 Ftable9 Fstate9 Fsince9 FupSince9 Ftakes9 FwasGood9 FisDead9 : Nat → Int32} {pt9 : Nat → Int64} {rails limit retry behind key tick held tries trips ldraw gdraw ysz dead pk gpk lpk kn slast mra mli mre mpa mtk mon mhe mtr mdn mdm mtp mhp rails9 limit9 retry9 behind9 key9 tick9 held9 tries9 trips9 ldraw9 gdraw9 ysz9 dead9 pk9 gpk9 lpk9 kn9 slast9 mrails9 mlimit9 mretry9 mpause9 misOn9 mtick9 mheld9 mtries9 mtrips9 mdrawnNow9 mdrawnMost9 mhappenings9 lf9 : Int32} {wb srow cx : Nat → Int32} (h : yCac rails limit dead pk gpk lpk kn slast pn pt wk wb srow cx oD sT) (c : (lf9.toInt = 0 ∧ xPl true rails9 limit9 retry9 behind9 pn9 pt9 mrails9 mlimit9 mretry9 mpause9 Ftold9 Fnames9 Ftable9 ∧ xRn rails9.toInt key9 tick9 held9 tries9 trips9 ldraw9 gdraw9 rs9 ri9 ra9 rt9 rg9 misOn9 mtick9 mheld9 mtries9 mtrips9 mdrawnNow9 mdrawnMost9 Fstate9 Fsince9 FupSince9 Ftakes9 FwasGood9 ∧ ysz9 = 0 ∧ mhappenings9 = 0 ∧ dead9 = 0 ∧ (∀ j, j < 8 → FisDead9 j = 0) ∧ pk9 = 0 ∧ kn9 = 0 ∧ (∀ j, j < 64 → wk9 j = 0) ∧ (∀ j : Nat, j < 8 → Fstate9 j = 0) ∧ ∀ j : Nat, (j : Int) < rails9.toInt → Ftakes9 j = Ftold9 (7 * j)) ∨ (¬ lf9.toInt = 0 ∧ (rails9, limit9, retry9, behind9, pn9, pt9, key9, tick9, held9, tries9, trips9, ldraw9, gdraw9, rs9, ri9, ra9, rt9, rg9, ysz9, dead9, pk9, gpk9, lpk9, wk9, kn9, slast9) = (rails, limit, retry, behind, pn, pt, key, tick, held, tries, trips, ldraw, gdraw, rs, ri, ra, rt, rg, ysz, dead, pk, gpk, lpk, wk, kn, slast) ∧ (mrails9, mlimit9, mretry9, mpause9, Ftold9, Fnames9, Ftable9, misOn9, mtick9, mheld9, mtries9, mtrips9, mdrawnNow9, mdrawnMost9, Fstate9, Fsince9, FupSince9, Ftakes9, FwasGood9, mhappenings9, FisDead9) = (mra, mli, mre, mpa, oD, oN, oT, mon, mtk, mhe, mtr, mtp, mdn, mdm, sS, sI, sU, sT, sG, mhp, sD))) : yCac rails9 limit9 dead9 pk9 gpk9 lpk9 kn9 slast9 pn9 pt9 wk9 wb srow cx Ftold9 Ftakes9 := by
  rcases c with ⟨-, c⟩ | ⟨-, c1, c2⟩
  · obtain ⟨a1, a2, a3, a4, a5, a6, a7, a8, a9, -⟩ := c
    exact yCac_0 a1.2.2.2.2.1 a7 a8 a9 h.2.2.2
  · simp only [Prod.mk.injEq] at c1 c2
    obtain ⟨e0, e1, e2, e3, e4, e5, e6, e7, e8, e9, e10, e11, e12, e13, e14, e15, e16, e17, e18, e19, e20, e21, e22, e23, e24, e25⟩ := c1
    obtain ⟨f0, f1, f2, f3, f4, f5, f6, f7, f8, f9, f10, f11, f12, f13, f14, f15, f16, f17, f18, f19, f20⟩ := c2
    rw [e0, e1, e4, e5, e19, e20, e21, e22, e23, e24, e25, f4, f17]
    exact h
theorem yRun_text {pt : Nat → Int64} {pn rs ri ra rt rg wk sS sI sU sD sT sG oT oN oD pn9 rs9 ri9 ra9 rt9 rg9 wk9 Ftold9 Fnames9 Ftable9 Fstate9 Fsince9 FupSince9 Ftakes9 FwasGood9 FisDead9 : Nat → Int32} {pt9 : Nat → Int64} {rails limit retry behind key tick held tries trips ldraw gdraw ysz dead pk gpk lpk kn slast mra mli mre mpa mtk mon mhe mtr mdn mdm mtp mhp rails9 limit9 retry9 behind9 key9 tick9 held9 tries9 trips9 ldraw9 gdraw9 ysz9 dead9 pk9 gpk9 lpk9 kn9 slast9 mrails9 mlimit9 mretry9 mpause9 misOn9 mtick9 mheld9 mtries9 mtrips9 mdrawnNow9 mdrawnMost9 mhappenings9 lf9 : Int32} {ya yb yc H : Nat → Int32} (h : yRun rails tick held tries trips ldraw gdraw ysz rs ri ra rg ya yb yc mtk mhe mtr mtp mdn mdm mhp sS sI sU sG H) (c : (lf9.toInt = 0 ∧ xPl true rails9 limit9 retry9 behind9 pn9 pt9 mrails9 mlimit9 mretry9 mpause9 Ftold9 Fnames9 Ftable9 ∧ xRn rails9.toInt key9 tick9 held9 tries9 trips9 ldraw9 gdraw9 rs9 ri9 ra9 rt9 rg9 misOn9 mtick9 mheld9 mtries9 mtrips9 mdrawnNow9 mdrawnMost9 Fstate9 Fsince9 FupSince9 Ftakes9 FwasGood9 ∧ ysz9 = 0 ∧ mhappenings9 = 0 ∧ dead9 = 0 ∧ (∀ j, j < 8 → FisDead9 j = 0) ∧ pk9 = 0 ∧ kn9 = 0 ∧ (∀ j, j < 64 → wk9 j = 0) ∧ (∀ j : Nat, j < 8 → Fstate9 j = 0) ∧ ∀ j : Nat, (j : Int) < rails9.toInt → Ftakes9 j = Ftold9 (7 * j)) ∨ (¬ lf9.toInt = 0 ∧ (rails9, limit9, retry9, behind9, pn9, pt9, key9, tick9, held9, tries9, trips9, ldraw9, gdraw9, rs9, ri9, ra9, rt9, rg9, ysz9, dead9, pk9, gpk9, lpk9, wk9, kn9, slast9) = (rails, limit, retry, behind, pn, pt, key, tick, held, tries, trips, ldraw, gdraw, rs, ri, ra, rt, rg, ysz, dead, pk, gpk, lpk, wk, kn, slast) ∧ (mrails9, mlimit9, mretry9, mpause9, Ftold9, Fnames9, Ftable9, misOn9, mtick9, mheld9, mtries9, mtrips9, mdrawnNow9, mdrawnMost9, Fstate9, Fsince9, FupSince9, Ftakes9, FwasGood9, mhappenings9, FisDead9) = (mra, mli, mre, mpa, oD, oN, oT, mon, mtk, mhe, mtr, mtp, mdn, mdm, sS, sI, sU, sT, sG, mhp, sD))) : yRun rails9 tick9 held9 tries9 trips9 ldraw9 gdraw9 ysz9 rs9 ri9 ra9 rg9 ya yb yc mtick9 mheld9 mtries9 mtrips9 mdrawnNow9 mdrawnMost9 mhappenings9 Fstate9 Fsince9 FupSince9 FwasGood9 H := by
  rcases c with ⟨-, c⟩ | ⟨-, c1, c2⟩
  · obtain ⟨a1, ⟨b1, b2, b3, b4, b5, b6, b7, b8, b9⟩, a3, a4, a5, a6, a7, a8, a9, a10, -⟩ := c
    have rn := xtn a1.2.2.2.2.1.1
    have r8 := a1.2.2.2.2.1.2
    refine ⟨b2, b3, b4, b5, b6, b7, ⟨fun j hj => ?_, fun j j1 j2 => b9 j (by omega) j2⟩, ?_, fun j hj => ?_⟩
    · obtain ⟨c1, c2, c3, c4, c5⟩ := b8 j (by omega)
      have z := a10 j (by omega)
      exact ⟨c1, c2, c3, c5, by rw [z]; decide, by rw [z]; decide⟩
    · rw [a3, a4]
    · rw [a3] at hj
      have z0 : (0 : Int32).toInt = 0 := by decide
      omega
  · simp only [Prod.mk.injEq] at c1 c2
    obtain ⟨e0, e1, e2, e3, e4, e5, e6, e7, e8, e9, e10, e11, e12, e13, e14, e15, e16, e17, e18, e19, e20, e21, e22, e23, e24, e25⟩ := c1
    obtain ⟨f0, f1, f2, f3, f4, f5, f6, f7, f8, f9, f10, f11, f12, f13, f14, f15, f16, f17, f18, f19, f20⟩ := c2
    rw [e0, e7, e8, e9, e10, e11, e12, e13, e14, e15, e17, e18, f8, f9, f10, f11, f12, f13, f14, f15, f16, f18, f19]
    exact h
theorem yDz_text {pt : Nat → Int64} {pn rs ri ra rt rg wk sS sI sU sD sT sG oT oN oD pn9 rs9 ri9 ra9 rt9 rg9 wk9 Ftold9 Fnames9 Ftable9 Fstate9 Fsince9 FupSince9 Ftakes9 FwasGood9 FisDead9 : Nat → Int32} {pt9 : Nat → Int64} {rails limit retry behind key tick held tries trips ldraw gdraw ysz dead pk gpk lpk kn slast mra mli mre mpa mtk mon mhe mtr mdn mdm mtp mhp rails9 limit9 retry9 behind9 key9 tick9 held9 tries9 trips9 ldraw9 gdraw9 ysz9 dead9 pk9 gpk9 lpk9 kn9 slast9 mrails9 mlimit9 mretry9 mpause9 misOn9 mtick9 mheld9 mtries9 mtrips9 mdrawnNow9 mdrawnMost9 mhappenings9 lf9 : Int32} (h : yDz rails dead) (c : (lf9.toInt = 0 ∧ xPl true rails9 limit9 retry9 behind9 pn9 pt9 mrails9 mlimit9 mretry9 mpause9 Ftold9 Fnames9 Ftable9 ∧ xRn rails9.toInt key9 tick9 held9 tries9 trips9 ldraw9 gdraw9 rs9 ri9 ra9 rt9 rg9 misOn9 mtick9 mheld9 mtries9 mtrips9 mdrawnNow9 mdrawnMost9 Fstate9 Fsince9 FupSince9 Ftakes9 FwasGood9 ∧ ysz9 = 0 ∧ mhappenings9 = 0 ∧ dead9 = 0 ∧ (∀ j, j < 8 → FisDead9 j = 0) ∧ pk9 = 0 ∧ kn9 = 0 ∧ (∀ j, j < 64 → wk9 j = 0) ∧ (∀ j : Nat, j < 8 → Fstate9 j = 0) ∧ ∀ j : Nat, (j : Int) < rails9.toInt → Ftakes9 j = Ftold9 (7 * j)) ∨ (¬ lf9.toInt = 0 ∧ (rails9, limit9, retry9, behind9, pn9, pt9, key9, tick9, held9, tries9, trips9, ldraw9, gdraw9, rs9, ri9, ra9, rt9, rg9, ysz9, dead9, pk9, gpk9, lpk9, wk9, kn9, slast9) = (rails, limit, retry, behind, pn, pt, key, tick, held, tries, trips, ldraw, gdraw, rs, ri, ra, rt, rg, ysz, dead, pk, gpk, lpk, wk, kn, slast) ∧ (mrails9, mlimit9, mretry9, mpause9, Ftold9, Fnames9, Ftable9, misOn9, mtick9, mheld9, mtries9, mtrips9, mdrawnNow9, mdrawnMost9, Fstate9, Fsince9, FupSince9, Ftakes9, FwasGood9, mhappenings9, FisDead9) = (mra, mli, mre, mpa, oD, oN, oT, mon, mtk, mhe, mtr, mtp, mdn, mdm, sS, sI, sU, sT, sG, mhp, sD))) : yDz rails9 dead9 := by
  rcases c with ⟨-, c⟩ | ⟨-, c1, c2⟩
  · obtain ⟨a1, a2, a3, a4, a5, -⟩ := c
    intro j _ _
    rw [a5]
    exact xb_z j
  · simp only [Prod.mk.injEq] at c1 c2
    obtain ⟨e0, e1, e2, e3, e4, e5, e6, e7, e8, e9, e10, e11, e12, e13, e14, e15, e16, e17, e18, e19, e20, e21, e22, e23, e24, e25⟩ := c1
    obtain ⟨f0, f1, f2, f3, f4, f5, f6, f7, f8, f9, f10, f11, f12, f13, f14, f15, f16, f17, f18, f19, f20⟩ := c2
    rw [e0, e19]
    exact h
theorem yT9_text {pt : Nat → Int64} {pn rs ri ra rt rg wk sS sI sU sD sT sG oT oN oD pn9 rs9 ri9 ra9 rt9 rg9 wk9 Ftold9 Fnames9 Ftable9 Fstate9 Fsince9 FupSince9 Ftakes9 FwasGood9 FisDead9 : Nat → Int32} {pt9 : Nat → Int64} {rails limit retry behind key tick held tries trips ldraw gdraw ysz dead pk gpk lpk kn slast mra mli mre mpa mtk mon mhe mtr mdn mdm mtp mhp rails9 limit9 retry9 behind9 key9 tick9 held9 tries9 trips9 ldraw9 gdraw9 ysz9 dead9 pk9 gpk9 lpk9 kn9 slast9 mrails9 mlimit9 mretry9 mpause9 misOn9 mtick9 mheld9 mtries9 mtrips9 mdrawnNow9 mdrawnMost9 mhappenings9 lf9 : Int32} (h : yT9 mra sT) (ht : xTD Ftold9 mrails9.toNatClampNeg) (c : (lf9.toInt = 0 ∧ xPl true rails9 limit9 retry9 behind9 pn9 pt9 mrails9 mlimit9 mretry9 mpause9 Ftold9 Fnames9 Ftable9 ∧ xRn rails9.toInt key9 tick9 held9 tries9 trips9 ldraw9 gdraw9 rs9 ri9 ra9 rt9 rg9 misOn9 mtick9 mheld9 mtries9 mtrips9 mdrawnNow9 mdrawnMost9 Fstate9 Fsince9 FupSince9 Ftakes9 FwasGood9 ∧ ysz9 = 0 ∧ mhappenings9 = 0 ∧ dead9 = 0 ∧ (∀ j, j < 8 → FisDead9 j = 0) ∧ pk9 = 0 ∧ kn9 = 0 ∧ (∀ j, j < 64 → wk9 j = 0) ∧ (∀ j : Nat, j < 8 → Fstate9 j = 0) ∧ ∀ j : Nat, (j : Int) < rails9.toInt → Ftakes9 j = Ftold9 (7 * j)) ∨ (¬ lf9.toInt = 0 ∧ (rails9, limit9, retry9, behind9, pn9, pt9, key9, tick9, held9, tries9, trips9, ldraw9, gdraw9, rs9, ri9, ra9, rt9, rg9, ysz9, dead9, pk9, gpk9, lpk9, wk9, kn9, slast9) = (rails, limit, retry, behind, pn, pt, key, tick, held, tries, trips, ldraw, gdraw, rs, ri, ra, rt, rg, ysz, dead, pk, gpk, lpk, wk, kn, slast) ∧ (mrails9, mlimit9, mretry9, mpause9, Ftold9, Fnames9, Ftable9, misOn9, mtick9, mheld9, mtries9, mtrips9, mdrawnNow9, mdrawnMost9, Fstate9, Fsince9, FupSince9, Ftakes9, FwasGood9, mhappenings9, FisDead9) = (mra, mli, mre, mpa, oD, oN, oT, mon, mtk, mhe, mtr, mtp, mdn, mdm, sS, sI, sU, sT, sG, mhp, sD))) : yT9 mrails9 Ftakes9 := by
  rcases c with ⟨-, c⟩ | ⟨-, c1, c2⟩
  · obtain ⟨a1, a2, a3, a4, a5, a6, a7, a8, a9, a10, a11⟩ := c
    have e := a1.1
    have rn := xtn a1.2.2.2.2.1.1
    rw [← e] at ht ⊢
    intro j hj
    obtain ⟨t1, t2, t3⟩ := ht j (by omega)
    rw [a11 j hj]
    omega
  · simp only [Prod.mk.injEq] at c1 c2
    obtain ⟨e0, e1, e2, e3, e4, e5, e6, e7, e8, e9, e10, e11, e12, e13, e14, e15, e16, e17, e18, e19, e20, e21, e22, e23, e24, e25⟩ := c1
    obtain ⟨f0, f1, f2, f3, f4, f5, f6, f7, f8, f9, f10, f11, f12, f13, f14, f15, f16, f17, f18, f19, f20⟩ := c2
    rw [f0, f17]
    exact h
theorem yT9_0 {K : Nat → Int32} : yT9 0 K := fun j hj => absurd hj (by have z : (0 : Int32).toInt = 0 := (by decide); omega)
theorem yDz_0 : yDz 0 0 := fun j _ _ => xb_z j
theorem yRun_0 {ri ra rg ya yb yc S I U G H : Nat → Int32} : yRun 0 0 0 0 0 0 0 0 (fun _ => 0) ri ra rg ya yb yc 0 0 0 0 0 0 0 S I U G H := by
  have z : (0 : Int32).toInt = 0 := by decide
  have c : (0 : Int32).toNatClampNeg = 0 := by decide
  exact ⟨rfl, rfl, rfl, rfl, rfl, rfl, ⟨fun j hj => absurd hj (by omega), fun j _ _ => rfl⟩, rfl, fun j hj => absurd hj (by omega)⟩
-- 99.w.cases
section
variable {rails limit retry behind mra mli mre mpa dead : Int32} {pn Td Nm Tb D rt K : Nat → Int32} {pt : Nat → Int64}
theorem y_hk (r8 : 0 ≤ rails.toInt ∧ rails.toInt ≤ 8) (h2 : xTk rails rt K) (h1 : ∀ j : Nat, (j : Int) < rails.toInt → 1 ≤ (K j).toInt) (h9 : yT9 rails K) : ∀ j, j < rails.toNatClampNeg → rt j = K j ∧ 1 ≤ (K j).toInt ∧ (K j).toInt ≤ 9 := by
  have rn := xtn r8.1
  exact fun j hj => ⟨h2 j (by omega), h1 j (by omega), h9 j (by omega)⟩
theorem yRun_key {wt : Bool} {tick held tries trips ldraw gdraw ysz mtk mhe mtr mtp mdn mdm mhp key a0 mon r v h9 t9 h8 t8 : Int32} {rs ri ra rg ya yb yc S I U G H : Nat → Int32} (hpl : xPl wt rails limit retry behind pn pt mra mli mre mpa Td Nm Tb) (h : yRun rails tick held tries trips ldraw gdraw ysz rs ri ra rg ya yb yc mtk mhe mtr mtp mdn mdm mhp S I U G H) (x1 : M_x_key key a0 held retry tries = (r, h9, t9)) (x2 : M_m_key a0 mhe mon mre mtr = (v, h8, t8)) : yRun rails tick h9 t9 trips ldraw gdraw ysz rs ri ra rg ya yb yc mtk h8 t8 mtp mdn mdm mhp S I U G H := by
  obtain ⟨-, -, e, -⟩ := hpl
  obtain ⟨k1, k2, k3, k4, k5, k6, k7, k8⟩ := h
  subst e
  subst k2
  subst k3
  simp only [K_x_key_2, K_x_key_1, M_x_key, K_turnKey_5, K_turnKey_4, K_turnKey_3, K_turnKey_2, K_turnKey_1, M_turnKey] at x1
  simp only [K_m_key_5, K_m_key_4, K_m_key_3, K_m_key_2, K_m_key_1, M_m_key] at x2
  by_cases a : a0.toInt = 0
  · rw [if_pos a] at x1 x2
    by_cases b : held.toInt = -4
    · rw [if_pos b] at x1 x2
      simp only [Prod.mk.injEq] at x1 x2
      exact ⟨k1, by rw [← x1.2.1, ← x2.2.1], by rw [← x1.2.2, ← x2.2.2], k4, k5, k6, k7, k8⟩
    · rw [if_neg b] at x1 x2
      simp only [Prod.mk.injEq] at x1 x2
      exact ⟨k1, by rw [← x1.2.1, ← x2.2.1], by rw [← x1.2.2, ← x2.2.2], k4, k5, k6, k7, k8⟩
  · rw [if_neg a] at x1 x2
    simp only [Prod.mk.injEq] at x1 x2
    exact ⟨k1, by rw [← x1.2.1, ← x2.2.1], by rw [← x1.2.2, ← x2.2.2], k4, k5, k6, k7, k8⟩
theorem yCac_dead {a0 a1 pk gpk lpk kn slast r d9 pk9 kn9 : Int32} {wk wb srow cx wk9 : Nat → Int32} (r8 : 0 ≤ rails.toInt ∧ rails.toInt ≤ 8) (h : yCac rails limit dead pk gpk lpk kn slast pn pt wk wb srow cx Td K) (x1 : M_x_dead a0 rails dead a1 wk pk kn = (r, d9, pk9, wk9, kn9)) : yCac rails limit d9 pk9 gpk lpk kn9 slast pn pt wk9 wb srow cx Td K := by
  have fo := r_forget wk
  simp only [K_x_dead_8, K_x_dead_6, K_x_dead_9, K_x_dead_7, K_x_dead_4, K_x_dead_12, K_x_dead_10, K_x_dead_13, K_x_dead_11, K_x_dead_5, K_x_dead_2, K_x_dead_3, K_x_dead_1, M_x_dead] at x1
  by_cases q : 0 ≤ a0.toInt ∧ a0.toInt < rails.toInt
  · rw [if_pos q] at x1
    by_cases b : (dead &&& ((1 : Int32) <<< (a0 &&& 31))).toInt = 0
    · rw [if_pos b] at x1
      by_cases c : a1.toInt = 0
      · rw [if_pos c] at x1
        simp only [Prod.mk.injEq] at x1
        obtain ⟨-, -, y3, y4, y5⟩ := x1
        exact yCac_0 r8 y3.symm y5.symm (by rw [← y4]; exact fo) h.2.2.2
      · rw [if_neg c] at x1
        simp only [Prod.mk.injEq] at x1
        obtain ⟨-, -, y3, y4, y5⟩ := x1
        exact yCac_0 r8 y3.symm y5.symm (by rw [← y4]; exact fo) h.2.2.2
    · rw [if_neg b] at x1
      by_cases c : a1.toInt = 0
      · rw [if_pos c] at x1
        simp only [Prod.mk.injEq] at x1
        obtain ⟨-, -, y3, y4, y5⟩ := x1
        exact yCac_0 r8 y3.symm y5.symm (by rw [← y4]; exact fo) h.2.2.2
      · rw [if_neg c] at x1
        simp only [Prod.mk.injEq] at x1
        obtain ⟨-, -, y3, y4, y5⟩ := x1
        exact yCac_0 r8 y3.symm y5.symm (by rw [← y4]; exact fo) h.2.2.2
  · rw [if_neg q] at x1
    simp only [Prod.mk.injEq] at x1
    obtain ⟨-, y2, y3, y4, y5⟩ := x1
    rw [← y2, ← y3, ← y4, ← y5]
    exact h
theorem y_shl {a j : Nat} (ha : a < 8) (hj : j < 32) (n : a ≠ j) : xb ((1 : Int32) <<< (nI a &&& 31)) j = false := by
  have z := xb_shl ⟨a, by omega⟩ ⟨j, hj⟩
  dsimp only at z
  rw [z]
  exact decide_eq_false (fun y => n (Fin.mk.inj y).symm)
theorem yDz_dead {a0 a1 pk kn r d9 pk9 kn9 : Int32} {wk wk9 : Nat → Int32} (r8 : 0 ≤ rails.toInt ∧ rails.toInt ≤ 8) (h : yDz rails dead) (x1 : M_x_dead a0 rails dead a1 wk pk kn = (r, d9, pk9, wk9, kn9)) : yDz rails d9 := by
  simp only [K_x_dead_8, K_x_dead_6, K_x_dead_9, K_x_dead_7, K_x_dead_4, K_x_dead_12, K_x_dead_10, K_x_dead_13, K_x_dead_11, K_x_dead_5, K_x_dead_2, K_x_dead_3, K_x_dead_1, M_x_dead] at x1
  by_cases q : 0 ≤ a0.toInt ∧ a0.toInt < rails.toInt
  · rw [if_pos q] at x1
    have an := xtn (x := a0) q.1
    have ea : nI a0.toNatClampNeg = a0 := xnI q.1
    have on : yDz rails (dead ||| ((1 : Int32) <<< (a0 &&& 31))) := fun j j1 j2 => by
      have z := y_shl (a := a0.toNatClampNeg) (j := j) (by omega) j2 (by omega)
      rw [ea] at z
      rw [xb_or, h j j1 j2, z]
      rfl
    have off : yDz rails (dead &&& (((1 : Int32) <<< (a0 &&& 31)) ^^^ (-1))) := fun j j1 j2 => by
      rw [xb_and, h j j1 j2]
      rfl
    by_cases b : (dead &&& ((1 : Int32) <<< (a0 &&& 31))).toInt = 0
    · rw [if_pos b] at x1
      by_cases c : a1.toInt = 0
      · rw [if_pos c] at x1
        simp only [Prod.mk.injEq] at x1
        obtain ⟨-, y2, -⟩ := x1
        rw [← y2]
        exact off
      · rw [if_neg c] at x1
        simp only [Prod.mk.injEq] at x1
        obtain ⟨-, y2, -⟩ := x1
        rw [← y2]
        exact on
    · rw [if_neg b] at x1
      by_cases c : a1.toInt = 0
      · rw [if_pos c] at x1
        simp only [Prod.mk.injEq] at x1
        obtain ⟨-, y2, -⟩ := x1
        rw [← y2]
        exact off
      · rw [if_neg c] at x1
        simp only [Prod.mk.injEq] at x1
        obtain ⟨-, y2, -⟩ := x1
        rw [← y2]
        exact on
  · rw [if_neg q] at x1
    simp only [Prod.mk.injEq] at x1
    obtain ⟨-, y2, -⟩ := x1
    rw [← y2]
    exact h
theorem yCac_time {wt : Bool} {a0 a1 pk gpk lpk kn slast r v pk9 kn9 : Int32} {wk wb srow cx rt9 wk9 K9 : Nat → Int32} (hpl : xPl wt rails limit retry behind pn pt mra mli mre mpa Td Nm Tb) (ht : xTD Td mra.toNatClampNeg) (h : yCac rails limit dead pk gpk lpk kn slast pn pt wk wb srow cx Td K) (h9 : yT9 mra K) (x1 : M_x_time a0 rails a1 rt pk wk kn pn = (r, rt9, pk9, wk9, kn9)) (x2 : M_m_time a0 mra a1 K Td = (v, K9)) : yCac rails limit dead pk9 gpk lpk kn9 slast pn pt wk9 wb srow cx Td K9 ∧ yT9 mra K9 := by
  obtain ⟨e, -, -, -, r8, hE⟩ := hpl
  subst e
  have rn := xtn r8.1
  have fo := r_forget wk
  simp only [K_x_time_5, K_x_time_10, K_x_time_8, K_x_time_9, K_x_time_7, K_x_time_6, K_x_time_4, K_x_time_3, K_x_time_2, K_x_time_1, M_x_time] at x1
  simp only [K_m_time_6, K_m_time_7, K_m_time_5, K_m_time_4, K_m_time_3, K_m_time_2, K_m_time_1, M_m_time] at x2
  by_cases q : 0 ≤ a0.toInt ∧ a0.toInt < rails.toInt
  · rw [if_pos q] at x1 x2
    have an := xtn (x := a0) q.1
    have ea : nI a0.toNatClampNeg = a0 := xnI q.1
    obtain ⟨hr, -, -⟩ := hE a0.toNatClampNeg (by omega)
    have i80 := t_nb (q := a0.toNatClampNeg) (k := 0) (pn := pn) (by omega) (by decide)
    have i81 := t_nb (q := a0.toNatClampNeg) (k := 1) (pn := pn) (by omega) (by decide)
    have i70 := t_of7 (q := a0.toNatClampNeg) (k := 0) (Td := Td) (by omega) (by decide)
    have i71 := t_of7 (q := a0.toNatClampNeg) (k := 1) (Td := Td) (by omega) (by decide)
    rw [ea] at i80 i81 i70 i71
    have j80 : M_number pn a0 0 = pn (8 * a0.toNatClampNeg + 0) := i80
    have j81 : M_number pn a0 1 = pn (8 * a0.toNatClampNeg + 1) := i81
    have j70 : M_m_of Td a0 0 = Td (7 * a0.toNatClampNeg + 0) := i70
    have j71 : M_m_of Td a0 1 = Td (7 * a0.toNatClampNeg + 1) := i71
    rw [j80, j81, hr 0 (by decide) (Or.inl (by decide)), hr 1 (by decide) (Or.inl (by decide))] at x1
    rw [j70, j71] at x2
    obtain ⟨t1, t2, t3⟩ := ht a0.toNatClampNeg (by omega)
    by_cases z : (Td (7 * a0.toNatClampNeg + 0)).toInt ≤ a1.toInt ∧ a1.toInt ≤ (Td (7 * a0.toNatClampNeg + 1)).toInt
    · rw [if_neg (by omega), if_pos z.2] at x1
      rw [if_pos z] at x2
      simp only [Prod.mk.injEq] at x1 x2
      obtain ⟨c0, c1, c2, c3, c4⟩ := x1
      obtain ⟨d0, d1⟩ := x2
      refine ⟨yCac_0 r8 c2.symm c4.symm (by rw [← c3]; exact fo) h.2.2.2, fun j hj => ?_⟩
      rw [← d1]
      by_cases w : j = a0.toNatClampNeg
      · rw [w, xupd_s]
        omega
      · rw [xupd_o w]
        exact h9 j hj
    · rw [if_neg z] at x2
      simp only [Prod.mk.injEq] at x2
      obtain ⟨d0, d1⟩ := x2
      by_cases w : a1.toInt < (Td (7 * a0.toNatClampNeg + 0)).toInt
      · rw [if_pos w] at x1
        simp only [Prod.mk.injEq] at x1
        obtain ⟨c0, c1, c2, c3, c4⟩ := x1
        rw [← c2, ← c3, ← c4, ← d1]
        exact ⟨h, h9⟩
      · rw [if_neg w, if_neg (by omega)] at x1
        simp only [Prod.mk.injEq] at x1
        obtain ⟨c0, c1, c2, c3, c4⟩ := x1
        rw [← c2, ← c3, ← c4, ← d1]
        exact ⟨h, h9⟩
  · rw [if_neg q] at x1 x2
    simp only [Prod.mk.injEq] at x1 x2
    obtain ⟨c0, c1, c2, c3, c4⟩ := x1
    obtain ⟨d0, d1⟩ := x2
    rw [← c2, ← c3, ← c4, ← d1]
    exact ⟨h, h9⟩
theorem x_go_C {a0 key mon tick held tries trips ldraw gdraw ysz mtk mhe mtr mtp mdn mdm mhp r tk9 he9 tr9 tp9 ld9 gd9 ys9 v mk9 mh9 mr9 mn9 mm9 mp9 my9 : Int32} {rs ri ra rg ya yb yc S I U G H rs9 ri9 ra9 rg9 ya9 yb9 yc9 S9 I9 U9 G9 H9 : Nat → Int32} (hpl : xPl true rails limit retry behind pn pt mra mli mre mpa Td Nm Tb) (hke : key = mon) (hd : xDd dead D) (h2 : xTk rails rt K) (h1 : ∀ j : Nat, (j : Int) < mra.toInt → 1 ≤ (K j).toInt) (hy : 0 ≤ ysz.toInt ∧ ysz.toInt ≤ 64) (h : yRun rails tick held tries trips ldraw gdraw ysz rs ri ra rg ya yb yc mtk mhe mtr mtp mdn mdm mhp S I U G H) (x1 : M_x_go a0 tick held tries trips ldraw gdraw rs ri ra rg ysz ya yb yc rails dead pn rt key pt behind limit = (r, tk9, he9, tr9, tp9, ld9, gd9, rs9, ri9, ra9, rg9, ys9, ya9, yb9, yc9)) (x2 : M_m_go a0 mtp mra mon Td D K Tb mpa mli mtk mhe mtr mdn mdm mhp S I U G H = (v, mk9, mh9, mr9, mn9, mm9, mp9, my9, S9, I9, U9, G9, H9)) : r = v ∧ yRun rails tk9 he9 tr9 tp9 ld9 gd9 ys9 rs9 ri9 ra9 rg9 ya9 yb9 yc9 mk9 mh9 mr9 mp9 mn9 mm9 my9 S9 I9 U9 G9 H9 := by
  obtain ⟨e1, e2, e3, e4, r8, hE⟩ := hpl
  obtain ⟨k1, k2, k3, k4, k5, k6, k7, k8⟩ := h
  subst e1
  subst e2
  subst e4
  subst hke
  subst k1
  subst k2
  subst k3
  subst k4
  subst k5
  subst k6
  have rn := xtn r8.1
  obtain ⟨eq, q8⟩ := xq_of r8
  have hrt : ∀ j, j < rails.toNatClampNeg → rt j = K j ∧ 1 ≤ (K j).toInt := fun j hj => ⟨h2 j (by omega), h1 j (by omega)⟩
  obtain ⟨r', tk', held', tries', trips', ld', gd', ysz', mh', rs', ri', ra', rg', ya', yb', yc', I', U', G', H', S', g1, g2, g3, g4, g5⟩ := x_go_eq (a0 := a0) (key := key) (behind := behind) (limit := limit) (tk := tick) (held := held) (tries := tries) (trips := trips) (ld := ldraw) (gd := gdraw) hE q8 hd hrt k7 k8 hy
  rw [← eq] at g1 g2
  rw [g1] at x1
  rw [g2] at x2
  simp only [Prod.mk.injEq] at x1 x2
  obtain ⟨y1, y2, y3, y4, y5, y6, y7, y8, y9, y10, y11, y12, y13, y14, y15⟩ := x1
  obtain ⟨z1, z2, z3, z4, z5, z6, z7, z8, z9, z10, z11, z12, z13⟩ := x2
  refine ⟨by rw [← y1, ← z1], by rw [← y2, ← z2], by rw [← y3, ← z3], by rw [← y4, ← z4], by rw [← y5, ← z7], by rw [← y6, ← z5], by rw [← y7, ← z6], ?_, ?_⟩
  · rw [← y8, ← y9, ← y10, ← y11, ← z9, ← z10, ← z11, ← z12]
    exact g3
  · rw [← y12, ← y13, ← y14, ← y15, ← z8, ← z13]
    exact g4
theorem x_now_C {a0 key mon tick held tries trips ldraw gdraw ysz mtk mhe mtr mtp mdn mdm mhp : Int32} {rs ri ra rg ya yb yc S I U G H : Nat → Int32} {wt : Bool} (hpl : xPl wt rails limit retry behind pn pt mra mli mre mpa Td Nm Tb) (hke : key = mon) (h : yRun rails tick held tries trips ldraw gdraw ysz rs ri ra rg ya yb yc mtk mhe mtr mtp mdn mdm mhp S I U G H) : M_x_now a0 tick rs ldraw held tries gdraw key trips = M_m_now a0 mtk mra S mdn mhe mtr mdm mon mtp := by
  obtain ⟨e1, e2, e3, e4, r8, hE⟩ := hpl
  obtain ⟨k1, k2, k3, k4, k5, k6, k7, k8⟩ := h
  subst e1
  subst hke
  subst k1
  subst k2
  subst k3
  subst k4
  subst k5
  subst k6
  obtain ⟨eq, q8⟩ := xq_of r8
  have z := x_now_eq (a0 := a0) (key := key) (tk := tick) (held := held) (tries := tries) (trips := trips) (ld := ldraw) (gd := gdraw) q8 k7
  rw [← eq] at z
  exact z
theorem x_is_C {a0 a1 tick held tries trips ldraw gdraw ysz mtk mhe mtr mtp mdn mdm mhp : Int32} {rs ri ra rg ya yb yc S I U G H : Nat → Int32} {wt : Bool} (hpl : xPl wt rails limit retry behind pn pt mra mli mre mpa Td Nm Tb) (hd : xDd dead D) (h2 : xTk rails rt K) (h : yRun rails tick held tries trips ldraw gdraw ysz rs ri ra rg ya yb yc mtk mhe mtr mtp mdn mdm mhp S I U G H) : M_x_is a0 rails a1 rs ri dead rt rg = M_m_is_ a0 mra a1 S I D K G := by
  obtain ⟨e1, e2, e3, e4, r8, hE⟩ := hpl
  obtain ⟨k1, k2, k3, k4, k5, k6, k7, k8⟩ := h
  subst e1
  have rn := xtn r8.1
  obtain ⟨eq, q8⟩ := xq_of r8
  have z := x_is_eq (a0 := a0) (a1 := a1) (dead := dead) (D := D) (rt := rt) (K := K) q8 k7 hd (fun j hj => h2 j (by omega))
  rw [← eq] at z
  exact z
theorem x_when_C {a0 a1 cup cl up r v c1 c2 e1' : Int32} {fw ft fr fg Fm Fg By Fw g1 g2 g3 g4 h1' h2' h3' h4' : Nat → Int32} (hpl : xPl true rails limit retry behind pn pt mra mli mre mpa Td Nm Tb) (hd : xDd dead D) (hn : ∀ j, j < 64 → 0 ≤ (pn j).toInt ∧ (pn j).toInt ≤ 511) (ht : xTD Td mra.toNatClampNeg) (h2 : xTk rails rt K) (h1 : ∀ j : Nat, (j : Int) < mra.toInt → 1 ≤ (K j).toInt) (h9 : yT9 mra K) (x1 : M_x_when a0 rails a1 cup cl fw ft fr fg pt dead rt pn = (r, c1, c2, g1, g2, g3, g4)) (x2 : M_m_when a0 mra a1 Tb Fm Fg D K Td By Fw up = (v, e1', h1', h2', h3', h4')) : r = v := by
  obtain ⟨e1, e2, e3, e4, r8, hE⟩ := hpl
  subst e1
  obtain ⟨eq, q8⟩ := xq_of r8
  have z := x_when_eq (a0 := a0) (a1 := a1) (fw := fw) (ft := ft) (fr := fr) (fg := fg) (Fm := Fm) (Fg := Fg) (By := By) (Fw := Fw) (cup := cup) (cl := cl) (up := up) q8 hE hd hn (y_hk r8 h2 h1 h9) ht
  rw [← eq, x1, x2] at z
  exact z
theorem x_drawn_C {a0 cup cl up r v c1 c2 e1' : Int32} {fw ft fr fg Fm Fg By Fw g1 g2 g3 g4 h1' h2' h3' h4' : Nat → Int32} (hpl : xPl true rails limit retry behind pn pt mra mli mre mpa Td Nm Tb) (hd : xDd dead D) (hn : ∀ j, j < 64 → 0 ≤ (pn j).toInt ∧ (pn j).toInt ≤ 511) (h2 : xTk rails rt K) (h1 : ∀ j : Nat, (j : Int) < mra.toInt → 1 ≤ (K j).toInt) (h9 : yT9 mra K) (x1 : M_x_drawn a0 cup cl fw ft fr fg rails pn pt dead rt = (r, c1, c2, g1, g2, g3, g4)) (x2 : M_m_drawn a0 mra Td Tb Fm Fg D K By Fw up = (v, e1', h1', h2', h3', h4')) : r = v := by
  obtain ⟨e1, e2, e3, e4, r8, hE⟩ := hpl
  subst e1
  obtain ⟨eq, q8⟩ := xq_of r8
  have z := x_drawn_eq (a0 := a0) (fw := fw) (ft := ft) (fr := fr) (fg := fg) (Fm := Fm) (Fg := Fg) (By := By) (Fw := Fw) (cup := cup) (cl := cl) (up := up) q8 hE hd hn (y_hk r8 h2 h1 h9)
  rw [← eq, x1, x2] at z
  exact z
theorem x_peak_C {a0 pk gpk lpk kn slast cup cl cpk cpt up pa r pk9 gp9 lp9 cup9 cl9 cp9 ct9 v up9 pa9 : Int32} {fw ft fr fg cx wk wb srow Fm Fg By Fw fw9 ft9 fr9 fg9 cx9 Fm9 Fg9 By9 Fw9 : Nat → Int32} (hpl : xPl true rails limit retry behind pn pt mra mli mre mpa Td Nm Tb) (hd : xDd dead D) (hn : ∀ j, j < 64 → 0 ≤ (pn j).toInt ∧ (pn j).toInt ≤ 511) (ht : xTD Td mra.toNatClampNeg) (h2 : xTk rails rt K) (h1 : ∀ j : Nat, (j : Int) < mra.toInt → 1 ≤ (K j).toInt) (h9 : yT9 mra K) (h : yCac rails limit dead pk gpk lpk kn slast pn pt wk wb srow cx Td K) (x1 : M_x_peak a0 pk gpk lpk cup cl cpk cpt fw ft fr fg cx rails pn pt dead rt = (r, pk9, gp9, lp9, cup9, cl9, cp9, ct9, fw9, ft9, fr9, fg9, cx9)) (x2 : M_m_peak a0 up pa Fm Fg By Fw mra Td Tb D K = (v, up9, pa9, Fm9, Fg9, By9, Fw9)) : r = v ∧ yCac rails limit dead pk9 gp9 lp9 kn slast pn pt wk wb srow cx9 Td K := by
  obtain ⟨e1, e2, e3, e4, r8, hE⟩ := hpl
  subst e1
  obtain ⟨eq, q8⟩ := xq_of r8
  obtain ⟨k1, k2, k3, k4⟩ := h
  have hk := y_hk r8 h2 h1 h9
  rw [eq] at x1 x2
  have z := x_peak_eq q8 hE hd hn hk ht k4 k1 x1 x2
  exact ⟨z.1, z.2.2, k2, k3, z.2.1⟩
theorem x_ahead_C {a0 a1 a2 pk gpk lpk kn slast cup cl up r cup9 cl9 v up9 : Int32} {fw ft fr fg cx wk wb srow Fm Fg By Fw wb9 wk9 fw9 ft9 fr9 fg9 Fm9 Fg9 By9 Fw9 : Nat → Int32} (hpl : xPl true rails limit retry behind pn pt mra mli mre mpa Td Nm Tb) (hd : xDd dead D) (hn : ∀ j, j < 64 → 0 ≤ (pn j).toInt ∧ (pn j).toInt ≤ 511) (ht : xTD Td mra.toNatClampNeg) (h : yCac rails limit dead pk gpk lpk kn slast pn pt wk wb srow cx Td K) (x1 : M_x_ahead a0 rails a1 wb wk cup cl fw ft fr fg a2 pn pt dead = (r, wb9, wk9, cup9, cl9, fw9, ft9, fr9, fg9)) (x2 : M_m_ahead a0 mra a1 up Fm Fg By Fw a2 Td Tb D K = (v, up9, Fm9, Fg9, By9, Fw9)) : r = v ∧ yCac rails limit dead pk gpk lpk kn slast pn pt wk9 wb9 srow cx Td K := by
  obtain ⟨e1, e2, e3, e4, r8, hE⟩ := hpl
  subst e1
  obtain ⟨eq, q8⟩ := xq_of r8
  obtain ⟨k1, k2, k3, k4⟩ := h
  rw [eq] at x1 x2
  have z := x_ahead_eq q8 hE hd hn ht k2 x1 x2
  exact ⟨z.1, k1, z.2, k3, k4⟩
theorem x_stag_C {a0 pk gpk lpk kn slast cup cl c1 c2 up pa so r kn9 sl9 cup9 cl9 cp9 ct9 v up9 pa9 so9 : Int32} {fw ft fr fg cx wk wb srow Fm Fg By Fw Bw sr9 fw9 ft9 fr9 fg9 cx9 Fm9 Fg9 By9 Fw9 Bw9 : Nat → Int32} (hpl : xPl true rails limit retry behind pn pt mra mli mre mpa Td Nm Tb) (hd : xDd dead D) (hn : ∀ j, j < 64 → 0 ≤ (pn j).toInt ∧ (pn j).toInt ≤ 511) (h2 : xTk rails rt K) (h1 : ∀ j : Nat, (j : Int) < mra.toInt → 1 ≤ (K j).toInt) (h9 : yT9 mra K) (h : yCac rails limit dead pk gpk lpk kn slast pn pt wk wb srow cx Td K) (x1 : M_x_stagger a0 rails kn c1 c2 cx limit pn pt fr fg rt ft fw srow slast cup cl dead = (r, kn9, sl9, sr9, cup9, cl9, cp9, ct9, fw9, ft9, fr9, fg9, cx9)) (x2 : M_m_stagger a0 mra mli Td Tb D Fm Fg Fw Bw up pa K By so = (v, up9, pa9, so9, Fm9, Fg9, By9, Fw9, Bw9)) : r = v ∧ yCac rails limit dead pk gpk lpk kn9 sl9 pn pt wk wb sr9 cx9 Td K := by
  obtain ⟨e1, e2, e3, e4, r8, hE⟩ := hpl
  subst e1
  subst e2
  obtain ⟨eq, q8⟩ := xq_of r8
  obtain ⟨k1, k2, k3, k4⟩ := h
  have hk := y_hk r8 h2 h1 h9
  have hk9 : ∀ j, j < rails.toNatClampNeg → rt j = nI ((fun j => (K j).toNatClampNeg) j) ∧ K j = nI ((fun j => (K j).toNatClampNeg) j) ∧ 1 ≤ (fun j => (K j).toNatClampNeg) j ∧ (fun j => (K j).toNatClampNeg) j ≤ 9 := fun j hj => by
    obtain ⟨a, b, c⟩ := hk j hj
    have n := xtn (x := K j) (by omega)
    have e : nI (K j).toNatClampNeg = K j := xnI (by omega)
    show rt j = nI (K j).toNatClampNeg ∧ K j = nI (K j).toNatClampNeg ∧ 1 ≤ (K j).toNatClampNeg ∧ (K j).toNatClampNeg ≤ 9
    rw [e]
    exact ⟨a, rfl, by omega, by omega⟩
  rw [eq] at x1 x2
  have z := x_stagger_eq q8 hE hd hk9 hn k4 k3 x1 x2
  exact ⟨z.1, k1, k2, z.2.2, z.2.1⟩
theorem x_adopt_C {pk gpk lpk kn slast cup cl c1 c2 up pa so r kn9 sl9 cup9 cl9 cp9 ct9 pk9 v up9 pa9 so9 : Int32} {fw ft fr fg cx wk wb srow Fm Fg By Fw Bw sr9 fw9 ft9 fr9 fg9 cx9 pn9 wk9 Fm9 Fg9 By9 Fw9 Td9 Bw9 : Nat → Int32} (hpl : xPl true rails limit retry behind pn pt mra mli mre mpa Td Nm Tb) (hd : xDd dead D) (hn : ∀ j, j < 64 → 0 ≤ (pn j).toInt ∧ (pn j).toInt ≤ 511) (h2 : xTk rails rt K) (h1 : ∀ j : Nat, (j : Int) < mra.toInt → 1 ≤ (K j).toInt) (h9 : yT9 mra K) (h : yCac rails limit dead pk gpk lpk kn slast pn pt wk wb srow cx Td K) (x1 : M_x_adopt rails pn pk wk kn c1 c2 cx limit pt fr fg rt ft fw srow slast cup cl dead = (r, kn9, sl9, sr9, cup9, cl9, cp9, ct9, fw9, ft9, fr9, fg9, cx9, pn9, pk9, wk9)) (x2 : M_m_adopt mra Td mli Tb D Fm Fg Fw Bw up pa K By so = (v, up9, pa9, so9, Fm9, Fg9, By9, Fw9, Td9, Bw9)) : r = v ∧ xPl true rails limit retry behind pn9 pt mra mli mre mpa Td9 Nm Tb ∧ yCac rails limit dead pk9 gpk lpk kn9 sl9 pn9 pt wk9 wb sr9 cx9 Td9 K := by
  obtain ⟨e1, e2, e3, e4, r8, hE⟩ := hpl
  subst e1
  subst e2
  obtain ⟨eq, q8⟩ := xq_of r8
  have rn := xtn r8.1
  obtain ⟨k1, k2, k3, k4⟩ := h
  have hk := y_hk r8 h2 h1 h9
  have hk9 : ∀ j, j < rails.toNatClampNeg → rt j = nI ((fun j => (K j).toNatClampNeg) j) ∧ K j = nI ((fun j => (K j).toNatClampNeg) j) ∧ 1 ≤ (fun j => (K j).toNatClampNeg) j ∧ (fun j => (K j).toNatClampNeg) j ≤ 9 := fun j hj => by
    obtain ⟨a, b, c⟩ := hk j hj
    have n := xtn (x := K j) (by omega)
    have e : nI (K j).toNatClampNeg = K j := xnI (by omega)
    show rt j = nI (K j).toNatClampNeg ∧ K j = nI (K j).toNatClampNeg ∧ 1 ≤ (K j).toNatClampNeg ∧ (K j).toNatClampNeg ≤ 9
    rw [e]
    exact ⟨a, rfl, by omega, by omega⟩
  rw [eq] at x1 x2
  have z := x_adopt_eq q8 hE hd hk9 hn k4 k3 x1 x2
  obtain ⟨z1, z2, z3, z4, z5⟩ := z
  refine ⟨z1, ⟨rfl, rfl, e3, e4, r8, z2⟩, ?_⟩
  rcases z5 with ⟨a1, a2, a3, a4⟩ | ⟨a1, a2⟩
  · refine ⟨?_, ?_, z4, z3⟩
    · rw [a1, a2, a4]
      exact k1
    · rw [a3, a4]
      exact k2
  · exact ⟨Or.inl a1, fun a b ha hb9 => Or.inl (a2 _ (by omega)), z4, z3⟩
theorem x_meas_C {a0 a1 a2 a3 a4 cup cl up r v c1 c2 e1' : Int32} {fw ft fr fg Fm Fg By Fw szs sl s0 s1 s2 s3 lanes sizes cells g1 g2 g3 g4 h1' h2' h3' h4' : Nat → Int32} (hpl : xPl true rails limit retry behind pn pt mra mli mre mpa Td Nm Tb) (hd : xDd dead D) (hn : ∀ j, j < 64 → 0 ≤ (pn j).toInt ∧ (pn j).toInt ≤ 511) (h2 : xTk rails rt K) (h1 : ∀ j : Nat, (j : Int) < mra.toInt → 1 ≤ (K j).toInt) (h9 : yT9 mra K) (hs : ySh szs sl (ysc s0 s1 s2 s3) lanes sizes cells) (x1 : M_x_measured a0 a1 a3 cup cl fw ft fr fg a4 szs sl a2 s0 rails pn s1 s2 s3 pt dead rt = (r, c1, c2, g1, g2, g3, g4)) (x2 : M_m_measured a0 a1 a3 a4 lanes a2 sizes cells mra Td Tb Fm Fg D K By Fw up = (v, e1', h1', h2', h3', h4')) : r = v := by
  obtain ⟨e1, e2, e3, e4, r8, hE⟩ := hpl
  subst e1
  obtain ⟨eq, q8⟩ := xq_of r8
  have z := x_meas_eq (a0 := a0) (a1 := a1) (a2 := a2) (a3 := a3) (a4 := a4) (fw := fw) (ft := ft) (fr := fr) (fg := fg) (Fm := Fm) (Fg := Fg) (By := By) (Fw := Fw) (cup := cup) (cl := cl) (up := up) q8 hE hd hn (y_hk r8 h2 h1 h9) hs
  rw [← eq, x1, x2] at z
  exact z
theorem x_count_C {wt : Bool} {a0 tick held tries trips ldraw gdraw ysz mtk mhe mtr mtp mdn mdm mhp tl tp : Int32} {rs ri ra rg ya yb yc S I U G H szs lanes sizes : Nat → Int32} (hpl : xPl wt rails limit retry behind pn pt mra mli mre mpa Td Nm Tb) (hd : xDd dead D) (ht : xTD Td mra.toNatClampNeg) (hz : yDz rails dead) (h : yRun rails tick held tries trips ldraw gdraw ysz rs ri ra rg ya yb yc mtk mhe mtr mtp mdn mdm mhp S I U G H) (hta : tl.toInt = tp.toInt) (hs : ∀ j : Nat, j < 4 → ((szs j).toInt = -4 ∧ (lanes j).toInt = -4) ∨ ((szs j).toInt ≠ -4 ∧ (lanes j).toInt ≠ -4 ∧ (szs j).toInt = (sizes j).toInt)) : M_x_count a0 rails dead ysz pn tl szs = M_m_count a0 mra D mhp Td tp lanes sizes := by
  obtain ⟨e1, e2, e3, e4, r8, hE⟩ := hpl
  obtain ⟨k1, k2, k3, k4, k5, k6, k7, k8⟩ := h
  subst e1
  have rn := xtn r8.1
  obtain ⟨eq, q8⟩ := xq_of r8
  have m4 : (-4 : Int32).toInt = -4 := by decide
  have z := x_count_eq (a0 := a0) (D := D) (szs := szs) (lanes := lanes) (sizes := sizes) q8 hE hd ht (fun j j1 j2 => hz j (by omega) j2) k8.1 (Int32.toInt_inj.mp hta) (by
    rcases hs 0 (by decide) with ⟨a, b⟩ | ⟨a, b, c⟩
    · exact Or.inl ⟨Int32.toInt_inj.mp (by omega), Int32.toInt_inj.mp (by omega)⟩
    · exact Or.inr ⟨b, Int32.toInt_inj.mp c⟩)
  rw [← eq] at z
  exact z
end
