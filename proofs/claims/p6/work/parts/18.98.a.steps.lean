/-- when a RAIL is GOOD, from when it may be raised -/
def yG (w k : Nat → Nat) (M : Nat → Nat) (x : Nat) : Nat := if M x = 100000 then 100000 else M x + w x + k x
/-- those that are GOOD at t -/
def yS (q : Nat) (G : Nat → Nat) (t : Nat) : Nat := xup (fun x => decide (G x ≤ t)) q 0
/-- a step of time -/
def yN (q : Nat) (P : Nat → Bool) (pt : Nat → Int64) (w k : Nat → Nat) (t : Nat) (M : Nat → Nat) : Nat → Nat := fun x => if x < q ∧ M x = 100000 ∧ P x = true ∧ hb pt x (yS q (yG w k M) t + 256) = true then t else M x
/-- since when each may be raised, after t steps -/
def yM (q : Nat) (P : Nat → Bool) (pt : Nat → Int64) (w k : Nat → Nat) : Nat → Nat → Nat
  | 0 => fun _ => 100000
  | t + 1 => yN q P pt w k t (yM q P pt w k t)
theorem yS_lt {q : Nat} {G : Nat → Nat} {t : Nat} (q8 : q ≤ 8) : yS q G t < 256 := xup_lt (by decide) q q8
theorem yS_bit {q : Nat} {G : Nat → Nat} {t j : Nat} : (yS q G t).testBit j = (decide (j < q) && decide (G j ≤ t)) := by
  unfold yS
  rw [xup_bit, Nat.zero_testBit, Bool.false_or]
theorem yS_ext {q : Nat} {G G' : Nat → Nat} {t t' : Nat} (h : ∀ x, x < q → (G x ≤ t ↔ G' x ≤ t')) : yS q G t = yS q G' t' := xup_ext q (fun r hr => decide_eq_decide.mpr (h r hr))
theorem yM_lt {q : Nat} {P : Nat → Bool} {pt : Nat → Int64} {w k : Nat → Nat} : ∀ t x : Nat, yM q P pt w k t x = 100000 ∨ (yM q P pt w k t x < t ∧ x < q ∧ P x = true) := by
  intro t
  induction t with
  | zero => exact fun _ => Or.inl rfl
  | succ t ih =>
    intro x
    show (if x < q ∧ yM q P pt w k t x = 100000 ∧ P x = true ∧ hb pt x (yS q (yG w k (yM q P pt w k t)) t + 256) = true then t else yM q P pt w k t x) = 100000 ∨ ((if x < q ∧ yM q P pt w k t x = 100000 ∧ P x = true ∧ hb pt x (yS q (yG w k (yM q P pt w k t)) t + 256) = true then t else yM q P pt w k t x) < t + 1 ∧ x < q ∧ P x = true)
    by_cases z : x < q ∧ yM q P pt w k t x = 100000 ∧ P x = true ∧ hb pt x (yS q (yG w k (yM q P pt w k t)) t + 256) = true
    · rw [if_pos z]
      exact Or.inr ⟨by omega, z.1, z.2.2.1⟩
    · rw [if_neg z]
      rcases ih x with y | y
      · exact Or.inl y
      · exact Or.inr ⟨by omega, y.2⟩
/-- nothing happens while the same are GOOD and none of the others may be raised -/
theorem yM_quiet {q : Nat} {P : Nat → Bool} {pt : Nat → Int64} {w k : Nat → Nat} {n U : Nat} (hq : ∀ x, x < q → yM q P pt w k n x = 100000 → P x = true → hb pt x (U + 256) = false) : ∀ d : Nat, (∀ t, n ≤ t → t < n + d → yS q (yG w k (yM q P pt w k n)) t = U) → yM q P pt w k (n + d) = yM q P pt w k n := by
  intro d
  induction d with
  | zero => exact fun _ => rfl
  | succ d ih =>
    intro h
    have i9 := ih (fun t h1 h2 => h t h1 (by omega))
    show yN q P pt w k (n + d) (yM q P pt w k (n + d)) = yM q P pt w k n
    rw [i9]
    funext x
    unfold yN
    rw [h (n + d) (by omega) (by omega)]
    refine if_neg (fun z => ?_)
    have z9 := hq x z.1 z.2.1 z.2.2.1
    rw [z.2.2.2] at z9
    exact absurd z9 (by decide)
/-- what is written at those that c picks, of the first n -/
def yF (c : Nat → Bool) (v f : Nat → Int32) (n : Nat) : Nat → Int32 := fun j => if j < n ∧ c j = true then v j else f j
theorem yF_0 {c : Nat → Bool} {v f : Nat → Int32} : yF c v f 0 = f := by
  funext j
  exact if_neg (fun z => absurd z.1 (by omega))
theorem yF_put {c : Nat → Bool} {v f : Nat → Int32} {n : Nat} (h : c n = true) : upd (yF c v f n) n (v n) = yF c v f (n + 1) := by
  funext j
  by_cases e : j = n
  · subst e
    rw [xupd_s]
    exact (if_pos ⟨by omega, h⟩).symm
  · rw [xupd_o e]
    unfold yF
    by_cases z : j < n ∧ c j = true
    · rw [if_pos z, if_pos ⟨by omega, z.2⟩]
    · rw [if_neg z, if_neg (fun y => z ⟨by omega, y.2⟩)]
theorem yF_no {c : Nat → Bool} {v f : Nat → Int32} {n : Nat} (h : ¬ c n = true) : yF c v f n = yF c v f (n + 1) := by
  funext j
  unfold yF
  by_cases z : j < n ∧ c j = true
  · rw [if_pos z, if_pos ⟨by omega, z.2⟩]
  · rw [if_neg z, if_neg (fun y => by
      by_cases e : j = n
      · rw [e] at y
        exact h y.2
      · exact z ⟨by omega, y.2⟩)]
theorem yF_s {c : Nat → Bool} {v f : Nat → Int32} {n : Nat} : yF c v f n n = f n := if_neg (fun z => absurd z.1 (by omega))
theorem yF_t {c : Nat → Bool} {v f : Nat → Int32} {n j : Nat} (h : j < n) (hc : c j = true) : yF c v f n j = v j := if_pos ⟨h, hc⟩
theorem yF_f {c : Nat → Bool} {v f : Nat → Int32} {n j : Nat} (hc : ¬ c j = true) : yF c v f n j = f j := if_neg (fun z => hc z.2)
theorem xup_st {c : Nat → Bool} {g n : Nat} : xup c (n + 1) g = if c n = true then xup c n g ||| 2 ^ n else xup c n g := rfl
/-- who begins, the class's side -/
def yC (pt : Nat → Int64) (s : Int32) (U : Nat) : Nat → Bool := fun j => xb s j && hb pt j (U + 256)
theorem be_in {fw ft fr fg : Nat → Int32} {w k9 : Nat → Nat} {pt : Nat → Int64} {s : Int32} {q T U : Nat} (q8 : q ≤ 8) (hU : U < 256) (hw : ∀ j, j < q → fw j = nI (w j)) (hk : ∀ j, j < q → ft j = nI (k9 j)) : ∀ (m x k : Nat), x + m = q → K_begin_L2 (nI q) s (nI T) fw ft pt (nI U) (k + m + 1) (nI x) (nI (xup (yC pt s U) x 0)) (yF (yC pt s U) (fun j => nI (T + w j)) fr x) (yF (yC pt s U) (fun j => nI (T + w j + k9 j)) fg x) = (nI (xup (yC pt s U) q 0), yF (yC pt s U) (fun j => nI (T + w j)) fr q, yF (yC pt s U) (fun j => nI (T + w j + k9 j)) fg q) := by
  have qq : (nI q).toInt = (q : Int) := nI_toInt (by omega)
  intro m
  induction m with
  | zero =>
    intro x k hx
    have ex : (nI x).toInt = (x : Int) := nI_toInt (by omega)
    obtain rfl : x = q := by omega
    simp only [K_begin_L2, K_begin_3, K_begin_8, K_begin_9, K_begin_7, K_begin_6, K_begin_5, K_begin_4, K_begin_2, K_begin_1, M_begin]
    rw [if_pos (by omega)]
  | succ m ih =>
    intro x k hx
    have ex : (nI x).toInt = (x : Int) := nI_toInt (by omega)
    have exc : (nI x).toNatClampNeg = x := nI_clamp (by omega)
    have l := xup_lt (c := yC pt s U) (g := 0) (by decide) x (by omega)
    have z := ih (x + 1) k (by omega)
    rw [← z]
    show K_begin_L2 (nI q) s (nI T) fw ft pt (nI U) ((k + m + 1) + 1) (nI x) _ _ _ = _
    generalize k + m + 1 = j
    simp only [K_begin_L2, K_begin_3, K_begin_8, K_begin_9, K_begin_7, K_begin_6, K_begin_5, K_begin_4, K_begin_2, K_begin_1, M_begin]
    rw [if_neg (by omega), x_or256 hU, t_holds (by omega) (by omega), nI_1, exc, hw x (by omega), hk x (by omega), xupd_s, nI_add, nI_add, xup_st]
    by_cases b : xb s x = true
    · rw [if_pos ((xsr_1 s (by omega)).mpr b)]
      by_cases c : hb pt x (U + 256) = true
      · have c9 : yC pt s U x = true := by unfold yC; rw [b, c]; rfl
        rw [if_pos c, if_neg (by decide), if_pos c9, x_put l (by omega)]
        rw [show upd (yF (yC pt s U) (fun j => nI (T + w j)) fr x) x (nI (T + w x)) = _ from yF_put (v := fun j => nI (T + w j)) c9, show upd (yF (yC pt s U) (fun j => nI (T + w j + k9 j)) fg x) x (nI (T + w x + k9 x)) = _ from yF_put (v := fun j => nI (T + w j + k9 j)) c9]
      · have c9 : ¬ yC pt s U x = true := by unfold yC; simp [c]
        rw [if_neg c, if_pos (by decide), if_neg c9, yF_no c9, yF_no c9]
    · have c9 : ¬ yC pt s U x = true := by unfold yC; simp [b]
      rw [if_neg (fun z => b ((xsr_1 s (by omega)).mp z)), if_neg c9, yF_no c9, yF_no c9]
theorem t_begin {fw ft fr fg : Nat → Int32} {w k9 : Nat → Nat} {pt : Nat → Int64} {s : Int32} {q T U : Nat} (q8 : q ≤ 8) (hU : U < 256) (hw : ∀ j, j < q → fw j = nI (w j)) (hk : ∀ j, j < q → ft j = nI (k9 j)) : M_begin (nI q) s (nI T) fw ft pt (nI U) fr fg = (nI (xup (yC pt s U) q 0), yF (yC pt s U) (fun j => nI (T + w j)) fr q, yF (yC pt s U) (fun j => nI (T + w j + k9 j)) fg q) := by
  have z := be_in (fr := fr) (fg := fg) (pt := pt) (s := s) (T := T) q8 hU hw hk q 0 (99999 - q) (by omega)
  rw [show 99999 - q + q + 1 = 100000 from by omega, yF_0, yF_0] at z
  exact z
/-- the soonest of those in s -/
theorem so_in {fg : Nat → Int32} {g : Nat → Nat} {s : Int32} (hg : ∀ j, j < 8 → xb s j = true → fg j = nI (g j) ∧ g j ≤ 1000) : ∀ (m x k a : Nat), x + m = 8 → a ≤ 144 → ∃ z : Nat, K_soonest_L2 s fg (k + m + 1) (nI x) (nI a) = nI z ∧ z ≤ a ∧ (∀ j, x ≤ j → j < 8 → xb s j = true → z ≤ g j) ∧ (z = a ∨ ∃ j, x ≤ j ∧ j < 8 ∧ xb s j = true ∧ g j = z) := by
  intro m
  induction m with
  | zero =>
    intro x k a hx _
    have ex : (nI x).toInt = (x : Int) := nI_toInt (by omega)
    refine ⟨a, ?_, Nat.le_refl _, fun j h1 h2 => absurd h2 (by omega), Or.inl rfl⟩
    simp only [K_soonest_L2, K_soonest_3, K_soonest_6, K_soonest_5, K_soonest_4, K_soonest_2, K_soonest_1, M_soonest]
    rw [if_pos (by omega)]
  | succ m ih =>
    intro x k a hx ha
    have ex : (nI x).toInt = (x : Int) := nI_toInt (by omega)
    have exc : (nI x).toNatClampNeg = x := nI_clamp (by omega)
    have go : ∀ b : Nat, b ≤ 144 → (b = a ∧ (xb s x = true → b ≤ g x) ∨ (b = g x ∧ b ≤ a ∧ xb s x = true)) → K_soonest_L2 s fg (k + (m + 1) + 1) (nI x) (nI a) = K_soonest_L2 s fg (k + m + 1) (nI (x + 1)) (nI b) → ∃ z : Nat, K_soonest_L2 s fg (k + (m + 1) + 1) (nI x) (nI a) = nI z ∧ z ≤ a ∧ (∀ j, x ≤ j → j < 8 → xb s j = true → z ≤ g j) ∧ (z = a ∨ ∃ j, x ≤ j ∧ j < 8 ∧ xb s j = true ∧ g j = z) := by
      intro b hb9 hc e
      obtain ⟨z, z1, z2, z3, z4⟩ := ih (x + 1) k b (by omega) hb9
      refine ⟨z, e.trans z1, by omega, fun j h1 h2 h3 => ?_, ?_⟩
      · by_cases y : j = x
        · subst y
          rcases hc with ⟨c1, c2⟩ | ⟨c1, c2, c3⟩
          · have := c2 h3
            omega
          · omega
        · exact z3 j (by omega) h2 h3
      · rcases z4 with y | ⟨j, j1, j2, j3, j4⟩
        · rcases hc with ⟨c1, c2⟩ | ⟨c1, c2, c3⟩
          · exact Or.inl (y.trans c1)
          · exact Or.inr ⟨x, Nat.le_refl _, by omega, c3, (y.trans c1).symm⟩
        · exact Or.inr ⟨j, by omega, j2, j3, j4⟩
    have un : K_soonest_L2 s fg ((k + m + 1) + 1) (nI x) (nI a) = if ((s >>> (nI x &&& 31)) &&& (1 : Int32)).toInt = 1 then K_soonest_L2 s fg (k + m + 1) (nI (x + 1)) (if fg x < nI a then fg x else nI a) else K_soonest_L2 s fg (k + m + 1) (nI (x + 1)) (nI a) := by
      generalize k + m + 1 = j
      simp only [K_soonest_L2, K_soonest_3, K_soonest_6, K_soonest_5, K_soonest_4, K_soonest_2, K_soonest_1, M_soonest]
      rw [if_neg (by omega), exc, nI_1]
    by_cases b : xb s x = true
    · obtain ⟨g1, g2⟩ := hg x (by omega) b
      rw [if_pos ((xsr_1 s (by omega)).mpr b), g1] at un
      have lt : nI (g x) < nI a ↔ ((g x : Nat) : Int) < (a : Int) := ilt (nI_toInt (by omega)) (nI_toInt (by omega))
      by_cases y : g x < a
      · rw [if_pos (lt.mpr (by omega))] at un
        exact go (g x) (by omega) (Or.inr ⟨rfl, by omega, b⟩) un
      · rw [if_neg (fun z => y (by have := lt.mp z; omega))] at un
        exact go a ha (Or.inl ⟨rfl, fun _ => by omega⟩) un
    · rw [if_neg (fun z => b ((xsr_1 s (by omega)).mp z))] at un
      exact go a ha (Or.inl ⟨rfl, fun z => absurd z b⟩) un
theorem t_soonest {fg : Nat → Int32} {g : Nat → Nat} {s : Int32} (hg : ∀ j, j < 8 → xb s j = true → fg j = nI (g j) ∧ g j ≤ 1000) : ∃ z : Nat, M_soonest s fg = nI z ∧ z ≤ 144 ∧ (∀ j, j < 8 → xb s j = true → z ≤ g j) ∧ (z = 144 ∨ ∃ j, j < 8 ∧ xb s j = true ∧ g j = z) := by
  obtain ⟨z, z1, z2, z3, z4⟩ := so_in hg 8 0 99991 144 (by decide) (by decide)
  refine ⟨z, z1, z2, fun j h1 h2 => z3 j (by omega) h1 h2, ?_⟩
  rcases z4 with y | ⟨j, j1, j2, j3, j4⟩
  · exact Or.inl y
  · exact Or.inr ⟨j, j2, j3, j4⟩
/-- those of v whose time is r are up from now on -/
theorem lo_in {rec : Int32 → Int32 → Int32 → Int32 → (Nat → Int32) → (Nat → Int32) → Int32 × Int32 × (Nat → Int32) × (Nat → Int32)} {a v9 r v : Int32} {fr fg : Nat → Int32} {U : Nat} (hU : U < 256) : ∀ (m x k : Nat), x + m = 8 → K_follow_L9 rec a v9 r fr fg v (k + m + 1) (nI x) (nI (xup (fun j => xb v j && decide ((fg j).toInt = r.toInt)) x U)) = rec (a + 1) v9 (nI (xup (fun j => xb v j && decide ((fg j).toInt = r.toInt)) 8 U)) r fr fg := by
  intro m
  induction m with
  | zero =>
    intro x k hx
    have ex : (nI x).toInt = (x : Int) := nI_toInt (by omega)
    obtain rfl : x = 8 := by omega
    simp only [K_follow_L9, K_follow_3, K_follow_7, K_follow_10, K_follow_15, K_follow_14, K_follow_13, K_follow_12, K_follow_11, K_follow_9, K_follow_8, K_follow_6, K_follow_5, K_follow_4, K_follow_2, K_follow_1, M_follow]
    rw [if_pos (by omega)]
  | succ m ih =>
    intro x k hx
    have ex : (nI x).toInt = (x : Int) := nI_toInt (by omega)
    have exc : (nI x).toNatClampNeg = x := nI_clamp (by omega)
    have l := xup_lt (c := fun j => xb v j && decide ((fg j).toInt = r.toInt)) (g := U) hU x (by omega)
    have z := ih (x + 1) k (by omega)
    rw [← z]
    show K_follow_L9 rec a v9 r fr fg v ((k + m + 1) + 1) (nI x) _ = _
    generalize k + m + 1 = j
    simp only [K_follow_L9, K_follow_3, K_follow_7, K_follow_10, K_follow_15, K_follow_14, K_follow_13, K_follow_12, K_follow_11, K_follow_9, K_follow_8, K_follow_6, K_follow_5, K_follow_4, K_follow_2, K_follow_1, M_follow]
    rw [if_neg (by omega), exc, nI_1, xup_st]
    by_cases b : xb v x = true
    · rw [if_pos ((xsr_1 v (by omega)).mpr b)]
      by_cases c : (fg x).toInt = r.toInt
      · rw [if_pos c, if_pos (by simp [b, c]), x_put l (by omega)]
      · rw [if_neg c, if_neg (by simp [c])]
    · rw [if_neg (fun z => b ((xsr_1 v (by omega)).mp z)), if_neg (by simp [b])]
