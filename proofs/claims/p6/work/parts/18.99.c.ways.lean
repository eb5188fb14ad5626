/-- how many ways there are for the RAILS that Z picks -/
def yPz (Z : Nat → Bool) (lo hi : Nat → Nat) : Nat → Nat
  | 0 => 1
  | n + 1 => if Z n = true then yPz Z lo hi n * (hi n - lo n + 1) else yPz Z lo hi n
/-- the number of a way among them, RAIL 0 as the lowest place -/
def yRk (Z : Nat → Bool) (lo hi u : Nat → Nat) : Nat → Nat
  | 0 => 0
  | n + 1 => if Z n = true then yRk Z lo hi u n + (u n - lo n) * yPz Z lo hi n else yRk Z lo hi u n
/-- within the times told -/
def yBx (q : Nat) (lo hi u : Nat → Nat) : Prop := ∀ j, j < q → lo j ≤ u j ∧ u j ≤ hi j
theorem yPz_pos {Z : Nat → Bool} {lo hi : Nat → Nat} : ∀ n, 1 ≤ yPz Z lo hi n := by
  intro n
  induction n with
  | zero => exact Nat.le_refl _
  | succ n ih =>
    rw [yPz]
    split
    · exact Nat.mul_pos ih (by omega)
    · exact ih
theorem yPz_le {Z : Nat → Bool} {lo hi : Nat → Nat} : ∀ n, yPz Z lo hi n ≤ yPz (fun _ => true) lo hi n := by
  intro n
  induction n with
  | zero => exact Nat.le_refl _
  | succ n ih =>
    rw [yPz, yPz, if_pos rfl]
    split
    · exact Nat.mul_le_mul_right _ ih
    · exact Nat.le_trans ih (Nat.le_mul_of_pos_right _ (by omega))
theorem yPz_up {lo hi : Nat → Nat} : ∀ n, yPz (fun _ => true) lo hi n ≤ yPz (fun _ => true) lo hi (n + 1) := fun n => by
  rw [show yPz (fun _ => true) lo hi (n + 1) = yPz (fun _ => true) lo hi n * (hi n - lo n + 1) from if_pos rfl]
  exact Nat.le_mul_of_pos_right _ (by omega)
theorem yRk_lt {Z : Nat → Bool} {lo hi u : Nat → Nat} : ∀ n, yBx n lo hi u → yRk Z lo hi u n < yPz Z lo hi n := by
  intro n
  induction n with
  | zero => exact fun _ => Nat.zero_lt_one
  | succ n ih =>
    intro h
    have i9 := ih (fun j hj => h j (by omega))
    obtain ⟨a, b⟩ := h n (by omega)
    rw [yRk, yPz]
    split
    · have l : (u n - lo n + 1) * yPz Z lo hi n ≤ (hi n - lo n + 1) * yPz Z lo hi n := Nat.mul_le_mul_right _ (by omega)
      rw [Nat.add_mul, Nat.one_mul] at l
      rw [Nat.mul_comm (yPz Z lo hi n) (hi n - lo n + 1)]
      omega
    · exact i9
theorem yRk_inj {Z : Nat → Bool} {lo hi u v : Nat → Nat} : ∀ n, yBx n lo hi u → yBx n lo hi v → yRk Z lo hi u n = yRk Z lo hi v n → ∀ j, j < n → Z j = true → u j = v j := by
  intro n
  induction n with
  | zero => exact fun _ _ _ j hj => absurd hj (by omega)
  | succ n ih =>
    intro hu hv e j hj z
    have u9 : yBx n lo hi u := fun j hj => hu j (by omega)
    have v9 : yBx n lo hi v := fun j hj => hv j (by omega)
    have lu := yRk_lt (Z := Z) n u9
    have lv := yRk_lt (Z := Z) n v9
    obtain ⟨a1, a2⟩ := hu n (by omega)
    obtain ⟨b1, b2⟩ := hv n (by omega)
    rw [yRk, yRk] at e
    by_cases zn : Z n = true
    · rw [if_pos zn, if_pos zn] at e
      have st : ∀ x y : Nat, x < y → (x + 1) * yPz Z lo hi n ≤ y * yPz Z lo hi n := fun x y h => Nat.mul_le_mul_right _ h
      have s1 : ∀ x : Nat, (x + 1) * yPz Z lo hi n = x * yPz Z lo hi n + yPz Z lo hi n := fun x => by rw [Nat.add_mul, Nat.one_mul]
      have d : u n - lo n = v n - lo n := by
        rcases Nat.lt_trichotomy (u n - lo n) (v n - lo n) with h | h | h
        · have a := st _ _ h
          rw [s1] at a
          omega
        · exact h
        · have a := st _ _ h
          rw [s1] at a
          omega
      rw [d] at e
      by_cases ej : j = n
      · rw [ej]
        omega
      · exact ih u9 v9 (by omega) j (by omega) z
    · rw [if_neg zn, if_neg zn] at e
      by_cases ej : j = n
      · rw [ej] at z
        exact absurd z zn
      · exact ih u9 v9 e j (by omega) z
/-- one way and the next of RAILS from x on; g tells whether there is a next -/
def yNx (Z : Nat → Bool) (lo hi : Nat → Nat) (q x : Nat) (u u' : Nat → Nat) (g : Int32) : Prop := (∀ j, ¬ Z j = true → u' j = u j) ∧ (∀ j, j < x → u' j = u j) ∧ ((g = 0 ∧ ∀ j, x ≤ j → j < q → Z j = true → u j = hi j) ∨ (g = 1 ∧ ∃ p, x ≤ p ∧ p < q ∧ Z p = true ∧ u' p = u p + 1 ∧ (∀ j, x ≤ j → j < p → Z j = true → u j = hi j ∧ u' j = lo j) ∧ ∀ j, p < j → u' j = u j))
theorem yRk_hi {Z : Nat → Bool} {lo hi u : Nat → Nat} : ∀ n, (∀ j, j < n → lo j ≤ hi j) → (∀ j, j < n → Z j = true → u j = hi j) → yRk Z lo hi u n + 1 = yPz Z lo hi n := by
  intro n
  induction n with
  | zero => exact fun _ _ => rfl
  | succ n ih =>
    intro hl h
    have i9 := ih (fun j hj => hl j (by omega)) (fun j hj => h j (by omega))
    have l := hl n (by omega)
    rw [yRk, yPz]
    by_cases z : Z n = true
    · rw [if_pos z, if_pos z, h n (by omega) z, Nat.mul_comm (yPz Z lo hi n), Nat.add_mul, Nat.one_mul]
      omega
    · rw [if_neg z, if_neg z]
      exact i9
theorem yRk_lo {Z : Nat → Bool} {lo hi u : Nat → Nat} : ∀ n, (∀ j, j < n → Z j = true → u j = lo j) → yRk Z lo hi u n = 0 := by
  intro n
  induction n with
  | zero => exact fun _ => rfl
  | succ n ih =>
    intro h
    have i9 := ih (fun j hj => h j (by omega))
    rw [yRk]
    by_cases z : Z n = true
    · rw [if_pos z, h n (by omega) z, Nat.sub_self, Nat.zero_mul]
      omega
    · rw [if_neg z]
      exact i9
/-- the next way has the next number, or there is none -/
theorem yRk_next {Z : Nat → Bool} {lo hi u u' : Nat → Nat} {q : Nat} {g : Int32} (hl : ∀ j, j < q → lo j ≤ hi j) (hu : yBx q lo hi u) (h : yNx Z lo hi q 0 u u' g) : (g = 0 ∧ yRk Z lo hi u q + 1 = yPz Z lo hi q) ∨ (g = 1 ∧ yRk Z lo hi u' q = yRk Z lo hi u q + 1) := by
  obtain ⟨-, -, h⟩ := h
  rcases h with ⟨g0, a⟩ | ⟨g1, p, -, p2, p3, p4, p5, p6⟩
  · exact Or.inl ⟨g0, yRk_hi q hl (fun j hj => a j (by omega) hj)⟩
  · refine Or.inr ⟨g1, ?_⟩
    have e0 := yRk_hi (Z := Z) (u := u) p (fun j hj => hl j (by omega)) (fun j hj z => (p5 j (by omega) hj z).1)
    have e1 := yRk_lo (Z := Z) (lo := lo) (hi := hi) (u := u') p (fun j hj z => (p5 j (by omega) hj z).2)
    have lp := (hu p p2).1
    have all : ∀ d, p + 1 + d ≤ q → yRk Z lo hi u' (p + 1 + d) = yRk Z lo hi u (p + 1 + d) + 1 := by
      intro d
      induction d with
      | zero =>
        intro _
        show yRk Z lo hi u' (p + 1) = yRk Z lo hi u (p + 1) + 1
        rw [yRk, yRk, if_pos p3, if_pos p3, p4, e1, show u p + 1 - lo p = u p - lo p + 1 from by omega, Nat.add_mul, Nat.one_mul]
        omega
      | succ d ih =>
        intro hd
        show yRk Z lo hi u' ((p + 1 + d) + 1) = yRk Z lo hi u ((p + 1 + d) + 1) + 1
        rw [yRk, yRk, ih (by omega), p6 (p + 1 + d) (by omega)]
        split
        · omega
        · rfl
    have z := all (q - (p + 1)) (by omega)
    rw [show p + 1 + (q - (p + 1)) = q from by omega] at z
    exact z
theorem yNx_box {Z : Nat → Bool} {lo hi u u' : Nat → Nat} {q x : Nat} {g : Int32} (hl : ∀ j, j < q → lo j ≤ hi j) (hu : yBx q lo hi u) (h : yNx Z lo hi q x u u' g) (h1 : g = 1) (hp : ∀ p, p < q → Z p = true → u' p = u p + 1 → u p < hi p) : yBx q lo hi u' := by
  obtain ⟨a, b, c⟩ := h
  intro j hj
  by_cases z : Z j = true
  · rcases c with ⟨g0, -⟩ | ⟨-, p, p1, p2, p3, p4, p5, p6⟩
    · rw [h1] at g0
      exact absurd g0 (by decide)
    · by_cases jx : j < x
      · rw [b j jx]; exact hu j hj
      · rcases Nat.lt_trichotomy j p with y | y | y
        · rw [(p5 j (by omega) y z).2]
          exact ⟨Nat.le_refl _, hl j hj⟩
        · have := hp p p2 p3 p4
          have := hu p p2
          rw [y, p4]
          omega
        · rw [p6 j y]
          exact hu j hj
  · rw [a j z]
    exact hu j hj
/-- the class's next way -/
theorem nw_in {pn : Nat → Int32} {lo hi : Nat → Nat} {q X : Nat} (q8 : q ≤ 8) (h : ∀ j, j < q → pn (8 * j + 0) = nI (lo j) ∧ pn (8 * j + 1) = nI (hi j) ∧ lo j ≤ hi j ∧ hi j ≤ 9) : ∀ (m x k : Nat) (u : Nat → Nat) (f : Nat → Int32), x + m = q → yBx q lo hi u → (∀ j, j < q → f j = nI (u j)) → ∃ (u' : Nat → Nat) (f' : Nat → Int32) (g : Int32), K_nextWay_L2 (nI q) (nI X) pn (k + m + 1) (nI x) f = (g, f') ∧ (∀ j, j < q → f' j = nI (u' j)) ∧ yBx q lo hi u' ∧ yNx (fun j => X.testBit j) lo hi q x u u' g := by
  have qq : (nI q).toInt = (q : Int) := nI_toInt (by omega)
  intro m
  induction m with
  | zero =>
    intro x k u f hx hu hf
    have ex : (nI x).toInt = (x : Int) := nI_toInt (by omega)
    refine ⟨u, f, 0, ?_, hf, hu, fun j _ => rfl, fun j _ => rfl, Or.inl ⟨rfl, fun j a b => absurd a (by omega)⟩⟩
    simp only [K_nextWay_L2, K_nextWay_3, K_nextWay_6, K_nextWay_10, K_nextWay_8, K_nextWay_9, K_nextWay_7, K_nextWay_5, K_nextWay_4, K_nextWay_2, K_nextWay_1, M_nextWay]
    rw [if_pos (by omega)]
  | succ m ih =>
    intro x k u f hx hu hf
    have ex : (nI x).toInt = (x : Int) := nI_toInt (by omega)
    have exc : (nI x).toNatClampNeg = x := nI_clamp (by omega)
    obtain ⟨h1, h2, h3, h4⟩ := h x (by omega)
    obtain ⟨u1, u2⟩ := hu x (by omega)
    have eh : (nI (hi x)).toInt = ((hi x : Nat) : Int) := nI_toInt (by omega)
    have eu : (nI (u x)).toInt = ((u x : Nat) : Int) := nI_toInt (by omega)
    have bt : ((nI X >>> (nI x &&& 31)) &&& (1 : Int32)).toInt = 0 ↔ X.testBit x = false := by rw [xsr_0 (nI X) (by omega), xb_nI (by omega)]
    have un : K_nextWay_L2 (nI q) (nI X) pn ((k + m + 1) + 1) (nI x) f = if ((nI X >>> (nI x &&& 31)) &&& (1 : Int32)).toInt = 0 then K_nextWay_L2 (nI q) (nI X) pn (k + m + 1) (nI (x + 1)) f else if (nI (hi x)).toInt ≤ (nI (u x)).toInt then K_nextWay_L2 (nI q) (nI X) pn (k + m + 1) (nI (x + 1)) (upd f x (nI (lo x))) else (1, upd f x (nI (u x) + 1)) := by
      generalize k + m + 1 = j
      simp only [K_nextWay_L2, K_nextWay_3, K_nextWay_6, K_nextWay_10, K_nextWay_8, K_nextWay_9, K_nextWay_7, K_nextWay_5, K_nextWay_4, K_nextWay_2, K_nextWay_1, M_nextWay]
      rw [if_neg (by omega), exc, nI_1, hf x (by omega), show M_number pn (nI x) 1 = nI (hi x) from (t_nb (k := 1) (by omega) (by decide)).trans h2, show M_number pn (nI x) 0 = nI (lo x) from (t_nb (k := 0) (by omega) (by decide)).trans h1]
    by_cases b : X.testBit x = true
    · rw [if_neg (fun z => by rw [bt.mp z] at b; exact absurd b (by decide))] at un
      by_cases c : u x = hi x
      · rw [if_pos (by omega)] at un
        obtain ⟨u', f', g, a1, a2, a3, c1, c2, c3⟩ := ih (x + 1) k (fun j => if j = x then lo x else u j) (upd f x (nI (lo x))) (by omega) (fun j hj => by
          show lo j ≤ (if j = x then lo x else u j) ∧ (if j = x then lo x else u j) ≤ hi j
          by_cases e : j = x
          · rw [if_pos e, e]
            exact ⟨Nat.le_refl _, h3⟩
          · rw [if_neg e]
            exact hu j hj) (fun j hj => by
          show upd f x (nI (lo x)) j = nI (if j = x then lo x else u j)
          by_cases e : j = x
          · rw [e, xupd_s, if_pos rfl]
          · rw [xupd_o e, if_neg e]
            exact hf j hj)
        refine ⟨u', f', g, un.trans a1, a2, a3, fun j hj => (c1 j hj).trans (if_neg (fun e => hj (by rw [e]; exact b))), fun j hj => (c2 j (by omega)).trans (if_neg (by omega)), ?_⟩
        have ux : u' x = lo x := (c2 x (by omega)).trans (if_pos rfl)
        rcases c3 with ⟨g0, d⟩ | ⟨g1, p, p1, p2, p3, p4, p5, p6⟩
        · refine Or.inl ⟨g0, fun j j1 j2 z => ?_⟩
          by_cases e : j = x
          · rw [e]; exact c
          · have y := d j (by omega) j2 z
            dsimp only at y
            rw [if_neg e] at y
            exact y
        · refine Or.inr ⟨g1, p, by omega, p2, p3, p4.trans (congrArg (fun n => n + 1) (if_neg (by omega))), fun j j1 j2 z => ?_, fun j hj => (p6 j hj).trans (if_neg (by omega))⟩
          by_cases e : j = x
          · rw [e]
            exact ⟨c, ux⟩
          · have y := p5 j (by omega) j2 z
            dsimp only at y
            rw [if_neg e] at y
            exact y
      · rw [if_neg (by omega), nI_1] at un
        refine ⟨fun j => if j = x then u x + 1 else u j, _, 1, un, fun j hj => ?_, fun j hj => ?_, fun j hj => if_neg (fun e => hj (by rw [e]; exact b)), fun j hj => if_neg (by omega), Or.inr ⟨rfl, x, Nat.le_refl _, by omega, b, if_pos rfl, fun j j1 j2 => absurd j1 (by omega), fun j hj => if_neg (by omega)⟩⟩
        · show upd f x (nI (u x + 1)) j = nI (if j = x then u x + 1 else u j)
          by_cases e : j = x
          · rw [e, xupd_s, if_pos rfl]
          · rw [xupd_o e, if_neg e]
            exact hf j hj
        · show lo j ≤ (if j = x then u x + 1 else u j) ∧ (if j = x then u x + 1 else u j) ≤ hi j
          by_cases e : j = x
          · rw [if_pos e, e]
            omega
          · rw [if_neg e]
            exact hu j hj
    · have b2 : X.testBit x = false := by
        cases e : X.testBit x with
        | false => rfl
        | true => exact absurd e b
      rw [if_pos (bt.mpr b2)] at un
      obtain ⟨u', f', g, a1, a2, a3, c1, c2, c3⟩ := ih (x + 1) k u f (by omega) hu hf
      refine ⟨u', f', g, un.trans a1, a2, a3, c1, fun j hj => c2 j (by omega), ?_⟩
      rcases c3 with ⟨g0, d⟩ | ⟨g1, p, p1, p2, p3, p4, p5, p6⟩
      · refine Or.inl ⟨g0, fun j j1 j2 z => ?_⟩
        by_cases e : j = x
        · rw [e] at z; exact absurd z b
        · exact d j (by omega) j2 z
      · refine Or.inr ⟨g1, p, by omega, p2, p3, p4, fun j j1 j2 z => ?_, p6⟩
        by_cases e : j = x
        · rw [e] at z; exact absurd z b
        · exact p5 j (by omega) j2 z
theorem t_nextWay {pn : Nat → Int32} {lo hi u : Nat → Nat} {q X : Nat} {f : Nat → Int32} (q8 : q ≤ 8) (h : ∀ j, j < q → pn (8 * j + 0) = nI (lo j) ∧ pn (8 * j + 1) = nI (hi j) ∧ lo j ≤ hi j ∧ hi j ≤ 9) (hu : yBx q lo hi u) (hf : ∀ j, j < q → f j = nI (u j)) : ∃ (u' : Nat → Nat) (f' : Nat → Int32) (g : Int32), M_nextWay (nI q) (nI X) pn f = (g, f') ∧ (∀ j, j < q → f' j = nI (u' j)) ∧ yBx q lo hi u' ∧ yNx (fun j => X.testBit j) lo hi q 0 u u' g := by
  have z := nw_in (X := X) q8 h q 0 (99999 - q) u f (by omega) hu hf
  rw [show 99999 - q + q + 1 = 100000 from by omega] at z
  exact z
/-- the reference's next way -/
theorem mo_in {Td : Nat → Int32} {lo hi : Nat → Nat} {q : Nat} (q8 : q ≤ 8) (h : ∀ j, j < q → Td (7 * j + 0) = nI (lo j) ∧ Td (7 * j + 1) = nI (hi j) ∧ lo j ≤ hi j ∧ hi j ≤ 9) : ∀ (m x k : Nat) (u : Nat → Nat) (f : Nat → Int32), x + m = q → yBx q lo hi u → (∀ j, j < q → f j = nI (u j)) → ∃ (u' : Nat → Nat) (f' : Nat → Int32) (g : Int32), K_m_goesOn_L2 (nI q) Td (k + m + 1) (nI x) f = (g, f') ∧ (∀ j, j < q → f' j = nI (u' j)) ∧ yBx q lo hi u' ∧ yNx (fun _ => true) lo hi q x u u' g := by
  have qq : (nI q).toInt = (q : Int) := nI_toInt (by omega)
  intro m
  induction m with
  | zero =>
    intro x k u f hx hu hf
    have ex : (nI x).toInt = (x : Int) := nI_toInt (by omega)
    refine ⟨u, f, 0, ?_, hf, hu, fun j _ => rfl, fun j _ => rfl, Or.inl ⟨rfl, fun j a b => absurd a (by omega)⟩⟩
    simp only [K_m_goesOn_L2, K_m_goesOn_7, K_m_goesOn_8, K_m_goesOn_5, K_m_goesOn_9, K_m_goesOn_10, K_m_goesOn_6, K_m_goesOn_3, K_m_goesOn_20, K_m_goesOn_13, K_m_goesOn_16, K_m_goesOn_17, K_m_goesOn_14, K_m_goesOn_18, K_m_goesOn_19, K_m_goesOn_15, K_m_goesOn_12, K_m_goesOn_11, K_m_goesOn_4, K_m_goesOn_2, K_m_goesOn_1, M_m_goesOn]
    rw [if_pos (by omega), if_pos (by omega), if_pos (by omega)]
  | succ m ih =>
    intro x k u f hx hu hf
    have ex : (nI x).toInt = (x : Int) := nI_toInt (by omega)
    have exc : (nI x).toNatClampNeg = x := nI_clamp (by omega)
    obtain ⟨h1, h2, h3, h4⟩ := h x (by omega)
    obtain ⟨u1, u2⟩ := hu x (by omega)
    have eh : (nI (hi x)).toInt = ((hi x : Nat) : Int) := nI_toInt (by omega)
    have eu : (nI (u x)).toInt = ((u x : Nat) : Int) := nI_toInt (by omega)
    have un : K_m_goesOn_L2 (nI q) Td ((k + m + 1) + 1) (nI x) f = if (nI (u x)).toInt = (nI (hi x)).toInt then K_m_goesOn_L2 (nI q) Td (k + m + 1) (nI (x + 1)) (upd f x (nI (lo x))) else (1, upd f x (nI (u x) + 1)) := by
      generalize k + m + 1 = j
      simp only [K_m_goesOn_L2, K_m_goesOn_7, K_m_goesOn_8, K_m_goesOn_5, K_m_goesOn_9, K_m_goesOn_10, K_m_goesOn_6, K_m_goesOn_3, K_m_goesOn_20, K_m_goesOn_13, K_m_goesOn_16, K_m_goesOn_17, K_m_goesOn_14, K_m_goesOn_18, K_m_goesOn_19, K_m_goesOn_15, K_m_goesOn_12, K_m_goesOn_11, K_m_goesOn_4, K_m_goesOn_2, K_m_goesOn_1, M_m_goesOn]
      rw [if_neg (by omega), exc, nI_1, hf x (by omega), show M_m_of Td (nI x) 1 = nI (hi x) from (t_of7 (k := 1) (by omega) (by decide)).trans h2, show M_m_of Td (nI x) 0 = nI (lo x) from (t_of7 (k := 0) (by omega) (by decide)).trans h1]
      by_cases c : (nI (u x)).toInt = (nI (hi x)).toInt
      · rw [if_pos c, if_pos c]
      · rw [if_neg c, if_neg c, if_neg (by omega), if_neg (by omega)]
    by_cases c : u x = hi x
    · rw [if_pos (by omega)] at un
      obtain ⟨u', f', g, a1, a2, a3, c1, c2, c3⟩ := ih (x + 1) k (fun j => if j = x then lo x else u j) (upd f x (nI (lo x))) (by omega) (fun j hj => by
        show lo j ≤ (if j = x then lo x else u j) ∧ (if j = x then lo x else u j) ≤ hi j
        by_cases e : j = x
        · rw [if_pos e, e]
          exact ⟨Nat.le_refl _, h3⟩
        · rw [if_neg e]
          exact hu j hj) (fun j hj => by
        show upd f x (nI (lo x)) j = nI (if j = x then lo x else u j)
        by_cases e : j = x
        · rw [e, xupd_s, if_pos rfl]
        · rw [xupd_o e, if_neg e]
          exact hf j hj)
      refine ⟨u', f', g, un.trans a1, a2, a3, fun j hj => absurd rfl hj, fun j hj => (c2 j (by omega)).trans (if_neg (by omega)), ?_⟩
      have ux : u' x = lo x := (c2 x (by omega)).trans (if_pos rfl)
      rcases c3 with ⟨g0, d⟩ | ⟨g1, p, p1, p2, p3, p4, p5, p6⟩
      · refine Or.inl ⟨g0, fun j j1 j2 z => ?_⟩
        by_cases e : j = x
        · rw [e]; exact c
        · have y := d j (by omega) j2 z
          dsimp only at y
          rw [if_neg e] at y
          exact y
      · refine Or.inr ⟨g1, p, by omega, p2, p3, p4.trans (congrArg (fun n => n + 1) (if_neg (by omega))), fun j j1 j2 z => ?_, fun j hj => (p6 j hj).trans (if_neg (by omega))⟩
        by_cases e : j = x
        · rw [e]
          exact ⟨c, ux⟩
        · have y := p5 j (by omega) j2 z
          dsimp only at y
          rw [if_neg e] at y
          exact y
    · rw [if_neg (by omega), nI_1] at un
      refine ⟨fun j => if j = x then u x + 1 else u j, _, 1, un, fun j hj => ?_, fun j hj => ?_, fun j hj => absurd rfl hj, fun j hj => if_neg (by omega), Or.inr ⟨rfl, x, Nat.le_refl _, by omega, rfl, if_pos rfl, fun j j1 j2 => absurd j1 (by omega), fun j hj => if_neg (by omega)⟩⟩
      · show upd f x (nI (u x + 1)) j = nI (if j = x then u x + 1 else u j)
        by_cases e : j = x
        · rw [e, xupd_s, if_pos rfl]
        · rw [xupd_o e, if_neg e]
          exact hf j hj
      · show lo j ≤ (if j = x then u x + 1 else u j) ∧ (if j = x then u x + 1 else u j) ≤ hi j
        by_cases e : j = x
        · rw [if_pos e, e]
          omega
        · rw [if_neg e]
          exact hu j hj
theorem r_goesOn {Td : Nat → Int32} {lo hi u : Nat → Nat} {q : Nat} {f : Nat → Int32} (q8 : q ≤ 8) (h : ∀ j, j < q → Td (7 * j + 0) = nI (lo j) ∧ Td (7 * j + 1) = nI (hi j) ∧ lo j ≤ hi j ∧ hi j ≤ 9) (hu : yBx q lo hi u) (hf : ∀ j, j < q → f j = nI (u j)) : ∃ (u' : Nat → Nat) (f' : Nat → Int32) (g : Int32), M_m_goesOn (nI q) Td f = (g, f') ∧ (∀ j, j < q → f' j = nI (u' j)) ∧ yBx q lo hi u' ∧ yNx (fun _ => true) lo hi q 0 u u' g := by
  have z := mo_in q8 h q 0 (99999 - q) u f (by omega) hu hf
  rw [show 99999 - q + q + 1 = 100000 from by omega] at z
  exact z
/-- how many ways: the class -/
theorem cw2_in {pn : Nat → Int32} {lo hi : Nat → Nat} {q : Nat} (q8 : q ≤ 8) (h : ∀ j, j < q → pn (8 * j + 0) = nI (lo j) ∧ pn (8 * j + 1) = nI (hi j) ∧ lo j ≤ hi j ∧ hi j ≤ 9) : ∀ (m x k : Nat), x + m = q → K_countWays_L2 (nI q) pn (k + m + 1) (nI x) (nI (yPz (fun _ => true) lo hi x)) = nI (yPz (fun _ => true) lo hi q) := by
  have qq : (nI q).toInt = (q : Int) := nI_toInt (by omega)
  intro m
  induction m with
  | zero =>
    intro x k hx
    have ex : (nI x).toInt = (x : Int) := nI_toInt (by omega)
    obtain rfl : x = q := by omega
    simp only [K_countWays_L2, K_countWays_3, K_countWays_6, K_countWays_5, K_countWays_4, K_countWays_2, K_countWays_1, M_countWays]
    rw [if_pos (by omega)]
  | succ m ih =>
    intro x k hx
    have ex : (nI x).toInt = (x : Int) := nI_toInt (by omega)
    obtain ⟨h1, h2, h3, h4⟩ := h x (by omega)
    have z := ih (x + 1) k (by omega)
    rw [← z]
    show K_countWays_L2 (nI q) pn ((k + m + 1) + 1) (nI x) _ = _
    generalize k + m + 1 = j
    simp only [K_countWays_L2, K_countWays_3, K_countWays_6, K_countWays_5, K_countWays_4, K_countWays_2, K_countWays_1, M_countWays]
    rw [if_neg (by omega), nI_1, show M_number pn (nI x) 1 = nI (hi x) from (t_nb (k := 1) (by omega) (by decide)).trans h2, show M_number pn (nI x) 0 = nI (lo x) from (t_nb (k := 0) (by omega) (by decide)).trans h1, y_nsub h3 (by omega), nI_1, pk_mul, show yPz (fun _ => true) lo hi (x + 1) = yPz (fun _ => true) lo hi x * (hi x - lo x + 1) from if_pos rfl]
/-- how many ways: the reference, which counts no further than it must -/
theorem mw2_in {Td : Nat → Int32} {lo hi : Nat → Nat} {q : Nat} (q8 : q ≤ 8) (h : ∀ j, j < q → Td (7 * j + 0) = nI (lo j) ∧ Td (7 * j + 1) = nI (hi j) ∧ lo j ≤ hi j ∧ hi j ≤ 9) : ∀ (m x k V : Nat), x + m = q → V ≤ 200000 → ((V ≤ 20000 ∧ V = yPz (fun _ => true) lo hi x) ∨ (20000 < V ∧ 20000 < yPz (fun _ => true) lo hi x)) → ∃ W : Nat, K_m_ways_L2 (nI q) Td (k + m + 1) (nI x) (nI V) = nI W ∧ W ≤ 200000 ∧ ((W ≤ 20000 ∧ W = yPz (fun _ => true) lo hi q) ∨ (20000 < W ∧ 20000 < yPz (fun _ => true) lo hi q)) := by
  have qq : (nI q).toInt = (q : Int) := nI_toInt (by omega)
  intro m
  induction m with
  | zero =>
    intro x k V hx hV hI
    have ex : (nI x).toInt = (x : Int) := nI_toInt (by omega)
    obtain rfl : x = q := by omega
    refine ⟨V, ?_, hV, hI⟩
    simp only [K_m_ways_L2, K_m_ways_3, K_m_ways_8, K_m_ways_7, K_m_ways_5, K_m_ways_6, K_m_ways_4, K_m_ways_2, K_m_ways_1, M_m_ways]
    rw [if_pos (by omega)]
  | succ m ih =>
    intro x k V hx hV hI
    have ex : (nI x).toInt = (x : Int) := nI_toInt (by omega)
    have ev : (nI V).toInt = (V : Int) := nI_toInt (by omega)
    obtain ⟨h1, h2, h3, h4⟩ := h x (by omega)
    have up := yPz_up (lo := lo) (hi := hi) x
    have st : yPz (fun _ => true) lo hi (x + 1) = yPz (fun _ => true) lo hi x * (hi x - lo x + 1) := if_pos rfl
    have un : K_m_ways_L2 (nI q) Td ((k + m + 1) + 1) (nI x) (nI V) = if (nI V).toInt ≤ 20000 then K_m_ways_L2 (nI q) Td (k + m + 1) (nI (x + 1)) (nI (V * (hi x - lo x + 1))) else K_m_ways_L2 (nI q) Td (k + m + 1) (nI (x + 1)) (nI V) := by
      generalize k + m + 1 = j
      simp only [K_m_ways_L2, K_m_ways_3, K_m_ways_8, K_m_ways_7, K_m_ways_5, K_m_ways_6, K_m_ways_4, K_m_ways_2, K_m_ways_1, M_m_ways]
      rw [if_neg (by omega), nI_1, show M_m_of Td (nI x) 1 = nI (hi x) from (t_of7 (k := 1) (by omega) (by decide)).trans h2, show M_m_of Td (nI x) 0 = nI (lo x) from (t_of7 (k := 0) (by omega) (by decide)).trans h1, y_nsub h3 (by omega), nI_1, pk_mul]
    rcases hI with ⟨a, b⟩ | ⟨a, b⟩
    · rw [if_pos (by omega)] at un
      have l : V * (hi x - lo x + 1) ≤ 20000 * 10 := Nat.mul_le_mul a (by omega)
      obtain ⟨W, w1, w2, w3⟩ := ih (x + 1) k (V * (hi x - lo x + 1)) (by omega) (by omega) (by
        rw [st, ← b]
        omega)
      exact ⟨W, un.trans w1, w2, w3⟩
    · rw [if_neg (by omega)] at un
      obtain ⟨W, w1, w2, w3⟩ := ih (x + 1) k V (by omega) hV (Or.inr ⟨a, by omega⟩)
      exact ⟨W, un.trans w1, w2, w3⟩
theorem yPz_9 {lo hi : Nat → Nat} {q : Nat} (q8 : q ≤ 8) (h : ∀ j, j < q → hi j ≤ 9 ∧ 1 ≤ lo j) : yPz (fun _ => true) lo hi q ≤ 43046721 := by
  have a : ∀ n, n ≤ q → yPz (fun _ => true) lo hi n ≤ 9 ^ n := by
    intro n
    induction n with
    | zero => exact fun _ => Nat.le_refl _
    | succ n ih =>
      intro hn
      have := h n (by omega)
      rw [show yPz (fun _ => true) lo hi (n + 1) = yPz (fun _ => true) lo hi n * (hi n - lo n + 1) from if_pos rfl, Nat.pow_succ]
      exact Nat.mul_le_mul (ih (by omega)) (by omega)
  have b := a q (Nat.le_refl _)
  have c : 9 ^ q ≤ 9 ^ 8 := Nat.pow_le_pow_right (by decide) q8
  have e : (9 : Nat) ^ 8 = 43046721 := by decide
  omega
/-- the times told, as numbers -/
def ylo (Td : Nat → Int32) (j : Nat) : Nat := (Td (7 * j + 0)).toNatClampNeg
def yhi (Td : Nat → Int32) (j : Nat) : Nat := (Td (7 * j + 1)).toNatClampNeg
theorem y_lh {pn Td Nm Tb : Nat → Int32} {pt : Nat → Int64} {wt : Bool} {q : Nat} (hE : xE wt q pn pt Td Nm Tb) (ht : xTD Td q) : (∀ j, j < q → pn (8 * j + 0) = nI (ylo Td j) ∧ pn (8 * j + 1) = nI (yhi Td j) ∧ ylo Td j ≤ yhi Td j ∧ yhi Td j ≤ 9) ∧ (∀ j, j < q → Td (7 * j + 0) = nI (ylo Td j) ∧ Td (7 * j + 1) = nI (yhi Td j) ∧ ylo Td j ≤ yhi Td j ∧ yhi Td j ≤ 9) ∧ ∀ j, j < q → 1 ≤ ylo Td j := by
  have g : ∀ j, j < q → Td (7 * j + 0) = nI (ylo Td j) ∧ Td (7 * j + 1) = nI (yhi Td j) ∧ ylo Td j ≤ yhi Td j ∧ yhi Td j ≤ 9 := fun j hj => by
    obtain ⟨b1, b2, b3⟩ := ht j hj
    have b1 : 1 ≤ (Td (7 * j + 0)).toInt := b1
    have b2 : (Td (7 * j + 0)).toInt ≤ (Td (7 * j + 1)).toInt := b2
    have n0 := xtn (x := Td (7 * j + 0)) (by omega)
    have n1 := xtn (x := Td (7 * j + 1)) (by omega)
    unfold ylo yhi
    exact ⟨(xnI (by omega)).symm, (xnI (by omega)).symm, by omega, by omega⟩
  refine ⟨fun j hj => ?_, g, fun j hj => ?_⟩
  · obtain ⟨a1, a2, a3, a4⟩ := g j hj
    exact ⟨((hE j hj).1 0 (by decide) (Or.inl (by decide))).trans a1, ((hE j hj).1 1 (by decide) (Or.inl (by decide))).trans a2, a3, a4⟩
  · obtain ⟨b1, b2, b3⟩ := ht j hj
    have b1 : 1 ≤ (Td (7 * j + 0)).toInt := b1
    have n0 := xtn (x := Td (7 * j + 0)) (by omega)
    unfold ylo
    omega
/-- how many ways: one on both sides -/
theorem r_ways {pn Td Nm Tb : Nat → Int32} {pt : Nat → Int64} {wt : Bool} {q : Nat} (q8 : q ≤ 8) (hE : xE wt q pn pt Td Nm Tb) (ht : xTD Td q) : ∃ W : Nat, M_countWays (nI q) pn = nI (yPz (fun _ => true) (ylo Td) (yhi Td) q) ∧ yPz (fun _ => true) (ylo Td) (yhi Td) q ≤ 43046721 ∧ M_m_ways (nI q) Td = nI W ∧ W ≤ 200000 ∧ ((W ≤ 20000 ∧ W = yPz (fun _ => true) (ylo Td) (yhi Td) q) ∨ (20000 < W ∧ 20000 < yPz (fun _ => true) (ylo Td) (yhi Td) q)) := by
  obtain ⟨gp, g, g1⟩ := y_lh hE ht
  have z := cw2_in q8 gp q 0 (99999 - q) (by omega)
  obtain ⟨W, w1, w2, w3⟩ := mw2_in q8 g q 0 (99999 - q) 1 (by omega) (by decide) (Or.inl ⟨by decide, rfl⟩)
  rw [show 99999 - q + q + 1 = 100000 from by omega] at z w1
  exact ⟨W, z, yPz_9 q8 (fun j hj => ⟨(g j hj).2.2.2, g1 j hj⟩), w1, w2, w3⟩
