/-- one level of a formula where a unit is wanted: what waits and what is reckoned above the levels below -/
def xg1 (a l : Bool) (o : List Int) (v : List Bool) (o' : List Int) (v' : List Bool) : Prop := (o = o' ∧ v = v' ∧ a = false ∧ l = true) ∨ (o = 11 :: o' ∧ v = a :: v' ∧ l = true) ∨ (o = 10 :: o' ∧ v = l :: v' ∧ a = false) ∨ (o = 10 :: 11 :: o' ∧ v = l :: a :: v')
/-- one level of a formula behind a unit -/
def xg2 (a l : Bool) (o : List Int) (v : List Bool) (o' : List Int) (v' : List Bool) : Prop := (o = o' ∧ v = l :: v' ∧ a = false) ∨ (o = 11 :: o' ∧ v = l :: a :: v') ∨ (∃ b x, o = 10 :: o' ∧ v = x :: b :: v' ∧ l = (b && x) ∧ a = false) ∨ (∃ b x, o = 10 :: 11 :: o' ∧ v = x :: b :: a :: v' ∧ l = (b && x))
def xgb : List (Bool × Bool) → List Int → List Bool → Prop
  | [], o, v => o = [] ∧ v = []
  | p :: r, o, v => ∃ o1 o' v', o = 12 :: o1 ∧ xg1 p.1 p.2 o1 v o' v' ∧ xgb r o' v'
def xM1 : List (Bool × Bool) → List Int → List Bool → Prop
  | [], _, _ => False
  | p :: r, o, v => ∃ o' v', xg1 p.1 p.2 o v o' v' ∧ xgb r o' v'
def xM2 : List (Bool × Bool) → List Int → List Bool → Prop
  | [], _, _ => False
  | p :: r, o, v => ∃ o' v', xg2 p.1 p.2 o v o' v' ∧ xgb r o' v'
/-- a sign reckoned -/
def xap (x : Int) : List Bool → List Bool
  | y :: b :: v => (if x = 10 then b && y else b || y) :: v
  | v => v
def xdn (e : Int) : List Int → List Bool → List Int × List Bool
  | [], v => ([], v)
  | x :: o, v => if x ≠ 12 ∧ x ≤ e then xdn e o (xap x v) else (x :: o, v)
theorem xdn_b {r : List (Bool × Bool)} {o : List Int} {v v0 : List Bool} {e : Int} (h : xgb r o v0) : xdn e o v = (o, v) := by
  cases r with
  | nil =>
    obtain ⟨h1, -⟩ := h
    subst h1
    rfl
  | cons p r =>
    obtain ⟨o1, o', v', h1, -, -⟩ := h
    subst h1
    unfold xdn
    rw [if_neg (fun z => z.1 rfl)]
theorem xdn_10 {o : List Int} {v : List Bool} {b y : Bool} {e : Int} (he : 10 ≤ e) : xdn e (10 :: o) (y :: b :: v) = xdn e o ((b && y) :: v) := by
  rw [xdn, if_pos ⟨by decide, he⟩]
  rfl
theorem xdn_11 {o : List Int} {v : List Bool} {b y : Bool} {e : Int} (he : 11 ≤ e) : xdn e (11 :: o) (y :: b :: v) = xdn e o ((b || y) :: v) := by
  rw [xdn, if_pos ⟨by decide, he⟩]
  rfl
theorem xdn_n {o : List Int} {v : List Bool} : xdn 10 (11 :: o) v = (11 :: o, v) := by
  rw [xdn, if_neg (by decide)]
theorem xm_open {L : List (Bool × Bool)} {o : List Int} {v : List Bool} (h : xM1 L o v) : xM1 ((false, true) :: L) (12 :: o) v := by
  cases L with
  | nil => exact h.elim
  | cons p r =>
    obtain ⟨o', v', h1, h2⟩ := h
    exact ⟨12 :: o, v, Or.inl ⟨rfl, rfl, rfl, rfl⟩, o, o', v', rfl, h1, h2⟩
theorem xm_unit {a l x : Bool} {r : List (Bool × Bool)} {o : List Int} {v : List Bool} (h : xM1 ((a, l) :: r) o v) : xM2 ((a, l && x) :: r) o (x :: v) := by
  obtain ⟨o', v', h1, h2⟩ := h
  refine ⟨o', v', ?_, h2⟩
  rcases h1 with ⟨e1, e2, e3, e4⟩ | ⟨e1, e2, e3⟩ | ⟨e1, e2, e3⟩ | ⟨e1, e2⟩
  · dsimp only at e3 e4
    subst e1
    subst e2
    subst e3
    subst e4
    exact Or.inl ⟨rfl, by rw [Bool.true_and], rfl⟩
  · dsimp only at e2 e3
    subst e3
    exact Or.inr (Or.inl ⟨e1, by rw [e2, Bool.true_and]⟩)
  · exact Or.inr (Or.inr (Or.inl ⟨l, x, e1, by rw [e2], rfl, e3⟩))
  · exact Or.inr (Or.inr (Or.inr ⟨l, x, e1, by rw [e2], rfl⟩))
theorem xm_and {a l : Bool} {r : List (Bool × Bool)} {o : List Int} {v : List Bool} (h : xM2 ((a, l) :: r) o v) : xM1 ((a, l) :: r) (10 :: (xdn 10 o v).1) (xdn 10 o v).2 := by
  obtain ⟨o', v', h1, h2⟩ := h
  refine ⟨o', v', ?_, h2⟩
  rcases h1 with ⟨e1, e2, e3⟩ | ⟨e1, e2⟩ | ⟨b, x, e1, e2, e3, e4⟩ | ⟨b, x, e1, e2, e3⟩
  · rw [e1, e2, xdn_b h2]
    exact Or.inr (Or.inr (Or.inl ⟨rfl, rfl, e3⟩))
  · rw [e1, e2, xdn_n]
    exact Or.inr (Or.inr (Or.inr ⟨rfl, rfl⟩))
  · rw [e1, e2, xdn_10 (by decide), xdn_b h2]
    exact Or.inr (Or.inr (Or.inl ⟨rfl, by rw [e3], e4⟩))
  · rw [e1, e2, xdn_10 (by decide), xdn_n]
    exact Or.inr (Or.inr (Or.inr ⟨rfl, by rw [e3]⟩))
/-- all that waits on this level, reckoned -/
theorem xm_all {a l : Bool} {r : List (Bool × Bool)} {o : List Int} {v : List Bool} (h : xM2 ((a, l) :: r) o v) : ∃ o' v', xdn 11 o v = (o', (a || l) :: v') ∧ xgb r o' v' := by
  obtain ⟨o', v', h1, h2⟩ := h
  refine ⟨o', v', ?_, h2⟩
  rcases h1 with ⟨e1, e2, e3⟩ | ⟨e1, e2⟩ | ⟨b, x, e1, e2, e3, e4⟩ | ⟨b, x, e1, e2, e3⟩
  · dsimp only at e2 e3
    rw [e1, e2, xdn_b h2, e3, Bool.false_or]
  · rw [e1, e2, xdn_11 (by decide), xdn_b h2]
  · dsimp only at e3 e4
    rw [e1, e2, xdn_10 (by decide), xdn_b h2, e3, e4, Bool.false_or]
  · dsimp only at e2 e3
    rw [e1, e2, xdn_10 (by decide), xdn_11 (by decide), xdn_b h2, e3]
theorem xm_or {a l : Bool} {r : List (Bool × Bool)} {o : List Int} {v : List Bool} (h : xM2 ((a, l) :: r) o v) : xM1 ((a || l, true) :: r) (11 :: (xdn 11 o v).1) (xdn 11 o v).2 := by
  obtain ⟨o', v', h1, h2⟩ := xm_all h
  rw [h1]
  exact ⟨o', v', Or.inr (Or.inl ⟨rfl, rfl, rfl⟩), h2⟩
theorem xm_close {a l b m : Bool} {r : List (Bool × Bool)} {o : List Int} {v : List Bool} (h : xM2 ((a, l) :: (b, m) :: r) o v) : ∃ o2 v2, xdn 11 o v = (12 :: o2, (a || l) :: v2) ∧ xM2 ((b, m && (a || l)) :: r) o2 ((a || l) :: v2) := by
  obtain ⟨o', v', h1, o1, o2, v2, h2, h3, h4⟩ := xm_all h
  subst h2
  exact ⟨o1, v', h1, xm_unit ⟨o2, v2, h3, h4⟩⟩
theorem xm_end {a l : Bool} {o : List Int} {v : List Bool} (h : xM2 [(a, l)] o v) : xdn 11 o v = ([], [a || l]) := by
  obtain ⟨o', v', h1, h2, h3⟩ := xm_all h
  rw [h1, h2, h3]
/-- what waits, the top first -/
def xwl (w : Nat → Int32) : Nat → List Int
  | 0 => []
  | n + 1 => (w n).toInt :: xwl w n
/-- the signs told so far, reckoned for one set; the top first -/
def xev (c : Nat → Int32) (s : Nat) : Nat → List Bool
  | 0 => []
  | n + 1 => if (c n).toInt < 9 then s.testBit (c n).toInt.toNat :: xev c s n else xap (c n).toInt (xev c s n)
theorem xwl_ext {w w' : Nat → Int32} {n : Nat} (h : ∀ j, j < n → w j = w' j) : xwl w n = xwl w' n := by
  induction n with
  | zero => rfl
  | succ n ih => rw [xwl, xwl, h n (by omega), ih (fun j hj => h j (by omega))]
theorem xev_ext {c c' : Nat → Int32} {s n : Nat} (h : ∀ j, j < n → c j = c' j) : xev c s n = xev c' s n := by
  induction n with
  | zero => rfl
  | succ n ih => rw [xev, xev, h n (by omega), ih (fun j hj => h j (by omega))]
theorem xwl_put {w : Nat → Int32} {n : Nat} {x : Int32} : xwl (upd w n x) (n + 1) = x.toInt :: xwl w n := by
  rw [xwl, xupd_s, xwl_ext (w' := w) (fun j hj => xupd_o (by omega))]
theorem xev_put {c : Nat → Int32} {s n : Nat} {x : Int32} : xev (upd c n x) s (n + 1) = if x.toInt < 9 then s.testBit x.toInt.toNat :: xev c s n else xap x.toInt (xev c s n) := by
  rw [xev, xupd_s, xev_ext (c' := c) (fun j hj => xupd_o (by omega))]
/-- what is reckoned on the way has its two values -/
def zdp (e : Int) : List Int → List Bool → Prop
  | [], _ => True
  | x :: o, v => x ≠ 12 → x ≤ e → (∃ y b t, v = y :: b :: t) ∧ zdp e o (xap x v)
theorem xdp_b {r : List (Bool × Bool)} {o : List Int} {v v0 : List Bool} {e : Int} (h : xgb r o v0) : zdp e o v := by
  cases r with
  | nil =>
    obtain ⟨h1, -⟩ := h
    subst h1
    trivial
  | cons p r =>
    obtain ⟨o1, o', v', h1, -, -⟩ := h
    subst h1
    intro z
    exact absurd rfl z
theorem xdp_2 {a l : Bool} {r : List (Bool × Bool)} {o : List Int} {v : List Bool} {e : Int} (h : xM2 ((a, l) :: r) o v) : zdp e o v := by
  obtain ⟨o', v', h1, h2⟩ := h
  rcases h1 with ⟨e1, e2, e3⟩ | ⟨e1, e2⟩ | ⟨b, x, e1, e2, e3, e4⟩ | ⟨b, x, e1, e2, e3⟩
  · rw [e1]
    exact xdp_b h2
  · rw [e1, e2]
    exact fun _ _ => ⟨⟨_, _, _, rfl⟩, xdp_b h2⟩
  · rw [e1, e2]
    exact fun _ _ => ⟨⟨_, _, _, rfl⟩, xdp_b h2⟩
  · rw [e1, e2]
    exact fun _ _ => ⟨⟨_, _, _, rfl⟩, fun _ _ => ⟨⟨_, _, _, rfl⟩, xdp_b h2⟩⟩
/-- every sign told has its two values -/
def xwk (c : Nat → Int32) (n : Nat) : Prop := ∀ k, k < n → 9 ≤ (c k).toInt → ∀ s, s < 512 → ∃ y b t, xev c s k = y :: b :: t
theorem xwk_ext {c c' : Nat → Int32} {n : Nat} (h : ∀ j, j < n → c j = c' j) (w : xwk c n) : xwk c' n := by
  intro k hk h9 s hs
  have := w k hk (by rw [h k hk]; exact h9) s hs
  rw [xev_ext (c' := c') (fun j hj => h j (by omega))] at this
  exact this
