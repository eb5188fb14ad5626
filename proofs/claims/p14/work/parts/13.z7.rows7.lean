/-! rounds of a tick come to an end: what falls with each -/
def xAll (f : Nat → Int32) (w : Int) : Nat → Int32
  | 0 => 0
  | k + 1 => xAll f w k ||| (if (f k).toInt = w then 1 <<< (nI k &&& 31) else 0)
theorem xAll_ext {f g : Nat → Int32} {w : Int} : ∀ n : Nat, (∀ j, j < n → ((f j).toInt = w ↔ (g j).toInt = w)) → xAll f w n = xAll g w n
  | 0, _ => rfl
  | n + 1, h => by
    show xAll f w n ||| _ = xAll g w n ||| _
    rw [xAll_ext n (fun j hj => h j (by omega))]
    by_cases q : (f n).toInt = w
    · rw [if_pos q, if_pos ((h n (by omega)).mp q)]
    · rw [if_neg q, if_neg (fun z => q ((h n (by omega)).mpr z))]
def xGd (f : Nat → Int32) (n : Nat) (on : Int32) : Int32 := xAll f 3 n ||| (if on.toInt = 0 then 0 else 256)
def xBf (tab f : Nat → Int32) (n : Nat) (on held : Int32) (j : Nat) : Bool := decide (held.toInt = 0 ∧ ¬ (tab (512 * j + (xGd f n on).toNatClampNeg)).toInt = 0)
def xStep (b : Bool) (s t s' t' : Int) : Prop := (s' = s ∧ t' = t) ∨ (t' = 0 ∧ ((s = 0 ∧ b = true ∧ s' = 1) ∨ (s = 1 ∧ b = false ∧ s' = 0) ∨ (s = 1 ∧ b = true ∧ s' = 2) ∨ (s = 2 ∧ b = false ∧ s' = 4) ∨ (s = 2 ∧ 1 ≤ t ∧ s' = 3) ∨ (s = 3 ∧ s' = 4) ∨ (s = 4 ∧ s' = 0)))
def xL (s t : Int) : Int := if s = 3 then 1 else if s = 2 ∧ 1 ≤ t then 2 else 0
def xD (b : Bool) (s : Int) : Int := if b = true then (if s = 0 then 2 else if s = 1 then 1 else if s = 4 then 3 else 0) else (if s = 1 then 1 else if s = 2 then 2 else if s = 4 then 1 else 0)
theorem xL_rng (s t : Int) : 0 ≤ xL s t := by
  unfold xL
  split
  · omega
  · split <;> omega
theorem xD_rng (b : Bool) (s : Int) : 0 ≤ xD b s ∧ xD b s ≤ 3 := by
  unfold xD
  repeat' split
  all_goals omega
theorem xStep_L {b : Bool} {s t s' t' : Int} (h : xStep b s t s' t') : xL s' t' ≤ xL s t ∧ (xL s' t' = xL s t → (s = 3 ↔ s' = 3) ∧ xD b s' ≤ xD b s ∧ (s' ≠ s → xD b s' < xD b s)) := by
  rcases h with ⟨rfl, rfl⟩ | ⟨rfl, h⟩
  · exact ⟨Int.le_refl _, fun _ => ⟨Iff.rfl, Int.le_refl _, fun q => absurd rfl q⟩⟩
  · rcases h with ⟨rfl, rfl, rfl⟩ | ⟨rfl, rfl, rfl⟩ | ⟨rfl, rfl, rfl⟩ | ⟨rfl, rfl, rfl⟩ | ⟨rfl, h1, rfl⟩ | ⟨rfl, rfl⟩ | ⟨rfl, rfl⟩
    · exact ⟨by simp [xL], fun _ => ⟨by simp, by simp [xD], fun _ => by simp [xD]⟩⟩
    · exact ⟨by simp [xL], fun _ => ⟨by simp, by simp [xD], fun _ => by simp [xD]⟩⟩
    · exact ⟨by simp [xL], fun _ => ⟨by simp, by simp [xD], fun _ => by simp [xD]⟩⟩
    · refine ⟨by have q := xL_rng 2 t; simpa [xL] using q, fun _ => ⟨by simp, by simp [xD], fun _ => by simp [xD]⟩⟩
    · have e1 : xL 2 t = 2 := by unfold xL; rw [if_neg (by decide), if_pos ⟨rfl, h1⟩]
      have e2 : xL 3 0 = 1 := by decide
      rw [e1, e2]
      exact ⟨by decide, fun q => absurd q (by decide)⟩
    · exact ⟨by simp [xL], fun q => by simp [xL] at q⟩
    · refine ⟨by simp [xL], fun _ => ⟨by simp, ?_, fun _ => ?_⟩⟩ <;> cases b <;> simp [xD]
def xSum (f : Nat → Int) : Nat → Int
  | 0 => 0
  | k + 1 => xSum f k + f k
theorem xSum_le {f g : Nat → Int} : ∀ n : Nat, (∀ j, j < n → f j ≤ g j) → xSum f n ≤ xSum g n
  | 0, _ => Int.le_refl _
  | n + 1, h => by
    have q := xSum_le n (fun j hj => h j (by omega))
    have q2 := h n (by omega)
    show xSum f n + f n ≤ xSum g n + g n
    omega
theorem xSum_eq {f g : Nat → Int} : ∀ n : Nat, (∀ j, j < n → f j ≤ g j) → xSum f n = xSum g n → ∀ j, j < n → f j = g j
  | 0, _, _, j, hj => absurd hj (Nat.not_lt_zero j)
  | n + 1, h, e, j, hj => by
    have q := xSum_le n (fun j hj => h j (by omega))
    have q2 := h n (by omega)
    have e' : xSum f n + f n = xSum g n + g n := e
    rcases Nat.lt_or_ge j n with z | z
    · exact xSum_eq n (fun j hj => h j (by omega)) (by omega) j z
    · have ej : j = n := by omega
      rw [ej]
      omega
theorem xSum_lt {f g : Nat → Int} : ∀ n : Nat, (∀ j, j < n → f j ≤ g j) → (∃ j, j < n ∧ f j < g j) → xSum f n < xSum g n := by
  intro n h hx
  obtain ⟨j, hj, hl⟩ := hx
  have q := xSum_le n h
  rcases Int.lt_or_eq_of_le q with z | z
  · exact z
  · have := xSum_eq n h z j hj
    omega
theorem xSum_cap {f : Nat → Int} {c : Int} : ∀ n : Nat, (∀ j, j < n → 0 ≤ f j ∧ f j ≤ c) → 0 ≤ xSum f n ∧ xSum f n ≤ c * (n : Int)
  | 0, _ => by simp [xSum]
  | n + 1, h => by
    have q := xSum_cap n (fun j hj => h j (by omega))
    have q2 := h n (by omega)
    show 0 ≤ xSum f n + f n ∧ xSum f n + f n ≤ c * ((n + 1 : Nat) : Int)
    rw [show ((n + 1 : Nat) : Int) = (n : Int) + 1 from by omega, Int.mul_add, Int.mul_one]
    omega
theorem xSum_congr {f g : Nat → Int} : ∀ n : Nat, (∀ j, j < n → f j = g j) → xSum f n = xSum g n
  | 0, _ => rfl
  | n + 1, h => by
    show xSum f n + f n = xSum g n + g n
    rw [xSum_congr n (fun j hj => h j (by omega)), h n (by omega)]
def xM (st si tab : Nat → Int32) (n : Nat) (on held : Int32) : Int := 25 * xSum (fun j => xL (st j).toInt (si j).toInt) n + xSum (fun j => xD (xBf tab st n on held j) (st j).toInt) n
theorem xM_pos (st si tab : Nat → Int32) (n : Nat) (on held : Int32) : 0 ≤ xM st si tab n on held := by
  have a := xSum_le (f := fun _ => 0) (g := fun j => xL (st j).toInt (si j).toInt) n (fun j _ => xL_rng _ _)
  have b := (xSum_cap (f := fun j => xD (xBf tab st n on held j) (st j).toInt) (c := 3) n (fun j _ => xD_rng _ _)).1
  have z : ∀ k : Nat, xSum (fun _ => 0) k = 0 := by
    intro k
    induction k with
    | zero => rfl
    | succ k ih => show xSum _ k + 0 = 0; omega
  rw [z] at a
  unfold xM
  omega
theorem xM_fall {st si st' si' tab : Nat → Int32} {n : Nat} {on held : Int32} (hn : n ≤ 8) (h : ∀ j, j < n → xStep (xBf tab st n on held j) (st j).toInt (si j).toInt (st' j).toInt (si' j).toInt) :
    xM st' si' tab n on held ≤ xM st si tab n on held ∧ ((∃ j, j < n ∧ (st' j).toInt ≠ (st j).toInt) → xM st' si' tab n on held < xM st si tab n on held) := by
  have hL := xSum_le (f := fun j => xL (st' j).toInt (si' j).toInt) (g := fun j => xL (st j).toInt (si j).toInt) n (fun j hj => (xStep_L (h j hj)).1)
  have c1 := xSum_cap (f := fun j => xD (xBf tab st n on held j) (st j).toInt) (c := 3) n (fun j _ => xD_rng _ _)
  have c2 := xSum_cap (f := fun j => xD (xBf tab st' n on held j) (st' j).toInt) (c := 3) n (fun j _ => xD_rng _ _)
  have hcap : (3 : Int) * (n : Int) ≤ 24 := by omega
  rcases Int.lt_or_eq_of_le hL with z | z
  · unfold xM
    exact ⟨by omega, fun _ => by omega⟩
  · have pw := xSum_eq n (fun j hj => (xStep_L (h j hj)).1) z
    have sm : ∀ j, j < n → ((st j).toInt = 3 ↔ (st' j).toInt = 3) := fun j hj => ((xStep_L (h j hj)).2 (pw j hj)).1
    have hg : xGd st' n on = xGd st n on := by
      unfold xGd
      rw [xAll_ext n sm]
    have hb : ∀ j, xBf tab st' n on held j = xBf tab st n on held j := fun j => by
      unfold xBf
      rw [hg]
    have e2 : xSum (fun j => xD (xBf tab st' n on held j) (st' j).toInt) n = xSum (fun j => xD (xBf tab st n on held j) (st' j).toInt) n := xSum_congr n (fun j _ => by show xD _ _ = xD _ _; rw [hb])
    have dl := xSum_le (f := fun j => xD (xBf tab st n on held j) (st' j).toInt) (g := fun j => xD (xBf tab st n on held j) (st j).toInt) n (fun j hj => ((xStep_L (h j hj)).2 (pw j hj)).2.1)
    refine ⟨by unfold xM; omega, fun hx => ?_⟩
    obtain ⟨j, hj, hne⟩ := hx
    have dlt := xSum_lt (f := fun j => xD (xBf tab st n on held j) (st' j).toInt) (g := fun j => xD (xBf tab st n on held j) (st j).toInt) n (fun j hj => ((xStep_L (h j hj)).2 (pw j hj)).2.1) ⟨j, hj, ((xStep_L (h j hj)).2 (pw j hj)).2.2 hne⟩
    unfold xM
    omega
theorem xnI {x : Int32} (h : 0 ≤ x.toInt) : nI x.toNatClampNeg = x := Int32.toInt_inj.mp (by
  have q := xtn h
  have q2 := Int32.toInt_lt x
  rw [nI_toInt (by omega)]
  exact q)
/-- a flag that is 0, or a place where two rows differ (told so that omega leaves it alone) -/
def xAny (f g : Nat → Int32) (a r : Int) : Prop := a = 0 ∨ ∃ j : Nat, (j : Int) < r ∧ (f j).toInt ≠ (g j).toInt
theorem xAny.up {f g : Nat → Int32} {a a' r r' : Int} (h : xAny f g a r) (ha : a' = a) (hr : r ≤ r') : xAny f g a' r' := by
  rcases h with z | ⟨j, h1, h2⟩
  · exact Or.inl (by omega)
  · exact Or.inr ⟨j, by omega, h2⟩
