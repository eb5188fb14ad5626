/-- whether a row of words holds a set -/
def xbt (g : Nat → Int64) (s : Nat) : Bool := (g (s / 64)).toBitVec.getLsbD (s % 64)
theorem xbt_or {g a h : Nat → Int64} {s : Nat} (e : h (s / 64) = g (s / 64) ||| a (s / 64)) : xbt h s = (xbt g s || xbt a s) := by
  unfold xbt
  rw [e, Int64.toBitVec_or, BitVec.getLsbD_or]
theorem xbt_and {g h : Nat → Int64} {y : Int64} {s : Nat} (e : h (s / 64) = g (s / 64) &&& y) : xbt h s = (xbt g s && y.toBitVec.getLsbD (s % 64)) := by
  unfold xbt
  rw [e, Int64.toBitVec_and, BitVec.getLsbD_and]
theorem xb64 : ∀ j : Fin 64, (-1 : Int64).toBitVec.getLsbD j.val = true := by decide
theorem xbt_1 {g : Nat → Int64} {s : Nat} (e : g (s / 64) = -1) : xbt g s = true := by
  unfold xbt
  rw [e]
  exact xb64 ⟨s % 64, Nat.mod_lt _ (by decide)⟩
theorem xb640 : ∀ j : Fin 64, (0 : Int64).toBitVec.getLsbD j.val = false := by decide
theorem xbt_0 {g : Nat → Int64} {s : Nat} (e : g (s / 64) = 0) : xbt g s = false := by
  unfold xbt
  rw [e]
  exact xb640 ⟨s % 64, Nat.mod_lt _ (by decide)⟩
theorem xpw_bit : ∀ (k : Fin 9) (s : Fin 512), (xpw (nI k.val) (s.val / 64)).toBitVec.getLsbD (s.val % 64) = s.val.testBit k.val := by decide +kernel
/-- the levels below n, for one set, the deepest first -/
def xcb (G A : Nat → Nat → Int64) (s : Nat) : Nat → List (Bool × Bool)
  | 0 => []
  | n + 1 => (xbt (G n) s, xbt (A n) s) :: xcb G A s n
theorem xcb_ext {G A G' A' : Nat → Nat → Int64} {s n : Nat} (h : ∀ k, k < n → G k = G' k ∧ A k = A' k) : xcb G A s n = xcb G' A' s n := by
  induction n with
  | zero => rfl
  | succ n ih => rw [xcb, xcb, (h n (by omega)).1, (h n (by omega)).2, ih (fun k hk => h k (by omega))]
theorem xcb_st {G A : Nat → Nat → Int64} {g a : Nat → Int64} {s n : Nat} : xcb (zst G n g) (zst A n a) s (n + 1) = (xbt g s, xbt a s) :: xcb G A s n := by
  rw [xcb, xst_s, xst_s, xcb_ext (G' := G) (A' := A) (fun k hk => ⟨xst_o (by omega), xst_o (by omega)⟩)]
theorem xcb_sA {G A : Nat → Nat → Int64} {a : Nat → Int64} {s n : Nat} : xcb G (zst A n a) s (n + 1) = (xbt (G n) s, xbt a s) :: xcb G A s n := by
  rw [xcb, xst_s, xcb_ext (G' := G) (A' := A) (fun k hk => ⟨rfl, xst_o (by omega)⟩)]
/-- the formula so far, on both sides: m tells whether a unit stands last -/
def xS (m : Bool) (d : Nat) (G A : Nat → Nat → Int64) (c w : Nat → Int32) (nc nw : Nat) : Prop := (∀ j, j < nw → 10 ≤ (w j).toInt ∧ (w j).toInt ≤ 12) ∧ (∀ j, j < nc → 0 ≤ (c j).toInt ∧ ((c j).toInt < 9 ∨ (c j).toInt = 10 ∨ (c j).toInt = 11)) ∧ xwk c nc ∧ ∀ s, s < 512 → (if m = true then xM2 (xcb G A s (d + 1)) (xwl w nw) (xev c s nc) else xM1 (xcb G A s (d + 1)) (xwl w nw) (xev c s nc))
