section
variable {G A : Nat → Nat → Int64} {c w : Nat → Int32} {d nc nw : Nat}
theorem s_start {g a : Nat → Int64} (hg : ∀ i, i < 8 → g i = 0) (ha : ∀ i, i < 8 → a i = -1) : xS false 0 (zst G 0 g) (zst A 0 a) c w 0 0 := by
  refine ⟨fun j hj => absurd hj (by omega), fun j hj => absurd hj (by omega), fun k hk => absurd hk (by omega), fun s hs => ?_⟩
  rw [if_neg (by decide), xcb_st, xbt_0 (hg _ (by omega)), xbt_1 (ha _ (by omega))]
  exact ⟨[], [], Or.inl ⟨rfl, rfl, rfl, rfl⟩, rfl, rfl⟩
theorem s_open {g a : Nat → Int64} (h : xS false d G A c w nc nw) (hg : ∀ i, i < 8 → g i = 0) (ha : ∀ i, i < 8 → a i = -1) : xS false (d + 1) (zst G (d + 1) g) (zst A (d + 1) a) c (upd w nw 12) nc (nw + 1) := by
  obtain ⟨h1, h2, h3, h4⟩ := h
  refine ⟨fun j hj => ?_, h2, h3, fun s hs => ?_⟩
  · by_cases q : j = nw
    · rw [q, xupd_s]
      decide
    · rw [xupd_o q]
      exact h1 j (by omega)
  · have z := h4 s hs
    rw [if_neg (by decide)] at z ⊢
    rw [xcb_st, xbt_0 (hg _ (by omega)), xbt_1 (ha _ (by omega)), xwl_put]
    exact xm_open z
theorem s_unit {a : Nat → Int64} {k : Nat} (hk : k < 9) (h : xS false d G A c w nc nw) (ha : ∀ i, i < 8 → a i = A d i &&& xpw (nI k) i) : xS true d G (zst A d a) (upd c nc (nI k)) w (nc + 1) nw := by
  obtain ⟨h1, h2, h3, h4⟩ := h
  have kk : (nI k).toInt = (k : Int) := nI_toInt (by omega)
  refine ⟨h1, fun j hj => ?_, fun j hj h9 s hs => ?_, fun s hs => ?_⟩
  · by_cases q : j = nc
    · rw [q, xupd_s]
      exact ⟨by omega, Or.inl (by omega)⟩
    · rw [xupd_o q]
      exact h2 j (by omega)
  · by_cases q : j = nc
    · rw [q, xupd_s] at h9
      omega
    · rw [xupd_o q] at h9
      rw [xev_ext (c' := c) (fun i hi => xupd_o (by omega))]
      exact h3 j (by omega) h9 s hs
  · have z := h4 s hs
    rw [if_neg (by decide), xcb] at z
    rw [if_pos rfl, xcb_sA, xbt_and (ha _ (by omega)), xev_put, if_pos (by omega), xpw_bit ⟨k, hk⟩ ⟨s, hs⟩, show (nI k).toInt.toNat = k from by omega]
    exact xm_unit z
/-- what done leaves -/
def xDn (e : Int) (c w : Nat → Int32) (nc nw : Nat) (c' : Nat → Int32) (nc' nw' : Nat) : Prop := nw' ≤ nw ∧ xwk c' nc' ∧ (∀ s, s < 512 → (xwl w nw', xev c' s nc') = xdn e (xwl w nw) (xev c s nc)) ∧ (∀ j, j < nc → c' j = c j) ∧ (∀ j, nc ≤ j → j < nc' → (c' j).toInt ≠ 12 ∧ ∃ i, i < nw ∧ c' j = w i)
theorem dn_code {e : Int} {c' : Nat → Int32} {nc' nw' : Nat} (h1 : ∀ j, j < nw → 10 ≤ (w j).toInt ∧ (w j).toInt ≤ 12) (h2 : ∀ j, j < nc → 0 ≤ (c j).toInt ∧ ((c j).toInt < 9 ∨ (c j).toInt = 10 ∨ (c j).toInt = 11)) (hd : xDn e c w nc nw c' nc' nw') : ∀ j, j < nc' → 0 ≤ (c' j).toInt ∧ ((c' j).toInt < 9 ∨ (c' j).toInt = 10 ∨ (c' j).toInt = 11) := by
  intro j hj
  by_cases q : j < nc
  · rw [hd.2.2.2.1 j q]
    exact h2 j q
  · obtain ⟨b1, i, b2, b3⟩ := hd.2.2.2.2 j (by omega) hj
    have b4 := h1 i b2
    rw [← b3] at b4
    exact ⟨by omega, by omega⟩
theorem w_put {x : Int32} {n : Nat} (h : ∀ j, j < nw → 10 ≤ (w j).toInt ∧ (w j).toInt ≤ 12) (hn : n ≤ nw) (hx : 10 ≤ x.toInt ∧ x.toInt ≤ 12) : ∀ j, j < n + 1 → 10 ≤ (upd w n x j).toInt ∧ (upd w n x j).toInt ≤ 12 := by
  intro j hj
  by_cases q : j = n
  · rw [q, xupd_s]
    exact hx
  · rw [xupd_o q]
    exact h j (by omega)
theorem s_and {c' : Nat → Int32} {nc' nw' : Nat} (h : xS true d G A c w nc nw) (hd : xDn 10 c w nc nw c' nc' nw') : xS false d G A c' (upd w nw' 10) nc' (nw' + 1) := by
  obtain ⟨h1, h2, h3, h4⟩ := h
  refine ⟨w_put h1 hd.1 (by decide), dn_code h1 h2 hd, hd.2.1, fun s hs => ?_⟩
  have z := h4 s hs
  rw [if_pos rfl, xcb] at z
  have y := xm_and z
  rw [← hd.2.2.1 s hs] at y
  rw [if_neg (by decide), xwl_put, xcb]
  exact y
theorem s_or {g a : Nat → Int64} {c' : Nat → Int32} {nc' nw' : Nat} (h : xS true d G A c w nc nw) (hd : xDn 11 c w nc nw c' nc' nw') (hg : ∀ i, i < 8 → g i = G d i ||| A d i ∧ a i = -1) : xS false d (zst G d g) (zst A d a) c' (upd w nw' 11) nc' (nw' + 1) := by
  obtain ⟨h1, h2, h3, h4⟩ := h
  refine ⟨w_put h1 hd.1 (by decide), dn_code h1 h2 hd, hd.2.1, fun s hs => ?_⟩
  have z := h4 s hs
  rw [if_pos rfl, xcb] at z
  have y := xm_or z
  rw [← hd.2.2.1 s hs] at y
  rw [if_neg (by decide), xwl_put, xcb_st, xbt_or (hg _ (by omega)).1, xbt_1 (hg _ (by omega)).2]
  exact y
theorem s_close {g a a2 : Nat → Int64} {c' : Nat → Int32} {nc' nw' : Nat} (h : xS true (d + 1) G A c w nc nw) (hd : xDn 11 c w nc nw c' nc' nw') (hg : ∀ i, i < 8 → g i = G (d + 1) i ||| A (d + 1) i ∧ a i = -1) (ha : ∀ i, i < 8 → a2 i = A d i &&& g i) : ∃ n2, nw' = n2 + 1 ∧ xS true d (zst G (d + 1) g) (zst (zst A (d + 1) a) d a2) c' w nc' n2 := by
  obtain ⟨h1, h2, h3, h4⟩ := h
  have key : ∀ s, s < 512 → ∃ o2 : List Int, xwl w nw' = 12 :: o2 ∧ xM2 ((xbt (G d) s, xbt (A d) s && (xbt (G (d + 1)) s || xbt (A (d + 1)) s)) :: xcb G A s d) o2 (xev c' s nc') := by
    intro s hs
    have z := h4 s hs
    rw [if_pos rfl, xcb, xcb] at z
    obtain ⟨o2, v2, y1, y2⟩ := xm_close z
    rw [← hd.2.2.1 s hs] at y1
    have e1 : xwl w nw' = 12 :: o2 := congrArg Prod.fst y1
    have e2 : xev c' s nc' = (xbt (G (d + 1)) s || xbt (A (d + 1)) s) :: v2 := congrArg Prod.snd y1
    exact ⟨o2, e1, by rw [e2]; exact y2⟩
  obtain ⟨n2, hn⟩ : ∃ n2, nw' = n2 + 1 := by
    obtain ⟨o2, e1, -⟩ := key 0 (by decide)
    cases nw' with
    | zero => exact absurd e1 (by simp [xwl])
    | succ n => exact ⟨n, rfl⟩
  refine ⟨n2, hn, fun j hj => h1 j (by have := hd.1; omega), dn_code h1 h2 hd, hd.2.1, fun s hs => ?_⟩
  obtain ⟨o2, e1, e2⟩ := key s hs
  rw [hn, xwl] at e1
  injection e1 with e3 e4
  rw [if_pos rfl, xcb_sA, xst_o (by omega), xbt_and (ha _ (by omega)), show (g (s / 64)).toBitVec.getLsbD (s % 64) = xbt g s from rfl, xbt_or (hg _ (by omega)).1, e4, xcb_ext (G' := G) (A' := A) (fun k hk => ⟨xst_o (by omega), xst_o (by omega)⟩)]
  exact e2
theorem s_end {g : Nat → Int64} {c' : Nat → Int32} {nc' nw' : Nat} (h : xS true 0 G A c w nc nw) (hd : xDn 11 c w nc nw c' nc' nw') (hg : ∀ i, i < 8 → g i = G 0 i ||| A 0 i) : (∀ j, j < nc' → 0 ≤ (c' j).toInt ∧ ((c' j).toInt < 9 ∨ (c' j).toInt = 10 ∨ (c' j).toInt = 11)) ∧ xwk c' nc' ∧ ∀ s, s < 512 → xev c' s nc' = [xbt g s] := by
  obtain ⟨h1, h2, h3, h4⟩ := h
  refine ⟨dn_code h1 h2 hd, hd.2.1, fun s hs => ?_⟩
  have z := h4 s hs
  rw [if_pos rfl] at z
  have y := xm_end (a := xbt (G 0) s) (l := xbt (A 0) s) z
  rw [← hd.2.2.1 s hs] at y
  rw [xbt_or (hg _ (by omega))]
  exact congrArg Prod.snd y
end
