def zst (G : Nat → Nat → Int64) (d : Nat) (g : Nat → Int64) : Nat → Nat → Int64 := fun k => if k = d then g else G k
theorem xst_s {G : Nat → Nat → Int64} {d : Nat} {g : Nat → Int64} : zst G d g d = g := if_pos rfl
theorem xst_o {G : Nat → Nat → Int64} {d k : Nat} {g : Nat → Int64} (h : k ≠ d) : zst G d g k = G k := if_neg h
theorem xst_2 {G : Nat → Nat → Int64} {d : Nat} {g g1 : Nat → Int64} : zst (zst G d g) d g1 = zst G d g1 := by
  funext k
  unfold zst
  split <;> rfl
abbrev xT7 : Type := (Nat → Int64) × (Nat → Int64) × (Nat → Int64) × (Nat → Int64) × (Nat → Int64) × (Nat → Int64) × (Nat → Int64) × (Nat → Int64) × (Nat → Int64) × (Nat → Int64) × (Nat → Int64) × (Nat → Int64) × (Nat → Int64) × (Nat → Int64)
def xt7 (G A : Nat → Nat → Int64) : xT7 := (G 0, G 1, G 2, G 3, G 4, G 5, G 6, A 0, A 1, A 2, A 3, A 4, A 5, A 6)
theorem xupL_s {f : Nat → Int64} {i : Nat} {x : Int64} : vp_updL f i x i = x := by unfold vp_updL; exact if_pos rfl
theorem xupL_o {f : Nat → Int64} {i j : Nat} {x : Int64} (h : j ≠ i) : vp_updL f i x j = f j := by unfold vp_updL; exact if_neg h
theorem ja_0 {G A : Nat → Nat → Int64} {x : Int32} (h : x.toInt < 8) (k : Nat) : K_joinAny_L2 (nI 0) (k + 1) x (G 0) (G 1) (G 2) (G 3) (G 4) (G 5) (G 6) (A 0) (A 1) (A 2) (A 3) (A 4) (A 5) (A 6) = K_joinAny_L2 (nI 0) k (x + 1) (zst G 0 (vp_updL (G 0) x.toNatClampNeg (G 0 x.toNatClampNeg ||| A 0 x.toNatClampNeg)) 0) (zst G 0 (vp_updL (G 0) x.toNatClampNeg (G 0 x.toNatClampNeg ||| A 0 x.toNatClampNeg)) 1) (zst G 0 (vp_updL (G 0) x.toNatClampNeg (G 0 x.toNatClampNeg ||| A 0 x.toNatClampNeg)) 2) (zst G 0 (vp_updL (G 0) x.toNatClampNeg (G 0 x.toNatClampNeg ||| A 0 x.toNatClampNeg)) 3) (zst G 0 (vp_updL (G 0) x.toNatClampNeg (G 0 x.toNatClampNeg ||| A 0 x.toNatClampNeg)) 4) (zst G 0 (vp_updL (G 0) x.toNatClampNeg (G 0 x.toNatClampNeg ||| A 0 x.toNatClampNeg)) 5) (zst G 0 (vp_updL (G 0) x.toNatClampNeg (G 0 x.toNatClampNeg ||| A 0 x.toNatClampNeg)) 6) (zst A 0 (vp_updL (A 0) x.toNatClampNeg (-1)) 0) (zst A 0 (vp_updL (A 0) x.toNatClampNeg (-1)) 1) (zst A 0 (vp_updL (A 0) x.toNatClampNeg (-1)) 2) (zst A 0 (vp_updL (A 0) x.toNatClampNeg (-1)) 3) (zst A 0 (vp_updL (A 0) x.toNatClampNeg (-1)) 4) (zst A 0 (vp_updL (A 0) x.toNatClampNeg (-1)) 5) (zst A 0 (vp_updL (A 0) x.toNatClampNeg (-1)) 6) := by
  simp only [K_joinAny_L2, K_joinAny_3, K_joinAny_5, K_joinAny_7, K_joinAny_9, K_joinAny_11, K_joinAny_13, K_joinAny_15, K_joinAny_16, K_joinAny_14, K_joinAny_12, K_joinAny_10, K_joinAny_8, K_joinAny_6, K_joinAny_4, K_joinAny_2, K_joinAny_1, M_joinAny]
  rw [if_neg (by omega), if_pos (by decide)]
  rfl
theorem ja_1 {G A : Nat → Nat → Int64} {x : Int32} (h : x.toInt < 8) (k : Nat) : K_joinAny_L2 (nI 1) (k + 1) x (G 0) (G 1) (G 2) (G 3) (G 4) (G 5) (G 6) (A 0) (A 1) (A 2) (A 3) (A 4) (A 5) (A 6) = K_joinAny_L2 (nI 1) k (x + 1) (zst G 1 (vp_updL (G 1) x.toNatClampNeg (G 1 x.toNatClampNeg ||| A 1 x.toNatClampNeg)) 0) (zst G 1 (vp_updL (G 1) x.toNatClampNeg (G 1 x.toNatClampNeg ||| A 1 x.toNatClampNeg)) 1) (zst G 1 (vp_updL (G 1) x.toNatClampNeg (G 1 x.toNatClampNeg ||| A 1 x.toNatClampNeg)) 2) (zst G 1 (vp_updL (G 1) x.toNatClampNeg (G 1 x.toNatClampNeg ||| A 1 x.toNatClampNeg)) 3) (zst G 1 (vp_updL (G 1) x.toNatClampNeg (G 1 x.toNatClampNeg ||| A 1 x.toNatClampNeg)) 4) (zst G 1 (vp_updL (G 1) x.toNatClampNeg (G 1 x.toNatClampNeg ||| A 1 x.toNatClampNeg)) 5) (zst G 1 (vp_updL (G 1) x.toNatClampNeg (G 1 x.toNatClampNeg ||| A 1 x.toNatClampNeg)) 6) (zst A 1 (vp_updL (A 1) x.toNatClampNeg (-1)) 0) (zst A 1 (vp_updL (A 1) x.toNatClampNeg (-1)) 1) (zst A 1 (vp_updL (A 1) x.toNatClampNeg (-1)) 2) (zst A 1 (vp_updL (A 1) x.toNatClampNeg (-1)) 3) (zst A 1 (vp_updL (A 1) x.toNatClampNeg (-1)) 4) (zst A 1 (vp_updL (A 1) x.toNatClampNeg (-1)) 5) (zst A 1 (vp_updL (A 1) x.toNatClampNeg (-1)) 6) := by
  simp only [K_joinAny_L2, K_joinAny_3, K_joinAny_5, K_joinAny_7, K_joinAny_9, K_joinAny_11, K_joinAny_13, K_joinAny_15, K_joinAny_16, K_joinAny_14, K_joinAny_12, K_joinAny_10, K_joinAny_8, K_joinAny_6, K_joinAny_4, K_joinAny_2, K_joinAny_1, M_joinAny]
  rw [if_neg (by omega), if_neg (by decide), if_pos (by decide)]
  rfl
theorem ja_2 {G A : Nat → Nat → Int64} {x : Int32} (h : x.toInt < 8) (k : Nat) : K_joinAny_L2 (nI 2) (k + 1) x (G 0) (G 1) (G 2) (G 3) (G 4) (G 5) (G 6) (A 0) (A 1) (A 2) (A 3) (A 4) (A 5) (A 6) = K_joinAny_L2 (nI 2) k (x + 1) (zst G 2 (vp_updL (G 2) x.toNatClampNeg (G 2 x.toNatClampNeg ||| A 2 x.toNatClampNeg)) 0) (zst G 2 (vp_updL (G 2) x.toNatClampNeg (G 2 x.toNatClampNeg ||| A 2 x.toNatClampNeg)) 1) (zst G 2 (vp_updL (G 2) x.toNatClampNeg (G 2 x.toNatClampNeg ||| A 2 x.toNatClampNeg)) 2) (zst G 2 (vp_updL (G 2) x.toNatClampNeg (G 2 x.toNatClampNeg ||| A 2 x.toNatClampNeg)) 3) (zst G 2 (vp_updL (G 2) x.toNatClampNeg (G 2 x.toNatClampNeg ||| A 2 x.toNatClampNeg)) 4) (zst G 2 (vp_updL (G 2) x.toNatClampNeg (G 2 x.toNatClampNeg ||| A 2 x.toNatClampNeg)) 5) (zst G 2 (vp_updL (G 2) x.toNatClampNeg (G 2 x.toNatClampNeg ||| A 2 x.toNatClampNeg)) 6) (zst A 2 (vp_updL (A 2) x.toNatClampNeg (-1)) 0) (zst A 2 (vp_updL (A 2) x.toNatClampNeg (-1)) 1) (zst A 2 (vp_updL (A 2) x.toNatClampNeg (-1)) 2) (zst A 2 (vp_updL (A 2) x.toNatClampNeg (-1)) 3) (zst A 2 (vp_updL (A 2) x.toNatClampNeg (-1)) 4) (zst A 2 (vp_updL (A 2) x.toNatClampNeg (-1)) 5) (zst A 2 (vp_updL (A 2) x.toNatClampNeg (-1)) 6) := by
  simp only [K_joinAny_L2, K_joinAny_3, K_joinAny_5, K_joinAny_7, K_joinAny_9, K_joinAny_11, K_joinAny_13, K_joinAny_15, K_joinAny_16, K_joinAny_14, K_joinAny_12, K_joinAny_10, K_joinAny_8, K_joinAny_6, K_joinAny_4, K_joinAny_2, K_joinAny_1, M_joinAny]
  rw [if_neg (by omega), if_neg (by decide), if_neg (by decide), if_pos (by decide)]
  rfl
theorem ja_3 {G A : Nat → Nat → Int64} {x : Int32} (h : x.toInt < 8) (k : Nat) : K_joinAny_L2 (nI 3) (k + 1) x (G 0) (G 1) (G 2) (G 3) (G 4) (G 5) (G 6) (A 0) (A 1) (A 2) (A 3) (A 4) (A 5) (A 6) = K_joinAny_L2 (nI 3) k (x + 1) (zst G 3 (vp_updL (G 3) x.toNatClampNeg (G 3 x.toNatClampNeg ||| A 3 x.toNatClampNeg)) 0) (zst G 3 (vp_updL (G 3) x.toNatClampNeg (G 3 x.toNatClampNeg ||| A 3 x.toNatClampNeg)) 1) (zst G 3 (vp_updL (G 3) x.toNatClampNeg (G 3 x.toNatClampNeg ||| A 3 x.toNatClampNeg)) 2) (zst G 3 (vp_updL (G 3) x.toNatClampNeg (G 3 x.toNatClampNeg ||| A 3 x.toNatClampNeg)) 3) (zst G 3 (vp_updL (G 3) x.toNatClampNeg (G 3 x.toNatClampNeg ||| A 3 x.toNatClampNeg)) 4) (zst G 3 (vp_updL (G 3) x.toNatClampNeg (G 3 x.toNatClampNeg ||| A 3 x.toNatClampNeg)) 5) (zst G 3 (vp_updL (G 3) x.toNatClampNeg (G 3 x.toNatClampNeg ||| A 3 x.toNatClampNeg)) 6) (zst A 3 (vp_updL (A 3) x.toNatClampNeg (-1)) 0) (zst A 3 (vp_updL (A 3) x.toNatClampNeg (-1)) 1) (zst A 3 (vp_updL (A 3) x.toNatClampNeg (-1)) 2) (zst A 3 (vp_updL (A 3) x.toNatClampNeg (-1)) 3) (zst A 3 (vp_updL (A 3) x.toNatClampNeg (-1)) 4) (zst A 3 (vp_updL (A 3) x.toNatClampNeg (-1)) 5) (zst A 3 (vp_updL (A 3) x.toNatClampNeg (-1)) 6) := by
  simp only [K_joinAny_L2, K_joinAny_3, K_joinAny_5, K_joinAny_7, K_joinAny_9, K_joinAny_11, K_joinAny_13, K_joinAny_15, K_joinAny_16, K_joinAny_14, K_joinAny_12, K_joinAny_10, K_joinAny_8, K_joinAny_6, K_joinAny_4, K_joinAny_2, K_joinAny_1, M_joinAny]
  rw [if_neg (by omega), if_neg (by decide), if_neg (by decide), if_neg (by decide), if_pos (by decide)]
  rfl
theorem ja_4 {G A : Nat → Nat → Int64} {x : Int32} (h : x.toInt < 8) (k : Nat) : K_joinAny_L2 (nI 4) (k + 1) x (G 0) (G 1) (G 2) (G 3) (G 4) (G 5) (G 6) (A 0) (A 1) (A 2) (A 3) (A 4) (A 5) (A 6) = K_joinAny_L2 (nI 4) k (x + 1) (zst G 4 (vp_updL (G 4) x.toNatClampNeg (G 4 x.toNatClampNeg ||| A 4 x.toNatClampNeg)) 0) (zst G 4 (vp_updL (G 4) x.toNatClampNeg (G 4 x.toNatClampNeg ||| A 4 x.toNatClampNeg)) 1) (zst G 4 (vp_updL (G 4) x.toNatClampNeg (G 4 x.toNatClampNeg ||| A 4 x.toNatClampNeg)) 2) (zst G 4 (vp_updL (G 4) x.toNatClampNeg (G 4 x.toNatClampNeg ||| A 4 x.toNatClampNeg)) 3) (zst G 4 (vp_updL (G 4) x.toNatClampNeg (G 4 x.toNatClampNeg ||| A 4 x.toNatClampNeg)) 4) (zst G 4 (vp_updL (G 4) x.toNatClampNeg (G 4 x.toNatClampNeg ||| A 4 x.toNatClampNeg)) 5) (zst G 4 (vp_updL (G 4) x.toNatClampNeg (G 4 x.toNatClampNeg ||| A 4 x.toNatClampNeg)) 6) (zst A 4 (vp_updL (A 4) x.toNatClampNeg (-1)) 0) (zst A 4 (vp_updL (A 4) x.toNatClampNeg (-1)) 1) (zst A 4 (vp_updL (A 4) x.toNatClampNeg (-1)) 2) (zst A 4 (vp_updL (A 4) x.toNatClampNeg (-1)) 3) (zst A 4 (vp_updL (A 4) x.toNatClampNeg (-1)) 4) (zst A 4 (vp_updL (A 4) x.toNatClampNeg (-1)) 5) (zst A 4 (vp_updL (A 4) x.toNatClampNeg (-1)) 6) := by
  simp only [K_joinAny_L2, K_joinAny_3, K_joinAny_5, K_joinAny_7, K_joinAny_9, K_joinAny_11, K_joinAny_13, K_joinAny_15, K_joinAny_16, K_joinAny_14, K_joinAny_12, K_joinAny_10, K_joinAny_8, K_joinAny_6, K_joinAny_4, K_joinAny_2, K_joinAny_1, M_joinAny]
  rw [if_neg (by omega), if_neg (by decide), if_neg (by decide), if_neg (by decide), if_neg (by decide), if_pos (by decide)]
  rfl
theorem ja_5 {G A : Nat → Nat → Int64} {x : Int32} (h : x.toInt < 8) (k : Nat) : K_joinAny_L2 (nI 5) (k + 1) x (G 0) (G 1) (G 2) (G 3) (G 4) (G 5) (G 6) (A 0) (A 1) (A 2) (A 3) (A 4) (A 5) (A 6) = K_joinAny_L2 (nI 5) k (x + 1) (zst G 5 (vp_updL (G 5) x.toNatClampNeg (G 5 x.toNatClampNeg ||| A 5 x.toNatClampNeg)) 0) (zst G 5 (vp_updL (G 5) x.toNatClampNeg (G 5 x.toNatClampNeg ||| A 5 x.toNatClampNeg)) 1) (zst G 5 (vp_updL (G 5) x.toNatClampNeg (G 5 x.toNatClampNeg ||| A 5 x.toNatClampNeg)) 2) (zst G 5 (vp_updL (G 5) x.toNatClampNeg (G 5 x.toNatClampNeg ||| A 5 x.toNatClampNeg)) 3) (zst G 5 (vp_updL (G 5) x.toNatClampNeg (G 5 x.toNatClampNeg ||| A 5 x.toNatClampNeg)) 4) (zst G 5 (vp_updL (G 5) x.toNatClampNeg (G 5 x.toNatClampNeg ||| A 5 x.toNatClampNeg)) 5) (zst G 5 (vp_updL (G 5) x.toNatClampNeg (G 5 x.toNatClampNeg ||| A 5 x.toNatClampNeg)) 6) (zst A 5 (vp_updL (A 5) x.toNatClampNeg (-1)) 0) (zst A 5 (vp_updL (A 5) x.toNatClampNeg (-1)) 1) (zst A 5 (vp_updL (A 5) x.toNatClampNeg (-1)) 2) (zst A 5 (vp_updL (A 5) x.toNatClampNeg (-1)) 3) (zst A 5 (vp_updL (A 5) x.toNatClampNeg (-1)) 4) (zst A 5 (vp_updL (A 5) x.toNatClampNeg (-1)) 5) (zst A 5 (vp_updL (A 5) x.toNatClampNeg (-1)) 6) := by
  simp only [K_joinAny_L2, K_joinAny_3, K_joinAny_5, K_joinAny_7, K_joinAny_9, K_joinAny_11, K_joinAny_13, K_joinAny_15, K_joinAny_16, K_joinAny_14, K_joinAny_12, K_joinAny_10, K_joinAny_8, K_joinAny_6, K_joinAny_4, K_joinAny_2, K_joinAny_1, M_joinAny]
  rw [if_neg (by omega), if_neg (by decide), if_neg (by decide), if_neg (by decide), if_neg (by decide), if_neg (by decide), if_pos (by decide)]
  rfl
theorem ja_6 {G A : Nat → Nat → Int64} {x : Int32} (h : x.toInt < 8) (k : Nat) : K_joinAny_L2 (nI 6) (k + 1) x (G 0) (G 1) (G 2) (G 3) (G 4) (G 5) (G 6) (A 0) (A 1) (A 2) (A 3) (A 4) (A 5) (A 6) = K_joinAny_L2 (nI 6) k (x + 1) (zst G 6 (vp_updL (G 6) x.toNatClampNeg (G 6 x.toNatClampNeg ||| A 6 x.toNatClampNeg)) 0) (zst G 6 (vp_updL (G 6) x.toNatClampNeg (G 6 x.toNatClampNeg ||| A 6 x.toNatClampNeg)) 1) (zst G 6 (vp_updL (G 6) x.toNatClampNeg (G 6 x.toNatClampNeg ||| A 6 x.toNatClampNeg)) 2) (zst G 6 (vp_updL (G 6) x.toNatClampNeg (G 6 x.toNatClampNeg ||| A 6 x.toNatClampNeg)) 3) (zst G 6 (vp_updL (G 6) x.toNatClampNeg (G 6 x.toNatClampNeg ||| A 6 x.toNatClampNeg)) 4) (zst G 6 (vp_updL (G 6) x.toNatClampNeg (G 6 x.toNatClampNeg ||| A 6 x.toNatClampNeg)) 5) (zst G 6 (vp_updL (G 6) x.toNatClampNeg (G 6 x.toNatClampNeg ||| A 6 x.toNatClampNeg)) 6) (zst A 6 (vp_updL (A 6) x.toNatClampNeg (-1)) 0) (zst A 6 (vp_updL (A 6) x.toNatClampNeg (-1)) 1) (zst A 6 (vp_updL (A 6) x.toNatClampNeg (-1)) 2) (zst A 6 (vp_updL (A 6) x.toNatClampNeg (-1)) 3) (zst A 6 (vp_updL (A 6) x.toNatClampNeg (-1)) 4) (zst A 6 (vp_updL (A 6) x.toNatClampNeg (-1)) 5) (zst A 6 (vp_updL (A 6) x.toNatClampNeg (-1)) 6) := by
  simp only [K_joinAny_L2, K_joinAny_3, K_joinAny_5, K_joinAny_7, K_joinAny_9, K_joinAny_11, K_joinAny_13, K_joinAny_15, K_joinAny_16, K_joinAny_14, K_joinAny_12, K_joinAny_10, K_joinAny_8, K_joinAny_6, K_joinAny_4, K_joinAny_2, K_joinAny_1, M_joinAny]
  rw [if_neg (by omega), if_neg (by decide), if_neg (by decide), if_neg (by decide), if_neg (by decide), if_neg (by decide), if_neg (by decide)]
  rfl
theorem ja_step {G A : Nat → Nat → Int64} {d : Nat} (hd : d ≤ 6) {x : Int32} (h : x.toInt < 8) (k : Nat) : K_joinAny_L2 (nI d) (k + 1) x (G 0) (G 1) (G 2) (G 3) (G 4) (G 5) (G 6) (A 0) (A 1) (A 2) (A 3) (A 4) (A 5) (A 6) = K_joinAny_L2 (nI d) k (x + 1) (zst G d (vp_updL (G d) x.toNatClampNeg (G d x.toNatClampNeg ||| A d x.toNatClampNeg)) 0) (zst G d (vp_updL (G d) x.toNatClampNeg (G d x.toNatClampNeg ||| A d x.toNatClampNeg)) 1) (zst G d (vp_updL (G d) x.toNatClampNeg (G d x.toNatClampNeg ||| A d x.toNatClampNeg)) 2) (zst G d (vp_updL (G d) x.toNatClampNeg (G d x.toNatClampNeg ||| A d x.toNatClampNeg)) 3) (zst G d (vp_updL (G d) x.toNatClampNeg (G d x.toNatClampNeg ||| A d x.toNatClampNeg)) 4) (zst G d (vp_updL (G d) x.toNatClampNeg (G d x.toNatClampNeg ||| A d x.toNatClampNeg)) 5) (zst G d (vp_updL (G d) x.toNatClampNeg (G d x.toNatClampNeg ||| A d x.toNatClampNeg)) 6) (zst A d (vp_updL (A d) x.toNatClampNeg (-1)) 0) (zst A d (vp_updL (A d) x.toNatClampNeg (-1)) 1) (zst A d (vp_updL (A d) x.toNatClampNeg (-1)) 2) (zst A d (vp_updL (A d) x.toNatClampNeg (-1)) 3) (zst A d (vp_updL (A d) x.toNatClampNeg (-1)) 4) (zst A d (vp_updL (A d) x.toNatClampNeg (-1)) 5) (zst A d (vp_updL (A d) x.toNatClampNeg (-1)) 6) := by
  match d, hd with
  | 0, _ => exact ja_0 h k
  | 1, _ => exact ja_1 h k
  | 2, _ => exact ja_2 h k
  | 3, _ => exact ja_3 h k
  | 4, _ => exact ja_4 h k
  | 5, _ => exact ja_5 h k
  | 6, _ => exact ja_6 h k
theorem ja_end {G A : Nat → Nat → Int64} {d x : Int32} (h : 8 ≤ x.toInt) (k : Nat) : K_joinAny_L2 d (k + 1) x (G 0) (G 1) (G 2) (G 3) (G 4) (G 5) (G 6) (A 0) (A 1) (A 2) (A 3) (A 4) (A 5) (A 6) = xt7 G A := by
  simp only [K_joinAny_L2, K_joinAny_3, K_joinAny_5, K_joinAny_7, K_joinAny_9, K_joinAny_11, K_joinAny_13, K_joinAny_15, K_joinAny_16, K_joinAny_14, K_joinAny_12, K_joinAny_10, K_joinAny_8, K_joinAny_6, K_joinAny_4, K_joinAny_2, K_joinAny_1, M_joinAny]
  rw [if_pos h]
  rfl
theorem b_ja {d : Nat} (hd : d ≤ 6) : ∀ (m : Nat) (x : Int32) (k : Nat) (G A : Nat → Nat → Int64), x.toInt + (m : Int) = 8 → 0 ≤ x.toInt → ∃ g a : Nat → Int64, K_joinAny_L2 (nI d) (k + m + 1) x (G 0) (G 1) (G 2) (G 3) (G 4) (G 5) (G 6) (A 0) (A 1) (A 2) (A 3) (A 4) (A 5) (A 6) = xt7 (zst G d g) (zst A d a) ∧ (∀ i : Nat, x.toInt ≤ (i : Int) → i < 8 → g i = G d i ||| A d i ∧ a i = -1) ∧ (∀ i : Nat, (i : Int) < x.toInt → g i = G d i ∧ a i = A d i) := by
  intro m
  induction m with
  | zero =>
    intro x k G A h h0
    refine ⟨G d, A d, ?_, fun i h1 h2 => absurd h2 (by omega), fun i _ => ⟨rfl, rfl⟩⟩
    rw [show k + 0 + 1 = k + 1 from rfl, ja_end (by omega)]
    have eG : zst G d (G d) = G := by
      funext j
      unfold zst
      split
      · next z => rw [z]
      · rfl
    have eA : zst A d (A d) = A := by
      funext j
      unfold zst
      split
      · next z => rw [z]
      · rfl
    rw [eG, eA]
  | succ m ih =>
    intro x k G A h h0
    have e : (x + 1).toInt = x.toInt + 1 := xadd rfl (by decide) (by omega) (by omega)
    have xn := xtn (x := x) h0
    obtain ⟨g, a, h1, h2, h3⟩ := ih (x + 1) k (zst G d (vp_updL (G d) x.toNatClampNeg (G d x.toNatClampNeg ||| A d x.toNatClampNeg))) (zst A d (vp_updL (A d) x.toNatClampNeg (-1))) (by omega) (by omega)
    refine ⟨g, a, ?_, fun i i1 i2 => ?_, fun i i1 => ?_⟩
    · rw [show k + (m + 1) + 1 = (k + m + 1) + 1 from by omega, ja_step hd (by omega), h1, xst_2, xst_2]
    · by_cases y : i = x.toNatClampNeg
      · have z := h3 i (by omega)
        rw [xst_s, xst_s, y, xupL_s, xupL_s] at z
        rw [y]
        exact z
      · have z := h2 i (by omega) i2
        rw [xst_s, xst_s, xupL_o y, xupL_o y] at z
        exact z
    · have z := h3 i (by omega)
      rw [xst_s, xst_s, xupL_o (by omega), xupL_o (by omega)] at z
      exact z
theorem r_ja {d : Nat} (hd : d ≤ 6) (G A : Nat → Nat → Int64) : ∃ g a : Nat → Int64, M_joinAny (nI d) (G 0) (G 1) (G 2) (G 3) (G 4) (G 5) (G 6) (A 0) (A 1) (A 2) (A 3) (A 4) (A 5) (A 6) = xt7 (zst G d g) (zst A d a) ∧ ∀ i : Nat, i < 8 → g i = G d i ||| A d i ∧ a i = -1 := by
  obtain ⟨g, a, h1, h2, -⟩ := b_ja hd 8 0 99991 G A (by decide) (by decide)
  exact ⟨g, a, h1, fun i hi => h2 i (by have z : (0 : Int32).toInt = 0 := (by decide); omega) hi⟩
