theorem od_0 {G A : Nat → Nat → Int64} : M_openDepth (nI 0) (G 1) (G 2) (G 3) (G 4) (G 5) (G 6) (A 1) (A 2) (A 3) (A 4) (A 5) (A 6) (A 0) (G 0) = xt7 (zst G 0 (M_fillJ 8 0 (G 0))) (zst A 0 (M_fillJ 8 (-1) (A 0))) := by
  simp only [K_openDepth_5, K_openDepth_4, K_openDepth_2, K_openDepth_9, K_openDepth_8, K_openDepth_6, K_openDepth_13, K_openDepth_12, K_openDepth_10, K_openDepth_17, K_openDepth_16, K_openDepth_14, K_openDepth_21, K_openDepth_20, K_openDepth_18, K_openDepth_25, K_openDepth_24, K_openDepth_22, K_openDepth_27, K_openDepth_26, K_openDepth_23, K_openDepth_19, K_openDepth_15, K_openDepth_11, K_openDepth_7, K_openDepth_3, K_openDepth_1, M_openDepth]
  rw [if_pos (by decide)]
  rfl
theorem od_1 {G A : Nat → Nat → Int64} : M_openDepth (nI 1) (G 1) (G 2) (G 3) (G 4) (G 5) (G 6) (A 1) (A 2) (A 3) (A 4) (A 5) (A 6) (A 0) (G 0) = xt7 (zst G 1 (M_fillJ 8 0 (G 1))) (zst A 1 (M_fillJ 8 (-1) (A 1))) := by
  simp only [K_openDepth_5, K_openDepth_4, K_openDepth_2, K_openDepth_9, K_openDepth_8, K_openDepth_6, K_openDepth_13, K_openDepth_12, K_openDepth_10, K_openDepth_17, K_openDepth_16, K_openDepth_14, K_openDepth_21, K_openDepth_20, K_openDepth_18, K_openDepth_25, K_openDepth_24, K_openDepth_22, K_openDepth_27, K_openDepth_26, K_openDepth_23, K_openDepth_19, K_openDepth_15, K_openDepth_11, K_openDepth_7, K_openDepth_3, K_openDepth_1, M_openDepth]
  rw [if_neg (by decide), if_pos (by decide)]
  rfl
theorem od_2 {G A : Nat → Nat → Int64} : M_openDepth (nI 2) (G 1) (G 2) (G 3) (G 4) (G 5) (G 6) (A 1) (A 2) (A 3) (A 4) (A 5) (A 6) (A 0) (G 0) = xt7 (zst G 2 (M_fillJ 8 0 (G 2))) (zst A 2 (M_fillJ 8 (-1) (A 2))) := by
  simp only [K_openDepth_5, K_openDepth_4, K_openDepth_2, K_openDepth_9, K_openDepth_8, K_openDepth_6, K_openDepth_13, K_openDepth_12, K_openDepth_10, K_openDepth_17, K_openDepth_16, K_openDepth_14, K_openDepth_21, K_openDepth_20, K_openDepth_18, K_openDepth_25, K_openDepth_24, K_openDepth_22, K_openDepth_27, K_openDepth_26, K_openDepth_23, K_openDepth_19, K_openDepth_15, K_openDepth_11, K_openDepth_7, K_openDepth_3, K_openDepth_1, M_openDepth]
  rw [if_neg (by decide), if_neg (by decide), if_pos (by decide)]
  rfl
theorem od_3 {G A : Nat → Nat → Int64} : M_openDepth (nI 3) (G 1) (G 2) (G 3) (G 4) (G 5) (G 6) (A 1) (A 2) (A 3) (A 4) (A 5) (A 6) (A 0) (G 0) = xt7 (zst G 3 (M_fillJ 8 0 (G 3))) (zst A 3 (M_fillJ 8 (-1) (A 3))) := by
  simp only [K_openDepth_5, K_openDepth_4, K_openDepth_2, K_openDepth_9, K_openDepth_8, K_openDepth_6, K_openDepth_13, K_openDepth_12, K_openDepth_10, K_openDepth_17, K_openDepth_16, K_openDepth_14, K_openDepth_21, K_openDepth_20, K_openDepth_18, K_openDepth_25, K_openDepth_24, K_openDepth_22, K_openDepth_27, K_openDepth_26, K_openDepth_23, K_openDepth_19, K_openDepth_15, K_openDepth_11, K_openDepth_7, K_openDepth_3, K_openDepth_1, M_openDepth]
  rw [if_neg (by decide), if_neg (by decide), if_neg (by decide), if_pos (by decide)]
  rfl
theorem od_4 {G A : Nat → Nat → Int64} : M_openDepth (nI 4) (G 1) (G 2) (G 3) (G 4) (G 5) (G 6) (A 1) (A 2) (A 3) (A 4) (A 5) (A 6) (A 0) (G 0) = xt7 (zst G 4 (M_fillJ 8 0 (G 4))) (zst A 4 (M_fillJ 8 (-1) (A 4))) := by
  simp only [K_openDepth_5, K_openDepth_4, K_openDepth_2, K_openDepth_9, K_openDepth_8, K_openDepth_6, K_openDepth_13, K_openDepth_12, K_openDepth_10, K_openDepth_17, K_openDepth_16, K_openDepth_14, K_openDepth_21, K_openDepth_20, K_openDepth_18, K_openDepth_25, K_openDepth_24, K_openDepth_22, K_openDepth_27, K_openDepth_26, K_openDepth_23, K_openDepth_19, K_openDepth_15, K_openDepth_11, K_openDepth_7, K_openDepth_3, K_openDepth_1, M_openDepth]
  rw [if_neg (by decide), if_neg (by decide), if_neg (by decide), if_neg (by decide), if_pos (by decide)]
  rfl
theorem od_5 {G A : Nat → Nat → Int64} : M_openDepth (nI 5) (G 1) (G 2) (G 3) (G 4) (G 5) (G 6) (A 1) (A 2) (A 3) (A 4) (A 5) (A 6) (A 0) (G 0) = xt7 (zst G 5 (M_fillJ 8 0 (G 5))) (zst A 5 (M_fillJ 8 (-1) (A 5))) := by
  simp only [K_openDepth_5, K_openDepth_4, K_openDepth_2, K_openDepth_9, K_openDepth_8, K_openDepth_6, K_openDepth_13, K_openDepth_12, K_openDepth_10, K_openDepth_17, K_openDepth_16, K_openDepth_14, K_openDepth_21, K_openDepth_20, K_openDepth_18, K_openDepth_25, K_openDepth_24, K_openDepth_22, K_openDepth_27, K_openDepth_26, K_openDepth_23, K_openDepth_19, K_openDepth_15, K_openDepth_11, K_openDepth_7, K_openDepth_3, K_openDepth_1, M_openDepth]
  rw [if_neg (by decide), if_neg (by decide), if_neg (by decide), if_neg (by decide), if_neg (by decide), if_pos (by decide)]
  rfl
theorem od_6 {G A : Nat → Nat → Int64} : M_openDepth (nI 6) (G 1) (G 2) (G 3) (G 4) (G 5) (G 6) (A 1) (A 2) (A 3) (A 4) (A 5) (A 6) (A 0) (G 0) = xt7 (zst G 6 (M_fillJ 8 0 (G 6))) (zst A 6 (M_fillJ 8 (-1) (A 6))) := by
  simp only [K_openDepth_5, K_openDepth_4, K_openDepth_2, K_openDepth_9, K_openDepth_8, K_openDepth_6, K_openDepth_13, K_openDepth_12, K_openDepth_10, K_openDepth_17, K_openDepth_16, K_openDepth_14, K_openDepth_21, K_openDepth_20, K_openDepth_18, K_openDepth_25, K_openDepth_24, K_openDepth_22, K_openDepth_27, K_openDepth_26, K_openDepth_23, K_openDepth_19, K_openDepth_15, K_openDepth_11, K_openDepth_7, K_openDepth_3, K_openDepth_1, M_openDepth]
  rw [if_neg (by decide), if_neg (by decide), if_neg (by decide), if_neg (by decide), if_neg (by decide), if_neg (by decide)]
  rfl
theorem r_open {d : Nat} (hd : d ≤ 6) (G A : Nat → Nat → Int64) : M_openDepth (nI d) (G 1) (G 2) (G 3) (G 4) (G 5) (G 6) (A 1) (A 2) (A 3) (A 4) (A 5) (A 6) (A 0) (G 0) = xt7 (zst G d (M_fillJ 8 0 (G d))) (zst A d (M_fillJ 8 (-1) (A d))) := by
  match d, hd with
  | 0, _ => exact od_0
  | 1, _ => exact od_1
  | 2, _ => exact od_2
  | 3, _ => exact od_3
  | 4, _ => exact od_4
  | 5, _ => exact od_5
  | 6, _ => exact od_6
theorem cd_0 {G A : Nat → Nat → Int64} {z : Nat → Int64} {x : Int32} (h : x.toInt < 8) (k : Nat) : K_closeDepth_L3 (nI (0 + 1)) (G 0) (G 1) (G 2) (G 3) (G 4) (G 5) (G 6) z (k + 1) x (A 0) (A 1) (A 2) (A 3) (A 4) (A 5) = K_closeDepth_L3 (nI (0 + 1)) (G 0) (G 1) (G 2) (G 3) (G 4) (G 5) (G 6) z k (x + 1) (zst A 0 (vp_updL (A 0) x.toNatClampNeg (A 0 x.toNatClampNeg &&& G (0 + 1) x.toNatClampNeg)) 0) (zst A 0 (vp_updL (A 0) x.toNatClampNeg (A 0 x.toNatClampNeg &&& G (0 + 1) x.toNatClampNeg)) 1) (zst A 0 (vp_updL (A 0) x.toNatClampNeg (A 0 x.toNatClampNeg &&& G (0 + 1) x.toNatClampNeg)) 2) (zst A 0 (vp_updL (A 0) x.toNatClampNeg (A 0 x.toNatClampNeg &&& G (0 + 1) x.toNatClampNeg)) 3) (zst A 0 (vp_updL (A 0) x.toNatClampNeg (A 0 x.toNatClampNeg &&& G (0 + 1) x.toNatClampNeg)) 4) (zst A 0 (vp_updL (A 0) x.toNatClampNeg (A 0 x.toNatClampNeg &&& G (0 + 1) x.toNatClampNeg)) 5) := by
  simp only [K_closeDepth_L3, K_closeDepth_4, K_closeDepth_6, K_closeDepth_8, K_closeDepth_10, K_closeDepth_12, K_closeDepth_14, K_closeDepth_15, K_closeDepth_13, K_closeDepth_11, K_closeDepth_9, K_closeDepth_7, K_closeDepth_5, K_closeDepth_3, K_closeDepth_2, K_closeDepth_1, M_closeDepth]
  rw [if_neg (by omega), if_pos (by decide)]
  rfl
theorem cd_1 {G A : Nat → Nat → Int64} {z : Nat → Int64} {x : Int32} (h : x.toInt < 8) (k : Nat) : K_closeDepth_L3 (nI (1 + 1)) (G 0) (G 1) (G 2) (G 3) (G 4) (G 5) (G 6) z (k + 1) x (A 0) (A 1) (A 2) (A 3) (A 4) (A 5) = K_closeDepth_L3 (nI (1 + 1)) (G 0) (G 1) (G 2) (G 3) (G 4) (G 5) (G 6) z k (x + 1) (zst A 1 (vp_updL (A 1) x.toNatClampNeg (A 1 x.toNatClampNeg &&& G (1 + 1) x.toNatClampNeg)) 0) (zst A 1 (vp_updL (A 1) x.toNatClampNeg (A 1 x.toNatClampNeg &&& G (1 + 1) x.toNatClampNeg)) 1) (zst A 1 (vp_updL (A 1) x.toNatClampNeg (A 1 x.toNatClampNeg &&& G (1 + 1) x.toNatClampNeg)) 2) (zst A 1 (vp_updL (A 1) x.toNatClampNeg (A 1 x.toNatClampNeg &&& G (1 + 1) x.toNatClampNeg)) 3) (zst A 1 (vp_updL (A 1) x.toNatClampNeg (A 1 x.toNatClampNeg &&& G (1 + 1) x.toNatClampNeg)) 4) (zst A 1 (vp_updL (A 1) x.toNatClampNeg (A 1 x.toNatClampNeg &&& G (1 + 1) x.toNatClampNeg)) 5) := by
  simp only [K_closeDepth_L3, K_closeDepth_4, K_closeDepth_6, K_closeDepth_8, K_closeDepth_10, K_closeDepth_12, K_closeDepth_14, K_closeDepth_15, K_closeDepth_13, K_closeDepth_11, K_closeDepth_9, K_closeDepth_7, K_closeDepth_5, K_closeDepth_3, K_closeDepth_2, K_closeDepth_1, M_closeDepth]
  rw [if_neg (by omega), if_neg (by decide), if_pos (by decide)]
  rfl
theorem cd_2 {G A : Nat → Nat → Int64} {z : Nat → Int64} {x : Int32} (h : x.toInt < 8) (k : Nat) : K_closeDepth_L3 (nI (2 + 1)) (G 0) (G 1) (G 2) (G 3) (G 4) (G 5) (G 6) z (k + 1) x (A 0) (A 1) (A 2) (A 3) (A 4) (A 5) = K_closeDepth_L3 (nI (2 + 1)) (G 0) (G 1) (G 2) (G 3) (G 4) (G 5) (G 6) z k (x + 1) (zst A 2 (vp_updL (A 2) x.toNatClampNeg (A 2 x.toNatClampNeg &&& G (2 + 1) x.toNatClampNeg)) 0) (zst A 2 (vp_updL (A 2) x.toNatClampNeg (A 2 x.toNatClampNeg &&& G (2 + 1) x.toNatClampNeg)) 1) (zst A 2 (vp_updL (A 2) x.toNatClampNeg (A 2 x.toNatClampNeg &&& G (2 + 1) x.toNatClampNeg)) 2) (zst A 2 (vp_updL (A 2) x.toNatClampNeg (A 2 x.toNatClampNeg &&& G (2 + 1) x.toNatClampNeg)) 3) (zst A 2 (vp_updL (A 2) x.toNatClampNeg (A 2 x.toNatClampNeg &&& G (2 + 1) x.toNatClampNeg)) 4) (zst A 2 (vp_updL (A 2) x.toNatClampNeg (A 2 x.toNatClampNeg &&& G (2 + 1) x.toNatClampNeg)) 5) := by
  simp only [K_closeDepth_L3, K_closeDepth_4, K_closeDepth_6, K_closeDepth_8, K_closeDepth_10, K_closeDepth_12, K_closeDepth_14, K_closeDepth_15, K_closeDepth_13, K_closeDepth_11, K_closeDepth_9, K_closeDepth_7, K_closeDepth_5, K_closeDepth_3, K_closeDepth_2, K_closeDepth_1, M_closeDepth]
  rw [if_neg (by omega), if_neg (by decide), if_neg (by decide), if_pos (by decide)]
  rfl
theorem cd_3 {G A : Nat → Nat → Int64} {z : Nat → Int64} {x : Int32} (h : x.toInt < 8) (k : Nat) : K_closeDepth_L3 (nI (3 + 1)) (G 0) (G 1) (G 2) (G 3) (G 4) (G 5) (G 6) z (k + 1) x (A 0) (A 1) (A 2) (A 3) (A 4) (A 5) = K_closeDepth_L3 (nI (3 + 1)) (G 0) (G 1) (G 2) (G 3) (G 4) (G 5) (G 6) z k (x + 1) (zst A 3 (vp_updL (A 3) x.toNatClampNeg (A 3 x.toNatClampNeg &&& G (3 + 1) x.toNatClampNeg)) 0) (zst A 3 (vp_updL (A 3) x.toNatClampNeg (A 3 x.toNatClampNeg &&& G (3 + 1) x.toNatClampNeg)) 1) (zst A 3 (vp_updL (A 3) x.toNatClampNeg (A 3 x.toNatClampNeg &&& G (3 + 1) x.toNatClampNeg)) 2) (zst A 3 (vp_updL (A 3) x.toNatClampNeg (A 3 x.toNatClampNeg &&& G (3 + 1) x.toNatClampNeg)) 3) (zst A 3 (vp_updL (A 3) x.toNatClampNeg (A 3 x.toNatClampNeg &&& G (3 + 1) x.toNatClampNeg)) 4) (zst A 3 (vp_updL (A 3) x.toNatClampNeg (A 3 x.toNatClampNeg &&& G (3 + 1) x.toNatClampNeg)) 5) := by
  simp only [K_closeDepth_L3, K_closeDepth_4, K_closeDepth_6, K_closeDepth_8, K_closeDepth_10, K_closeDepth_12, K_closeDepth_14, K_closeDepth_15, K_closeDepth_13, K_closeDepth_11, K_closeDepth_9, K_closeDepth_7, K_closeDepth_5, K_closeDepth_3, K_closeDepth_2, K_closeDepth_1, M_closeDepth]
  rw [if_neg (by omega), if_neg (by decide), if_neg (by decide), if_neg (by decide), if_pos (by decide)]
  rfl
theorem cd_4 {G A : Nat → Nat → Int64} {z : Nat → Int64} {x : Int32} (h : x.toInt < 8) (k : Nat) : K_closeDepth_L3 (nI (4 + 1)) (G 0) (G 1) (G 2) (G 3) (G 4) (G 5) (G 6) z (k + 1) x (A 0) (A 1) (A 2) (A 3) (A 4) (A 5) = K_closeDepth_L3 (nI (4 + 1)) (G 0) (G 1) (G 2) (G 3) (G 4) (G 5) (G 6) z k (x + 1) (zst A 4 (vp_updL (A 4) x.toNatClampNeg (A 4 x.toNatClampNeg &&& G (4 + 1) x.toNatClampNeg)) 0) (zst A 4 (vp_updL (A 4) x.toNatClampNeg (A 4 x.toNatClampNeg &&& G (4 + 1) x.toNatClampNeg)) 1) (zst A 4 (vp_updL (A 4) x.toNatClampNeg (A 4 x.toNatClampNeg &&& G (4 + 1) x.toNatClampNeg)) 2) (zst A 4 (vp_updL (A 4) x.toNatClampNeg (A 4 x.toNatClampNeg &&& G (4 + 1) x.toNatClampNeg)) 3) (zst A 4 (vp_updL (A 4) x.toNatClampNeg (A 4 x.toNatClampNeg &&& G (4 + 1) x.toNatClampNeg)) 4) (zst A 4 (vp_updL (A 4) x.toNatClampNeg (A 4 x.toNatClampNeg &&& G (4 + 1) x.toNatClampNeg)) 5) := by
  simp only [K_closeDepth_L3, K_closeDepth_4, K_closeDepth_6, K_closeDepth_8, K_closeDepth_10, K_closeDepth_12, K_closeDepth_14, K_closeDepth_15, K_closeDepth_13, K_closeDepth_11, K_closeDepth_9, K_closeDepth_7, K_closeDepth_5, K_closeDepth_3, K_closeDepth_2, K_closeDepth_1, M_closeDepth]
  rw [if_neg (by omega), if_neg (by decide), if_neg (by decide), if_neg (by decide), if_neg (by decide), if_pos (by decide)]
  rfl
theorem cd_5 {G A : Nat → Nat → Int64} {z : Nat → Int64} {x : Int32} (h : x.toInt < 8) (k : Nat) : K_closeDepth_L3 (nI (5 + 1)) (G 0) (G 1) (G 2) (G 3) (G 4) (G 5) (G 6) z (k + 1) x (A 0) (A 1) (A 2) (A 3) (A 4) (A 5) = K_closeDepth_L3 (nI (5 + 1)) (G 0) (G 1) (G 2) (G 3) (G 4) (G 5) (G 6) z k (x + 1) (zst A 5 (vp_updL (A 5) x.toNatClampNeg (A 5 x.toNatClampNeg &&& G (5 + 1) x.toNatClampNeg)) 0) (zst A 5 (vp_updL (A 5) x.toNatClampNeg (A 5 x.toNatClampNeg &&& G (5 + 1) x.toNatClampNeg)) 1) (zst A 5 (vp_updL (A 5) x.toNatClampNeg (A 5 x.toNatClampNeg &&& G (5 + 1) x.toNatClampNeg)) 2) (zst A 5 (vp_updL (A 5) x.toNatClampNeg (A 5 x.toNatClampNeg &&& G (5 + 1) x.toNatClampNeg)) 3) (zst A 5 (vp_updL (A 5) x.toNatClampNeg (A 5 x.toNatClampNeg &&& G (5 + 1) x.toNatClampNeg)) 4) (zst A 5 (vp_updL (A 5) x.toNatClampNeg (A 5 x.toNatClampNeg &&& G (5 + 1) x.toNatClampNeg)) 5) := by
  simp only [K_closeDepth_L3, K_closeDepth_4, K_closeDepth_6, K_closeDepth_8, K_closeDepth_10, K_closeDepth_12, K_closeDepth_14, K_closeDepth_15, K_closeDepth_13, K_closeDepth_11, K_closeDepth_9, K_closeDepth_7, K_closeDepth_5, K_closeDepth_3, K_closeDepth_2, K_closeDepth_1, M_closeDepth]
  rw [if_neg (by omega), if_neg (by decide), if_neg (by decide), if_neg (by decide), if_neg (by decide), if_neg (by decide)]
  rfl
theorem cd_step {G A : Nat → Nat → Int64} {z : Nat → Int64} {d : Nat} (hd : d ≤ 5) {x : Int32} (h : x.toInt < 8) (k : Nat) : K_closeDepth_L3 (nI (d + 1)) (G 0) (G 1) (G 2) (G 3) (G 4) (G 5) (G 6) z (k + 1) x (A 0) (A 1) (A 2) (A 3) (A 4) (A 5) = K_closeDepth_L3 (nI (d + 1)) (G 0) (G 1) (G 2) (G 3) (G 4) (G 5) (G 6) z k (x + 1) (zst A d (vp_updL (A d) x.toNatClampNeg (A d x.toNatClampNeg &&& G (d + 1) x.toNatClampNeg)) 0) (zst A d (vp_updL (A d) x.toNatClampNeg (A d x.toNatClampNeg &&& G (d + 1) x.toNatClampNeg)) 1) (zst A d (vp_updL (A d) x.toNatClampNeg (A d x.toNatClampNeg &&& G (d + 1) x.toNatClampNeg)) 2) (zst A d (vp_updL (A d) x.toNatClampNeg (A d x.toNatClampNeg &&& G (d + 1) x.toNatClampNeg)) 3) (zst A d (vp_updL (A d) x.toNatClampNeg (A d x.toNatClampNeg &&& G (d + 1) x.toNatClampNeg)) 4) (zst A d (vp_updL (A d) x.toNatClampNeg (A d x.toNatClampNeg &&& G (d + 1) x.toNatClampNeg)) 5) := by
  match d, hd with
  | 0, _ => exact cd_0 h k
  | 1, _ => exact cd_1 h k
  | 2, _ => exact cd_2 h k
  | 3, _ => exact cd_3 h k
  | 4, _ => exact cd_4 h k
  | 5, _ => exact cd_5 h k
theorem b_cd {d : Nat} (hd : d ≤ 5) {G : Nat → Nat → Int64} {z : Nat → Int64} : ∀ (m : Nat) (x : Int32) (k : Nat) (A : Nat → Nat → Int64), x.toInt + (m : Int) = 8 → 0 ≤ x.toInt → ∃ a : Nat → Int64, K_closeDepth_L3 (nI (d + 1)) (G 0) (G 1) (G 2) (G 3) (G 4) (G 5) (G 6) z (k + m + 1) x (A 0) (A 1) (A 2) (A 3) (A 4) (A 5) = (nI (d + 1) - 1, G 0, G 1, G 2, G 3, G 4, G 5, G 6, zst A d a 0, zst A d a 1, zst A d a 2, zst A d a 3, zst A d a 4, zst A d a 5, z) ∧ (∀ i : Nat, x.toInt ≤ (i : Int) → i < 8 → a i = A d i &&& G (d + 1) i) ∧ (∀ i : Nat, (i : Int) < x.toInt → a i = A d i) := by
  intro m
  induction m with
  | zero =>
    intro x k A h h0
    have eA : zst A d (A d) = A := by
      funext j
      unfold zst
      split
      · next y => rw [y]
      · rfl
    refine ⟨A d, ?_, fun i h1 h2 => absurd h2 (by omega), fun i _ => rfl⟩
    rw [eA]
    simp only [K_closeDepth_L3, K_closeDepth_4, K_closeDepth_6, K_closeDepth_8, K_closeDepth_10, K_closeDepth_12, K_closeDepth_14, K_closeDepth_15, K_closeDepth_13, K_closeDepth_11, K_closeDepth_9, K_closeDepth_7, K_closeDepth_5, K_closeDepth_3, K_closeDepth_2, K_closeDepth_1, M_closeDepth]
    rw [if_pos (by omega)]
  | succ m ih =>
    intro x k A h h0
    have e : (x + 1).toInt = x.toInt + 1 := xadd rfl (by decide) (by omega) (by omega)
    have xn := xtn (x := x) h0
    obtain ⟨a, h1, h2, h3⟩ := ih (x + 1) k (zst A d (vp_updL (A d) x.toNatClampNeg (A d x.toNatClampNeg &&& G (d + 1) x.toNatClampNeg))) (by omega) (by omega)
    refine ⟨a, ?_, fun i i1 i2 => ?_, fun i i1 => ?_⟩
    · rw [show k + (m + 1) + 1 = (k + m + 1) + 1 from by omega, cd_step hd (by omega), h1, xst_2]
    · by_cases y : i = x.toNatClampNeg
      · have z := h3 i (by omega)
        rw [xst_s, y, xupL_s] at z
        rw [y]
        exact z
      · have z := h2 i (by omega) i2
        rw [xst_s, xupL_o y] at z
        exact z
    · have z := h3 i (by omega)
      rw [xst_s, xupL_o (by omega)] at z
      exact z
theorem jp_0 {A : Nat → Nat → Int64} {pn : Nat → Int32} {x b : Int32} (h : x.toInt < 8) (k : Nat) : K_joinPart_L4 pn b (nI 0) (k + 1) x (A 0) (A 1) (A 2) (A 3) (A 4) (A 5) (A 6) = if 6 ≤ b.toInt then (if ((x >>> ((b - 6) &&& 31)) &&& (1 : Int32)).toInt = 0 then K_joinPart_L4 pn b (nI 0) k (x + 1) (zst A 0 (vp_updL (A 0) x.toNatClampNeg 0) 0) (zst A 0 (vp_updL (A 0) x.toNatClampNeg 0) 1) (zst A 0 (vp_updL (A 0) x.toNatClampNeg 0) 2) (zst A 0 (vp_updL (A 0) x.toNatClampNeg 0) 3) (zst A 0 (vp_updL (A 0) x.toNatClampNeg 0) 4) (zst A 0 (vp_updL (A 0) x.toNatClampNeg 0) 5) (zst A 0 (vp_updL (A 0) x.toNatClampNeg 0) 6) else K_joinPart_L4 pn b (nI 0) k (x + 1) (A 0) (A 1) (A 2) (A 3) (A 4) (A 5) (A 6)) else K_joinPart_L4 pn b (nI 0) k (x + 1) (zst A 0 (vp_updL (A 0) x.toNatClampNeg (A 0 x.toNatClampNeg &&& xinw.getD b.toNatClampNeg 0)) 0) (zst A 0 (vp_updL (A 0) x.toNatClampNeg (A 0 x.toNatClampNeg &&& xinw.getD b.toNatClampNeg 0)) 1) (zst A 0 (vp_updL (A 0) x.toNatClampNeg (A 0 x.toNatClampNeg &&& xinw.getD b.toNatClampNeg 0)) 2) (zst A 0 (vp_updL (A 0) x.toNatClampNeg (A 0 x.toNatClampNeg &&& xinw.getD b.toNatClampNeg 0)) 3) (zst A 0 (vp_updL (A 0) x.toNatClampNeg (A 0 x.toNatClampNeg &&& xinw.getD b.toNatClampNeg 0)) 4) (zst A 0 (vp_updL (A 0) x.toNatClampNeg (A 0 x.toNatClampNeg &&& xinw.getD b.toNatClampNeg 0)) 5) (zst A 0 (vp_updL (A 0) x.toNatClampNeg (A 0 x.toNatClampNeg &&& xinw.getD b.toNatClampNeg 0)) 6) := by
  simp only [K_joinPart_L4, K_joinPart_5, K_joinPart_11, K_joinPart_13, K_joinPart_15, K_joinPart_17, K_joinPart_19, K_joinPart_21, K_joinPart_22, K_joinPart_20, K_joinPart_18, K_joinPart_16, K_joinPart_14, K_joinPart_12, K_joinPart_10, K_joinPart_9, K_joinPart_7, K_joinPart_23, K_joinPart_25, K_joinPart_27, K_joinPart_29, K_joinPart_31, K_joinPart_33, K_joinPart_34, K_joinPart_32, K_joinPart_30, K_joinPart_28, K_joinPart_26, K_joinPart_24, K_joinPart_8, K_joinPart_6, K_joinPart_4, K_joinPart_3, K_joinPart_2, K_joinPart_1, M_joinPart]
  rw [if_neg (by omega)]
  by_cases q : 6 ≤ b.toInt
  · rw [if_pos q, if_pos q]
    by_cases z : ((x >>> ((b - 6) &&& 31)) &&& (1 : Int32)).toInt = 0
    · rw [if_pos z, if_pos z, if_pos (by decide)]
      rfl
    · rw [if_neg z, if_neg z]
  · rw [if_neg q, if_neg q, if_pos (by decide)]
    rfl
theorem jp_1 {A : Nat → Nat → Int64} {pn : Nat → Int32} {x b : Int32} (h : x.toInt < 8) (k : Nat) : K_joinPart_L4 pn b (nI 1) (k + 1) x (A 0) (A 1) (A 2) (A 3) (A 4) (A 5) (A 6) = if 6 ≤ b.toInt then (if ((x >>> ((b - 6) &&& 31)) &&& (1 : Int32)).toInt = 0 then K_joinPart_L4 pn b (nI 1) k (x + 1) (zst A 1 (vp_updL (A 1) x.toNatClampNeg 0) 0) (zst A 1 (vp_updL (A 1) x.toNatClampNeg 0) 1) (zst A 1 (vp_updL (A 1) x.toNatClampNeg 0) 2) (zst A 1 (vp_updL (A 1) x.toNatClampNeg 0) 3) (zst A 1 (vp_updL (A 1) x.toNatClampNeg 0) 4) (zst A 1 (vp_updL (A 1) x.toNatClampNeg 0) 5) (zst A 1 (vp_updL (A 1) x.toNatClampNeg 0) 6) else K_joinPart_L4 pn b (nI 1) k (x + 1) (A 0) (A 1) (A 2) (A 3) (A 4) (A 5) (A 6)) else K_joinPart_L4 pn b (nI 1) k (x + 1) (zst A 1 (vp_updL (A 1) x.toNatClampNeg (A 1 x.toNatClampNeg &&& xinw.getD b.toNatClampNeg 0)) 0) (zst A 1 (vp_updL (A 1) x.toNatClampNeg (A 1 x.toNatClampNeg &&& xinw.getD b.toNatClampNeg 0)) 1) (zst A 1 (vp_updL (A 1) x.toNatClampNeg (A 1 x.toNatClampNeg &&& xinw.getD b.toNatClampNeg 0)) 2) (zst A 1 (vp_updL (A 1) x.toNatClampNeg (A 1 x.toNatClampNeg &&& xinw.getD b.toNatClampNeg 0)) 3) (zst A 1 (vp_updL (A 1) x.toNatClampNeg (A 1 x.toNatClampNeg &&& xinw.getD b.toNatClampNeg 0)) 4) (zst A 1 (vp_updL (A 1) x.toNatClampNeg (A 1 x.toNatClampNeg &&& xinw.getD b.toNatClampNeg 0)) 5) (zst A 1 (vp_updL (A 1) x.toNatClampNeg (A 1 x.toNatClampNeg &&& xinw.getD b.toNatClampNeg 0)) 6) := by
  simp only [K_joinPart_L4, K_joinPart_5, K_joinPart_11, K_joinPart_13, K_joinPart_15, K_joinPart_17, K_joinPart_19, K_joinPart_21, K_joinPart_22, K_joinPart_20, K_joinPart_18, K_joinPart_16, K_joinPart_14, K_joinPart_12, K_joinPart_10, K_joinPart_9, K_joinPart_7, K_joinPart_23, K_joinPart_25, K_joinPart_27, K_joinPart_29, K_joinPart_31, K_joinPart_33, K_joinPart_34, K_joinPart_32, K_joinPart_30, K_joinPart_28, K_joinPart_26, K_joinPart_24, K_joinPart_8, K_joinPart_6, K_joinPart_4, K_joinPart_3, K_joinPart_2, K_joinPart_1, M_joinPart]
  rw [if_neg (by omega)]
  by_cases q : 6 ≤ b.toInt
  · rw [if_pos q, if_pos q]
    by_cases z : ((x >>> ((b - 6) &&& 31)) &&& (1 : Int32)).toInt = 0
    · rw [if_pos z, if_pos z, if_neg (by decide), if_pos (by decide)]
      rfl
    · rw [if_neg z, if_neg z]
  · rw [if_neg q, if_neg q, if_neg (by decide), if_pos (by decide)]
    rfl
theorem jp_2 {A : Nat → Nat → Int64} {pn : Nat → Int32} {x b : Int32} (h : x.toInt < 8) (k : Nat) : K_joinPart_L4 pn b (nI 2) (k + 1) x (A 0) (A 1) (A 2) (A 3) (A 4) (A 5) (A 6) = if 6 ≤ b.toInt then (if ((x >>> ((b - 6) &&& 31)) &&& (1 : Int32)).toInt = 0 then K_joinPart_L4 pn b (nI 2) k (x + 1) (zst A 2 (vp_updL (A 2) x.toNatClampNeg 0) 0) (zst A 2 (vp_updL (A 2) x.toNatClampNeg 0) 1) (zst A 2 (vp_updL (A 2) x.toNatClampNeg 0) 2) (zst A 2 (vp_updL (A 2) x.toNatClampNeg 0) 3) (zst A 2 (vp_updL (A 2) x.toNatClampNeg 0) 4) (zst A 2 (vp_updL (A 2) x.toNatClampNeg 0) 5) (zst A 2 (vp_updL (A 2) x.toNatClampNeg 0) 6) else K_joinPart_L4 pn b (nI 2) k (x + 1) (A 0) (A 1) (A 2) (A 3) (A 4) (A 5) (A 6)) else K_joinPart_L4 pn b (nI 2) k (x + 1) (zst A 2 (vp_updL (A 2) x.toNatClampNeg (A 2 x.toNatClampNeg &&& xinw.getD b.toNatClampNeg 0)) 0) (zst A 2 (vp_updL (A 2) x.toNatClampNeg (A 2 x.toNatClampNeg &&& xinw.getD b.toNatClampNeg 0)) 1) (zst A 2 (vp_updL (A 2) x.toNatClampNeg (A 2 x.toNatClampNeg &&& xinw.getD b.toNatClampNeg 0)) 2) (zst A 2 (vp_updL (A 2) x.toNatClampNeg (A 2 x.toNatClampNeg &&& xinw.getD b.toNatClampNeg 0)) 3) (zst A 2 (vp_updL (A 2) x.toNatClampNeg (A 2 x.toNatClampNeg &&& xinw.getD b.toNatClampNeg 0)) 4) (zst A 2 (vp_updL (A 2) x.toNatClampNeg (A 2 x.toNatClampNeg &&& xinw.getD b.toNatClampNeg 0)) 5) (zst A 2 (vp_updL (A 2) x.toNatClampNeg (A 2 x.toNatClampNeg &&& xinw.getD b.toNatClampNeg 0)) 6) := by
  simp only [K_joinPart_L4, K_joinPart_5, K_joinPart_11, K_joinPart_13, K_joinPart_15, K_joinPart_17, K_joinPart_19, K_joinPart_21, K_joinPart_22, K_joinPart_20, K_joinPart_18, K_joinPart_16, K_joinPart_14, K_joinPart_12, K_joinPart_10, K_joinPart_9, K_joinPart_7, K_joinPart_23, K_joinPart_25, K_joinPart_27, K_joinPart_29, K_joinPart_31, K_joinPart_33, K_joinPart_34, K_joinPart_32, K_joinPart_30, K_joinPart_28, K_joinPart_26, K_joinPart_24, K_joinPart_8, K_joinPart_6, K_joinPart_4, K_joinPart_3, K_joinPart_2, K_joinPart_1, M_joinPart]
  rw [if_neg (by omega)]
  by_cases q : 6 ≤ b.toInt
  · rw [if_pos q, if_pos q]
    by_cases z : ((x >>> ((b - 6) &&& 31)) &&& (1 : Int32)).toInt = 0
    · rw [if_pos z, if_pos z, if_neg (by decide), if_neg (by decide), if_pos (by decide)]
      rfl
    · rw [if_neg z, if_neg z]
  · rw [if_neg q, if_neg q, if_neg (by decide), if_neg (by decide), if_pos (by decide)]
    rfl
theorem jp_3 {A : Nat → Nat → Int64} {pn : Nat → Int32} {x b : Int32} (h : x.toInt < 8) (k : Nat) : K_joinPart_L4 pn b (nI 3) (k + 1) x (A 0) (A 1) (A 2) (A 3) (A 4) (A 5) (A 6) = if 6 ≤ b.toInt then (if ((x >>> ((b - 6) &&& 31)) &&& (1 : Int32)).toInt = 0 then K_joinPart_L4 pn b (nI 3) k (x + 1) (zst A 3 (vp_updL (A 3) x.toNatClampNeg 0) 0) (zst A 3 (vp_updL (A 3) x.toNatClampNeg 0) 1) (zst A 3 (vp_updL (A 3) x.toNatClampNeg 0) 2) (zst A 3 (vp_updL (A 3) x.toNatClampNeg 0) 3) (zst A 3 (vp_updL (A 3) x.toNatClampNeg 0) 4) (zst A 3 (vp_updL (A 3) x.toNatClampNeg 0) 5) (zst A 3 (vp_updL (A 3) x.toNatClampNeg 0) 6) else K_joinPart_L4 pn b (nI 3) k (x + 1) (A 0) (A 1) (A 2) (A 3) (A 4) (A 5) (A 6)) else K_joinPart_L4 pn b (nI 3) k (x + 1) (zst A 3 (vp_updL (A 3) x.toNatClampNeg (A 3 x.toNatClampNeg &&& xinw.getD b.toNatClampNeg 0)) 0) (zst A 3 (vp_updL (A 3) x.toNatClampNeg (A 3 x.toNatClampNeg &&& xinw.getD b.toNatClampNeg 0)) 1) (zst A 3 (vp_updL (A 3) x.toNatClampNeg (A 3 x.toNatClampNeg &&& xinw.getD b.toNatClampNeg 0)) 2) (zst A 3 (vp_updL (A 3) x.toNatClampNeg (A 3 x.toNatClampNeg &&& xinw.getD b.toNatClampNeg 0)) 3) (zst A 3 (vp_updL (A 3) x.toNatClampNeg (A 3 x.toNatClampNeg &&& xinw.getD b.toNatClampNeg 0)) 4) (zst A 3 (vp_updL (A 3) x.toNatClampNeg (A 3 x.toNatClampNeg &&& xinw.getD b.toNatClampNeg 0)) 5) (zst A 3 (vp_updL (A 3) x.toNatClampNeg (A 3 x.toNatClampNeg &&& xinw.getD b.toNatClampNeg 0)) 6) := by
  simp only [K_joinPart_L4, K_joinPart_5, K_joinPart_11, K_joinPart_13, K_joinPart_15, K_joinPart_17, K_joinPart_19, K_joinPart_21, K_joinPart_22, K_joinPart_20, K_joinPart_18, K_joinPart_16, K_joinPart_14, K_joinPart_12, K_joinPart_10, K_joinPart_9, K_joinPart_7, K_joinPart_23, K_joinPart_25, K_joinPart_27, K_joinPart_29, K_joinPart_31, K_joinPart_33, K_joinPart_34, K_joinPart_32, K_joinPart_30, K_joinPart_28, K_joinPart_26, K_joinPart_24, K_joinPart_8, K_joinPart_6, K_joinPart_4, K_joinPart_3, K_joinPart_2, K_joinPart_1, M_joinPart]
  rw [if_neg (by omega)]
  by_cases q : 6 ≤ b.toInt
  · rw [if_pos q, if_pos q]
    by_cases z : ((x >>> ((b - 6) &&& 31)) &&& (1 : Int32)).toInt = 0
    · rw [if_pos z, if_pos z, if_neg (by decide), if_neg (by decide), if_neg (by decide), if_pos (by decide)]
      rfl
    · rw [if_neg z, if_neg z]
  · rw [if_neg q, if_neg q, if_neg (by decide), if_neg (by decide), if_neg (by decide), if_pos (by decide)]
    rfl
theorem jp_4 {A : Nat → Nat → Int64} {pn : Nat → Int32} {x b : Int32} (h : x.toInt < 8) (k : Nat) : K_joinPart_L4 pn b (nI 4) (k + 1) x (A 0) (A 1) (A 2) (A 3) (A 4) (A 5) (A 6) = if 6 ≤ b.toInt then (if ((x >>> ((b - 6) &&& 31)) &&& (1 : Int32)).toInt = 0 then K_joinPart_L4 pn b (nI 4) k (x + 1) (zst A 4 (vp_updL (A 4) x.toNatClampNeg 0) 0) (zst A 4 (vp_updL (A 4) x.toNatClampNeg 0) 1) (zst A 4 (vp_updL (A 4) x.toNatClampNeg 0) 2) (zst A 4 (vp_updL (A 4) x.toNatClampNeg 0) 3) (zst A 4 (vp_updL (A 4) x.toNatClampNeg 0) 4) (zst A 4 (vp_updL (A 4) x.toNatClampNeg 0) 5) (zst A 4 (vp_updL (A 4) x.toNatClampNeg 0) 6) else K_joinPart_L4 pn b (nI 4) k (x + 1) (A 0) (A 1) (A 2) (A 3) (A 4) (A 5) (A 6)) else K_joinPart_L4 pn b (nI 4) k (x + 1) (zst A 4 (vp_updL (A 4) x.toNatClampNeg (A 4 x.toNatClampNeg &&& xinw.getD b.toNatClampNeg 0)) 0) (zst A 4 (vp_updL (A 4) x.toNatClampNeg (A 4 x.toNatClampNeg &&& xinw.getD b.toNatClampNeg 0)) 1) (zst A 4 (vp_updL (A 4) x.toNatClampNeg (A 4 x.toNatClampNeg &&& xinw.getD b.toNatClampNeg 0)) 2) (zst A 4 (vp_updL (A 4) x.toNatClampNeg (A 4 x.toNatClampNeg &&& xinw.getD b.toNatClampNeg 0)) 3) (zst A 4 (vp_updL (A 4) x.toNatClampNeg (A 4 x.toNatClampNeg &&& xinw.getD b.toNatClampNeg 0)) 4) (zst A 4 (vp_updL (A 4) x.toNatClampNeg (A 4 x.toNatClampNeg &&& xinw.getD b.toNatClampNeg 0)) 5) (zst A 4 (vp_updL (A 4) x.toNatClampNeg (A 4 x.toNatClampNeg &&& xinw.getD b.toNatClampNeg 0)) 6) := by
  simp only [K_joinPart_L4, K_joinPart_5, K_joinPart_11, K_joinPart_13, K_joinPart_15, K_joinPart_17, K_joinPart_19, K_joinPart_21, K_joinPart_22, K_joinPart_20, K_joinPart_18, K_joinPart_16, K_joinPart_14, K_joinPart_12, K_joinPart_10, K_joinPart_9, K_joinPart_7, K_joinPart_23, K_joinPart_25, K_joinPart_27, K_joinPart_29, K_joinPart_31, K_joinPart_33, K_joinPart_34, K_joinPart_32, K_joinPart_30, K_joinPart_28, K_joinPart_26, K_joinPart_24, K_joinPart_8, K_joinPart_6, K_joinPart_4, K_joinPart_3, K_joinPart_2, K_joinPart_1, M_joinPart]
  rw [if_neg (by omega)]
  by_cases q : 6 ≤ b.toInt
  · rw [if_pos q, if_pos q]
    by_cases z : ((x >>> ((b - 6) &&& 31)) &&& (1 : Int32)).toInt = 0
    · rw [if_pos z, if_pos z, if_neg (by decide), if_neg (by decide), if_neg (by decide), if_neg (by decide), if_pos (by decide)]
      rfl
    · rw [if_neg z, if_neg z]
  · rw [if_neg q, if_neg q, if_neg (by decide), if_neg (by decide), if_neg (by decide), if_neg (by decide), if_pos (by decide)]
    rfl
theorem jp_5 {A : Nat → Nat → Int64} {pn : Nat → Int32} {x b : Int32} (h : x.toInt < 8) (k : Nat) : K_joinPart_L4 pn b (nI 5) (k + 1) x (A 0) (A 1) (A 2) (A 3) (A 4) (A 5) (A 6) = if 6 ≤ b.toInt then (if ((x >>> ((b - 6) &&& 31)) &&& (1 : Int32)).toInt = 0 then K_joinPart_L4 pn b (nI 5) k (x + 1) (zst A 5 (vp_updL (A 5) x.toNatClampNeg 0) 0) (zst A 5 (vp_updL (A 5) x.toNatClampNeg 0) 1) (zst A 5 (vp_updL (A 5) x.toNatClampNeg 0) 2) (zst A 5 (vp_updL (A 5) x.toNatClampNeg 0) 3) (zst A 5 (vp_updL (A 5) x.toNatClampNeg 0) 4) (zst A 5 (vp_updL (A 5) x.toNatClampNeg 0) 5) (zst A 5 (vp_updL (A 5) x.toNatClampNeg 0) 6) else K_joinPart_L4 pn b (nI 5) k (x + 1) (A 0) (A 1) (A 2) (A 3) (A 4) (A 5) (A 6)) else K_joinPart_L4 pn b (nI 5) k (x + 1) (zst A 5 (vp_updL (A 5) x.toNatClampNeg (A 5 x.toNatClampNeg &&& xinw.getD b.toNatClampNeg 0)) 0) (zst A 5 (vp_updL (A 5) x.toNatClampNeg (A 5 x.toNatClampNeg &&& xinw.getD b.toNatClampNeg 0)) 1) (zst A 5 (vp_updL (A 5) x.toNatClampNeg (A 5 x.toNatClampNeg &&& xinw.getD b.toNatClampNeg 0)) 2) (zst A 5 (vp_updL (A 5) x.toNatClampNeg (A 5 x.toNatClampNeg &&& xinw.getD b.toNatClampNeg 0)) 3) (zst A 5 (vp_updL (A 5) x.toNatClampNeg (A 5 x.toNatClampNeg &&& xinw.getD b.toNatClampNeg 0)) 4) (zst A 5 (vp_updL (A 5) x.toNatClampNeg (A 5 x.toNatClampNeg &&& xinw.getD b.toNatClampNeg 0)) 5) (zst A 5 (vp_updL (A 5) x.toNatClampNeg (A 5 x.toNatClampNeg &&& xinw.getD b.toNatClampNeg 0)) 6) := by
  simp only [K_joinPart_L4, K_joinPart_5, K_joinPart_11, K_joinPart_13, K_joinPart_15, K_joinPart_17, K_joinPart_19, K_joinPart_21, K_joinPart_22, K_joinPart_20, K_joinPart_18, K_joinPart_16, K_joinPart_14, K_joinPart_12, K_joinPart_10, K_joinPart_9, K_joinPart_7, K_joinPart_23, K_joinPart_25, K_joinPart_27, K_joinPart_29, K_joinPart_31, K_joinPart_33, K_joinPart_34, K_joinPart_32, K_joinPart_30, K_joinPart_28, K_joinPart_26, K_joinPart_24, K_joinPart_8, K_joinPart_6, K_joinPart_4, K_joinPart_3, K_joinPart_2, K_joinPart_1, M_joinPart]
  rw [if_neg (by omega)]
  by_cases q : 6 ≤ b.toInt
  · rw [if_pos q, if_pos q]
    by_cases z : ((x >>> ((b - 6) &&& 31)) &&& (1 : Int32)).toInt = 0
    · rw [if_pos z, if_pos z, if_neg (by decide), if_neg (by decide), if_neg (by decide), if_neg (by decide), if_neg (by decide), if_pos (by decide)]
      rfl
    · rw [if_neg z, if_neg z]
  · rw [if_neg q, if_neg q, if_neg (by decide), if_neg (by decide), if_neg (by decide), if_neg (by decide), if_neg (by decide), if_pos (by decide)]
    rfl
theorem jp_6 {A : Nat → Nat → Int64} {pn : Nat → Int32} {x b : Int32} (h : x.toInt < 8) (k : Nat) : K_joinPart_L4 pn b (nI 6) (k + 1) x (A 0) (A 1) (A 2) (A 3) (A 4) (A 5) (A 6) = if 6 ≤ b.toInt then (if ((x >>> ((b - 6) &&& 31)) &&& (1 : Int32)).toInt = 0 then K_joinPart_L4 pn b (nI 6) k (x + 1) (zst A 6 (vp_updL (A 6) x.toNatClampNeg 0) 0) (zst A 6 (vp_updL (A 6) x.toNatClampNeg 0) 1) (zst A 6 (vp_updL (A 6) x.toNatClampNeg 0) 2) (zst A 6 (vp_updL (A 6) x.toNatClampNeg 0) 3) (zst A 6 (vp_updL (A 6) x.toNatClampNeg 0) 4) (zst A 6 (vp_updL (A 6) x.toNatClampNeg 0) 5) (zst A 6 (vp_updL (A 6) x.toNatClampNeg 0) 6) else K_joinPart_L4 pn b (nI 6) k (x + 1) (A 0) (A 1) (A 2) (A 3) (A 4) (A 5) (A 6)) else K_joinPart_L4 pn b (nI 6) k (x + 1) (zst A 6 (vp_updL (A 6) x.toNatClampNeg (A 6 x.toNatClampNeg &&& xinw.getD b.toNatClampNeg 0)) 0) (zst A 6 (vp_updL (A 6) x.toNatClampNeg (A 6 x.toNatClampNeg &&& xinw.getD b.toNatClampNeg 0)) 1) (zst A 6 (vp_updL (A 6) x.toNatClampNeg (A 6 x.toNatClampNeg &&& xinw.getD b.toNatClampNeg 0)) 2) (zst A 6 (vp_updL (A 6) x.toNatClampNeg (A 6 x.toNatClampNeg &&& xinw.getD b.toNatClampNeg 0)) 3) (zst A 6 (vp_updL (A 6) x.toNatClampNeg (A 6 x.toNatClampNeg &&& xinw.getD b.toNatClampNeg 0)) 4) (zst A 6 (vp_updL (A 6) x.toNatClampNeg (A 6 x.toNatClampNeg &&& xinw.getD b.toNatClampNeg 0)) 5) (zst A 6 (vp_updL (A 6) x.toNatClampNeg (A 6 x.toNatClampNeg &&& xinw.getD b.toNatClampNeg 0)) 6) := by
  simp only [K_joinPart_L4, K_joinPart_5, K_joinPart_11, K_joinPart_13, K_joinPart_15, K_joinPart_17, K_joinPart_19, K_joinPart_21, K_joinPart_22, K_joinPart_20, K_joinPart_18, K_joinPart_16, K_joinPart_14, K_joinPart_12, K_joinPart_10, K_joinPart_9, K_joinPart_7, K_joinPart_23, K_joinPart_25, K_joinPart_27, K_joinPart_29, K_joinPart_31, K_joinPart_33, K_joinPart_34, K_joinPart_32, K_joinPart_30, K_joinPart_28, K_joinPart_26, K_joinPart_24, K_joinPart_8, K_joinPart_6, K_joinPart_4, K_joinPart_3, K_joinPart_2, K_joinPart_1, M_joinPart]
  rw [if_neg (by omega)]
  by_cases q : 6 ≤ b.toInt
  · rw [if_pos q, if_pos q]
    by_cases z : ((x >>> ((b - 6) &&& 31)) &&& (1 : Int32)).toInt = 0
    · rw [if_pos z, if_pos z, if_neg (by decide), if_neg (by decide), if_neg (by decide), if_neg (by decide), if_neg (by decide), if_neg (by decide)]
      rfl
    · rw [if_neg z, if_neg z]
  · rw [if_neg q, if_neg q, if_neg (by decide), if_neg (by decide), if_neg (by decide), if_neg (by decide), if_neg (by decide), if_neg (by decide)]
    rfl
theorem jp_step {A : Nat → Nat → Int64} {pn : Nat → Int32} {d : Nat} (hd : d ≤ 6) {x b : Int32} (h : x.toInt < 8) (k : Nat) : K_joinPart_L4 pn b (nI d) (k + 1) x (A 0) (A 1) (A 2) (A 3) (A 4) (A 5) (A 6) = if 6 ≤ b.toInt then (if ((x >>> ((b - 6) &&& 31)) &&& (1 : Int32)).toInt = 0 then K_joinPart_L4 pn b (nI d) k (x + 1) (zst A d (vp_updL (A d) x.toNatClampNeg 0) 0) (zst A d (vp_updL (A d) x.toNatClampNeg 0) 1) (zst A d (vp_updL (A d) x.toNatClampNeg 0) 2) (zst A d (vp_updL (A d) x.toNatClampNeg 0) 3) (zst A d (vp_updL (A d) x.toNatClampNeg 0) 4) (zst A d (vp_updL (A d) x.toNatClampNeg 0) 5) (zst A d (vp_updL (A d) x.toNatClampNeg 0) 6) else K_joinPart_L4 pn b (nI d) k (x + 1) (A 0) (A 1) (A 2) (A 3) (A 4) (A 5) (A 6)) else K_joinPart_L4 pn b (nI d) k (x + 1) (zst A d (vp_updL (A d) x.toNatClampNeg (A d x.toNatClampNeg &&& xinw.getD b.toNatClampNeg 0)) 0) (zst A d (vp_updL (A d) x.toNatClampNeg (A d x.toNatClampNeg &&& xinw.getD b.toNatClampNeg 0)) 1) (zst A d (vp_updL (A d) x.toNatClampNeg (A d x.toNatClampNeg &&& xinw.getD b.toNatClampNeg 0)) 2) (zst A d (vp_updL (A d) x.toNatClampNeg (A d x.toNatClampNeg &&& xinw.getD b.toNatClampNeg 0)) 3) (zst A d (vp_updL (A d) x.toNatClampNeg (A d x.toNatClampNeg &&& xinw.getD b.toNatClampNeg 0)) 4) (zst A d (vp_updL (A d) x.toNatClampNeg (A d x.toNatClampNeg &&& xinw.getD b.toNatClampNeg 0)) 5) (zst A d (vp_updL (A d) x.toNatClampNeg (A d x.toNatClampNeg &&& xinw.getD b.toNatClampNeg 0)) 6) := by
  match d, hd with
  | 0, _ => exact jp_0 h k
  | 1, _ => exact jp_1 h k
  | 2, _ => exact jp_2 h k
  | 3, _ => exact jp_3 h k
  | 4, _ => exact jp_4 h k
  | 5, _ => exact jp_5 h k
  | 6, _ => exact jp_6 h k
/-- the word of a part: where it is in -/
def xpw (b : Int32) (i : Nat) : Int64 := if 6 ≤ b.toInt then (if ((nI i >>> ((b - 6) &&& 31)) &&& (1 : Int32)).toInt = 0 then 0 else -1) else xinw.getD b.toNatClampNeg 0
theorem xan0 (x : Int64) : x &&& 0 = 0 := by
  apply Int64.toBitVec_inj.mp
  rw [Int64.toBitVec_and]
  exact BitVec.and_zero
theorem xan1 (x : Int64) : x &&& (-1) = x := by
  apply Int64.toBitVec_inj.mp
  rw [Int64.toBitVec_and]
  exact BitVec.and_allOnes
theorem b_jp {d : Nat} (hd : d ≤ 6) {pn : Nat → Int32} {b : Int32} : ∀ (m : Nat) (x : Int32) (k : Nat) (A : Nat → Nat → Int64), x.toInt + (m : Int) = 8 → 0 ≤ x.toInt → ∃ a : Nat → Int64, K_joinPart_L4 pn b (nI d) (k + m + 1) x (A 0) (A 1) (A 2) (A 3) (A 4) (A 5) (A 6) = (zst A d a 0, zst A d a 1, zst A d a 2, zst A d a 3, zst A d a 4, zst A d a 5, zst A d a 6, pn) ∧ (∀ i : Nat, x.toInt ≤ (i : Int) → i < 8 → a i = A d i &&& xpw b i) ∧ (∀ i : Nat, (i : Int) < x.toInt → a i = A d i) := by
  intro m
  induction m with
  | zero =>
    intro x k A h h0
    have eA : zst A d (A d) = A := by
      funext j
      unfold zst
      split
      · next y => rw [y]
      · rfl
    refine ⟨A d, ?_, fun i h1 h2 => absurd h2 (by omega), fun i _ => rfl⟩
    rw [eA]
    simp only [K_joinPart_L4, K_joinPart_5, K_joinPart_11, K_joinPart_13, K_joinPart_15, K_joinPart_17, K_joinPart_19, K_joinPart_21, K_joinPart_22, K_joinPart_20, K_joinPart_18, K_joinPart_16, K_joinPart_14, K_joinPart_12, K_joinPart_10, K_joinPart_9, K_joinPart_7, K_joinPart_23, K_joinPart_25, K_joinPart_27, K_joinPart_29, K_joinPart_31, K_joinPart_33, K_joinPart_34, K_joinPart_32, K_joinPart_30, K_joinPart_28, K_joinPart_26, K_joinPart_24, K_joinPart_8, K_joinPart_6, K_joinPart_4, K_joinPart_3, K_joinPart_2, K_joinPart_1, M_joinPart]
    rw [if_pos (by omega)]
  | succ m ih =>
    intro x k A h h0
    have e : (x + 1).toInt = x.toInt + 1 := xadd rfl (by decide) (by omega) (by omega)
    have xn := xtn (x := x) h0
    have xi : nI x.toNatClampNeg = x := xnI h0
    have go := jp_step (A := A) (pn := pn) (b := b) hd (x := x) (by omega) (k + m + 1)
    by_cases q : 6 ≤ b.toInt
    · rw [if_pos q] at go
      by_cases w : ((x >>> ((b - 6) &&& 31)) &&& (1 : Int32)).toInt = 0
      · rw [if_pos w] at go
        have pw : xpw b x.toNatClampNeg = 0 := by
          unfold xpw
          rw [if_pos q, xi, if_pos w]
        obtain ⟨a, h1, h2, h3⟩ := ih (x + 1) k (zst A d (vp_updL (A d) x.toNatClampNeg 0)) (by omega) (by omega)
        refine ⟨a, ?_, fun i i1 i2 => ?_, fun i i1 => ?_⟩
        · rw [show k + (m + 1) + 1 = (k + m + 1) + 1 from by omega, go, h1, xst_2]
        · by_cases y : i = x.toNatClampNeg
          · have z := h3 i (by omega)
            rw [xst_s, y, xupL_s] at z
            rw [y, z]
            rw [pw, xan0]
          · have z := h2 i (by omega) i2
            rw [xst_s, xupL_o y] at z
            exact z
        · have z := h3 i (by omega)
          rw [xst_s, xupL_o (by omega)] at z
          exact z
      · rw [if_neg w] at go
        have pw : xpw b x.toNatClampNeg = -1 := by
          unfold xpw
          rw [if_pos q, xi, if_neg w]
        obtain ⟨a, h1, h2, h3⟩ := ih (x + 1) k A (by omega) (by omega)
        refine ⟨a, ?_, fun i i1 i2 => ?_, fun i i1 => h3 i (by omega)⟩
        · rw [show k + (m + 1) + 1 = (k + m + 1) + 1 from by omega, go, h1]
        · by_cases y : i = x.toNatClampNeg
          · rw [y, pw, xan1, h3 _ (by omega)]
          · exact h2 i (by omega) i2
    · rw [if_neg q] at go
      have pw : xpw b x.toNatClampNeg = xinw.getD b.toNatClampNeg 0 := by
        unfold xpw
        rw [if_neg q]
      obtain ⟨a, h1, h2, h3⟩ := ih (x + 1) k (zst A d (vp_updL (A d) x.toNatClampNeg (A d x.toNatClampNeg &&& xinw.getD b.toNatClampNeg 0))) (by omega) (by omega)
      refine ⟨a, ?_, fun i i1 i2 => ?_, fun i i1 => ?_⟩
      · rw [show k + (m + 1) + 1 = (k + m + 1) + 1 from by omega, go, h1, xst_2]
      · by_cases y : i = x.toNatClampNeg
        · have z := h3 i (by omega)
          rw [xst_s, y, xupL_s] at z
          rw [y, z]
          rw [pw]
        · have z := h2 i (by omega) i2
          rw [xst_s, xupL_o y] at z
          exact z
      · have z := h3 i (by omega)
        rw [xst_s, xupL_o (by omega)] at z
        exact z
