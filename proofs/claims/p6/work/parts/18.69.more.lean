section
variable {f rf pn c ur ua : Nat → Int32} {G A : Nat → Nat → Int64} {n r us nc pl kd fr vl dep fl fp mv mw so : Int32}
theorem U_letter (c1 : kd.toInt = 1) (w : ¬ xW6 f fr pl) (x : 0 ≤ (M_railNamed pl fr f).toInt) : M_takeUnit kd pl fr vl dep rf (G 0) (G 1) (G 2) (G 3) (G 4) (G 5) (G 6) (A 0) (A 1) (A 2) (A 3) (A 4) (A 5) (A 6) pn fl fp n f r = (fun z => (fun t => (0, t.1, t.2.1, t.2.2.1, t.2.2.2.1, dep, t.2.2.2.2.1, t.2.2.2.2.2, M_noteUse rf (M_railNamed pl fr f) fr, G 0, G 1, G 2, G 3, G 4, G 5, G 6, z.1, z.2.1, z.2.2.1, z.2.2.2.1, z.2.2.2.2.1, z.2.2.2.2.2.1, z.2.2.2.2.2.2.1, z.2.2.2.2.2.2.2)) (M_step n f fl fp kd pl)) (M_joinPart (M_railNamed pl fr f) dep (A 0) (A 1) (A 2) (A 3) (A 4) (A 5) (A 6) pn r) := by
  have e : (M_isSign kd vl 40).toInt = 0 := by rw [t_isSign, if_neg (by omega)]; decide
  have i6 : (M_isWord kd pl fr 3 f 6).toInt = 0 := by rw [w_key, if_neg (fun z => w z.2)]; decide
  simp only [K_takeUnit_18, K_takeUnit_12, K_takeUnit_17, K_takeUnit_16, K_takeUnit_15, K_takeUnit_14, K_takeUnit_13, K_takeUnit_11, K_takeUnit_10, K_takeUnit_8, K_takeUnit_20, K_takeUnit_19, K_takeUnit_9, K_takeUnit_7, K_takeUnit_5, K_takeUnit_21, K_takeUnit_6, K_takeUnit_3, K_takeUnit_25, K_takeUnit_24, K_takeUnit_22, K_takeUnit_26, K_takeUnit_23, K_takeUnit_4, K_takeUnit_2, K_takeUnit_1, M_takeUnit]
  simp only [if_pos e, if_pos c1, if_pos i6, if_neg (by omega : ¬ (M_railNamed pl fr f).toInt = -4)]
theorem U_bad (q : fl.toInt = 0) (c1 : kd.toInt = 1) (w : ¬ xW6 f fr pl) (x : (M_railNamed pl fr f).toInt = -4) : M_takeUnit kd pl fr vl dep rf (G 0) (G 1) (G 2) (G 3) (G 4) (G 5) (G 6) (A 0) (A 1) (A 2) (A 3) (A 4) (A 5) (A 6) pn fl fp n f r = (0, pl, kd, fr, vl, dep, 3, fr, rf, G 0, G 1, G 2, G 3, G 4, G 5, G 6, A 0, A 1, A 2, A 3, A 4, A 5, A 6, pn) := by
  have e : (M_isSign kd vl 40).toInt = 0 := by rw [t_isSign, if_neg (by omega)]; decide
  have i6 : (M_isWord kd pl fr 3 f 6).toInt = 0 := by rw [w_key, if_neg (fun z => w z.2)]; decide
  simp only [K_takeUnit_18, K_takeUnit_12, K_takeUnit_17, K_takeUnit_16, K_takeUnit_15, K_takeUnit_14, K_takeUnit_13, K_takeUnit_11, K_takeUnit_10, K_takeUnit_8, K_takeUnit_20, K_takeUnit_19, K_takeUnit_9, K_takeUnit_7, K_takeUnit_5, K_takeUnit_21, K_takeUnit_6, K_takeUnit_3, K_takeUnit_25, K_takeUnit_24, K_takeUnit_22, K_takeUnit_26, K_takeUnit_23, K_takeUnit_4, K_takeUnit_2, K_takeUnit_1, M_takeUnit, t_refuse q]
  simp only [if_pos e, if_pos c1, if_pos i6, if_pos x]
theorem L_letter (q : fl.toInt = 0) (x : 0 ≤ (M_m_nameNow pl fr n f).toInt ∧ (M_m_nameNow pl fr n f).toInt ≤ 7) : M_m_readLetter us nc c ur ua fr mv n f pl so fl mw = (fun t => (us + 1, nc + 1, t.1, t.2.1, t.2.2.1, t.2.2.2.1, t.2.2.2.2.1, t.2.2.2.2.2, upd c nc.toNatClampNeg (M_m_nameNow pl fr n f), upd ur us.toNatClampNeg (M_m_nameNow pl fr n f), upd ua us.toNatClampNeg fr)) (M_m_next fl mv mw n f pl fr so) := by
  simp only [K_m_readLetter_9, K_m_readLetter_7, K_m_readLetter_8, K_m_readLetter_6, K_m_readLetter_5, K_m_readLetter_3, K_m_readLetter_21, K_m_readLetter_19, K_m_readLetter_20, K_m_readLetter_18, K_m_readLetter_17, K_m_readLetter_11, K_m_readLetter_16, K_m_readLetter_14, K_m_readLetter_15, K_m_readLetter_13, K_m_readLetter_12, K_m_readLetter_10, K_m_readLetter_4, K_m_readLetter_2, K_m_readLetter_1, M_m_readLetter]
  simp only [if_pos x, t_wants1, if_pos q]
theorem L_key (q : fl.toInt = 0) (x : (M_m_nameNow pl fr n f).toInt = 28) : M_m_readLetter us nc c ur ua fr mv n f pl so fl mw = (fun t => (us, nc + 1, t.1, t.2.1, t.2.2.1, t.2.2.2.1, t.2.2.2.2.1, t.2.2.2.2.2, upd c nc.toNatClampNeg 8, ur, ua)) (M_m_next fl mv mw n f pl fr so) := by
  simp only [K_m_readLetter_9, K_m_readLetter_7, K_m_readLetter_8, K_m_readLetter_6, K_m_readLetter_5, K_m_readLetter_3, K_m_readLetter_21, K_m_readLetter_19, K_m_readLetter_20, K_m_readLetter_18, K_m_readLetter_17, K_m_readLetter_11, K_m_readLetter_16, K_m_readLetter_14, K_m_readLetter_15, K_m_readLetter_13, K_m_readLetter_12, K_m_readLetter_10, K_m_readLetter_4, K_m_readLetter_2, K_m_readLetter_1, M_m_readLetter]
  simp only [if_neg (by omega : ¬ (0 ≤ (M_m_nameNow pl fr n f).toInt ∧ (M_m_nameNow pl fr n f).toInt ≤ 7)), if_pos x, t_wants1, if_pos q]
theorem L_bad (q : fl.toInt = 0) (x : ¬ (0 ≤ (M_m_nameNow pl fr n f).toInt ∧ (M_m_nameNow pl fr n f).toInt ≤ 7)) (x2 : ¬ (M_m_nameNow pl fr n f).toInt = 28) : M_m_readLetter us nc c ur ua fr mv n f pl so fl mw = (us, nc, pl, fr, so, mv, 3, fr, c, ur, ua) := by
  simp only [K_m_readLetter_9, K_m_readLetter_7, K_m_readLetter_8, K_m_readLetter_6, K_m_readLetter_5, K_m_readLetter_3, K_m_readLetter_21, K_m_readLetter_19, K_m_readLetter_20, K_m_readLetter_18, K_m_readLetter_17, K_m_readLetter_11, K_m_readLetter_16, K_m_readLetter_14, K_m_readLetter_15, K_m_readLetter_13, K_m_readLetter_12, K_m_readLetter_10, K_m_readLetter_4, K_m_readLetter_2, K_m_readLetter_1, M_m_readLetter]
  simp only [if_neg x, if_neg x2, t_wantsF q, if_neg (show ¬ (3 : Int32).toInt = 0 from by decide), t_next_id (show 0 < (3 : Int32).toInt from by decide)]
end
theorem nIm1 {d : Nat} (h : d ≤ 400) : nI (d + 1) - 1 = nI d := Int32.toInt_inj.mp (by
  have e1 : (nI (d + 1)).toInt = ((d + 1 : Nat) : Int) := nI_toInt (by omega)
  have e2 : (nI d).toInt = (d : Int) := nI_toInt (by omega)
  have e3 : (nI (d + 1) - 1).toInt = ((d + 1 : Nat) : Int) - 1 := xsub e1 (by decide) (by omega) (by omega)
  omega)
theorem xupd_2 {f : Nat → Int32} {i : Nat} {x y : Int32} : upd (upd f i x) i y = upd f i y := by
  funext j
  by_cases q : j = i
  · rw [q, xupd_s, xupd_s]
  · rw [xupd_o q, xupd_o q, xupd_o q]
/-- where a RAIL's names stand -/
def xKn (r : Int32) : Nat := ((r * 8) + 7).toNatClampNeg
theorem r_jp {d : Nat} (hd : d ≤ 6) (pn : Nat → Int32) (b r : Int32) (A : Nat → Nat → Int64) : ∃ a : Nat → Int64, M_joinPart b (nI d) (A 0) (A 1) (A 2) (A 3) (A 4) (A 5) (A 6) pn r = (zst A d a 0, zst A d a 1, zst A d a 2, zst A d a 3, zst A d a 4, zst A d a 5, zst A d a 6, upd pn (xKn r) (pn (xKn r) ||| ((1 : Int32) <<< (b &&& 31)))) ∧ ∀ i : Nat, i < 8 → a i = A d i &&& xpw b i := by
  obtain ⟨a, h1, h2, -⟩ := b_jp hd (pn := upd pn (xKn r) (pn (xKn r) ||| ((1 : Int32) <<< (b &&& 31)))) (b := b) 8 0 99991 A (by decide) (by decide)
  refine ⟨a, ?_, fun i hi => h2 i (by have z : (0 : Int32).toInt = 0 := (by decide); omega) hi⟩
  rw [← h1]
  simp only [K_joinPart_5, K_joinPart_11, K_joinPart_13, K_joinPart_15, K_joinPart_17, K_joinPart_19, K_joinPart_21, K_joinPart_22, K_joinPart_20, K_joinPart_18, K_joinPart_16, K_joinPart_14, K_joinPart_12, K_joinPart_10, K_joinPart_9, K_joinPart_7, K_joinPart_23, K_joinPart_25, K_joinPart_27, K_joinPart_29, K_joinPart_31, K_joinPart_33, K_joinPart_34, K_joinPart_32, K_joinPart_30, K_joinPart_28, K_joinPart_26, K_joinPart_24, K_joinPart_8, K_joinPart_6, K_joinPart_4, K_joinPart_3, K_joinPart_2, K_joinPart_1, M_joinPart, K_number_1, M_number, K_setNumber_1, M_setNumber]
  rfl
theorem r_cd {d : Nat} (hd : d ≤ 5) (G A : Nat → Nat → Int64) : ∃ g a a2 : Nat → Int64, M_closeDepth (nI (d + 1)) (G 0) (G 1) (G 2) (G 3) (G 4) (G 5) (G 6) (A 0) (A 1) (A 2) (A 3) (A 4) (A 5) (A 6) = (nI d, zst G (d + 1) g 0, zst G (d + 1) g 1, zst G (d + 1) g 2, zst G (d + 1) g 3, zst G (d + 1) g 4, zst G (d + 1) g 5, zst G (d + 1) g 6, zst (zst A (d + 1) a) d a2 0, zst (zst A (d + 1) a) d a2 1, zst (zst A (d + 1) a) d a2 2, zst (zst A (d + 1) a) d a2 3, zst (zst A (d + 1) a) d a2 4, zst (zst A (d + 1) a) d a2 5, zst (zst A (d + 1) a) d a2 6) ∧ (∀ i : Nat, i < 8 → g i = G (d + 1) i ||| A (d + 1) i ∧ a i = -1) ∧ ∀ i : Nat, i < 8 → a2 i = A d i &&& g i := by
  obtain ⟨g, a, e, hga⟩ := r_ja (show d + 1 ≤ 6 by omega) G A
  obtain ⟨a2, h1, h2, -⟩ := b_cd hd (G := zst G (d + 1) g) (z := zst A (d + 1) a 6) 8 0 99991 (zst A (d + 1) a) (by decide) (by decide)
  have z0 : (0 : Int32).toInt = 0 := by decide
  refine ⟨g, a, a2, ?_, hga, fun i hi => ?_⟩
  · have e6 : zst (zst A (d + 1) a) d a2 6 = zst A (d + 1) a 6 := xst_o (by omega)
    rw [e6, ← nIm1 (d := d) (by omega), ← h1]
    simp only [K_closeDepth_4, K_closeDepth_6, K_closeDepth_8, K_closeDepth_10, K_closeDepth_12, K_closeDepth_14, K_closeDepth_15, K_closeDepth_13, K_closeDepth_11, K_closeDepth_9, K_closeDepth_7, K_closeDepth_5, K_closeDepth_3, K_closeDepth_2, K_closeDepth_1, M_closeDepth]
    rw [e]
    rfl
  · have z := h2 i (by omega) hi
    rw [xst_s, xst_o (by omega)] at z
    exact z
/-- the names in the signs told so far -/
def xnm (c : Nat → Int32) : Nat → Int32
  | 0 => 0
  | n + 1 => if 9 ≤ (c n).toInt then xnm c n ||| 0 else xnm c n ||| ((1 : Int32) <<< (c n &&& 31))
theorem xor00 (x : Int32) : x ||| 0 = x := by
  apply Int32.toBitVec_inj.mp
  rw [Int32.toBitVec_or]
  exact BitVec.or_zero
theorem xnm_ext {c c' : Nat → Int32} {n : Nat} (h : ∀ j, j < n → c j = c' j) : xnm c n = xnm c' n := by
  induction n with
  | zero => rfl
  | succ n ih => rw [xnm, xnm, h n (by omega), ih (fun j hj => h j (by omega))]
theorem xnm_one : ∀ k : Fin 9, ((1 : Int32) <<< (nI k.val &&& 31)).toBitVec.getLsbD k.val = true := by decide +kernel
/-- a letter told is among the names -/
theorem xnm_bit {c : Nat → Int32} : ∀ n j : Nat, j < n → 0 ≤ (c j).toInt → (c j).toInt < 9 → (xnm c n).toBitVec.getLsbD (c j).toInt.toNat = true := by
  intro n
  induction n with
  | zero => exact fun j hj => absurd hj (by omega)
  | succ n ih =>
    intro j hj h0 h9
    rw [xnm]
    by_cases e : j = n
    · subst e
      have ec : c j = nI (c j).toInt.toNat := Int32.toInt_inj.mp (by rw [nI_toInt (by omega)]; omega)
      have z := xnm_one ⟨(c j).toInt.toNat, by omega⟩
      dsimp only at z
      rw [← ec] at z
      rw [if_neg (by omega), Int32.toBitVec_or, BitVec.getLsbD_or, z, Bool.or_true]
    · have z := ih j (by omega) h0 h9
      split
      · rw [Int32.toBitVec_or, BitVec.getLsbD_or, z, Bool.true_or]
      · rw [Int32.toBitVec_or, BitVec.getLsbD_or, z, Bool.true_or]
theorem xnm_put {c : Nat → Int32} {n : Nat} {x : Int32} (hx : x.toInt < 9) : xnm (upd c n x) (n + 1) = xnm c n ||| ((1 : Int32) <<< (x &&& 31)) := by
  rw [xnm, xupd_s, xnm_ext (c' := c) (fun j hj => xupd_o (by omega)), if_neg (by omega)]
theorem xnm_dn {c c' : Nat → Int32} {n : Nat} : ∀ m : Nat, (∀ j, j < n → c' j = c j) → (∀ j, n ≤ j → j < n + m → 9 ≤ (c' j).toInt) → xnm c' (n + m) = xnm c n := by
  intro m
  induction m with
  | zero => exact fun h _ => xnm_ext h
  | succ m ih =>
    intro h1 h2
    show xnm c' ((n + m) + 1) = _
    rw [xnm, if_pos (h2 (n + m) (by omega) (by omega)), ih h1 (fun j a b => h2 j a (by omega)), xor00]
/-- done, on all that is told so far -/
theorem r_done {w c : Nat → Int32} {nc nw : Int32} (e : Int32) {d : Nat} {G A : Nat → Nat → Int64} (h : xS true d G A c w nc.toNatClampNeg nw.toNatClampNeg) (h0 : 0 ≤ nc.toInt) (h1 : 0 ≤ nw.toInt) (h2 : nc.toInt + nw.toInt ≤ 400) : ∃ (nc' nw' : Int32) (c' : Nat → Int32), M_m_done w e nc nw c = (nc', nw', c') ∧ 0 ≤ nw'.toInt ∧ nw'.toInt ≤ nw.toInt ∧ nc'.toInt + nw'.toInt = nc.toInt + nw.toInt ∧ xDn e.toInt c w nc.toNatClampNeg nw.toNatClampNeg c' nc'.toNatClampNeg nw'.toNatClampNeg ∧ xnm c' nc'.toNatClampNeg = xnm c nc.toNatClampNeg := by
  obtain ⟨a1, a2, a3, a4⟩ := h
  have n1 := xtn (x := nw) h1
  have n0 := xtn (x := nc) h0
  obtain ⟨nc', nw', c', b1, b2, b3, b4, b5, b6, b7, b8⟩ := b_done (w := w) (e := e) nw.toNatClampNeg nc nw c (99999 - nw.toNatClampNeg) (by omega) h0 h2 (fun j hj => by have := a1 j hj; omega) a3 (fun s hs => by
    have z := a4 s hs
    rw [if_pos rfl, xcb] at z
    exact xdp_2 z)
  have n2 := xtn (x := nw') b2
  have n3 := xtn (x := nc') (by omega)
  have new : ∀ j : Nat, nc.toNatClampNeg ≤ j → j < nc'.toNatClampNeg → (c' j).toInt ≠ 12 ∧ ∃ i, i < nw.toNatClampNeg ∧ c' j = w i := fun j j1 j2 => b8 j (by omega) (by omega)
  refine ⟨nc', nw', c', ?_, b2, b3, b4, ⟨by omega, b5, b6, fun j hj => b7 j (by omega), new⟩, ?_⟩
  · rw [← b1, show 99999 - nw.toNatClampNeg + nw.toNatClampNeg + 1 = 100000 from by omega]
    rfl
  · have z := xnm_dn (c := c) (c' := c') (n := nc.toNatClampNeg) (nc'.toNatClampNeg - nc.toNatClampNeg) (fun j hj => b7 j (by omega)) (fun j j1 j2 => by
      obtain ⟨-, i, i1, i2⟩ := new j j1 (by omega)
      have := a1 i i1
      rw [i2]
      omega)
    rw [show nc.toNatClampNeg + (nc'.toNatClampNeg - nc.toNatClampNeg) = nc'.toNatClampNeg from by omega] at z
    exact z
