-- 90.next
/-- four rows of what goes: one on both sides for RAILS that are told; the others are OFF -/
def xR4 (q : Nat) (rs ri ra rg S I U G : Nat → Int32) : Prop := (∀ j, j < q → rs j = S j ∧ ri j = I j ∧ ra j = U j ∧ rg j = G j ∧ 0 ≤ (S j).toInt ∧ (S j).toInt ≤ 4) ∧ ∀ j, q ≤ j → j < 8 → rs j = 0
theorem xupd_id {f : Nat → Int32} {i : Nat} : upd f i (f i) = f := by
  funext j
  by_cases e : j = i
  · rw [e, xupd_s]
  · rw [xupd_o e]
theorem xadd0 (x : Int32) : x + 0 = x := by
  apply Int32.toBitVec_inj.mp
  rw [Int32.toBitVec_add]
  exact BitVec.add_zero _
/-- what is noted -/
theorem r_note {ysz t r w mh : Int32} {ya yb yc H : Nat → Int32} (h : xHi ysz ya yb yc mh H) (hy : 0 ≤ ysz.toInt ∧ ysz.toInt ≤ 64) : xHi (M_note ysz ya t yb r yc w).1 (M_note ysz ya t yb r yc w).2.1 (M_note ysz ya t yb r yc w).2.2.1 (M_note ysz ya t yb r yc w).2.2.2 (M_m_happens mh H t r w).1 (M_m_happens mh H t r w).2 ∧ (0 ≤ (M_note ysz ya t yb r yc w).1.toInt ∧ (M_note ysz ya t yb r yc w).1.toInt ≤ 64) := by
  obtain ⟨e, hj⟩ := h
  subst e
  simp only [K_note_2, K_note_3, K_note_1, M_note, K_m_happens_2, K_m_happens_3, K_m_happens_1, M_m_happens]
  by_cases q : ysz.toInt < 64
  · rw [if_pos q, if_neg (by omega)]
    have y1 : (ysz + 1).toInt = ysz.toInt + 1 := xadd rfl (by decide) (by omega) (by omega)
    have yn := xtn (x := ysz) hy.1
    have ey : nI ysz.toNatClampNeg = ysz := xnI hy.1
    have i0 : ((3 : Int32) * ysz).toNatClampNeg = 3 * ysz.toNatClampNeg := by
      rw [← ey, show (3 : Int32) * nI ysz.toNatClampNeg = nI (3 * ysz.toNatClampNeg) from pk_mul 3 _, nI_clamp (by omega), nI_clamp (by omega)]
    have i1 : ((3 : Int32) * ysz + 1).toNatClampNeg = 3 * ysz.toNatClampNeg + 1 := by
      rw [← ey, show (3 : Int32) * nI ysz.toNatClampNeg = nI (3 * ysz.toNatClampNeg) from pk_mul 3 _, nI_1, nI_clamp (by omega), nI_clamp (by omega)]
    have i2 : ((3 : Int32) * ysz + 2).toNatClampNeg = 3 * ysz.toNatClampNeg + 2 := by
      rw [← ey, show (3 : Int32) * nI ysz.toNatClampNeg = nI (3 * ysz.toNatClampNeg) from pk_mul 3 _, show nI (3 * ysz.toNatClampNeg) + 2 = nI (3 * ysz.toNatClampNeg + 2) from nI_add _ 2, nI_clamp (by omega), nI_clamp (by omega)]
    rw [i0, i1, i2]
    refine ⟨⟨rfl, fun j hj1 => ?_⟩, by show 0 ≤ (ysz + 1).toInt ∧ (ysz + 1).toInt ≤ 64; omega⟩
    have hj1 : (j : Int) < (ysz + 1).toInt := hj1
    by_cases z : j = ysz.toNatClampNeg
    · rw [z]
      dsimp only
      rw [xupd_s, xupd_s, xupd_s]
      refine ⟨?_, ?_, ?_⟩
      · rw [xupd_o (by omega), xupd_o (by omega), xupd_s]
      · rw [xupd_o (by omega), xupd_s]
      · rw [xupd_s]
    · obtain ⟨a, b, c⟩ := hj j (by omega)
      dsimp only
      rw [xupd_o z, xupd_o z, xupd_o z]
      refine ⟨?_, ?_, ?_⟩
      · rw [xupd_o (by omega), xupd_o (by omega), xupd_o (by omega)]
        exact a
      · rw [xupd_o (by omega), xupd_o (by omega), xupd_o (by omega)]
        exact b
      · rw [xupd_o (by omega), xupd_o (by omega), xupd_o (by omega)]
        exact c
  · rw [if_neg q, if_pos (by omega)]
    exact ⟨⟨rfl, hj⟩, hy⟩
/-- what a RAIL becomes: one on both sides -/
theorem r_next {dead may : Int32} {rs ri rt pn S I K Td D : Nat → Int32} {x : Nat} (hx : x < 8) (hs : rs x = S x) (hi : ri x = I x) (hk : rt x = K x) (h5 : pn (8 * x + 5) = Td (7 * x + 5)) (h2 : pn (8 * x + 2) = Td (7 * x + 2)) (h4 : 0 ≤ (S x).toInt ∧ (S x).toInt ≤ 4) (hd : xDd dead D) {ok : Bool} (hm : (ok = false ∧ may = 0) ∨ (ok = true ∧ may = 1)) (k1 : 1 ≤ (K x).toInt) : M_nextState dead (nI x) rs may ri pn rt = (if (M_m_becomes S (nI x) may I Td D K).toInt = -4 then S x else M_m_becomes S (nI x) may I Td D K) ∧ ((M_m_becomes S (nI x) may I Td D K).toInt = -4 ∨ (0 ≤ (M_m_becomes S (nI x) may I Td D K).toInt ∧ (M_m_becomes S (nI x) may I Td D K).toInt ≤ 4 ∧ M_m_becomes S (nI x) may I Td D K ≠ S x)) ∧ ((M_m_becomes S (nI x) may I Td D K).toInt = -4 ∨ xStep ok (S x).toInt (I x).toInt (M_m_becomes S (nI x) may I Td D K).toInt 0) := by
  have xc : (nI x).toNatClampNeg = x := nI_clamp (by omega)
  have e85 : ((nI x * 8) + 5).toNatClampNeg = 8 * x + 5 := xi8 (k := 5) hx (by decide)
  have e82 : ((nI x * 8) + 2).toNatClampNeg = 8 * x + 2 := xi8 (k := 2) hx (by decide)
  have e75 : (((7 : Int32) * nI x) + 5).toNatClampNeg = 7 * x + 5 := xi7 (k := 5) hx (by decide)
  have e72 : (((7 : Int32) * nI x) + 2).toNatClampNeg = 7 * x + 2 := xi7 (k := 2) hx (by decide)
  have fin : ∀ n b : Int32, M_nextState dead (nI x) rs may ri pn rt = n → M_m_becomes S (nI x) may I Td D K = b → (n = (if b.toInt = -4 then S x else b) ∧ (b.toInt = -4 ∨ (0 ≤ b.toInt ∧ b.toInt ≤ 4 ∧ b ≠ S x)) ∧ (b.toInt = -4 ∨ xStep ok (S x).toInt (I x).toInt b.toInt 0)) → M_nextState dead (nI x) rs may ri pn rt = (if (M_m_becomes S (nI x) may I Td D K).toInt = -4 then S x else M_m_becomes S (nI x) may I Td D K) ∧ ((M_m_becomes S (nI x) may I Td D K).toInt = -4 ∨ (0 ≤ (M_m_becomes S (nI x) may I Td D K).toInt ∧ (M_m_becomes S (nI x) may I Td D K).toInt ≤ 4 ∧ M_m_becomes S (nI x) may I Td D K ≠ S x)) ∧ ((M_m_becomes S (nI x) may I Td D K).toInt = -4 ∨ xStep ok (S x).toInt (I x).toInt (M_m_becomes S (nI x) may I Td D K).toInt 0) := by
    intro n b e1 e2 e3
    rw [e1, e2]
    exact e3
  rcases hd x hx with ⟨f0, b0⟩ | ⟨f1, b1⟩
  · have cd : ((dead >>> (nI x &&& 31)) &&& (1 : Int32)).toInt = 0 := (xsr_0 dead (by omega)).mpr b0
    have dz : (D x).toInt = 0 := by rw [f0]; decide
    rcases (show (S x).toInt = 0 ∨ (S x).toInt = 1 ∨ (S x).toInt = 2 ∨ (S x).toInt = 3 ∨ (S x).toInt = 4 by omega) with s | s | s | s | s
    · have es : S x = 0 := Int32.toInt_inj.mp (by rw [s]; decide)
      rcases hm with ⟨mo, m⟩ | ⟨mo, m⟩
      · skip
        have e1 : M_nextState dead (nI x) rs may ri pn rt = (0 : Int32) := by
          simp (decide := true) only [K_nextState_28, K_nextState_29, K_nextState_26, K_nextState_33, K_nextState_35, K_nextState_36, K_nextState_34, K_nextState_32, K_nextState_30, K_nextState_40, K_nextState_41, K_nextState_42, K_nextState_39, K_nextState_37, K_nextState_45, K_nextState_46, K_nextState_43, K_nextState_48, K_nextState_49, K_nextState_47, K_nextState_44, K_nextState_38, K_nextState_31, K_nextState_27, K_nextState_3, K_nextState_6, K_nextState_7, K_nextState_4, K_nextState_11, K_nextState_13, K_nextState_14, K_nextState_12, K_nextState_10, K_nextState_8, K_nextState_18, K_nextState_17, K_nextState_15, K_nextState_21, K_nextState_22, K_nextState_19, K_nextState_24, K_nextState_25, K_nextState_23, K_nextState_20, K_nextState_16, K_nextState_9, K_nextState_5, K_nextState_2, K_nextState_1, M_nextState, K_number_1, M_number, xc, e85, e82, hs, hi, hk, h5, h2, es, m, cd, ↓reduceIte]
        have e2 : M_m_becomes S (nI x) may I Td D K = (-4 : Int32) := by
          simp (decide := true) only [K_m_becomes_4, K_m_becomes_5, K_m_becomes_2, K_m_becomes_9, K_m_becomes_11, K_m_becomes_12, K_m_becomes_10, K_m_becomes_8, K_m_becomes_6, K_m_becomes_16, K_m_becomes_19, K_m_becomes_20, K_m_becomes_18, K_m_becomes_17, K_m_becomes_15, K_m_becomes_13, K_m_becomes_23, K_m_becomes_25, K_m_becomes_26, K_m_becomes_24, K_m_becomes_21, K_m_becomes_28, K_m_becomes_29, K_m_becomes_27, K_m_becomes_22, K_m_becomes_14, K_m_becomes_7, K_m_becomes_3, K_m_becomes_1, M_m_becomes, K_m_of_1, M_m_of, xc, e75, e72, es, m, cd, ↓reduceIte]
        exact fin _ _ e1 e2 ⟨by rw [if_pos (by decide), es], Or.inl (by decide), Or.inl (by decide)⟩
      · skip
        have e1 : M_nextState dead (nI x) rs may ri pn rt = (1 : Int32) := by
          simp (decide := true) only [K_nextState_28, K_nextState_29, K_nextState_26, K_nextState_33, K_nextState_35, K_nextState_36, K_nextState_34, K_nextState_32, K_nextState_30, K_nextState_40, K_nextState_41, K_nextState_42, K_nextState_39, K_nextState_37, K_nextState_45, K_nextState_46, K_nextState_43, K_nextState_48, K_nextState_49, K_nextState_47, K_nextState_44, K_nextState_38, K_nextState_31, K_nextState_27, K_nextState_3, K_nextState_6, K_nextState_7, K_nextState_4, K_nextState_11, K_nextState_13, K_nextState_14, K_nextState_12, K_nextState_10, K_nextState_8, K_nextState_18, K_nextState_17, K_nextState_15, K_nextState_21, K_nextState_22, K_nextState_19, K_nextState_24, K_nextState_25, K_nextState_23, K_nextState_20, K_nextState_16, K_nextState_9, K_nextState_5, K_nextState_2, K_nextState_1, M_nextState, K_number_1, M_number, xc, e85, e82, hs, hi, hk, h5, h2, es, m, cd, ↓reduceIte]
        have e2 : M_m_becomes S (nI x) may I Td D K = (1 : Int32) := by
          simp (decide := true) only [K_m_becomes_4, K_m_becomes_5, K_m_becomes_2, K_m_becomes_9, K_m_becomes_11, K_m_becomes_12, K_m_becomes_10, K_m_becomes_8, K_m_becomes_6, K_m_becomes_16, K_m_becomes_19, K_m_becomes_20, K_m_becomes_18, K_m_becomes_17, K_m_becomes_15, K_m_becomes_13, K_m_becomes_23, K_m_becomes_25, K_m_becomes_26, K_m_becomes_24, K_m_becomes_21, K_m_becomes_28, K_m_becomes_29, K_m_becomes_27, K_m_becomes_22, K_m_becomes_14, K_m_becomes_7, K_m_becomes_3, K_m_becomes_1, M_m_becomes, K_m_of_1, M_m_of, xc, e75, e72, es, m, cd, ↓reduceIte]
        exact fin _ _ e1 e2 ⟨by rw [if_neg (by decide)], Or.inr ⟨by decide, by decide, by rw [es]; decide⟩, Or.inr (Or.inr ⟨rfl, Or.inl ⟨s, mo, (by decide)⟩⟩)⟩
    · have es : S x = 1 := Int32.toInt_inj.mp (by rw [s]; decide)
      rcases hm with ⟨mo, m⟩ | ⟨mo, m⟩
      · skip
        have e1 : M_nextState dead (nI x) rs may ri pn rt = (0 : Int32) := by
          simp (decide := true) only [K_nextState_28, K_nextState_29, K_nextState_26, K_nextState_33, K_nextState_35, K_nextState_36, K_nextState_34, K_nextState_32, K_nextState_30, K_nextState_40, K_nextState_41, K_nextState_42, K_nextState_39, K_nextState_37, K_nextState_45, K_nextState_46, K_nextState_43, K_nextState_48, K_nextState_49, K_nextState_47, K_nextState_44, K_nextState_38, K_nextState_31, K_nextState_27, K_nextState_3, K_nextState_6, K_nextState_7, K_nextState_4, K_nextState_11, K_nextState_13, K_nextState_14, K_nextState_12, K_nextState_10, K_nextState_8, K_nextState_18, K_nextState_17, K_nextState_15, K_nextState_21, K_nextState_22, K_nextState_19, K_nextState_24, K_nextState_25, K_nextState_23, K_nextState_20, K_nextState_16, K_nextState_9, K_nextState_5, K_nextState_2, K_nextState_1, M_nextState, K_number_1, M_number, xc, e85, e82, hs, hi, hk, h5, h2, es, m, cd, ↓reduceIte]
        have e2 : M_m_becomes S (nI x) may I Td D K = (0 : Int32) := by
          simp (decide := true) only [K_m_becomes_4, K_m_becomes_5, K_m_becomes_2, K_m_becomes_9, K_m_becomes_11, K_m_becomes_12, K_m_becomes_10, K_m_becomes_8, K_m_becomes_6, K_m_becomes_16, K_m_becomes_19, K_m_becomes_20, K_m_becomes_18, K_m_becomes_17, K_m_becomes_15, K_m_becomes_13, K_m_becomes_23, K_m_becomes_25, K_m_becomes_26, K_m_becomes_24, K_m_becomes_21, K_m_becomes_28, K_m_becomes_29, K_m_becomes_27, K_m_becomes_22, K_m_becomes_14, K_m_becomes_7, K_m_becomes_3, K_m_becomes_1, M_m_becomes, K_m_of_1, M_m_of, xc, e75, e72, es, m, cd, ↓reduceIte]
        exact fin _ _ e1 e2 ⟨by rw [if_neg (by decide)], Or.inr ⟨by decide, by decide, by rw [es]; decide⟩, Or.inr (Or.inr ⟨rfl, Or.inr (Or.inl ⟨s, mo, (by decide)⟩)⟩)⟩
      · skip
        by_cases t : (I x).toInt < (Td (7 * x + 5)).toInt
        · skip
          have e1 : M_nextState dead (nI x) rs may ri pn rt = (1 : Int32) := by
            simp (decide := true) only [K_nextState_28, K_nextState_29, K_nextState_26, K_nextState_33, K_nextState_35, K_nextState_36, K_nextState_34, K_nextState_32, K_nextState_30, K_nextState_40, K_nextState_41, K_nextState_42, K_nextState_39, K_nextState_37, K_nextState_45, K_nextState_46, K_nextState_43, K_nextState_48, K_nextState_49, K_nextState_47, K_nextState_44, K_nextState_38, K_nextState_31, K_nextState_27, K_nextState_3, K_nextState_6, K_nextState_7, K_nextState_4, K_nextState_11, K_nextState_13, K_nextState_14, K_nextState_12, K_nextState_10, K_nextState_8, K_nextState_18, K_nextState_17, K_nextState_15, K_nextState_21, K_nextState_22, K_nextState_19, K_nextState_24, K_nextState_25, K_nextState_23, K_nextState_20, K_nextState_16, K_nextState_9, K_nextState_5, K_nextState_2, K_nextState_1, M_nextState, K_number_1, M_number, xc, e85, e82, hs, hi, hk, h5, h2, es, m, cd, t, ↓reduceIte]
          have e2 : M_m_becomes S (nI x) may I Td D K = (-4 : Int32) := by
            simp (decide := true) only [K_m_becomes_4, K_m_becomes_5, K_m_becomes_2, K_m_becomes_9, K_m_becomes_11, K_m_becomes_12, K_m_becomes_10, K_m_becomes_8, K_m_becomes_6, K_m_becomes_16, K_m_becomes_19, K_m_becomes_20, K_m_becomes_18, K_m_becomes_17, K_m_becomes_15, K_m_becomes_13, K_m_becomes_23, K_m_becomes_25, K_m_becomes_26, K_m_becomes_24, K_m_becomes_21, K_m_becomes_28, K_m_becomes_29, K_m_becomes_27, K_m_becomes_22, K_m_becomes_14, K_m_becomes_7, K_m_becomes_3, K_m_becomes_1, M_m_becomes, K_m_of_1, M_m_of, xc, e75, e72, es, m, cd, t, ↓reduceIte]
          exact fin _ _ e1 e2 ⟨by rw [if_pos (by decide), es], Or.inl (by decide), Or.inl (by decide)⟩
        · skip
          have e1 : M_nextState dead (nI x) rs may ri pn rt = (2 : Int32) := by
            simp (decide := true) only [K_nextState_28, K_nextState_29, K_nextState_26, K_nextState_33, K_nextState_35, K_nextState_36, K_nextState_34, K_nextState_32, K_nextState_30, K_nextState_40, K_nextState_41, K_nextState_42, K_nextState_39, K_nextState_37, K_nextState_45, K_nextState_46, K_nextState_43, K_nextState_48, K_nextState_49, K_nextState_47, K_nextState_44, K_nextState_38, K_nextState_31, K_nextState_27, K_nextState_3, K_nextState_6, K_nextState_7, K_nextState_4, K_nextState_11, K_nextState_13, K_nextState_14, K_nextState_12, K_nextState_10, K_nextState_8, K_nextState_18, K_nextState_17, K_nextState_15, K_nextState_21, K_nextState_22, K_nextState_19, K_nextState_24, K_nextState_25, K_nextState_23, K_nextState_20, K_nextState_16, K_nextState_9, K_nextState_5, K_nextState_2, K_nextState_1, M_nextState, K_number_1, M_number, xc, e85, e82, hs, hi, hk, h5, h2, es, m, cd, t, ↓reduceIte]
          have e2 : M_m_becomes S (nI x) may I Td D K = (2 : Int32) := by
            simp (decide := true) only [K_m_becomes_4, K_m_becomes_5, K_m_becomes_2, K_m_becomes_9, K_m_becomes_11, K_m_becomes_12, K_m_becomes_10, K_m_becomes_8, K_m_becomes_6, K_m_becomes_16, K_m_becomes_19, K_m_becomes_20, K_m_becomes_18, K_m_becomes_17, K_m_becomes_15, K_m_becomes_13, K_m_becomes_23, K_m_becomes_25, K_m_becomes_26, K_m_becomes_24, K_m_becomes_21, K_m_becomes_28, K_m_becomes_29, K_m_becomes_27, K_m_becomes_22, K_m_becomes_14, K_m_becomes_7, K_m_becomes_3, K_m_becomes_1, M_m_becomes, K_m_of_1, M_m_of, xc, e75, e72, es, m, cd, t, ↓reduceIte]
          exact fin _ _ e1 e2 ⟨by rw [if_neg (by decide)], Or.inr ⟨by decide, by decide, by rw [es]; decide⟩, Or.inr (Or.inr ⟨rfl, Or.inr (Or.inr (Or.inl ⟨s, mo, (by decide)⟩))⟩)⟩
    · have es : S x = 2 := Int32.toInt_inj.mp (by rw [s]; decide)
      rcases hm with ⟨mo, m⟩ | ⟨mo, m⟩
      · skip
        have e1 : M_nextState dead (nI x) rs may ri pn rt = (4 : Int32) := by
          simp (decide := true) only [K_nextState_28, K_nextState_29, K_nextState_26, K_nextState_33, K_nextState_35, K_nextState_36, K_nextState_34, K_nextState_32, K_nextState_30, K_nextState_40, K_nextState_41, K_nextState_42, K_nextState_39, K_nextState_37, K_nextState_45, K_nextState_46, K_nextState_43, K_nextState_48, K_nextState_49, K_nextState_47, K_nextState_44, K_nextState_38, K_nextState_31, K_nextState_27, K_nextState_3, K_nextState_6, K_nextState_7, K_nextState_4, K_nextState_11, K_nextState_13, K_nextState_14, K_nextState_12, K_nextState_10, K_nextState_8, K_nextState_18, K_nextState_17, K_nextState_15, K_nextState_21, K_nextState_22, K_nextState_19, K_nextState_24, K_nextState_25, K_nextState_23, K_nextState_20, K_nextState_16, K_nextState_9, K_nextState_5, K_nextState_2, K_nextState_1, M_nextState, K_number_1, M_number, xc, e85, e82, hs, hi, hk, h5, h2, es, m, cd, ↓reduceIte]
        have e2 : M_m_becomes S (nI x) may I Td D K = (4 : Int32) := by
          simp (decide := true) only [K_m_becomes_4, K_m_becomes_5, K_m_becomes_2, K_m_becomes_9, K_m_becomes_11, K_m_becomes_12, K_m_becomes_10, K_m_becomes_8, K_m_becomes_6, K_m_becomes_16, K_m_becomes_19, K_m_becomes_20, K_m_becomes_18, K_m_becomes_17, K_m_becomes_15, K_m_becomes_13, K_m_becomes_23, K_m_becomes_25, K_m_becomes_26, K_m_becomes_24, K_m_becomes_21, K_m_becomes_28, K_m_becomes_29, K_m_becomes_27, K_m_becomes_22, K_m_becomes_14, K_m_becomes_7, K_m_becomes_3, K_m_becomes_1, M_m_becomes, K_m_of_1, M_m_of, xc, e75, e72, es, m, cd, ↓reduceIte]
        exact fin _ _ e1 e2 ⟨by rw [if_neg (by decide)], Or.inr ⟨by decide, by decide, by rw [es]; decide⟩, Or.inr (Or.inr ⟨rfl, Or.inr (Or.inr (Or.inr (Or.inl ⟨s, mo, (by decide)⟩)))⟩)⟩
      · skip
        by_cases t : (I x).toInt < (K x).toInt
        · skip
          have e1 : M_nextState dead (nI x) rs may ri pn rt = (2 : Int32) := by
            simp (decide := true) only [K_nextState_28, K_nextState_29, K_nextState_26, K_nextState_33, K_nextState_35, K_nextState_36, K_nextState_34, K_nextState_32, K_nextState_30, K_nextState_40, K_nextState_41, K_nextState_42, K_nextState_39, K_nextState_37, K_nextState_45, K_nextState_46, K_nextState_43, K_nextState_48, K_nextState_49, K_nextState_47, K_nextState_44, K_nextState_38, K_nextState_31, K_nextState_27, K_nextState_3, K_nextState_6, K_nextState_7, K_nextState_4, K_nextState_11, K_nextState_13, K_nextState_14, K_nextState_12, K_nextState_10, K_nextState_8, K_nextState_18, K_nextState_17, K_nextState_15, K_nextState_21, K_nextState_22, K_nextState_19, K_nextState_24, K_nextState_25, K_nextState_23, K_nextState_20, K_nextState_16, K_nextState_9, K_nextState_5, K_nextState_2, K_nextState_1, M_nextState, K_number_1, M_number, xc, e85, e82, hs, hi, hk, h5, h2, es, m, cd, dz, t, ↓reduceIte]
          have e2 : M_m_becomes S (nI x) may I Td D K = (-4 : Int32) := by
            simp (decide := true) only [K_m_becomes_4, K_m_becomes_5, K_m_becomes_2, K_m_becomes_9, K_m_becomes_11, K_m_becomes_12, K_m_becomes_10, K_m_becomes_8, K_m_becomes_6, K_m_becomes_16, K_m_becomes_19, K_m_becomes_20, K_m_becomes_18, K_m_becomes_17, K_m_becomes_15, K_m_becomes_13, K_m_becomes_23, K_m_becomes_25, K_m_becomes_26, K_m_becomes_24, K_m_becomes_21, K_m_becomes_28, K_m_becomes_29, K_m_becomes_27, K_m_becomes_22, K_m_becomes_14, K_m_becomes_7, K_m_becomes_3, K_m_becomes_1, M_m_becomes, K_m_of_1, M_m_of, xc, e75, e72, es, m, cd, dz, t, ↓reduceIte]
          exact fin _ _ e1 e2 ⟨by rw [if_pos (by decide), es], Or.inl (by decide), Or.inl (by decide)⟩
        · skip
          have e1 : M_nextState dead (nI x) rs may ri pn rt = (3 : Int32) := by
            simp (decide := true) only [K_nextState_28, K_nextState_29, K_nextState_26, K_nextState_33, K_nextState_35, K_nextState_36, K_nextState_34, K_nextState_32, K_nextState_30, K_nextState_40, K_nextState_41, K_nextState_42, K_nextState_39, K_nextState_37, K_nextState_45, K_nextState_46, K_nextState_43, K_nextState_48, K_nextState_49, K_nextState_47, K_nextState_44, K_nextState_38, K_nextState_31, K_nextState_27, K_nextState_3, K_nextState_6, K_nextState_7, K_nextState_4, K_nextState_11, K_nextState_13, K_nextState_14, K_nextState_12, K_nextState_10, K_nextState_8, K_nextState_18, K_nextState_17, K_nextState_15, K_nextState_21, K_nextState_22, K_nextState_19, K_nextState_24, K_nextState_25, K_nextState_23, K_nextState_20, K_nextState_16, K_nextState_9, K_nextState_5, K_nextState_2, K_nextState_1, M_nextState, K_number_1, M_number, xc, e85, e82, hs, hi, hk, h5, h2, es, m, cd, dz, t, ↓reduceIte]
          have e2 : M_m_becomes S (nI x) may I Td D K = (3 : Int32) := by
            simp (decide := true) only [K_m_becomes_4, K_m_becomes_5, K_m_becomes_2, K_m_becomes_9, K_m_becomes_11, K_m_becomes_12, K_m_becomes_10, K_m_becomes_8, K_m_becomes_6, K_m_becomes_16, K_m_becomes_19, K_m_becomes_20, K_m_becomes_18, K_m_becomes_17, K_m_becomes_15, K_m_becomes_13, K_m_becomes_23, K_m_becomes_25, K_m_becomes_26, K_m_becomes_24, K_m_becomes_21, K_m_becomes_28, K_m_becomes_29, K_m_becomes_27, K_m_becomes_22, K_m_becomes_14, K_m_becomes_7, K_m_becomes_3, K_m_becomes_1, M_m_becomes, K_m_of_1, M_m_of, xc, e75, e72, es, m, cd, dz, t, ↓reduceIte]
          exact fin _ _ e1 e2 ⟨by rw [if_neg (by decide)], Or.inr ⟨by decide, by decide, by rw [es]; decide⟩, Or.inr (Or.inr ⟨rfl, Or.inr (Or.inr (Or.inr (Or.inr (Or.inl ⟨s, (by omega), (by decide)⟩))))⟩)⟩
    · have es : S x = 3 := Int32.toInt_inj.mp (by rw [s]; decide)
      rcases hm with ⟨mo, m⟩ | ⟨mo, m⟩
      · skip
        have e1 : M_nextState dead (nI x) rs may ri pn rt = (4 : Int32) := by
          simp (decide := true) only [K_nextState_28, K_nextState_29, K_nextState_26, K_nextState_33, K_nextState_35, K_nextState_36, K_nextState_34, K_nextState_32, K_nextState_30, K_nextState_40, K_nextState_41, K_nextState_42, K_nextState_39, K_nextState_37, K_nextState_45, K_nextState_46, K_nextState_43, K_nextState_48, K_nextState_49, K_nextState_47, K_nextState_44, K_nextState_38, K_nextState_31, K_nextState_27, K_nextState_3, K_nextState_6, K_nextState_7, K_nextState_4, K_nextState_11, K_nextState_13, K_nextState_14, K_nextState_12, K_nextState_10, K_nextState_8, K_nextState_18, K_nextState_17, K_nextState_15, K_nextState_21, K_nextState_22, K_nextState_19, K_nextState_24, K_nextState_25, K_nextState_23, K_nextState_20, K_nextState_16, K_nextState_9, K_nextState_5, K_nextState_2, K_nextState_1, M_nextState, K_number_1, M_number, xc, e85, e82, hs, hi, hk, h5, h2, es, m, cd, ↓reduceIte]
        have e2 : M_m_becomes S (nI x) may I Td D K = (4 : Int32) := by
          simp (decide := true) only [K_m_becomes_4, K_m_becomes_5, K_m_becomes_2, K_m_becomes_9, K_m_becomes_11, K_m_becomes_12, K_m_becomes_10, K_m_becomes_8, K_m_becomes_6, K_m_becomes_16, K_m_becomes_19, K_m_becomes_20, K_m_becomes_18, K_m_becomes_17, K_m_becomes_15, K_m_becomes_13, K_m_becomes_23, K_m_becomes_25, K_m_becomes_26, K_m_becomes_24, K_m_becomes_21, K_m_becomes_28, K_m_becomes_29, K_m_becomes_27, K_m_becomes_22, K_m_becomes_14, K_m_becomes_7, K_m_becomes_3, K_m_becomes_1, M_m_becomes, K_m_of_1, M_m_of, xc, e75, e72, es, m, cd, ↓reduceIte]
        exact fin _ _ e1 e2 ⟨by rw [if_neg (by decide)], Or.inr ⟨by decide, by decide, by rw [es]; decide⟩, Or.inr (Or.inr ⟨rfl, Or.inr (Or.inr (Or.inr (Or.inr (Or.inr (Or.inl ⟨s, (by decide)⟩)))))⟩)⟩
      · skip
        have e1 : M_nextState dead (nI x) rs may ri pn rt = (3 : Int32) := by
          simp (decide := true) only [K_nextState_28, K_nextState_29, K_nextState_26, K_nextState_33, K_nextState_35, K_nextState_36, K_nextState_34, K_nextState_32, K_nextState_30, K_nextState_40, K_nextState_41, K_nextState_42, K_nextState_39, K_nextState_37, K_nextState_45, K_nextState_46, K_nextState_43, K_nextState_48, K_nextState_49, K_nextState_47, K_nextState_44, K_nextState_38, K_nextState_31, K_nextState_27, K_nextState_3, K_nextState_6, K_nextState_7, K_nextState_4, K_nextState_11, K_nextState_13, K_nextState_14, K_nextState_12, K_nextState_10, K_nextState_8, K_nextState_18, K_nextState_17, K_nextState_15, K_nextState_21, K_nextState_22, K_nextState_19, K_nextState_24, K_nextState_25, K_nextState_23, K_nextState_20, K_nextState_16, K_nextState_9, K_nextState_5, K_nextState_2, K_nextState_1, M_nextState, K_number_1, M_number, xc, e85, e82, hs, hi, hk, h5, h2, es, m, cd, dz, ↓reduceIte]
        have e2 : M_m_becomes S (nI x) may I Td D K = (-4 : Int32) := by
          simp (decide := true) only [K_m_becomes_4, K_m_becomes_5, K_m_becomes_2, K_m_becomes_9, K_m_becomes_11, K_m_becomes_12, K_m_becomes_10, K_m_becomes_8, K_m_becomes_6, K_m_becomes_16, K_m_becomes_19, K_m_becomes_20, K_m_becomes_18, K_m_becomes_17, K_m_becomes_15, K_m_becomes_13, K_m_becomes_23, K_m_becomes_25, K_m_becomes_26, K_m_becomes_24, K_m_becomes_21, K_m_becomes_28, K_m_becomes_29, K_m_becomes_27, K_m_becomes_22, K_m_becomes_14, K_m_becomes_7, K_m_becomes_3, K_m_becomes_1, M_m_becomes, K_m_of_1, M_m_of, xc, e75, e72, es, m, cd, dz, ↓reduceIte]
        exact fin _ _ e1 e2 ⟨by rw [if_pos (by decide), es], Or.inl (by decide), Or.inl (by decide)⟩
    · have es : S x = 4 := Int32.toInt_inj.mp (by rw [s]; decide)
      by_cases t : (I x).toInt < (Td (7 * x + 2)).toInt
      · skip
        have e1 : M_nextState dead (nI x) rs may ri pn rt = (4 : Int32) := by
          simp (decide := true) only [K_nextState_28, K_nextState_29, K_nextState_26, K_nextState_33, K_nextState_35, K_nextState_36, K_nextState_34, K_nextState_32, K_nextState_30, K_nextState_40, K_nextState_41, K_nextState_42, K_nextState_39, K_nextState_37, K_nextState_45, K_nextState_46, K_nextState_43, K_nextState_48, K_nextState_49, K_nextState_47, K_nextState_44, K_nextState_38, K_nextState_31, K_nextState_27, K_nextState_3, K_nextState_6, K_nextState_7, K_nextState_4, K_nextState_11, K_nextState_13, K_nextState_14, K_nextState_12, K_nextState_10, K_nextState_8, K_nextState_18, K_nextState_17, K_nextState_15, K_nextState_21, K_nextState_22, K_nextState_19, K_nextState_24, K_nextState_25, K_nextState_23, K_nextState_20, K_nextState_16, K_nextState_9, K_nextState_5, K_nextState_2, K_nextState_1, M_nextState, K_number_1, M_number, xc, e85, e82, hs, hi, hk, h5, h2, es, cd, t, ↓reduceIte]
        have e2 : M_m_becomes S (nI x) may I Td D K = (-4 : Int32) := by
          simp (decide := true) only [K_m_becomes_4, K_m_becomes_5, K_m_becomes_2, K_m_becomes_9, K_m_becomes_11, K_m_becomes_12, K_m_becomes_10, K_m_becomes_8, K_m_becomes_6, K_m_becomes_16, K_m_becomes_19, K_m_becomes_20, K_m_becomes_18, K_m_becomes_17, K_m_becomes_15, K_m_becomes_13, K_m_becomes_23, K_m_becomes_25, K_m_becomes_26, K_m_becomes_24, K_m_becomes_21, K_m_becomes_28, K_m_becomes_29, K_m_becomes_27, K_m_becomes_22, K_m_becomes_14, K_m_becomes_7, K_m_becomes_3, K_m_becomes_1, M_m_becomes, K_m_of_1, M_m_of, xc, e75, e72, es, cd, t, ↓reduceIte]
        exact fin _ _ e1 e2 ⟨by rw [if_pos (by decide), es], Or.inl (by decide), Or.inl (by decide)⟩
      · skip
        have e1 : M_nextState dead (nI x) rs may ri pn rt = (0 : Int32) := by
          simp (decide := true) only [K_nextState_28, K_nextState_29, K_nextState_26, K_nextState_33, K_nextState_35, K_nextState_36, K_nextState_34, K_nextState_32, K_nextState_30, K_nextState_40, K_nextState_41, K_nextState_42, K_nextState_39, K_nextState_37, K_nextState_45, K_nextState_46, K_nextState_43, K_nextState_48, K_nextState_49, K_nextState_47, K_nextState_44, K_nextState_38, K_nextState_31, K_nextState_27, K_nextState_3, K_nextState_6, K_nextState_7, K_nextState_4, K_nextState_11, K_nextState_13, K_nextState_14, K_nextState_12, K_nextState_10, K_nextState_8, K_nextState_18, K_nextState_17, K_nextState_15, K_nextState_21, K_nextState_22, K_nextState_19, K_nextState_24, K_nextState_25, K_nextState_23, K_nextState_20, K_nextState_16, K_nextState_9, K_nextState_5, K_nextState_2, K_nextState_1, M_nextState, K_number_1, M_number, xc, e85, e82, hs, hi, hk, h5, h2, es, cd, t, ↓reduceIte]
        have e2 : M_m_becomes S (nI x) may I Td D K = (0 : Int32) := by
          simp (decide := true) only [K_m_becomes_4, K_m_becomes_5, K_m_becomes_2, K_m_becomes_9, K_m_becomes_11, K_m_becomes_12, K_m_becomes_10, K_m_becomes_8, K_m_becomes_6, K_m_becomes_16, K_m_becomes_19, K_m_becomes_20, K_m_becomes_18, K_m_becomes_17, K_m_becomes_15, K_m_becomes_13, K_m_becomes_23, K_m_becomes_25, K_m_becomes_26, K_m_becomes_24, K_m_becomes_21, K_m_becomes_28, K_m_becomes_29, K_m_becomes_27, K_m_becomes_22, K_m_becomes_14, K_m_becomes_7, K_m_becomes_3, K_m_becomes_1, M_m_becomes, K_m_of_1, M_m_of, xc, e75, e72, es, cd, t, ↓reduceIte]
        exact fin _ _ e1 e2 ⟨by rw [if_neg (by decide)], Or.inr ⟨by decide, by decide, by rw [es]; decide⟩, Or.inr (Or.inr ⟨rfl, Or.inr (Or.inr (Or.inr (Or.inr (Or.inr (Or.inr (⟨s, (by decide)⟩))))))⟩)⟩
  · have cd : ¬ ((dead >>> (nI x &&& 31)) &&& (1 : Int32)).toInt = 0 := fun z => absurd (b1.symm.trans ((xsr_0 dead (r := x) (by omega)).mp z)) (by decide)
    have dz : ¬ (D x).toInt = 0 := by rw [f1]; decide
    rcases (show (S x).toInt = 0 ∨ (S x).toInt = 1 ∨ (S x).toInt = 2 ∨ (S x).toInt = 3 ∨ (S x).toInt = 4 by omega) with s | s | s | s | s
    · have es : S x = 0 := Int32.toInt_inj.mp (by rw [s]; decide)
      rcases hm with ⟨mo, m⟩ | ⟨mo, m⟩
      · skip
        have e1 : M_nextState dead (nI x) rs may ri pn rt = (0 : Int32) := by
          simp (decide := true) only [K_nextState_28, K_nextState_29, K_nextState_26, K_nextState_33, K_nextState_35, K_nextState_36, K_nextState_34, K_nextState_32, K_nextState_30, K_nextState_40, K_nextState_41, K_nextState_42, K_nextState_39, K_nextState_37, K_nextState_45, K_nextState_46, K_nextState_43, K_nextState_48, K_nextState_49, K_nextState_47, K_nextState_44, K_nextState_38, K_nextState_31, K_nextState_27, K_nextState_3, K_nextState_6, K_nextState_7, K_nextState_4, K_nextState_11, K_nextState_13, K_nextState_14, K_nextState_12, K_nextState_10, K_nextState_8, K_nextState_18, K_nextState_17, K_nextState_15, K_nextState_21, K_nextState_22, K_nextState_19, K_nextState_24, K_nextState_25, K_nextState_23, K_nextState_20, K_nextState_16, K_nextState_9, K_nextState_5, K_nextState_2, K_nextState_1, M_nextState, K_number_1, M_number, xc, e85, e82, hs, hi, hk, h5, h2, es, m, cd, ↓reduceIte]
        have e2 : M_m_becomes S (nI x) may I Td D K = (-4 : Int32) := by
          simp (decide := true) only [K_m_becomes_4, K_m_becomes_5, K_m_becomes_2, K_m_becomes_9, K_m_becomes_11, K_m_becomes_12, K_m_becomes_10, K_m_becomes_8, K_m_becomes_6, K_m_becomes_16, K_m_becomes_19, K_m_becomes_20, K_m_becomes_18, K_m_becomes_17, K_m_becomes_15, K_m_becomes_13, K_m_becomes_23, K_m_becomes_25, K_m_becomes_26, K_m_becomes_24, K_m_becomes_21, K_m_becomes_28, K_m_becomes_29, K_m_becomes_27, K_m_becomes_22, K_m_becomes_14, K_m_becomes_7, K_m_becomes_3, K_m_becomes_1, M_m_becomes, K_m_of_1, M_m_of, xc, e75, e72, es, m, cd, ↓reduceIte]
        exact fin _ _ e1 e2 ⟨by rw [if_pos (by decide), es], Or.inl (by decide), Or.inl (by decide)⟩
      · skip
        have e1 : M_nextState dead (nI x) rs may ri pn rt = (1 : Int32) := by
          simp (decide := true) only [K_nextState_28, K_nextState_29, K_nextState_26, K_nextState_33, K_nextState_35, K_nextState_36, K_nextState_34, K_nextState_32, K_nextState_30, K_nextState_40, K_nextState_41, K_nextState_42, K_nextState_39, K_nextState_37, K_nextState_45, K_nextState_46, K_nextState_43, K_nextState_48, K_nextState_49, K_nextState_47, K_nextState_44, K_nextState_38, K_nextState_31, K_nextState_27, K_nextState_3, K_nextState_6, K_nextState_7, K_nextState_4, K_nextState_11, K_nextState_13, K_nextState_14, K_nextState_12, K_nextState_10, K_nextState_8, K_nextState_18, K_nextState_17, K_nextState_15, K_nextState_21, K_nextState_22, K_nextState_19, K_nextState_24, K_nextState_25, K_nextState_23, K_nextState_20, K_nextState_16, K_nextState_9, K_nextState_5, K_nextState_2, K_nextState_1, M_nextState, K_number_1, M_number, xc, e85, e82, hs, hi, hk, h5, h2, es, m, cd, ↓reduceIte]
        have e2 : M_m_becomes S (nI x) may I Td D K = (1 : Int32) := by
          simp (decide := true) only [K_m_becomes_4, K_m_becomes_5, K_m_becomes_2, K_m_becomes_9, K_m_becomes_11, K_m_becomes_12, K_m_becomes_10, K_m_becomes_8, K_m_becomes_6, K_m_becomes_16, K_m_becomes_19, K_m_becomes_20, K_m_becomes_18, K_m_becomes_17, K_m_becomes_15, K_m_becomes_13, K_m_becomes_23, K_m_becomes_25, K_m_becomes_26, K_m_becomes_24, K_m_becomes_21, K_m_becomes_28, K_m_becomes_29, K_m_becomes_27, K_m_becomes_22, K_m_becomes_14, K_m_becomes_7, K_m_becomes_3, K_m_becomes_1, M_m_becomes, K_m_of_1, M_m_of, xc, e75, e72, es, m, cd, ↓reduceIte]
        exact fin _ _ e1 e2 ⟨by rw [if_neg (by decide)], Or.inr ⟨by decide, by decide, by rw [es]; decide⟩, Or.inr (Or.inr ⟨rfl, Or.inl ⟨s, mo, (by decide)⟩⟩)⟩
    · have es : S x = 1 := Int32.toInt_inj.mp (by rw [s]; decide)
      rcases hm with ⟨mo, m⟩ | ⟨mo, m⟩
      · skip
        have e1 : M_nextState dead (nI x) rs may ri pn rt = (0 : Int32) := by
          simp (decide := true) only [K_nextState_28, K_nextState_29, K_nextState_26, K_nextState_33, K_nextState_35, K_nextState_36, K_nextState_34, K_nextState_32, K_nextState_30, K_nextState_40, K_nextState_41, K_nextState_42, K_nextState_39, K_nextState_37, K_nextState_45, K_nextState_46, K_nextState_43, K_nextState_48, K_nextState_49, K_nextState_47, K_nextState_44, K_nextState_38, K_nextState_31, K_nextState_27, K_nextState_3, K_nextState_6, K_nextState_7, K_nextState_4, K_nextState_11, K_nextState_13, K_nextState_14, K_nextState_12, K_nextState_10, K_nextState_8, K_nextState_18, K_nextState_17, K_nextState_15, K_nextState_21, K_nextState_22, K_nextState_19, K_nextState_24, K_nextState_25, K_nextState_23, K_nextState_20, K_nextState_16, K_nextState_9, K_nextState_5, K_nextState_2, K_nextState_1, M_nextState, K_number_1, M_number, xc, e85, e82, hs, hi, hk, h5, h2, es, m, cd, ↓reduceIte]
        have e2 : M_m_becomes S (nI x) may I Td D K = (0 : Int32) := by
          simp (decide := true) only [K_m_becomes_4, K_m_becomes_5, K_m_becomes_2, K_m_becomes_9, K_m_becomes_11, K_m_becomes_12, K_m_becomes_10, K_m_becomes_8, K_m_becomes_6, K_m_becomes_16, K_m_becomes_19, K_m_becomes_20, K_m_becomes_18, K_m_becomes_17, K_m_becomes_15, K_m_becomes_13, K_m_becomes_23, K_m_becomes_25, K_m_becomes_26, K_m_becomes_24, K_m_becomes_21, K_m_becomes_28, K_m_becomes_29, K_m_becomes_27, K_m_becomes_22, K_m_becomes_14, K_m_becomes_7, K_m_becomes_3, K_m_becomes_1, M_m_becomes, K_m_of_1, M_m_of, xc, e75, e72, es, m, cd, ↓reduceIte]
        exact fin _ _ e1 e2 ⟨by rw [if_neg (by decide)], Or.inr ⟨by decide, by decide, by rw [es]; decide⟩, Or.inr (Or.inr ⟨rfl, Or.inr (Or.inl ⟨s, mo, (by decide)⟩)⟩)⟩
      · skip
        by_cases t : (I x).toInt < (Td (7 * x + 5)).toInt
        · skip
          have e1 : M_nextState dead (nI x) rs may ri pn rt = (1 : Int32) := by
            simp (decide := true) only [K_nextState_28, K_nextState_29, K_nextState_26, K_nextState_33, K_nextState_35, K_nextState_36, K_nextState_34, K_nextState_32, K_nextState_30, K_nextState_40, K_nextState_41, K_nextState_42, K_nextState_39, K_nextState_37, K_nextState_45, K_nextState_46, K_nextState_43, K_nextState_48, K_nextState_49, K_nextState_47, K_nextState_44, K_nextState_38, K_nextState_31, K_nextState_27, K_nextState_3, K_nextState_6, K_nextState_7, K_nextState_4, K_nextState_11, K_nextState_13, K_nextState_14, K_nextState_12, K_nextState_10, K_nextState_8, K_nextState_18, K_nextState_17, K_nextState_15, K_nextState_21, K_nextState_22, K_nextState_19, K_nextState_24, K_nextState_25, K_nextState_23, K_nextState_20, K_nextState_16, K_nextState_9, K_nextState_5, K_nextState_2, K_nextState_1, M_nextState, K_number_1, M_number, xc, e85, e82, hs, hi, hk, h5, h2, es, m, cd, t, ↓reduceIte]
          have e2 : M_m_becomes S (nI x) may I Td D K = (-4 : Int32) := by
            simp (decide := true) only [K_m_becomes_4, K_m_becomes_5, K_m_becomes_2, K_m_becomes_9, K_m_becomes_11, K_m_becomes_12, K_m_becomes_10, K_m_becomes_8, K_m_becomes_6, K_m_becomes_16, K_m_becomes_19, K_m_becomes_20, K_m_becomes_18, K_m_becomes_17, K_m_becomes_15, K_m_becomes_13, K_m_becomes_23, K_m_becomes_25, K_m_becomes_26, K_m_becomes_24, K_m_becomes_21, K_m_becomes_28, K_m_becomes_29, K_m_becomes_27, K_m_becomes_22, K_m_becomes_14, K_m_becomes_7, K_m_becomes_3, K_m_becomes_1, M_m_becomes, K_m_of_1, M_m_of, xc, e75, e72, es, m, cd, t, ↓reduceIte]
          exact fin _ _ e1 e2 ⟨by rw [if_pos (by decide), es], Or.inl (by decide), Or.inl (by decide)⟩
        · skip
          have e1 : M_nextState dead (nI x) rs may ri pn rt = (2 : Int32) := by
            simp (decide := true) only [K_nextState_28, K_nextState_29, K_nextState_26, K_nextState_33, K_nextState_35, K_nextState_36, K_nextState_34, K_nextState_32, K_nextState_30, K_nextState_40, K_nextState_41, K_nextState_42, K_nextState_39, K_nextState_37, K_nextState_45, K_nextState_46, K_nextState_43, K_nextState_48, K_nextState_49, K_nextState_47, K_nextState_44, K_nextState_38, K_nextState_31, K_nextState_27, K_nextState_3, K_nextState_6, K_nextState_7, K_nextState_4, K_nextState_11, K_nextState_13, K_nextState_14, K_nextState_12, K_nextState_10, K_nextState_8, K_nextState_18, K_nextState_17, K_nextState_15, K_nextState_21, K_nextState_22, K_nextState_19, K_nextState_24, K_nextState_25, K_nextState_23, K_nextState_20, K_nextState_16, K_nextState_9, K_nextState_5, K_nextState_2, K_nextState_1, M_nextState, K_number_1, M_number, xc, e85, e82, hs, hi, hk, h5, h2, es, m, cd, t, ↓reduceIte]
          have e2 : M_m_becomes S (nI x) may I Td D K = (2 : Int32) := by
            simp (decide := true) only [K_m_becomes_4, K_m_becomes_5, K_m_becomes_2, K_m_becomes_9, K_m_becomes_11, K_m_becomes_12, K_m_becomes_10, K_m_becomes_8, K_m_becomes_6, K_m_becomes_16, K_m_becomes_19, K_m_becomes_20, K_m_becomes_18, K_m_becomes_17, K_m_becomes_15, K_m_becomes_13, K_m_becomes_23, K_m_becomes_25, K_m_becomes_26, K_m_becomes_24, K_m_becomes_21, K_m_becomes_28, K_m_becomes_29, K_m_becomes_27, K_m_becomes_22, K_m_becomes_14, K_m_becomes_7, K_m_becomes_3, K_m_becomes_1, M_m_becomes, K_m_of_1, M_m_of, xc, e75, e72, es, m, cd, t, ↓reduceIte]
          exact fin _ _ e1 e2 ⟨by rw [if_neg (by decide)], Or.inr ⟨by decide, by decide, by rw [es]; decide⟩, Or.inr (Or.inr ⟨rfl, Or.inr (Or.inr (Or.inl ⟨s, mo, (by decide)⟩))⟩)⟩
    · have es : S x = 2 := Int32.toInt_inj.mp (by rw [s]; decide)
      rcases hm with ⟨mo, m⟩ | ⟨mo, m⟩
      · skip
        have e1 : M_nextState dead (nI x) rs may ri pn rt = (4 : Int32) := by
          simp (decide := true) only [K_nextState_28, K_nextState_29, K_nextState_26, K_nextState_33, K_nextState_35, K_nextState_36, K_nextState_34, K_nextState_32, K_nextState_30, K_nextState_40, K_nextState_41, K_nextState_42, K_nextState_39, K_nextState_37, K_nextState_45, K_nextState_46, K_nextState_43, K_nextState_48, K_nextState_49, K_nextState_47, K_nextState_44, K_nextState_38, K_nextState_31, K_nextState_27, K_nextState_3, K_nextState_6, K_nextState_7, K_nextState_4, K_nextState_11, K_nextState_13, K_nextState_14, K_nextState_12, K_nextState_10, K_nextState_8, K_nextState_18, K_nextState_17, K_nextState_15, K_nextState_21, K_nextState_22, K_nextState_19, K_nextState_24, K_nextState_25, K_nextState_23, K_nextState_20, K_nextState_16, K_nextState_9, K_nextState_5, K_nextState_2, K_nextState_1, M_nextState, K_number_1, M_number, xc, e85, e82, hs, hi, hk, h5, h2, es, m, cd, ↓reduceIte]
        have e2 : M_m_becomes S (nI x) may I Td D K = (4 : Int32) := by
          simp (decide := true) only [K_m_becomes_4, K_m_becomes_5, K_m_becomes_2, K_m_becomes_9, K_m_becomes_11, K_m_becomes_12, K_m_becomes_10, K_m_becomes_8, K_m_becomes_6, K_m_becomes_16, K_m_becomes_19, K_m_becomes_20, K_m_becomes_18, K_m_becomes_17, K_m_becomes_15, K_m_becomes_13, K_m_becomes_23, K_m_becomes_25, K_m_becomes_26, K_m_becomes_24, K_m_becomes_21, K_m_becomes_28, K_m_becomes_29, K_m_becomes_27, K_m_becomes_22, K_m_becomes_14, K_m_becomes_7, K_m_becomes_3, K_m_becomes_1, M_m_becomes, K_m_of_1, M_m_of, xc, e75, e72, es, m, cd, ↓reduceIte]
        exact fin _ _ e1 e2 ⟨by rw [if_neg (by decide)], Or.inr ⟨by decide, by decide, by rw [es]; decide⟩, Or.inr (Or.inr ⟨rfl, Or.inr (Or.inr (Or.inr (Or.inl ⟨s, mo, (by decide)⟩)))⟩)⟩
      · skip
        have e1 : M_nextState dead (nI x) rs may ri pn rt = (2 : Int32) := by
          simp (decide := true) only [K_nextState_28, K_nextState_29, K_nextState_26, K_nextState_33, K_nextState_35, K_nextState_36, K_nextState_34, K_nextState_32, K_nextState_30, K_nextState_40, K_nextState_41, K_nextState_42, K_nextState_39, K_nextState_37, K_nextState_45, K_nextState_46, K_nextState_43, K_nextState_48, K_nextState_49, K_nextState_47, K_nextState_44, K_nextState_38, K_nextState_31, K_nextState_27, K_nextState_3, K_nextState_6, K_nextState_7, K_nextState_4, K_nextState_11, K_nextState_13, K_nextState_14, K_nextState_12, K_nextState_10, K_nextState_8, K_nextState_18, K_nextState_17, K_nextState_15, K_nextState_21, K_nextState_22, K_nextState_19, K_nextState_24, K_nextState_25, K_nextState_23, K_nextState_20, K_nextState_16, K_nextState_9, K_nextState_5, K_nextState_2, K_nextState_1, M_nextState, K_number_1, M_number, xc, e85, e82, hs, hi, hk, h5, h2, es, m, cd, dz, ↓reduceIte]
        have e2 : M_m_becomes S (nI x) may I Td D K = (-4 : Int32) := by
          simp (decide := true) only [K_m_becomes_4, K_m_becomes_5, K_m_becomes_2, K_m_becomes_9, K_m_becomes_11, K_m_becomes_12, K_m_becomes_10, K_m_becomes_8, K_m_becomes_6, K_m_becomes_16, K_m_becomes_19, K_m_becomes_20, K_m_becomes_18, K_m_becomes_17, K_m_becomes_15, K_m_becomes_13, K_m_becomes_23, K_m_becomes_25, K_m_becomes_26, K_m_becomes_24, K_m_becomes_21, K_m_becomes_28, K_m_becomes_29, K_m_becomes_27, K_m_becomes_22, K_m_becomes_14, K_m_becomes_7, K_m_becomes_3, K_m_becomes_1, M_m_becomes, K_m_of_1, M_m_of, xc, e75, e72, es, m, cd, dz, ↓reduceIte]
        exact fin _ _ e1 e2 ⟨by rw [if_pos (by decide), es], Or.inl (by decide), Or.inl (by decide)⟩
    · have es : S x = 3 := Int32.toInt_inj.mp (by rw [s]; decide)
      rcases hm with ⟨mo, m⟩ | ⟨mo, m⟩
      · skip
        have e1 : M_nextState dead (nI x) rs may ri pn rt = (4 : Int32) := by
          simp (decide := true) only [K_nextState_28, K_nextState_29, K_nextState_26, K_nextState_33, K_nextState_35, K_nextState_36, K_nextState_34, K_nextState_32, K_nextState_30, K_nextState_40, K_nextState_41, K_nextState_42, K_nextState_39, K_nextState_37, K_nextState_45, K_nextState_46, K_nextState_43, K_nextState_48, K_nextState_49, K_nextState_47, K_nextState_44, K_nextState_38, K_nextState_31, K_nextState_27, K_nextState_3, K_nextState_6, K_nextState_7, K_nextState_4, K_nextState_11, K_nextState_13, K_nextState_14, K_nextState_12, K_nextState_10, K_nextState_8, K_nextState_18, K_nextState_17, K_nextState_15, K_nextState_21, K_nextState_22, K_nextState_19, K_nextState_24, K_nextState_25, K_nextState_23, K_nextState_20, K_nextState_16, K_nextState_9, K_nextState_5, K_nextState_2, K_nextState_1, M_nextState, K_number_1, M_number, xc, e85, e82, hs, hi, hk, h5, h2, es, m, cd, ↓reduceIte]
        have e2 : M_m_becomes S (nI x) may I Td D K = (4 : Int32) := by
          simp (decide := true) only [K_m_becomes_4, K_m_becomes_5, K_m_becomes_2, K_m_becomes_9, K_m_becomes_11, K_m_becomes_12, K_m_becomes_10, K_m_becomes_8, K_m_becomes_6, K_m_becomes_16, K_m_becomes_19, K_m_becomes_20, K_m_becomes_18, K_m_becomes_17, K_m_becomes_15, K_m_becomes_13, K_m_becomes_23, K_m_becomes_25, K_m_becomes_26, K_m_becomes_24, K_m_becomes_21, K_m_becomes_28, K_m_becomes_29, K_m_becomes_27, K_m_becomes_22, K_m_becomes_14, K_m_becomes_7, K_m_becomes_3, K_m_becomes_1, M_m_becomes, K_m_of_1, M_m_of, xc, e75, e72, es, m, cd, ↓reduceIte]
        exact fin _ _ e1 e2 ⟨by rw [if_neg (by decide)], Or.inr ⟨by decide, by decide, by rw [es]; decide⟩, Or.inr (Or.inr ⟨rfl, Or.inr (Or.inr (Or.inr (Or.inr (Or.inr (Or.inl ⟨s, (by decide)⟩)))))⟩)⟩
      · skip
        have e1 : M_nextState dead (nI x) rs may ri pn rt = (4 : Int32) := by
          simp (decide := true) only [K_nextState_28, K_nextState_29, K_nextState_26, K_nextState_33, K_nextState_35, K_nextState_36, K_nextState_34, K_nextState_32, K_nextState_30, K_nextState_40, K_nextState_41, K_nextState_42, K_nextState_39, K_nextState_37, K_nextState_45, K_nextState_46, K_nextState_43, K_nextState_48, K_nextState_49, K_nextState_47, K_nextState_44, K_nextState_38, K_nextState_31, K_nextState_27, K_nextState_3, K_nextState_6, K_nextState_7, K_nextState_4, K_nextState_11, K_nextState_13, K_nextState_14, K_nextState_12, K_nextState_10, K_nextState_8, K_nextState_18, K_nextState_17, K_nextState_15, K_nextState_21, K_nextState_22, K_nextState_19, K_nextState_24, K_nextState_25, K_nextState_23, K_nextState_20, K_nextState_16, K_nextState_9, K_nextState_5, K_nextState_2, K_nextState_1, M_nextState, K_number_1, M_number, xc, e85, e82, hs, hi, hk, h5, h2, es, m, cd, dz, ↓reduceIte]
        have e2 : M_m_becomes S (nI x) may I Td D K = (4 : Int32) := by
          simp (decide := true) only [K_m_becomes_4, K_m_becomes_5, K_m_becomes_2, K_m_becomes_9, K_m_becomes_11, K_m_becomes_12, K_m_becomes_10, K_m_becomes_8, K_m_becomes_6, K_m_becomes_16, K_m_becomes_19, K_m_becomes_20, K_m_becomes_18, K_m_becomes_17, K_m_becomes_15, K_m_becomes_13, K_m_becomes_23, K_m_becomes_25, K_m_becomes_26, K_m_becomes_24, K_m_becomes_21, K_m_becomes_28, K_m_becomes_29, K_m_becomes_27, K_m_becomes_22, K_m_becomes_14, K_m_becomes_7, K_m_becomes_3, K_m_becomes_1, M_m_becomes, K_m_of_1, M_m_of, xc, e75, e72, es, m, cd, dz, ↓reduceIte]
        exact fin _ _ e1 e2 ⟨by rw [if_neg (by decide)], Or.inr ⟨by decide, by decide, by rw [es]; decide⟩, Or.inr (Or.inr ⟨rfl, Or.inr (Or.inr (Or.inr (Or.inr (Or.inr (Or.inl ⟨s, (by decide)⟩)))))⟩)⟩
    · have es : S x = 4 := Int32.toInt_inj.mp (by rw [s]; decide)
      by_cases t : (I x).toInt < (Td (7 * x + 2)).toInt
      · skip
        have e1 : M_nextState dead (nI x) rs may ri pn rt = (4 : Int32) := by
          simp (decide := true) only [K_nextState_28, K_nextState_29, K_nextState_26, K_nextState_33, K_nextState_35, K_nextState_36, K_nextState_34, K_nextState_32, K_nextState_30, K_nextState_40, K_nextState_41, K_nextState_42, K_nextState_39, K_nextState_37, K_nextState_45, K_nextState_46, K_nextState_43, K_nextState_48, K_nextState_49, K_nextState_47, K_nextState_44, K_nextState_38, K_nextState_31, K_nextState_27, K_nextState_3, K_nextState_6, K_nextState_7, K_nextState_4, K_nextState_11, K_nextState_13, K_nextState_14, K_nextState_12, K_nextState_10, K_nextState_8, K_nextState_18, K_nextState_17, K_nextState_15, K_nextState_21, K_nextState_22, K_nextState_19, K_nextState_24, K_nextState_25, K_nextState_23, K_nextState_20, K_nextState_16, K_nextState_9, K_nextState_5, K_nextState_2, K_nextState_1, M_nextState, K_number_1, M_number, xc, e85, e82, hs, hi, hk, h5, h2, es, cd, t, ↓reduceIte]
        have e2 : M_m_becomes S (nI x) may I Td D K = (-4 : Int32) := by
          simp (decide := true) only [K_m_becomes_4, K_m_becomes_5, K_m_becomes_2, K_m_becomes_9, K_m_becomes_11, K_m_becomes_12, K_m_becomes_10, K_m_becomes_8, K_m_becomes_6, K_m_becomes_16, K_m_becomes_19, K_m_becomes_20, K_m_becomes_18, K_m_becomes_17, K_m_becomes_15, K_m_becomes_13, K_m_becomes_23, K_m_becomes_25, K_m_becomes_26, K_m_becomes_24, K_m_becomes_21, K_m_becomes_28, K_m_becomes_29, K_m_becomes_27, K_m_becomes_22, K_m_becomes_14, K_m_becomes_7, K_m_becomes_3, K_m_becomes_1, M_m_becomes, K_m_of_1, M_m_of, xc, e75, e72, es, cd, t, ↓reduceIte]
        exact fin _ _ e1 e2 ⟨by rw [if_pos (by decide), es], Or.inl (by decide), Or.inl (by decide)⟩
      · skip
        have e1 : M_nextState dead (nI x) rs may ri pn rt = (0 : Int32) := by
          simp (decide := true) only [K_nextState_28, K_nextState_29, K_nextState_26, K_nextState_33, K_nextState_35, K_nextState_36, K_nextState_34, K_nextState_32, K_nextState_30, K_nextState_40, K_nextState_41, K_nextState_42, K_nextState_39, K_nextState_37, K_nextState_45, K_nextState_46, K_nextState_43, K_nextState_48, K_nextState_49, K_nextState_47, K_nextState_44, K_nextState_38, K_nextState_31, K_nextState_27, K_nextState_3, K_nextState_6, K_nextState_7, K_nextState_4, K_nextState_11, K_nextState_13, K_nextState_14, K_nextState_12, K_nextState_10, K_nextState_8, K_nextState_18, K_nextState_17, K_nextState_15, K_nextState_21, K_nextState_22, K_nextState_19, K_nextState_24, K_nextState_25, K_nextState_23, K_nextState_20, K_nextState_16, K_nextState_9, K_nextState_5, K_nextState_2, K_nextState_1, M_nextState, K_number_1, M_number, xc, e85, e82, hs, hi, hk, h5, h2, es, cd, t, ↓reduceIte]
        have e2 : M_m_becomes S (nI x) may I Td D K = (0 : Int32) := by
          simp (decide := true) only [K_m_becomes_4, K_m_becomes_5, K_m_becomes_2, K_m_becomes_9, K_m_becomes_11, K_m_becomes_12, K_m_becomes_10, K_m_becomes_8, K_m_becomes_6, K_m_becomes_16, K_m_becomes_19, K_m_becomes_20, K_m_becomes_18, K_m_becomes_17, K_m_becomes_15, K_m_becomes_13, K_m_becomes_23, K_m_becomes_25, K_m_becomes_26, K_m_becomes_24, K_m_becomes_21, K_m_becomes_28, K_m_becomes_29, K_m_becomes_27, K_m_becomes_22, K_m_becomes_14, K_m_becomes_7, K_m_becomes_3, K_m_becomes_1, M_m_becomes, K_m_of_1, M_m_of, xc, e75, e72, es, cd, t, ↓reduceIte]
        exact fin _ _ e1 e2 ⟨by rw [if_neg (by decide)], Or.inr ⟨by decide, by decide, by rw [es]; decide⟩, Or.inr (Or.inr ⟨rfl, Or.inr (Or.inr (Or.inr (Or.inr (Or.inr (Or.inr (⟨s, (by decide)⟩))))))⟩)⟩
-- 91.round
theorem t_become {n0 ysz tk : Int32} {rs ri ra rg ya yb yc : Nat → Int32} {x : Nat} (hx : x < 8) : M_become n0 rs (nI x) ri ra rg ysz ya tk yb yc = (upd rs x n0, upd ri x 0, (if n0.toInt = 1 then upd ra x 0 else ra), (if n0.toInt = 3 then upd rg x (rg x + 1) else rg), (M_note ysz ya tk yb (nI x) yc n0).1, (M_note ysz ya tk yb (nI x) yc n0).2.1, (M_note ysz ya tk yb (nI x) yc n0).2.2.1, (M_note ysz ya tk yb (nI x) yc n0).2.2.2) := by
  have xc : (nI x).toNatClampNeg = x := nI_clamp (by omega)
  simp only [K_become_8, K_become_3, K_become_7, K_become_5, K_become_6, K_become_4, K_become_2, K_become_1, M_become, xc]
  by_cases a : n0.toInt = 1
  · rw [if_pos a, if_pos a, if_neg (by omega)]
  · rw [if_neg a, if_neg a]
    by_cases b : n0.toInt = 3
    · rw [if_pos b, if_pos b]
    · rw [if_neg b, if_neg b]
/-- one RAIL in a round, the class's side -/
theorem c_rnd {may tk dead any ysz : Int32} {pn rt rs ri ra rg ya yb yc : Nat → Int32} {ok : Nat → Bool} {q x : Nat} (q8 : q ≤ 8) (hx : x < q) (hm : xb may x = ok x) (k : Nat) : K_changeRails_L2 (nI q) may tk dead pn rt (k + 1) (nI x) any rs ri ra rg ysz ya yb yc = if (M_nextState dead (nI x) rs (if ok x = true then 1 else 0) ri pn rt).toInt = (rs x).toInt then K_changeRails_L2 (nI q) may tk dead pn rt k (nI (x + 1)) any rs ri ra rg ysz ya yb yc else K_changeRails_L2 (nI q) may tk dead pn rt k (nI (x + 1)) 1 (M_become (M_nextState dead (nI x) rs (if ok x = true then 1 else 0) ri pn rt) rs (nI x) ri ra rg ysz ya tk yb yc).1 (M_become (M_nextState dead (nI x) rs (if ok x = true then 1 else 0) ri pn rt) rs (nI x) ri ra rg ysz ya tk yb yc).2.1 (M_become (M_nextState dead (nI x) rs (if ok x = true then 1 else 0) ri pn rt) rs (nI x) ri ra rg ysz ya tk yb yc).2.2.1 (M_become (M_nextState dead (nI x) rs (if ok x = true then 1 else 0) ri pn rt) rs (nI x) ri ra rg ysz ya tk yb yc).2.2.2.1 (M_become (M_nextState dead (nI x) rs (if ok x = true then 1 else 0) ri pn rt) rs (nI x) ri ra rg ysz ya tk yb yc).2.2.2.2.1 (M_become (M_nextState dead (nI x) rs (if ok x = true then 1 else 0) ri pn rt) rs (nI x) ri ra rg ysz ya tk yb yc).2.2.2.2.2.1 (M_become (M_nextState dead (nI x) rs (if ok x = true then 1 else 0) ri pn rt) rs (nI x) ri ra rg ysz ya tk yb yc).2.2.2.2.2.2.1 (M_become (M_nextState dead (nI x) rs (if ok x = true then 1 else 0) ri pn rt) rs (nI x) ri ra rg ysz ya tk yb yc).2.2.2.2.2.2.2 := by
  have xc : (nI x).toNatClampNeg = x := nI_clamp (by omega)
  have qq : (nI q).toInt = (q : Int) := nI_toInt (by omega)
  have xx : (nI x).toInt = (x : Int) := nI_toInt (by omega)
  simp only [K_changeRails_L2, K_changeRails_3, K_changeRails_12, K_changeRails_14, K_changeRails_13, K_changeRails_11, K_changeRails_6, K_changeRails_8, K_changeRails_10, K_changeRails_9, K_changeRails_7, K_changeRails_5, K_changeRails_4, K_changeRails_2, K_changeRails_1, M_changeRails, xc]
  rw [if_neg (by omega), nI_1]
  by_cases m : ok x = true
  · rw [if_pos ((xsr_1 may (by omega)).mpr (by rw [hm]; exact m)), if_pos m]
  · rw [if_neg (fun z => m (by have := (xsr_1 may (by omega)).mp z; rw [hm] at this; exact this)), if_neg m]
/-- one RAIL in a round, the reference's side -/
theorem m_rnd {mhe tk any mh : Int32} {Td D K Tb I U G H S pn Nm : Nat → Int32} {pt : Nat → Int64} {ok : Nat → Bool} {q x good : Nat} (hE : xE true q pn pt Td Nm Tb) (q8 : q ≤ 8) (hx : x < q) (hg : good < 512) (hm : (decide (mhe.toInt = 0) && hb pt x good) = ok x) (k : Nat) : K_m_round_L3 (nI q) mhe tk Td D K Tb (nI good) (k + 1) (nI x) any I U G H mh S = if (M_m_becomes S (nI x) (if ok x = true then 1 else 0) I Td D K).toInt = -4 then K_m_round_L3 (nI q) mhe tk Td D K Tb (nI good) k (nI (x + 1)) any I U G H mh S else K_m_round_L3 (nI q) mhe tk Td D K Tb (nI good) k (nI (x + 1)) 1 (upd I x 0) (upd U x (if (M_m_becomes S (nI x) (if ok x = true then 1 else 0) I Td D K).toInt = 1 then 0 else U x)) (upd G x (G x + (if (M_m_becomes S (nI x) (if ok x = true then 1 else 0) I Td D K).toInt = 3 then 1 else 0))) (M_m_happens mh H tk (nI x) (M_m_becomes S (nI x) (if ok x = true then 1 else 0) I Td D K)).2 (M_m_happens mh H tk (nI x) (M_m_becomes S (nI x) (if ok x = true then 1 else 0) I Td D K)).1 (upd S x (M_m_becomes S (nI x) (if ok x = true then 1 else 0) I Td D K)) := by
  have xc : (nI x).toNatClampNeg = x := nI_clamp (by omega)
  have qq : (nI q).toInt = (q : Int) := nI_toInt (by omega)
  have xx : (nI x).toInt = (x : Int) := nI_toInt (by omega)
  simp only [K_m_round_L3, K_m_round_4, K_m_round_22, K_m_round_26, K_m_round_25, K_m_round_28, K_m_round_27, K_m_round_24, K_m_round_30, K_m_round_29, K_m_round_23, K_m_round_21, K_m_round_19, K_m_round_32, K_m_round_36, K_m_round_35, K_m_round_38, K_m_round_37, K_m_round_34, K_m_round_40, K_m_round_39, K_m_round_33, K_m_round_31, K_m_round_20, K_m_round_18, K_m_round_7, K_m_round_9, K_m_round_13, K_m_round_12, K_m_round_15, K_m_round_14, K_m_round_11, K_m_round_17, K_m_round_16, K_m_round_10, K_m_round_8, K_m_round_6, K_m_round_5, K_m_round_3, K_m_round_42, K_m_round_43, K_m_round_41, K_m_round_1, M_m_round, xc]
  rw [if_neg (by omega), nI_1, t_so hE q8 hx hg]
  by_cases a : mhe.toInt = 0
  · rw [if_pos a]
    by_cases b : hb pt x good = true
    · have m : ok x = true := by rw [← hm, b]; simp [a]
      rw [if_pos b, if_neg (by decide), if_pos m]
      by_cases c : (M_m_becomes S (nI x) 1 I Td D K).toInt = -4
      · rw [if_pos c, if_pos c]
      · rw [if_neg c, if_neg c]
        by_cases d1 : (M_m_becomes S (nI x) 1 I Td D K).toInt = 1
        · rw [if_pos d1, if_pos d1]
          by_cases d3 : (M_m_becomes S (nI x) 1 I Td D K).toInt = 3
          · rw [if_pos d3, if_pos d3]
          · rw [if_neg d3, if_neg d3]
        · rw [if_neg d1, if_neg d1]
          by_cases d3 : (M_m_becomes S (nI x) 1 I Td D K).toInt = 3
          · rw [if_pos d3, if_pos d3]
          · rw [if_neg d3, if_neg d3]
    · have m : ¬ ok x = true := by rw [← hm]; simp [b]
      rw [if_neg b, if_pos (by decide), if_neg m]
      by_cases c : (M_m_becomes S (nI x) 0 I Td D K).toInt = -4
      · rw [if_pos c, if_pos c]
      · rw [if_neg c, if_neg c]
        by_cases d1 : (M_m_becomes S (nI x) 0 I Td D K).toInt = 1
        · rw [if_pos d1, if_pos d1]
          by_cases d3 : (M_m_becomes S (nI x) 0 I Td D K).toInt = 3
          · rw [if_pos d3, if_pos d3]
          · rw [if_neg d3, if_neg d3]
        · rw [if_neg d1, if_neg d1]
          by_cases d3 : (M_m_becomes S (nI x) 0 I Td D K).toInt = 3
          · rw [if_pos d3, if_pos d3]
          · rw [if_neg d3, if_neg d3]
  · have m : ¬ ok x = true := by rw [← hm]; simp [a]
    rw [if_neg a, if_neg m]
    by_cases c : (M_m_becomes S (nI x) 0 I Td D K).toInt = -4
    · rw [if_pos c, if_pos c]
    · rw [if_neg c, if_neg c]
      by_cases d1 : (M_m_becomes S (nI x) 0 I Td D K).toInt = 1
      · rw [if_pos d1, if_pos d1]
        by_cases d3 : (M_m_becomes S (nI x) 0 I Td D K).toInt = 3
        · rw [if_pos d3, if_pos d3]
        · rw [if_neg d3, if_neg d3]
      · rw [if_neg d1, if_neg d1]
        by_cases d3 : (M_m_becomes S (nI x) 0 I Td D K).toInt = 3
        · rw [if_pos d3, if_pos d3]
        · rw [if_neg d3, if_neg d3]
/-- a whole round: one on both sides -/
theorem b_rnd {may tk dead mhe : Int32} {pn rt Td D K Tb Nm : Nat → Int32} {pt : Nat → Int64} {ok : Nat → Bool} {q good : Nat} (hE : xE true q pn pt Td Nm Tb) (q8 : q ≤ 8) (hg : good < 512) (hd : xDd dead D) (hrt : ∀ j, j < q → rt j = K j ∧ 1 ≤ (K j).toInt) (h1 : ∀ x, x < q → xb may x = ok x) (h2 : ∀ x, x < q → (decide (mhe.toInt = 0) && hb pt x good) = ok x) : ∀ (m x k : Nat) (any ysz mh : Int32) (rs ri ra rg ya yb yc I U G H S : Nat → Int32), x + m = q → xR4 q rs ri ra rg S I U G → xHi ysz ya yb yc mh H → (0 ≤ ysz.toInt ∧ ysz.toInt ≤ 64) →
    ∃ (any' ysz' mh' : Int32) (rs' ri' ra' rg' ya' yb' yc' I' U' G' H' S' : Nat → Int32), K_changeRails_L2 (nI q) may tk dead pn rt (k + m + 1) (nI x) any rs ri ra rg ysz ya yb yc = (any', rs', ri', ra', rg', ysz', ya', yb', yc') ∧ K_m_round_L3 (nI q) mhe tk Td D K Tb (nI good) (k + m + 1) (nI x) any I U G H mh S = (any', mh', S', I', U', G', H') ∧ xR4 q rs' ri' ra' rg' S' I' U' G' ∧ xHi ysz' ya' yb' yc' mh' H' ∧ (0 ≤ ysz'.toInt ∧ ysz'.toInt ≤ 64) ∧ (∀ j, j < x → S' j = S j ∧ I' j = I j) ∧ (∀ j, x ≤ j → j < q → xStep (ok j) (S j).toInt (I j).toInt (S' j).toInt (I' j).toInt) ∧ ((any' = any ∧ ∀ j, j < q → S' j = S j) ∨ (any' = 1 ∧ ∃ j, j < q ∧ (S' j).toInt ≠ (S j).toInt)) := by
  have qq : (nI q).toInt = (q : Int) := nI_toInt (by omega)
  intro m
  induction m with
  | zero =>
    intro x k any ysz mh rs ri ra rg ya yb yc I U G H S hx h4 hh hy
    have xx : (nI x).toInt = (x : Int) := nI_toInt (by omega)
    refine ⟨any, ysz, mh, rs, ri, ra, rg, ya, yb, yc, I, U, G, H, S, ?_, ?_, h4, hh, hy, fun j _ => ⟨rfl, rfl⟩, fun j j1 j2 => absurd j1 (by omega), Or.inl ⟨rfl, fun j _ => rfl⟩⟩
    · simp only [K_changeRails_L2, K_changeRails_3, K_changeRails_12, K_changeRails_14, K_changeRails_13, K_changeRails_11, K_changeRails_6, K_changeRails_8, K_changeRails_10, K_changeRails_9, K_changeRails_7, K_changeRails_5, K_changeRails_4, K_changeRails_2, K_changeRails_1, M_changeRails]
      rw [if_pos (by omega)]
    · simp only [K_m_round_L3, K_m_round_4, K_m_round_22, K_m_round_26, K_m_round_25, K_m_round_28, K_m_round_27, K_m_round_24, K_m_round_30, K_m_round_29, K_m_round_23, K_m_round_21, K_m_round_19, K_m_round_32, K_m_round_36, K_m_round_35, K_m_round_38, K_m_round_37, K_m_round_34, K_m_round_40, K_m_round_39, K_m_round_33, K_m_round_31, K_m_round_20, K_m_round_18, K_m_round_7, K_m_round_9, K_m_round_13, K_m_round_12, K_m_round_15, K_m_round_14, K_m_round_11, K_m_round_17, K_m_round_16, K_m_round_10, K_m_round_8, K_m_round_6, K_m_round_5, K_m_round_3, K_m_round_42, K_m_round_43, K_m_round_41, K_m_round_1, M_m_round]
      rw [if_pos (by omega)]
  | succ m ih =>
    intro x k any ysz mh rs ri ra rg ya yb yc I U G H S hx h4 hh hy
    obtain ⟨hr, hz⟩ := h4
    obtain ⟨r1, r2, r3, r4, r5⟩ := hr x (by omega)
    obtain ⟨n1, -, -⟩ := hE x (by omega)
    have nx := r_next (may := if ok x = true then 1 else 0) (by omega) r1 r2 (hrt x (by omega)).1 (n1 5 (by decide) (Or.inr rfl)) (n1 2 (by decide) (Or.inr rfl)) r5 hd (ok := ok x) (by
      cases o : ok x
      · exact Or.inl ⟨rfl, if_neg (by decide)⟩
      · exact Or.inr ⟨rfl, if_pos rfl⟩) (hrt x (by omega)).2
    have cr := c_rnd (any := any) (tk := tk) (dead := dead) (ysz := ysz) (pn := pn) (rt := rt) (rs := rs) (ri := ri) (ra := ra) (rg := rg) (ya := ya) (yb := yb) (yc := yc) q8 (show x < q by omega) (h1 x (by omega)) (k + m + 1)
    have mr := m_rnd (any := any) (tk := tk) (mh := mh) (mhe := mhe) (Td := Td) (D := D) (K := K) (I := I) (U := U) (G := G) (H := H) (S := S) hE q8 (show x < q by omega) hg (h2 x (by omega)) (k + m + 1)
    show ∃ (any' ysz' mh' : Int32) (rs' ri' ra' rg' ya' yb' yc' I' U' G' H' S' : Nat → Int32), K_changeRails_L2 (nI q) may tk dead pn rt ((k + m + 1) + 1) (nI x) any rs ri ra rg ysz ya yb yc = (any', rs', ri', ra', rg', ysz', ya', yb', yc') ∧ K_m_round_L3 (nI q) mhe tk Td D K Tb (nI good) ((k + m + 1) + 1) (nI x) any I U G H mh S = (any', mh', S', I', U', G', H') ∧ xR4 q rs' ri' ra' rg' S' I' U' G' ∧ xHi ysz' ya' yb' yc' mh' H' ∧ (0 ≤ ysz'.toInt ∧ ysz'.toInt ≤ 64) ∧ (∀ j, j < x → S' j = S j ∧ I' j = I j) ∧ (∀ j, x ≤ j → j < q → xStep (ok j) (S j).toInt (I j).toInt (S' j).toInt (I' j).toInt) ∧ ((any' = any ∧ ∀ j, j < q → S' j = S j) ∨ (any' = 1 ∧ ∃ j, j < q ∧ (S' j).toInt ≠ (S j).toInt))
    rw [cr, mr]
    generalize M_m_becomes S (nI x) (if ok x = true then 1 else 0) I Td D K = to at nx ⊢
    rw [nx.1, r1]
    obtain ⟨nx1, nx2, nx3⟩ := nx
    rcases nx2 with z | ⟨z1, z2, z3⟩
    · rw [if_pos z, if_pos rfl, if_pos z]
      obtain ⟨any', ysz', mh', rs', ri', ra', rg', ya', yb', yc', I', U', G', H', S', g1, g2, g3, g4, g5, g6, g7, g8⟩ := ih (x + 1) k any ysz mh rs ri ra rg ya yb yc I U G H S (by omega) ⟨hr, hz⟩ hh hy
      refine ⟨any', ysz', mh', rs', ri', ra', rg', ya', yb', yc', I', U', G', H', S', g1, g2, g3, g4, g5, fun j hj => g6 j (by omega), fun j j1 j2 => ?_, g8⟩
      by_cases e : j = x
      · obtain ⟨a1, a2⟩ := g6 j (by omega)
        rw [a1, a2]
        exact Or.inl ⟨rfl, rfl⟩
      · exact g7 j (by omega) j2
    · have sx : xStep (ok x) (S x).toInt (I x).toInt to.toInt 0 := by
        rcases nx3 with y | y
        · omega
        · exact y
      rw [if_neg (by omega : ¬ to.toInt = -4), if_neg (fun y => z3 (Int32.toInt_inj.mp y)), if_neg (by omega : ¬ to.toInt = -4), t_become (by omega)]
      have nt := r_note (t := tk) (r := nI x) (w := to) hh hy
      have h9 : xR4 q (upd rs x to) (upd ri x 0) (if to.toInt = 1 then upd ra x 0 else ra) (if to.toInt = 3 then upd rg x (rg x + 1) else rg) (upd S x to) (upd I x 0) (upd U x (if to.toInt = 1 then 0 else U x)) (upd G x (G x + (if to.toInt = 3 then 1 else 0))) := by
        refine ⟨fun j hj => ?_, fun j j1 j2 => ?_⟩
        · obtain ⟨s1, s2, s3, s4, s5⟩ := hr j hj
          by_cases e : j = x
          · subst e
            rw [xupd_s, xupd_s, xupd_s, xupd_s, xupd_s, xupd_s]
            refine ⟨rfl, rfl, ?_, ?_, z1, z2⟩
            · by_cases a : to.toInt = 1
              · rw [if_pos a, if_pos a, xupd_s]
              · rw [if_neg a, if_neg a]
                exact s3
            · by_cases a : to.toInt = 3
              · rw [if_pos a, if_pos a, xupd_s, s4]
              · rw [if_neg a, if_neg a, xadd0]
                exact s4
          · rw [xupd_o e, xupd_o e, xupd_o e, xupd_o e, xupd_o e, xupd_o e]
            refine ⟨s1, s2, ?_, ?_, s5⟩
            · by_cases a : to.toInt = 1
              · rw [if_pos a, xupd_o e]
                exact s3
              · rw [if_neg a]
                exact s3
            · by_cases a : to.toInt = 3
              · rw [if_pos a, xupd_o e]
                exact s4
              · rw [if_neg a]
                exact s4
        · rw [xupd_o (by omega)]
          exact hz j j1 j2
      obtain ⟨any', ysz', mh', rs', ri', ra', rg', ya', yb', yc', I', U', G', H', S', g1, g2, g3, g4, g5, g6, g7, g8⟩ := ih (x + 1) k 1 _ _ (upd rs x to) (upd ri x 0) (if to.toInt = 1 then upd ra x 0 else ra) (if to.toInt = 3 then upd rg x (rg x + 1) else rg) _ _ _ (upd I x 0) (upd U x (if to.toInt = 1 then 0 else U x)) (upd G x (G x + (if to.toInt = 3 then 1 else 0))) _ (upd S x to) (by omega) h9 nt.1 nt.2
      refine ⟨any', ysz', mh', rs', ri', ra', rg', ya', yb', yc', I', U', G', H', S', g1, g2, g3, g4, g5, fun j hj => ?_, fun j j1 j2 => ?_, Or.inr ⟨?_, x, by omega, ?_⟩⟩
      · obtain ⟨a1, a2⟩ := g6 j (by omega)
        rw [a1, a2, xupd_o (by omega), xupd_o (by omega)]
        exact ⟨rfl, rfl⟩
      · by_cases e : j = x
        · subst e
          obtain ⟨a1, a2⟩ := g6 j (by omega)
          rw [a1, a2, xupd_s, xupd_s]
          exact sx
        · have := g7 j (by omega) j2
          rw [xupd_o e, xupd_o e] at this
          exact this
      · rcases g8 with ⟨y, -⟩ | ⟨y, -⟩
        · exact y
        · exact y
      · rw [(g6 x (by omega)).1, xupd_s]
        exact fun y => z3 (Int32.toInt_inj.mp y)
-- 92.settle
theorem g_in {f : Nat → Int32} {w : Int32} {q : Nat} (q8 : q ≤ 8) : ∀ (m r k : Nat), r + m = q → K_m_allIn_L2 (nI q) f w (k + m + 1) (nI r) (nI (xup (fun j => decide ((f j).toInt = w.toInt)) r 0)) = nI (xup (fun j => decide ((f j).toInt = w.toInt)) q 0) := by
  have qq : (nI q).toInt = (q : Int) := nI_toInt (by omega)
  intro m
  induction m with
  | zero =>
    intro r k hr
    have rr : (nI r).toInt = (r : Int) := nI_toInt (by omega)
    obtain rfl : r = q := by omega
    simp only [K_m_allIn_L2, K_m_allIn_3, K_m_allIn_6, K_m_allIn_5, K_m_allIn_4, K_m_allIn_2, K_m_allIn_1, M_m_allIn]
    rw [if_pos (by omega)]
  | succ m ih =>
    intro r k hr
    have rr : (nI r).toInt = (r : Int) := nI_toInt (by omega)
    have rc : (nI r).toNatClampNeg = r := nI_clamp (by omega)
    have l := xup_lt (c := fun j => decide ((f j).toInt = w.toInt)) (show 0 < 256 by decide) r (by omega)
    have z := ih (r + 1) k (by omega)
    rw [← z]
    show K_m_allIn_L2 (nI q) f w ((k + m + 1) + 1) (nI r) _ = _
    generalize k + m + 1 = j
    simp only [K_m_allIn_L2, K_m_allIn_3, K_m_allIn_6, K_m_allIn_5, K_m_allIn_4, K_m_allIn_2, K_m_allIn_1, M_m_allIn]
    rw [if_neg (by omega), rc, nI_1, xor00]
    have st : xup (fun j => decide ((f j).toInt = w.toInt)) (r + 1) 0 = if decide ((f r).toInt = w.toInt) = true then xup (fun j => decide ((f j).toInt = w.toInt)) r 0 ||| 2 ^ r else xup (fun j => decide ((f j).toInt = w.toInt)) r 0 := rfl
    rw [st]
    by_cases c : (f r).toInt = w.toInt
    · rw [if_pos c, if_pos (decide_eq_true c), x_put l (by omega)]
    · rw [if_neg c, if_neg (by simp [c])]
/-- those that are so, the reference's side -/
theorem r_allIn {f : Nat → Int32} {w : Int32} {q : Nat} (q8 : q ≤ 8) : M_m_allIn (nI q) f w = nI (xup (fun j => decide ((f j).toInt = w.toInt)) q 0) := by
  have z := g_in (f := f) (w := w) q8 q 0 (99999 - q) (by omega)
  rw [show 99999 - q + q + 1 = 100000 from by omega] at z
  exact z
theorem t_in {f : Nat → Int32} {w : Int32} : ∀ (m r k : Nat), r + m = 8 → K_railsThatAre_L2 f w (k + m + 1) (nI r) (nI (xup (fun j => decide ((f j).toInt = w.toInt)) r 0)) = nI (xup (fun j => decide ((f j).toInt = w.toInt)) 8 0) := by
  intro m
  induction m with
  | zero =>
    intro r k hr
    have rr : (nI r).toInt = (r : Int) := nI_toInt (by omega)
    obtain rfl : r = 8 := by omega
    simp only [K_railsThatAre_L2, K_railsThatAre_3, K_railsThatAre_6, K_railsThatAre_5, K_railsThatAre_4, K_railsThatAre_2, K_railsThatAre_1, M_railsThatAre]
    rw [if_pos (by omega)]
  | succ m ih =>
    intro r k hr
    have rr : (nI r).toInt = (r : Int) := nI_toInt (by omega)
    have rc : (nI r).toNatClampNeg = r := nI_clamp (by omega)
    have l := xup_lt (c := fun j => decide ((f j).toInt = w.toInt)) (show 0 < 256 by decide) r (by omega)
    have z := ih (r + 1) k (by omega)
    rw [← z]
    show K_railsThatAre_L2 f w ((k + m + 1) + 1) (nI r) _ = _
    generalize k + m + 1 = j
    simp only [K_railsThatAre_L2, K_railsThatAre_3, K_railsThatAre_6, K_railsThatAre_5, K_railsThatAre_4, K_railsThatAre_2, K_railsThatAre_1, M_railsThatAre]
    rw [if_neg (by omega), rc, nI_1]
    have st : xup (fun j => decide ((f j).toInt = w.toInt)) (r + 1) 0 = if decide ((f r).toInt = w.toInt) = true then xup (fun j => decide ((f j).toInt = w.toInt)) r 0 ||| 2 ^ r else xup (fun j => decide ((f j).toInt = w.toInt)) r 0 := rfl
    rw [st]
    by_cases c : (f r).toInt = w.toInt
    · rw [if_pos c, if_pos (decide_eq_true c), x_put l (by omega)]
    · rw [if_neg c, if_neg (by simp [c])]
theorem xup_more {c : Nat → Bool} {g q : Nat} : ∀ n, q ≤ n → (∀ j, q ≤ j → j < n → c j = false) → xup c n g = xup c q g := by
  intro n
  induction n with
  | zero =>
    intro h _
    obtain rfl : q = 0 := by omega
    rfl
  | succ n ih =>
    intro h hc
    by_cases e : q = n + 1
    · rw [e]
    · have c0 := hc n (by omega) (by omega)
      rw [show xup c (n + 1) g = if c n = true then xup c n g ||| 2 ^ n else xup c n g from rfl, c0, if_neg (by decide)]
      exact ih (by omega) (fun j j1 j2 => hc j j1 (by omega))
/-- those that are so: one on both sides -/
theorem r_are {rs ri ra rg S I U G : Nat → Int32} {w : Int32} {q : Nat} (q8 : q ≤ 8) (hw : w.toInt ≠ 0) (h : xR4 q rs ri ra rg S I U G) : M_railsThatAre rs w = M_m_allIn (nI q) S w := by
  have z := t_in (f := rs) (w := w) 8 0 99991 (by omega)
  rw [r_allIn q8, show M_railsThatAre rs w = K_railsThatAre_L2 rs w 100000 (nI 0) (nI 0) from rfl, show K_railsThatAre_L2 rs w 100000 (nI 0) (nI 0) = _ from z]
  congr 1
  rw [xup_more 8 q8 (fun j j1 j2 => by
    have := h.2 j j1 j2
    rw [this]
    have z0 : (0 : Int32).toInt = 0 := by decide
    simp
    omega)]
  exact xup_ext q (fun j hj => by rw [(h.1 j hj).1])
theorem y_in7 {pt : Nat → Int64} {q s : Nat} (q8 : q ≤ 8) (hs : s < 512) : ∀ (m r k : Nat), r + m = q → K_railsThatMay_L7 (nI q) pt (nI s) (k + m + 1) (nI r) (nI (xup (fun j => hb pt j s) r 0)) = nI (xup (fun j => hb pt j s) q 0) ∧ K_railsThatMay_L13 (nI q) pt (nI s) (k + m + 1) (nI r) (nI (xup (fun j => hb pt j s) r 0)) = nI (xup (fun j => hb pt j s) q 0) := by
  have qq : (nI q).toInt = (q : Int) := nI_toInt (by omega)
  intro m
  induction m with
  | zero =>
    intro r k hr
    have rr : (nI r).toInt = (r : Int) := nI_toInt (by omega)
    obtain rfl : r = q := by omega
    simp only [K_railsThatMay_L7, K_railsThatMay_L13, K_railsThatMay_8, K_railsThatMay_11, K_railsThatMay_12, K_railsThatMay_10, K_railsThatMay_9, K_railsThatMay_7, K_railsThatMay_5, K_railsThatMay_14, K_railsThatMay_17, K_railsThatMay_18, K_railsThatMay_16, K_railsThatMay_15, K_railsThatMay_13, K_railsThatMay_6, K_railsThatMay_4, K_railsThatMay_2, K_railsThatMay_3, K_railsThatMay_1, M_railsThatMay]
    exact ⟨if_pos (by omega), if_pos (by omega)⟩
  | succ m ih =>
    intro r k hr
    have rr : (nI r).toInt = (r : Int) := nI_toInt (by omega)
    have l := xup_lt (c := fun j => hb pt j s) (show 0 < 256 by decide) r (by omega)
    have z := ih (r + 1) k (by omega)
    show K_railsThatMay_L7 (nI q) pt (nI s) ((k + m + 1) + 1) (nI r) _ = _ ∧ K_railsThatMay_L13 (nI q) pt (nI s) ((k + m + 1) + 1) (nI r) _ = _
    generalize k + m + 1 = j at z ⊢
    have st : xup (fun j => hb pt j s) (r + 1) 0 = if hb pt r s = true then xup (fun j => hb pt j s) r 0 ||| 2 ^ r else xup (fun j => hb pt j s) r 0 := rfl
    rw [st] at z
    simp only [K_railsThatMay_L7, K_railsThatMay_L13, K_railsThatMay_8, K_railsThatMay_11, K_railsThatMay_12, K_railsThatMay_10, K_railsThatMay_9, K_railsThatMay_7, K_railsThatMay_5, K_railsThatMay_14, K_railsThatMay_17, K_railsThatMay_18, K_railsThatMay_16, K_railsThatMay_15, K_railsThatMay_13, K_railsThatMay_6, K_railsThatMay_4, K_railsThatMay_2, K_railsThatMay_3, K_railsThatMay_1, M_railsThatMay]
    rw [if_neg (show ¬ (nI q).toInt ≤ (nI r).toInt by omega), if_neg (show ¬ (nI q).toInt ≤ (nI r).toInt by omega), t_holds (by omega) hs, nI_1]
    by_cases c : hb pt r s = true
    · rw [if_pos c] at z
      rw [if_pos c, if_neg (by decide), if_neg (by decide), x_put l (by omega)]
      exact z
    · rw [if_neg c] at z
      rw [if_neg c, if_pos (by decide), if_pos (by decide)]
      exact z
/-- those that are good, and the key -/
def xgd (q : Nat) (S : Nat → Int32) (on : Int32) : Nat := xup (fun j => decide ((S j).toInt = 3)) q 0 + (if on.toInt = 0 then 0 else 256)
theorem xgd_lt {q : Nat} {S : Nat → Int32} {on : Int32} (q8 : q ≤ 8) : xgd q S on < 512 := by
  have := xup_lt (c := fun j => decide ((S j).toInt = 3)) (show 0 < 256 by decide) q q8
  unfold xgd
  split <;> omega
theorem r_may {held key : Int32} {rs ri ra rg S I U G : Nat → Int32} {pt : Nat → Int64} {q x : Nat} (q8 : q ≤ 8) (h : xR4 q rs ri ra rg S I U G) (hx : x < q) : xb (M_railsThatMay held key (nI q) pt rs) x = (decide (held.toInt = 0) && hb pt x (xgd q S key)) := by
  have l := xup_lt (c := fun j => decide ((S j).toInt = 3)) (show 0 < 256 by decide) q q8
  simp only [K_railsThatMay_8, K_railsThatMay_11, K_railsThatMay_12, K_railsThatMay_10, K_railsThatMay_9, K_railsThatMay_5, K_railsThatMay_14, K_railsThatMay_17, K_railsThatMay_18, K_railsThatMay_16, K_railsThatMay_15, K_railsThatMay_6, K_railsThatMay_4, K_railsThatMay_2, K_railsThatMay_3, K_railsThatMay_1, M_railsThatMay]
  by_cases a : held.toInt = 0
  · rw [if_pos a, r_are q8 (by decide) h, r_allIn q8, show ((3 : Int32).toInt) = 3 from by decide]
    have bit : ∀ s, xb (nI (xup (fun j => hb pt j s) q 0)) x = hb pt x s := fun s => by
      rw [xb_nI (by omega), xup_bit]
      simp [hx]
    by_cases b : key.toInt = 0
    · rw [if_pos b, xor00]
      have z := (y_in7 (pt := pt) (s := xup (fun j => decide ((S j).toInt = 3)) q 0) q8 (by omega) q 0 (99999 - q) (by omega)).1
      rw [show 99999 - q + q + 1 = 100000 from by omega] at z
      rw [show K_railsThatMay_L7 (nI q) pt (nI (xup (fun j => decide ((S j).toInt = 3)) q 0)) 100000 0 0 = _ from z, bit]
      unfold xgd
      rw [if_pos b]
      simp [a]
    · rw [if_neg b, x_or256 l]
      have z := (y_in7 (pt := pt) (s := xup (fun j => decide ((S j).toInt = 3)) q 0 + 256) q8 (by omega) q 0 (99999 - q) (by omega)).2
      rw [show 99999 - q + q + 1 = 100000 from by omega] at z
      rw [show K_railsThatMay_L13 (nI q) pt (nI (xup (fun j => decide ((S j).toInt = 3)) q 0 + 256)) 100000 0 0 = _ from z, bit]
      unfold xgd
      rw [if_neg b]
      simp [a]
  · rw [if_neg a, xb_z]
    simp [a]
theorem xAll_up {S : Nat → Int32} : ∀ n, n ≤ 8 → xAll S 3 n = nI (xup (fun j => decide ((S j).toInt = 3)) n 0) := by
  intro n
  induction n with
  | zero => exact fun _ => rfl
  | succ n ih =>
    intro hn
    have l := xup_lt (c := fun j => decide ((S j).toInt = 3)) (show 0 < 256 by decide) n (by omega)
    unfold xAll xup
    rw [ih (by omega)]
    by_cases c : (S n).toInt = 3
    · rw [if_pos c, if_pos (decide_eq_true c), x_put l (by omega)]
    · rw [if_neg c, if_neg (by simp [c]), xor00]
theorem xGd_up {S : Nat → Int32} {on : Int32} {q : Nat} (q8 : q ≤ 8) : xGd S q on = nI (xgd q S on) := by
  have l := xup_lt (c := fun j => decide ((S j).toInt = 3)) (show 0 < 256 by decide) q q8
  unfold xGd xgd
  rw [xAll_up q q8]
  by_cases b : on.toInt = 0
  · rw [if_pos b, if_pos b, xor00]
    rfl
  · rw [if_neg b, if_neg b, x_or256 l]
theorem xBf_up {pn Td Nm Tb S : Nat → Int32} {pt : Nat → Int64} {on held : Int32} {q x : Nat} (hE : xE true q pn pt Td Nm Tb) (q8 : q ≤ 8) (hx : x < q) : xBf Tb S q on held x = (decide (held.toInt = 0) && hb pt x (xgd q S on)) := by
  have g := xgd_lt (S := S) (on := on) q8
  unfold xBf
  rw [xGd_up q8, nI_clamp (by omega), (hE x hx).2.2.1 _ g]
  have e : xbt (fun i => pt (8 * x + i)) (xgd q S on) = hb pt x (xgd q S on) := rfl
  rw [e]
  cases hb pt x (xgd q S on) <;> by_cases a : held.toInt = 0 <;> simp [a]
/-- what a round of the reference looks at -/
theorem f_round {key held tk mh : Int32} {Td D K Tb I U G H S : Nat → Int32} {q : Nat} (q8 : q ≤ 8) : M_m_round key (nI q) held tk Td D K Tb I U G H mh S = K_m_round_L3 (nI q) held tk Td D K Tb (nI (xgd q S key)) 100000 0 0 I U G H mh S := by
  have l := xup_lt (c := fun j => decide ((S j).toInt = 3)) (show 0 < 256 by decide) q q8
  simp only [K_m_round_4, K_m_round_22, K_m_round_26, K_m_round_25, K_m_round_28, K_m_round_27, K_m_round_24, K_m_round_30, K_m_round_29, K_m_round_23, K_m_round_21, K_m_round_19, K_m_round_32, K_m_round_36, K_m_round_35, K_m_round_38, K_m_round_37, K_m_round_34, K_m_round_40, K_m_round_39, K_m_round_33, K_m_round_31, K_m_round_20, K_m_round_18, K_m_round_7, K_m_round_9, K_m_round_13, K_m_round_12, K_m_round_15, K_m_round_14, K_m_round_11, K_m_round_17, K_m_round_16, K_m_round_10, K_m_round_8, K_m_round_6, K_m_round_5, K_m_round_2, K_m_round_42, K_m_round_43, K_m_round_41, K_m_round_1, M_m_round]
  rw [r_allIn q8, show ((3 : Int32).toInt) = 3 from by decide]
  unfold xgd
  by_cases b : key.toInt = 0
  · rw [if_pos b, if_pos b, xor00]
    rfl
  · rw [if_neg b, if_neg b, x_or256 l]
theorem b_set {tk dead held key : Int32} {pn rt Td D K Tb Nm : Nat → Int32} {pt : Nat → Int64} {q : Nat} (hE : xE true q pn pt Td Nm Tb) (q8 : q ≤ 8) (hd : xDd dead D) (hrt : ∀ j, j < q → rt j = K j ∧ 1 ≤ (K j).toInt) : ∀ (u rd kc km : Nat) (ysz mh : Int32) (rs ri ra rg ya yb yc I U G H S : Nat → Int32), rd + u ≤ 998 → xM S I Tb q key held ≤ (u : Int) → xR4 q rs ri ra rg S I U G → xHi ysz ya yb yc mh H → (0 ≤ ysz.toInt ∧ ysz.toInt ≤ 64) →
    ∃ (ysz' mh' : Int32) (rs' ri' ra' rg' ya' yb' yc' I' U' G' H' S' : Nat → Int32), K_settle_L2 (nI q) tk dead pn rt held key pt (kc + u + 2) (nI rd) 1 rs ri ra rg ysz ya yb yc = (rs', ri', ra', rg', ysz', ya', yb', yc') ∧ K_m_settles_L2 key (nI q) held tk Td D K Tb (km + u + 2) 1 mh S I U G H = (mh', S', I', U', G', H') ∧ xR4 q rs' ri' ra' rg' S' I' U' G' ∧ xHi ysz' ya' yb' yc' mh' H' ∧ (0 ≤ ysz'.toInt ∧ ysz'.toInt ≤ 64) := by
  intro u
  induction u with
  | zero =>
    intro rd kc km ysz mh rs ri ra rg ya yb yc I U G H S hrd hu h4 hh hy
    obtain ⟨any, ysz1, mh1, rs1, ri1, ra1, rg1, ya1, yb1, yc1, I1, U1, G1, H1, S1, g1, g2, g3, g4, g5, g6, g7, g8⟩ := b_rnd (may := M_railsThatMay held key (nI q) pt rs) (tk := tk) (dead := dead) (mhe := held) (good := xgd q S key) (ok := fun x => decide (held.toInt = 0) && hb pt x (xgd q S key)) hE q8 (xgd_lt q8) hd hrt (fun x hx => r_may q8 h4 hx) (fun x hx => rfl) q 0 (99999 - q) 0 ysz mh rs ri ra rg ya yb yc I U G H S (by omega) h4 hh hy
    rw [show 99999 - q + q + 1 = 100000 from by omega] at g1 g2
    have fall := xM_fall (tab := Tb) (on := key) (held := held) (st := S) (si := I) (st' := S1) (si' := I1) q8 (fun j hj => by rw [xBf_up hE q8 hj]; exact g7 j (by omega) hj)
    have pos := xM_pos S1 I1 Tb q key held
    have rr : (nI rd).toInt = (rd : Int) := nI_toInt (by omega)
    have rr1 : (nI (rd + 1)).toInt = ((rd + 1 : Nat) : Int) := nI_toInt (by omega)
    rcases g8 with ⟨a0, a1⟩ | ⟨a0, a1⟩
    · refine ⟨ysz1, mh1, rs1, ri1, ra1, rg1, ya1, yb1, yc1, I1, U1, G1, H1, S1, ?_, ?_, g3, g4, g5⟩
      · simp only [K_settle_L2, K_settle_3, K_settle_5, K_settle_8, K_settle_7, K_settle_6, K_settle_4, K_settle_2, K_settle_1, M_settle]
        rw [if_neg (by omega), if_neg (by decide), show M_changeRails (nI q) (M_railsThatMay held key (nI q) pt rs) tk dead pn rt rs ri ra rg ysz ya yb yc = _ from g1, a0, nI_1]
        dsimp only
        rw [if_neg (by omega), if_pos (by decide)]
      · simp only [K_m_settles_L2, K_m_settles_3, K_m_settles_5, K_m_settles_4, K_m_settles_2, K_m_settles_1, M_m_settles]
        rw [if_neg (by decide), f_round q8, show K_m_round_L3 (nI q) held tk Td D K Tb (nI (xgd q S key)) 100000 0 0 I U G H mh S = _ from g2, a0]
        dsimp only
        rw [if_pos (by decide)]
    · have := fall.2 a1
      omega
  | succ u ih =>
    intro rd kc km ysz mh rs ri ra rg ya yb yc I U G H S hrd hu h4 hh hy
    obtain ⟨any, ysz1, mh1, rs1, ri1, ra1, rg1, ya1, yb1, yc1, I1, U1, G1, H1, S1, g1, g2, g3, g4, g5, g6, g7, g8⟩ := b_rnd (may := M_railsThatMay held key (nI q) pt rs) (tk := tk) (dead := dead) (mhe := held) (good := xgd q S key) (ok := fun x => decide (held.toInt = 0) && hb pt x (xgd q S key)) hE q8 (xgd_lt q8) hd hrt (fun x hx => r_may q8 h4 hx) (fun x hx => rfl) q 0 (99999 - q) 0 ysz mh rs ri ra rg ya yb yc I U G H S (by omega) h4 hh hy
    rw [show 99999 - q + q + 1 = 100000 from by omega] at g1 g2
    have fall := xM_fall (tab := Tb) (on := key) (held := held) (st := S) (si := I) (st' := S1) (si' := I1) q8 (fun j hj => by rw [xBf_up hE q8 hj]; exact g7 j (by omega) hj)
    have pos := xM_pos S1 I1 Tb q key held
    have rr : (nI rd).toInt = (rd : Int) := nI_toInt (by omega)
    have rr1 : (nI (rd + 1)).toInt = ((rd + 1 : Nat) : Int) := nI_toInt (by omega)
    have cs : ∀ j, K_settle_L2 (nI q) tk dead pn rt held key pt (j + 1) (nI rd) 1 rs ri ra rg ysz ya yb yc = K_settle_L2 (nI q) tk dead pn rt held key pt j (nI (rd + 1)) any rs1 ri1 ra1 rg1 ysz1 ya1 yb1 yc1 := fun j => by
      simp only [K_settle_L2, K_settle_3, K_settle_5, K_settle_8, K_settle_7, K_settle_6, K_settle_4, K_settle_2, K_settle_1, M_settle]
      rw [if_neg (by omega), if_neg (by decide), show M_changeRails (nI q) (M_railsThatMay held key (nI q) pt rs) tk dead pn rt rs ri ra rg ysz ya yb yc = _ from g1, nI_1]
    have ms : ∀ j, K_m_settles_L2 key (nI q) held tk Td D K Tb (j + 1) 1 mh S I U G H = K_m_settles_L2 key (nI q) held tk Td D K Tb j any mh1 S1 I1 U1 G1 H1 := fun j => by
      simp only [K_m_settles_L2, K_m_settles_3, K_m_settles_5, K_m_settles_4, K_m_settles_2, K_m_settles_1, M_m_settles]
      rw [if_neg (by decide), f_round q8, show K_m_round_L3 (nI q) held tk Td D K Tb (nI (xgd q S key)) 100000 0 0 I U G H mh S = _ from g2]
    rw [show kc + (u + 1) + 2 = (kc + u + 2) + 1 from by omega, show km + (u + 1) + 2 = (km + u + 2) + 1 from by omega, cs, ms]
    rcases g8 with ⟨a0, a1⟩ | ⟨a0, a1⟩
    · refine ⟨ysz1, mh1, rs1, ri1, ra1, rg1, ya1, yb1, yc1, I1, U1, G1, H1, S1, ?_, ?_, g3, g4, g5⟩
      · rw [a0]
        show K_settle_L2 (nI q) tk dead pn rt held key pt ((kc + u + 1) + 1) (nI (rd + 1)) 0 rs1 ri1 ra1 rg1 ysz1 ya1 yb1 yc1 = _
        generalize kc + u + 1 = j
        simp only [K_settle_L2, K_settle_3, K_settle_5, K_settle_8, K_settle_7, K_settle_6, K_settle_4, K_settle_2, K_settle_1, M_settle]
        rw [if_neg (by omega), if_pos (by decide)]
      · rw [a0]
        show K_m_settles_L2 key (nI q) held tk Td D K Tb ((km + u + 1) + 1) 0 mh1 S1 I1 U1 G1 H1 = _
        generalize km + u + 1 = j
        simp only [K_m_settles_L2, K_m_settles_3, K_m_settles_5, K_m_settles_4, K_m_settles_2, K_m_settles_1, M_m_settles]
        rw [if_pos (by decide)]
    · have lt := fall.2 a1
      rw [a0]
      exact ih (rd + 1) kc km ysz1 mh1 rs1 ri1 ra1 rg1 ya1 yb1 yc1 I1 U1 G1 H1 S1 (by omega) (by omega) g3 g4 g5
theorem xM_cap2 {S I Tb : Nat → Int32} {q : Nat} {on held : Int32} (q8 : q ≤ 8) : xM S I Tb q on held ≤ 424 := by
  have a := (xSum_cap (f := fun j => xL (S j).toInt (I j).toInt) (c := 2) q (fun j _ => ⟨xL_rng _ _, by
    unfold xL
    split
    · omega
    · split <;> omega⟩)).2
  have b := (xSum_cap (f := fun j => xD (xBf Tb S q on held j) (S j).toInt) (c := 3) q (fun j _ => xD_rng _ _)).2
  unfold xM
  omega
/-- a tick is settled: one on both sides -/
theorem r_settle {tk dead held key ysz mh : Int32} {pn rt Td D K Tb Nm rs ri ra rg ya yb yc I U G H S : Nat → Int32} {pt : Nat → Int64} {q : Nat} (hE : xE true q pn pt Td Nm Tb) (q8 : q ≤ 8) (hd : xDd dead D) (hrt : ∀ j, j < q → rt j = K j ∧ 1 ≤ (K j).toInt) (h4 : xR4 q rs ri ra rg S I U G) (hh : xHi ysz ya yb yc mh H) (hy : 0 ≤ ysz.toInt ∧ ysz.toInt ≤ 64) :
    ∃ (ysz' mh' : Int32) (rs' ri' ra' rg' ya' yb' yc' I' U' G' H' S' : Nat → Int32), M_settle (nI q) tk dead pn rt held key pt rs ri ra rg ysz ya yb yc = (rs', ri', ra', rg', ysz', ya', yb', yc') ∧ M_m_settles key (nI q) held tk Td D K Tb mh S I U G H = (mh', S', I', U', G', H') ∧ xR4 q rs' ri' ra' rg' S' I' U' G' ∧ xHi ysz' ya' yb' yc' mh' H' ∧ (0 ≤ ysz'.toInt ∧ ysz'.toInt ≤ 64) := by
  have cap := xM_cap2 (S := S) (I := I) (Tb := Tb) (on := key) (held := held) q8
  exact b_set hE q8 hd hrt 424 0 99574 99574 ysz mh rs ri ra rg ya yb yc I U G H S (by omega) cap h4 hh hy
-- 93.nb
theorem t_nb {q k : Nat} {pn : Nat → Int32} (hq : q < 8) (hk : k < 8) : M_number pn (nI q) (nI k) = pn (8 * q + k) := by
  simp only [K_number_1, M_number]
  rw [xi8 hq hk]
theorem t_of7 {q k : Nat} {Td : Nat → Int32} (hq : q < 8) (hk : k < 8) : M_m_of Td (nI q) (nI k) = Td (7 * q + k) := by
  simp only [K_m_of_1, M_m_of]
  rw [xi7 hq hk]
-- 93.ties
theorem xPl_text {wt : Bool} {pt : Nat → Int64} {pn rs ri ra rt rg wk sS sI sU sD sT sG oT oN oD pn9 rs9 ri9 ra9 rt9 rg9 wk9 Ftold9 Fnames9 Ftable9 Fstate9 Fsince9 FupSince9 Ftakes9 FwasGood9 FisDead9 : Nat → Int32} {pt9 : Nat → Int64} {rails limit retry behind key tick held tries trips ldraw gdraw ysz dead pk gpk lpk kn slast mra mli mre mpa mtk mon mhe mtr mdn mdm mtp mhp rails9 limit9 retry9 behind9 key9 tick9 held9 tries9 trips9 ldraw9 gdraw9 ysz9 dead9 pk9 gpk9 lpk9 kn9 slast9 mrails9 mlimit9 mretry9 mpause9 misOn9 mtick9 mheld9 mtries9 mtrips9 mdrawnNow9 mdrawnMost9 mhappenings9 lf9 : Int32} (h : xPl wt rails limit retry behind pn pt mra mli mre mpa oD oN oT) (c : (lf9.toInt = 0 ∧ xPl true rails9 limit9 retry9 behind9 pn9 pt9 mrails9 mlimit9 mretry9 mpause9 Ftold9 Fnames9 Ftable9 ∧ xRn rails9.toInt key9 tick9 held9 tries9 trips9 ldraw9 gdraw9 rs9 ri9 ra9 rt9 rg9 misOn9 mtick9 mheld9 mtries9 mtrips9 mdrawnNow9 mdrawnMost9 Fstate9 Fsince9 FupSince9 Ftakes9 FwasGood9 ∧ ysz9 = 0 ∧ mhappenings9 = 0 ∧ dead9 = 0 ∧ (∀ j, j < 8 → FisDead9 j = 0) ∧ pk9 = 0 ∧ kn9 = 0 ∧ (∀ j, j < 64 → wk9 j = 0) ∧ (∀ j : Nat, j < 8 → Fstate9 j = 0) ∧ ∀ j : Nat, (j : Int) < rails9.toInt → Ftakes9 j = Ftold9 (7 * j)) ∨ (¬ lf9.toInt = 0 ∧ (rails9, limit9, retry9, behind9, pn9, pt9, key9, tick9, held9, tries9, trips9, ldraw9, gdraw9, rs9, ri9, ra9, rt9, rg9, ysz9, dead9, pk9, gpk9, lpk9, wk9, kn9, slast9) = (rails, limit, retry, behind, pn, pt, key, tick, held, tries, trips, ldraw, gdraw, rs, ri, ra, rt, rg, ysz, dead, pk, gpk, lpk, wk, kn, slast) ∧ (mrails9, mlimit9, mretry9, mpause9, Ftold9, Fnames9, Ftable9, misOn9, mtick9, mheld9, mtries9, mtrips9, mdrawnNow9, mdrawnMost9, Fstate9, Fsince9, FupSince9, Ftakes9, FwasGood9, mhappenings9, FisDead9) = (mra, mli, mre, mpa, oD, oN, oT, mon, mtk, mhe, mtr, mtp, mdn, mdm, sS, sI, sU, sT, sG, mhp, sD))) : xPl wt rails9 limit9 retry9 behind9 pn9 pt9 mrails9 mlimit9 mretry9 mpause9 Ftold9 Fnames9 Ftable9 := by
  rcases c with ⟨-, c⟩ | ⟨-, c1, c2⟩
  · exact ⟨c.1.1, c.1.2.1, c.1.2.2.1, c.1.2.2.2.1, c.1.2.2.2.2.1, fun r hr => ⟨fun k hk hw => (c.1.2.2.2.2.2 r hr).1 k hk (Or.inr rfl), (c.1.2.2.2.2.2 r hr).2.1, (c.1.2.2.2.2.2 r hr).2.2.1, (c.1.2.2.2.2.2 r hr).2.2.2.1, fun _ => (c.1.2.2.2.2.2 r hr).2.2.2.2 rfl⟩⟩
  · simp only [Prod.mk.injEq] at c1 c2
    obtain ⟨e0, e1, e2, e3, e4, e5, e6, e7, e8, e9, e10, e11, e12, e13, e14, e15, e16, e17, e18, e19, e20, e21, e22, e23, e24, e25⟩ := c1
    obtain ⟨f0, f1, f2, f3, f4, f5, f6, f7, f8, f9, f10, f11, f12, f13, f14, f15, f16, f17, f18, f19, f20⟩ := c2
    rw [e0, e1, e2, e3, e4, e5, f0, f1, f2, f3, f4, f5, f6]
    exact h
/-- the times by hand: one on both sides -/
def xTk (rails : Int32) (rt K : Nat → Int32) : Prop := ∀ j : Nat, (j : Int) < rails.toInt → rt j = K j
theorem xTk_text {pt : Nat → Int64} {pn rs ri ra rt rg wk sS sI sU sD sT sG oT oN oD pn9 rs9 ri9 ra9 rt9 rg9 wk9 Ftold9 Fnames9 Ftable9 Fstate9 Fsince9 FupSince9 Ftakes9 FwasGood9 FisDead9 : Nat → Int32} {pt9 : Nat → Int64} {rails limit retry behind key tick held tries trips ldraw gdraw ysz dead pk gpk lpk kn slast mra mli mre mpa mtk mon mhe mtr mdn mdm mtp mhp rails9 limit9 retry9 behind9 key9 tick9 held9 tries9 trips9 ldraw9 gdraw9 ysz9 dead9 pk9 gpk9 lpk9 kn9 slast9 mrails9 mlimit9 mretry9 mpause9 misOn9 mtick9 mheld9 mtries9 mtrips9 mdrawnNow9 mdrawnMost9 mhappenings9 lf9 : Int32} (h : xTk rails rt sT) (c : (lf9.toInt = 0 ∧ xPl true rails9 limit9 retry9 behind9 pn9 pt9 mrails9 mlimit9 mretry9 mpause9 Ftold9 Fnames9 Ftable9 ∧ xRn rails9.toInt key9 tick9 held9 tries9 trips9 ldraw9 gdraw9 rs9 ri9 ra9 rt9 rg9 misOn9 mtick9 mheld9 mtries9 mtrips9 mdrawnNow9 mdrawnMost9 Fstate9 Fsince9 FupSince9 Ftakes9 FwasGood9 ∧ ysz9 = 0 ∧ mhappenings9 = 0 ∧ dead9 = 0 ∧ (∀ j, j < 8 → FisDead9 j = 0) ∧ pk9 = 0 ∧ kn9 = 0 ∧ (∀ j, j < 64 → wk9 j = 0) ∧ (∀ j : Nat, j < 8 → Fstate9 j = 0) ∧ ∀ j : Nat, (j : Int) < rails9.toInt → Ftakes9 j = Ftold9 (7 * j)) ∨ (¬ lf9.toInt = 0 ∧ (rails9, limit9, retry9, behind9, pn9, pt9, key9, tick9, held9, tries9, trips9, ldraw9, gdraw9, rs9, ri9, ra9, rt9, rg9, ysz9, dead9, pk9, gpk9, lpk9, wk9, kn9, slast9) = (rails, limit, retry, behind, pn, pt, key, tick, held, tries, trips, ldraw, gdraw, rs, ri, ra, rt, rg, ysz, dead, pk, gpk, lpk, wk, kn, slast) ∧ (mrails9, mlimit9, mretry9, mpause9, Ftold9, Fnames9, Ftable9, misOn9, mtick9, mheld9, mtries9, mtrips9, mdrawnNow9, mdrawnMost9, Fstate9, Fsince9, FupSince9, Ftakes9, FwasGood9, mhappenings9, FisDead9) = (mra, mli, mre, mpa, oD, oN, oT, mon, mtk, mhe, mtr, mtp, mdn, mdm, sS, sI, sU, sT, sG, mhp, sD))) : xTk rails9 rt9 Ftakes9 := by
  rcases c with ⟨-, c⟩ | ⟨-, c1, c2⟩
  · exact fun j hj => (c.2.1.2.2.2.2.2.2.2.1 j hj).2.2.2.1
  · simp only [Prod.mk.injEq] at c1 c2
    obtain ⟨e0, e1, e2, e3, e4, e5, e6, e7, e8, e9, e10, e11, e12, e13, e14, e15, e16, e17, e18, e19, e20, e21, e22, e23, e24, e25⟩ := c1
    obtain ⟨f0, f1, f2, f3, f4, f5, f6, f7, f8, f9, f10, f11, f12, f13, f14, f15, f16, f17, f18, f19, f20⟩ := c2
    rw [e0, e16, f17]
    exact h
theorem xDd_text {pt : Nat → Int64} {pn rs ri ra rt rg wk sS sI sU sD sT sG oT oN oD pn9 rs9 ri9 ra9 rt9 rg9 wk9 Ftold9 Fnames9 Ftable9 Fstate9 Fsince9 FupSince9 Ftakes9 FwasGood9 FisDead9 : Nat → Int32} {pt9 : Nat → Int64} {rails limit retry behind key tick held tries trips ldraw gdraw ysz dead pk gpk lpk kn slast mra mli mre mpa mtk mon mhe mtr mdn mdm mtp mhp rails9 limit9 retry9 behind9 key9 tick9 held9 tries9 trips9 ldraw9 gdraw9 ysz9 dead9 pk9 gpk9 lpk9 kn9 slast9 mrails9 mlimit9 mretry9 mpause9 misOn9 mtick9 mheld9 mtries9 mtrips9 mdrawnNow9 mdrawnMost9 mhappenings9 lf9 : Int32} (h : xDd dead sD) (c : (lf9.toInt = 0 ∧ xPl true rails9 limit9 retry9 behind9 pn9 pt9 mrails9 mlimit9 mretry9 mpause9 Ftold9 Fnames9 Ftable9 ∧ xRn rails9.toInt key9 tick9 held9 tries9 trips9 ldraw9 gdraw9 rs9 ri9 ra9 rt9 rg9 misOn9 mtick9 mheld9 mtries9 mtrips9 mdrawnNow9 mdrawnMost9 Fstate9 Fsince9 FupSince9 Ftakes9 FwasGood9 ∧ ysz9 = 0 ∧ mhappenings9 = 0 ∧ dead9 = 0 ∧ (∀ j, j < 8 → FisDead9 j = 0) ∧ pk9 = 0 ∧ kn9 = 0 ∧ (∀ j, j < 64 → wk9 j = 0) ∧ (∀ j : Nat, j < 8 → Fstate9 j = 0) ∧ ∀ j : Nat, (j : Int) < rails9.toInt → Ftakes9 j = Ftold9 (7 * j)) ∨ (¬ lf9.toInt = 0 ∧ (rails9, limit9, retry9, behind9, pn9, pt9, key9, tick9, held9, tries9, trips9, ldraw9, gdraw9, rs9, ri9, ra9, rt9, rg9, ysz9, dead9, pk9, gpk9, lpk9, wk9, kn9, slast9) = (rails, limit, retry, behind, pn, pt, key, tick, held, tries, trips, ldraw, gdraw, rs, ri, ra, rt, rg, ysz, dead, pk, gpk, lpk, wk, kn, slast) ∧ (mrails9, mlimit9, mretry9, mpause9, Ftold9, Fnames9, Ftable9, misOn9, mtick9, mheld9, mtries9, mtrips9, mdrawnNow9, mdrawnMost9, Fstate9, Fsince9, FupSince9, Ftakes9, FwasGood9, mhappenings9, FisDead9) = (mra, mli, mre, mpa, oD, oN, oT, mon, mtk, mhe, mtr, mtp, mdn, mdm, sS, sI, sU, sT, sG, mhp, sD))) : xDd dead9 FisDead9 := by
  rcases c with ⟨-, c⟩ | ⟨-, c1, c2⟩
  · rw [c.2.2.2.2.1]
    exact xdd_0 c.2.2.2.2.2.1
  · simp only [Prod.mk.injEq] at c1 c2
    obtain ⟨e0, e1, e2, e3, e4, e5, e6, e7, e8, e9, e10, e11, e12, e13, e14, e15, e16, e17, e18, e19, e20, e21, e22, e23, e24, e25⟩ := c1
    obtain ⟨f0, f1, f2, f3, f4, f5, f6, f7, f8, f9, f10, f11, f12, f13, f14, f15, f16, f17, f18, f19, f20⟩ := c2
    rw [e19, f20]
    exact h
theorem xKe_text {pt : Nat → Int64} {pn rs ri ra rt rg wk sS sI sU sD sT sG oT oN oD pn9 rs9 ri9 ra9 rt9 rg9 wk9 Ftold9 Fnames9 Ftable9 Fstate9 Fsince9 FupSince9 Ftakes9 FwasGood9 FisDead9 : Nat → Int32} {pt9 : Nat → Int64} {rails limit retry behind key tick held tries trips ldraw gdraw ysz dead pk gpk lpk kn slast mra mli mre mpa mtk mon mhe mtr mdn mdm mtp mhp rails9 limit9 retry9 behind9 key9 tick9 held9 tries9 trips9 ldraw9 gdraw9 ysz9 dead9 pk9 gpk9 lpk9 kn9 slast9 mrails9 mlimit9 mretry9 mpause9 misOn9 mtick9 mheld9 mtries9 mtrips9 mdrawnNow9 mdrawnMost9 mhappenings9 lf9 : Int32} (h : key = mon) (c : (lf9.toInt = 0 ∧ xPl true rails9 limit9 retry9 behind9 pn9 pt9 mrails9 mlimit9 mretry9 mpause9 Ftold9 Fnames9 Ftable9 ∧ xRn rails9.toInt key9 tick9 held9 tries9 trips9 ldraw9 gdraw9 rs9 ri9 ra9 rt9 rg9 misOn9 mtick9 mheld9 mtries9 mtrips9 mdrawnNow9 mdrawnMost9 Fstate9 Fsince9 FupSince9 Ftakes9 FwasGood9 ∧ ysz9 = 0 ∧ mhappenings9 = 0 ∧ dead9 = 0 ∧ (∀ j, j < 8 → FisDead9 j = 0) ∧ pk9 = 0 ∧ kn9 = 0 ∧ (∀ j, j < 64 → wk9 j = 0) ∧ (∀ j : Nat, j < 8 → Fstate9 j = 0) ∧ ∀ j : Nat, (j : Int) < rails9.toInt → Ftakes9 j = Ftold9 (7 * j)) ∨ (¬ lf9.toInt = 0 ∧ (rails9, limit9, retry9, behind9, pn9, pt9, key9, tick9, held9, tries9, trips9, ldraw9, gdraw9, rs9, ri9, ra9, rt9, rg9, ysz9, dead9, pk9, gpk9, lpk9, wk9, kn9, slast9) = (rails, limit, retry, behind, pn, pt, key, tick, held, tries, trips, ldraw, gdraw, rs, ri, ra, rt, rg, ysz, dead, pk, gpk, lpk, wk, kn, slast) ∧ (mrails9, mlimit9, mretry9, mpause9, Ftold9, Fnames9, Ftable9, misOn9, mtick9, mheld9, mtries9, mtrips9, mdrawnNow9, mdrawnMost9, Fstate9, Fsince9, FupSince9, Ftakes9, FwasGood9, mhappenings9, FisDead9) = (mra, mli, mre, mpa, oD, oN, oT, mon, mtk, mhe, mtr, mtp, mdn, mdm, sS, sI, sU, sT, sG, mhp, sD))) : key9 = misOn9 := by
  rcases c with ⟨-, c⟩ | ⟨-, c1, c2⟩
  · exact c.2.1.1
  · simp only [Prod.mk.injEq] at c1 c2
    obtain ⟨e0, e1, e2, e3, e4, e5, e6, e7, e8, e9, e10, e11, e12, e13, e14, e15, e16, e17, e18, e19, e20, e21, e22, e23, e24, e25⟩ := c1
    obtain ⟨f0, f1, f2, f3, f4, f5, f6, f7, f8, f9, f10, f11, f12, f13, f14, f15, f16, f17, f18, f19, f20⟩ := c2
    rw [e6, f7]
    exact h
-- 94.time
theorem x_time_eq {wt : Bool} {a0 a1 rails limit retry behind mra mli mre mpa r pk pk9 kn kn9 v : Int32} {pn Td Nm Tb rt K wk rt9 wk9 K9 : Nat → Int32} {pt : Nat → Int64} (h : xPl wt rails limit retry behind pn pt mra mli mre mpa Td Nm Tb) (hk : xTk rails rt K) (x1 : M_x_time a0 rails a1 rt pk wk kn pn = (r, rt9, pk9, wk9, kn9)) (x2 : M_m_time a0 mra a1 K Td = (v, K9)) : r = v ∧ xTk rails rt9 K9 := by
  obtain ⟨e, -, -, -, r8, hE⟩ := h
  subst e
  have rn := xtn r8.1
  simp only [K_x_time_5, K_x_time_10, K_x_time_8, K_x_time_9, K_x_time_7, K_x_time_6, K_x_time_4, K_x_time_3, K_x_time_2, K_x_time_1, M_x_time] at x1
  simp only [K_m_time_6, K_m_time_7, K_m_time_5, K_m_time_4, K_m_time_3, K_m_time_2, K_m_time_1, M_m_time] at x2
  by_cases q : 0 ≤ a0.toInt ∧ a0.toInt < rails.toInt
  · rw [if_pos q] at x1 x2
    have an := xtn (x := a0) q.1
    have ea : nI a0.toNatClampNeg = a0 := xnI q.1
    obtain ⟨hr, -, -⟩ := hE a0.toNatClampNeg (by omega)
    have i80 := t_nb (q := a0.toNatClampNeg) (k := 0) (pn := pn) (by omega) (by decide)
    have i81 := t_nb (q := a0.toNatClampNeg) (k := 1) (pn := pn) (by omega) (by decide)
    have i70 := t_of7 (q := a0.toNatClampNeg) (k := 0) (Td := Td) (by omega) (by decide)
    have i71 := t_of7 (q := a0.toNatClampNeg) (k := 1) (Td := Td) (by omega) (by decide)
    rw [ea] at i80 i81 i70 i71
    have j80 : M_number pn a0 0 = pn (8 * a0.toNatClampNeg + 0) := i80
    have j81 : M_number pn a0 1 = pn (8 * a0.toNatClampNeg + 1) := i81
    have j70 : M_m_of Td a0 0 = Td (7 * a0.toNatClampNeg + 0) := i70
    have j71 : M_m_of Td a0 1 = Td (7 * a0.toNatClampNeg + 1) := i71
    rw [j80, j81, hr 0 (by decide) (Or.inl (by decide)), hr 1 (by decide) (Or.inl (by decide))] at x1
    rw [j70, j71] at x2
    have k0 := hk a0.toNatClampNeg (by omega)
    by_cases z : (Td (7 * a0.toNatClampNeg + 0)).toInt ≤ a1.toInt ∧ a1.toInt ≤ (Td (7 * a0.toNatClampNeg + 1)).toInt
    · rw [if_neg (by omega), if_pos z.2] at x1
      rw [if_pos z] at x2
      simp only [Prod.mk.injEq] at x1 x2
      obtain ⟨c0, c1, -⟩ := x1
      obtain ⟨d0, d1⟩ := x2
      refine ⟨by rw [← c0, ← d0, k0], fun j hj => ?_⟩
      rw [← c1, ← d1]
      by_cases w : j = a0.toNatClampNeg
      · rw [w, xupd_s, xupd_s]
      · rw [xupd_o w, xupd_o w]
        exact hk j hj
    · rw [if_neg z] at x2
      simp only [Prod.mk.injEq] at x2
      obtain ⟨d0, d1⟩ := x2
      by_cases w : a1.toInt < (Td (7 * a0.toNatClampNeg + 0)).toInt
      · rw [if_pos w] at x1
        simp only [Prod.mk.injEq] at x1
        obtain ⟨c0, c1, -⟩ := x1
        exact ⟨by rw [← c0, ← d0], fun j hj => by rw [← c1, ← d1]; exact hk j hj⟩
      · rw [if_neg w, if_neg (by omega)] at x1
        simp only [Prod.mk.injEq] at x1
        obtain ⟨c0, c1, -⟩ := x1
        exact ⟨by rw [← c0, ← d0], fun j hj => by rw [← c1, ← d1]; exact hk j hj⟩
  · rw [if_neg q] at x1 x2
    simp only [Prod.mk.injEq] at x1 x2
    obtain ⟨c0, c1, -⟩ := x1
    obtain ⟨d0, d1⟩ := x2
    exact ⟨by rw [← c0, ← d0], fun j hj => by rw [← c1, ← d1]; exact hk j hj⟩
/-- adopt changes waits alone -/
theorem xPl_waits {rails limit retry behind mra mli mre mpa : Int32} {pn pn9 Td Td9 Nm Tb : Nat → Int32} {pt : Nat → Int64} (h : xPl false rails limit retry behind pn pt mra mli mre mpa Td Nm Tb) (h1 : ∀ j, (∀ r, r < 8 → j ≠ 8 * r + 5) → pn9 j = pn j) (h2 : ∀ j, (∀ r, r < 8 → j ≠ 7 * r + 5) → Td9 j = Td j) : xPl false rails limit retry behind pn9 pt mra mli mre mpa Td9 Nm Tb := by
  obtain ⟨e1, e2, e3, e4, r8, hE⟩ := h
  have rn := xtn r8.1
  refine ⟨e1, e2, e3, e4, r8, fun r hr => ?_⟩
  obtain ⟨a, b, c⟩ := hE r hr
  refine ⟨fun k hk hw => ?_, ?_, c.1, c.2.1, fun z => absurd z (by decide)⟩
  · have k5 : k ≠ 5 := by
      rcases hw with w | w
      · exact w
      · exact absurd w (by decide)
    rw [h1 _ (fun r' _ => by omega), h2 _ (fun r' _ => by omega)]
    exact a k hk (Or.inl k5)
  · rw [h1 _ (fun r' _ => by omega)]
    exact b
-- 95.tie0
theorem xPl_0 {l r b : Int32} {pn Td Nm Tb : Nat → Int32} {pt : Nat → Int64} : xPl false 0 l r b pn pt 0 l r b Td Nm Tb := ⟨rfl, rfl, rfl, rfl, ⟨by decide, by decide⟩, fun r hr => absurd hr (by have z : (0 : Int32).toNatClampNeg = 0 := (by decide); omega)⟩
theorem xTk_0 {rt K : Nat → Int32} : xTk 0 rt K := fun j hj => absurd hj (by have z : (0 : Int32).toInt = 0 := (by decide); omega)
-- 97.adopt
theorem sw_in {srow : Nat → Int32} {q : Nat} (q8 : q ≤ 8) : ∀ (m x k : Nat) (f : Nat → Int32), x + m = q → ∃ f' : Nat → Int32, K_pSetWaits_L2 (nI q) srow (k + m + 1) (nI x) f = f' ∧ (∀ j, (∀ r, r < q → j ≠ 8 * r + 5) → f' j = f j) ∧ (∀ r, x ≤ r → r < q → f' (8 * r + 5) = srow r) ∧ (∀ r, r < x → f' (8 * r + 5) = f (8 * r + 5)) := by
  have qq : (nI q).toInt = (q : Int) := nI_toInt (by omega)
  intro m
  induction m with
  | zero =>
    intro x k f hx
    have ex : (nI x).toInt = (x : Int) := nI_toInt (by omega)
    refine ⟨f, ?_, fun j _ => rfl, fun r a b => absurd a (by omega), fun r _ => rfl⟩
    simp only [K_pSetWaits_L2, K_pSetWaits_3, K_pSetWaits_5, K_pSetWaits_4, K_pSetWaits_2, K_pSetWaits_1, M_pSetWaits]
    rw [if_pos (by omega)]
  | succ m ih =>
    intro x k f hx
    have ex : (nI x).toInt = (x : Int) := nI_toInt (by omega)
    have exc : (nI x).toNatClampNeg = x := nI_clamp (by omega)
    obtain ⟨f', a1, a2, a3, a4⟩ := ih (x + 1) k (upd f (8 * x + 5) (srow x)) (by omega)
    refine ⟨f', ?_, fun j hj => ?_, fun r r1 r2 => ?_, fun r hr => ?_⟩
    · rw [← a1]
      show K_pSetWaits_L2 (nI q) srow ((k + m + 1) + 1) (nI x) f = _
      generalize k + m + 1 = j
      simp only [K_pSetWaits_L2, K_pSetWaits_3, K_pSetWaits_5, K_pSetWaits_4, K_pSetWaits_2, K_pSetWaits_1, M_pSetWaits]
      rw [if_neg (by omega), exc, nI_1, show M_setNumber f (nI x) 5 (srow x) = _ from t_setN (k := 5) (by omega) (by decide)]
    · rw [a2 j hj, xupd_o (hj x (by omega))]
    · by_cases e : r = x
      · rw [e, a4 x (by omega), xupd_s]
      · exact a3 r (by omega) r2
    · rw [a4 r (by omega), xupd_o (by omega)]
theorem aw_in {B u1 u2 u3 u4 : Nat → Int32} {s a b : Int32} {q : Nat} (q8 : q ≤ 8) : ∀ (m x k : Nat) (f : Nat → Int32), x + m = q → ∃ f' : Nat → Int32, K_m_adopt_L5 (nI q) s a b u1 u2 u3 u4 B (k + m + 1) (nI x) f = (s, a, b, s, u1, u2, u3, u4, f', B) ∧ (∀ j, (∀ r, r < q → j ≠ 7 * r + 5) → f' j = f j) ∧ (∀ r, x ≤ r → r < q → f' (7 * r + 5) = if s.toInt = -4 then f (7 * r + 5) else B r) ∧ (∀ r, r < x → f' (7 * r + 5) = f (7 * r + 5)) := by
  have qq : (nI q).toInt = (q : Int) := nI_toInt (by omega)
  intro m
  induction m with
  | zero =>
    intro x k f hx
    have ex : (nI x).toInt = (x : Int) := nI_toInt (by omega)
    refine ⟨f, ?_, fun j _ => rfl, fun r a b => absurd a (by omega), fun r _ => rfl⟩
    simp only [K_m_adopt_L5, K_m_adopt_6, K_m_adopt_8, K_m_adopt_9, K_m_adopt_7, K_m_adopt_5, K_m_adopt_4, K_m_adopt_2, K_m_adopt_3, K_m_adopt_1, M_m_adopt]
    rw [if_pos (by omega)]
  | succ m ih =>
    intro x k f hx
    have ex : (nI x).toInt = (x : Int) := nI_toInt (by omega)
    have exc : (nI x).toNatClampNeg = x := nI_clamp (by omega)
    have e7 : (((7 : Int32) * nI x) + 5).toNatClampNeg = 7 * x + 5 := xi7 (k := 5) (by omega) (by decide)
    by_cases z : s.toInt = -4
    · refine ⟨f, ?_, fun j _ => rfl, fun r a b => by rw [if_pos z], fun r _ => rfl⟩
      show K_m_adopt_L5 (nI q) s a b u1 u2 u3 u4 B ((k + m + 1) + 1) (nI x) f = _
      generalize k + m + 1 = j
      simp only [K_m_adopt_L5, K_m_adopt_6, K_m_adopt_8, K_m_adopt_9, K_m_adopt_7, K_m_adopt_5, K_m_adopt_4, K_m_adopt_2, K_m_adopt_3, K_m_adopt_1, M_m_adopt]
      rw [if_neg (by omega), if_pos z]
    · obtain ⟨f', a1, a2, a3, a4⟩ := ih (x + 1) k (upd f (7 * x + 5) (B x)) (by omega)
      refine ⟨f', ?_, fun j hj => ?_, fun r r1 r2 => ?_, fun r hr => ?_⟩
      · rw [← a1]
        show K_m_adopt_L5 (nI q) s a b u1 u2 u3 u4 B ((k + m + 1) + 1) (nI x) f = _
        generalize k + m + 1 = j
        simp only [K_m_adopt_L5, K_m_adopt_6, K_m_adopt_8, K_m_adopt_9, K_m_adopt_7, K_m_adopt_5, K_m_adopt_4, K_m_adopt_2, K_m_adopt_3, K_m_adopt_1, M_m_adopt]
        rw [if_neg (by omega), if_neg z, exc, nI_1, e7]
      · rw [a2 j hj, xupd_o (hj x (by omega))]
      · by_cases e : r = x
        · rw [e, a4 x (by omega), xupd_s, if_neg z]
        · rw [a3 r (by omega) r2, if_neg z, if_neg z]
      · rw [a4 r (by omega), xupd_o (by omega)]
-- 98.a.steps
/-- when a RAIL is GOOD, from when it may be raised -/
def yG (w k : Nat → Nat) (M : Nat → Nat) (x : Nat) : Nat := if M x = 100000 then 100000 else M x + w x + k x
/-- those that are GOOD at t -/
def yS (q : Nat) (G : Nat → Nat) (t : Nat) : Nat := xup (fun x => decide (G x ≤ t)) q 0
/-- a step of time -/
def yN (q : Nat) (P : Nat → Bool) (pt : Nat → Int64) (w k : Nat → Nat) (t : Nat) (M : Nat → Nat) : Nat → Nat := fun x => if x < q ∧ M x = 100000 ∧ P x = true ∧ hb pt x (yS q (yG w k M) t + 256) = true then t else M x
/-- since when each may be raised, after t steps -/
def yM (q : Nat) (P : Nat → Bool) (pt : Nat → Int64) (w k : Nat → Nat) : Nat → Nat → Nat
  | 0 => fun _ => 100000
  | t + 1 => yN q P pt w k t (yM q P pt w k t)
theorem yS_lt {q : Nat} {G : Nat → Nat} {t : Nat} (q8 : q ≤ 8) : yS q G t < 256 := xup_lt (by decide) q q8
theorem yS_bit {q : Nat} {G : Nat → Nat} {t j : Nat} : (yS q G t).testBit j = (decide (j < q) && decide (G j ≤ t)) := by
  unfold yS
  rw [xup_bit, Nat.zero_testBit, Bool.false_or]
theorem yS_ext {q : Nat} {G G' : Nat → Nat} {t t' : Nat} (h : ∀ x, x < q → (G x ≤ t ↔ G' x ≤ t')) : yS q G t = yS q G' t' := xup_ext q (fun r hr => decide_eq_decide.mpr (h r hr))
theorem yM_lt {q : Nat} {P : Nat → Bool} {pt : Nat → Int64} {w k : Nat → Nat} : ∀ t x : Nat, yM q P pt w k t x = 100000 ∨ (yM q P pt w k t x < t ∧ x < q ∧ P x = true) := by
  intro t
  induction t with
  | zero => exact fun _ => Or.inl rfl
  | succ t ih =>
    intro x
    show (if x < q ∧ yM q P pt w k t x = 100000 ∧ P x = true ∧ hb pt x (yS q (yG w k (yM q P pt w k t)) t + 256) = true then t else yM q P pt w k t x) = 100000 ∨ ((if x < q ∧ yM q P pt w k t x = 100000 ∧ P x = true ∧ hb pt x (yS q (yG w k (yM q P pt w k t)) t + 256) = true then t else yM q P pt w k t x) < t + 1 ∧ x < q ∧ P x = true)
    by_cases z : x < q ∧ yM q P pt w k t x = 100000 ∧ P x = true ∧ hb pt x (yS q (yG w k (yM q P pt w k t)) t + 256) = true
    · rw [if_pos z]
      exact Or.inr ⟨by omega, z.1, z.2.2.1⟩
    · rw [if_neg z]
      rcases ih x with y | y
      · exact Or.inl y
      · exact Or.inr ⟨by omega, y.2⟩
/-- nothing happens while the same are GOOD and none of the others may be raised -/
theorem yM_quiet {q : Nat} {P : Nat → Bool} {pt : Nat → Int64} {w k : Nat → Nat} {n U : Nat} (hq : ∀ x, x < q → yM q P pt w k n x = 100000 → P x = true → hb pt x (U + 256) = false) : ∀ d : Nat, (∀ t, n ≤ t → t < n + d → yS q (yG w k (yM q P pt w k n)) t = U) → yM q P pt w k (n + d) = yM q P pt w k n := by
  intro d
  induction d with
  | zero => exact fun _ => rfl
  | succ d ih =>
    intro h
    have i9 := ih (fun t h1 h2 => h t h1 (by omega))
    show yN q P pt w k (n + d) (yM q P pt w k (n + d)) = yM q P pt w k n
    rw [i9]
    funext x
    unfold yN
    rw [h (n + d) (by omega) (by omega)]
    refine if_neg (fun z => ?_)
    have z9 := hq x z.1 z.2.1 z.2.2.1
    rw [z.2.2.2] at z9
    exact absurd z9 (by decide)
/-- what is written at those that c picks, of the first n -/
def yF (c : Nat → Bool) (v f : Nat → Int32) (n : Nat) : Nat → Int32 := fun j => if j < n ∧ c j = true then v j else f j
theorem yF_0 {c : Nat → Bool} {v f : Nat → Int32} : yF c v f 0 = f := by
  funext j
  exact if_neg (fun z => absurd z.1 (by omega))
theorem yF_put {c : Nat → Bool} {v f : Nat → Int32} {n : Nat} (h : c n = true) : upd (yF c v f n) n (v n) = yF c v f (n + 1) := by
  funext j
  by_cases e : j = n
  · subst e
    rw [xupd_s]
    exact (if_pos ⟨by omega, h⟩).symm
  · rw [xupd_o e]
    unfold yF
    by_cases z : j < n ∧ c j = true
    · rw [if_pos z, if_pos ⟨by omega, z.2⟩]
    · rw [if_neg z, if_neg (fun y => z ⟨by omega, y.2⟩)]
theorem yF_no {c : Nat → Bool} {v f : Nat → Int32} {n : Nat} (h : ¬ c n = true) : yF c v f n = yF c v f (n + 1) := by
  funext j
  unfold yF
  by_cases z : j < n ∧ c j = true
  · rw [if_pos z, if_pos ⟨by omega, z.2⟩]
  · rw [if_neg z, if_neg (fun y => by
      by_cases e : j = n
      · rw [e] at y
        exact h y.2
      · exact z ⟨by omega, y.2⟩)]
theorem yF_s {c : Nat → Bool} {v f : Nat → Int32} {n : Nat} : yF c v f n n = f n := if_neg (fun z => absurd z.1 (by omega))
theorem yF_t {c : Nat → Bool} {v f : Nat → Int32} {n j : Nat} (h : j < n) (hc : c j = true) : yF c v f n j = v j := if_pos ⟨h, hc⟩
theorem yF_f {c : Nat → Bool} {v f : Nat → Int32} {n j : Nat} (hc : ¬ c j = true) : yF c v f n j = f j := if_neg (fun z => hc z.2)
theorem xup_st {c : Nat → Bool} {g n : Nat} : xup c (n + 1) g = if c n = true then xup c n g ||| 2 ^ n else xup c n g := rfl
/-- who begins, the class's side -/
def yC (pt : Nat → Int64) (s : Int32) (U : Nat) : Nat → Bool := fun j => xb s j && hb pt j (U + 256)
theorem be_in {fw ft fr fg : Nat → Int32} {w k9 : Nat → Nat} {pt : Nat → Int64} {s : Int32} {q T U : Nat} (q8 : q ≤ 8) (hU : U < 256) (hw : ∀ j, j < q → fw j = nI (w j)) (hk : ∀ j, j < q → ft j = nI (k9 j)) : ∀ (m x k : Nat), x + m = q → K_begin_L2 (nI q) s (nI T) fw ft pt (nI U) (k + m + 1) (nI x) (nI (xup (yC pt s U) x 0)) (yF (yC pt s U) (fun j => nI (T + w j)) fr x) (yF (yC pt s U) (fun j => nI (T + w j + k9 j)) fg x) = (nI (xup (yC pt s U) q 0), yF (yC pt s U) (fun j => nI (T + w j)) fr q, yF (yC pt s U) (fun j => nI (T + w j + k9 j)) fg q) := by
  have qq : (nI q).toInt = (q : Int) := nI_toInt (by omega)
  intro m
  induction m with
  | zero =>
    intro x k hx
    have ex : (nI x).toInt = (x : Int) := nI_toInt (by omega)
    obtain rfl : x = q := by omega
    simp only [K_begin_L2, K_begin_3, K_begin_8, K_begin_9, K_begin_7, K_begin_6, K_begin_5, K_begin_4, K_begin_2, K_begin_1, M_begin]
    rw [if_pos (by omega)]
  | succ m ih =>
    intro x k hx
    have ex : (nI x).toInt = (x : Int) := nI_toInt (by omega)
    have exc : (nI x).toNatClampNeg = x := nI_clamp (by omega)
    have l := xup_lt (c := yC pt s U) (g := 0) (by decide) x (by omega)
    have z := ih (x + 1) k (by omega)
    rw [← z]
    show K_begin_L2 (nI q) s (nI T) fw ft pt (nI U) ((k + m + 1) + 1) (nI x) _ _ _ = _
    generalize k + m + 1 = j
    simp only [K_begin_L2, K_begin_3, K_begin_8, K_begin_9, K_begin_7, K_begin_6, K_begin_5, K_begin_4, K_begin_2, K_begin_1, M_begin]
    rw [if_neg (by omega), x_or256 hU, t_holds (by omega) (by omega), nI_1, exc, hw x (by omega), hk x (by omega), xupd_s, nI_add, nI_add, xup_st]
    by_cases b : xb s x = true
    · rw [if_pos ((xsr_1 s (by omega)).mpr b)]
      by_cases c : hb pt x (U + 256) = true
      · have c9 : yC pt s U x = true := by unfold yC; rw [b, c]; rfl
        rw [if_pos c, if_neg (by decide), if_pos c9, x_put l (by omega)]
        rw [show upd (yF (yC pt s U) (fun j => nI (T + w j)) fr x) x (nI (T + w x)) = _ from yF_put (v := fun j => nI (T + w j)) c9, show upd (yF (yC pt s U) (fun j => nI (T + w j + k9 j)) fg x) x (nI (T + w x + k9 x)) = _ from yF_put (v := fun j => nI (T + w j + k9 j)) c9]
      · have c9 : ¬ yC pt s U x = true := by unfold yC; simp [c]
        rw [if_neg c, if_pos (by decide), if_neg c9, yF_no c9, yF_no c9]
    · have c9 : ¬ yC pt s U x = true := by unfold yC; simp [b]
      rw [if_neg (fun z => b ((xsr_1 s (by omega)).mp z)), if_neg c9, yF_no c9, yF_no c9]
theorem t_begin {fw ft fr fg : Nat → Int32} {w k9 : Nat → Nat} {pt : Nat → Int64} {s : Int32} {q T U : Nat} (q8 : q ≤ 8) (hU : U < 256) (hw : ∀ j, j < q → fw j = nI (w j)) (hk : ∀ j, j < q → ft j = nI (k9 j)) : M_begin (nI q) s (nI T) fw ft pt (nI U) fr fg = (nI (xup (yC pt s U) q 0), yF (yC pt s U) (fun j => nI (T + w j)) fr q, yF (yC pt s U) (fun j => nI (T + w j + k9 j)) fg q) := by
  have z := be_in (fr := fr) (fg := fg) (pt := pt) (s := s) (T := T) q8 hU hw hk q 0 (99999 - q) (by omega)
  rw [show 99999 - q + q + 1 = 100000 from by omega, yF_0, yF_0] at z
  exact z
/-- the soonest of those in s -/
theorem so_in {fg : Nat → Int32} {g : Nat → Nat} {s : Int32} (hg : ∀ j, j < 8 → xb s j = true → fg j = nI (g j) ∧ g j ≤ 1000) : ∀ (m x k a : Nat), x + m = 8 → a ≤ 144 → ∃ z : Nat, K_soonest_L2 s fg (k + m + 1) (nI x) (nI a) = nI z ∧ z ≤ a ∧ (∀ j, x ≤ j → j < 8 → xb s j = true → z ≤ g j) ∧ (z = a ∨ ∃ j, x ≤ j ∧ j < 8 ∧ xb s j = true ∧ g j = z) := by
  intro m
  induction m with
  | zero =>
    intro x k a hx _
    have ex : (nI x).toInt = (x : Int) := nI_toInt (by omega)
    refine ⟨a, ?_, Nat.le_refl _, fun j h1 h2 => absurd h2 (by omega), Or.inl rfl⟩
    simp only [K_soonest_L2, K_soonest_3, K_soonest_6, K_soonest_5, K_soonest_4, K_soonest_2, K_soonest_1, M_soonest]
    rw [if_pos (by omega)]
  | succ m ih =>
    intro x k a hx ha
    have ex : (nI x).toInt = (x : Int) := nI_toInt (by omega)
    have exc : (nI x).toNatClampNeg = x := nI_clamp (by omega)
    have go : ∀ b : Nat, b ≤ 144 → (b = a ∧ (xb s x = true → b ≤ g x) ∨ (b = g x ∧ b ≤ a ∧ xb s x = true)) → K_soonest_L2 s fg (k + (m + 1) + 1) (nI x) (nI a) = K_soonest_L2 s fg (k + m + 1) (nI (x + 1)) (nI b) → ∃ z : Nat, K_soonest_L2 s fg (k + (m + 1) + 1) (nI x) (nI a) = nI z ∧ z ≤ a ∧ (∀ j, x ≤ j → j < 8 → xb s j = true → z ≤ g j) ∧ (z = a ∨ ∃ j, x ≤ j ∧ j < 8 ∧ xb s j = true ∧ g j = z) := by
      intro b hb9 hc e
      obtain ⟨z, z1, z2, z3, z4⟩ := ih (x + 1) k b (by omega) hb9
      refine ⟨z, e.trans z1, by omega, fun j h1 h2 h3 => ?_, ?_⟩
      · by_cases y : j = x
        · subst y
          rcases hc with ⟨c1, c2⟩ | ⟨c1, c2, c3⟩
          · have := c2 h3
            omega
          · omega
        · exact z3 j (by omega) h2 h3
      · rcases z4 with y | ⟨j, j1, j2, j3, j4⟩
        · rcases hc with ⟨c1, c2⟩ | ⟨c1, c2, c3⟩
          · exact Or.inl (y.trans c1)
          · exact Or.inr ⟨x, Nat.le_refl _, by omega, c3, (y.trans c1).symm⟩
        · exact Or.inr ⟨j, by omega, j2, j3, j4⟩
    have un : K_soonest_L2 s fg ((k + m + 1) + 1) (nI x) (nI a) = if ((s >>> (nI x &&& 31)) &&& (1 : Int32)).toInt = 1 then K_soonest_L2 s fg (k + m + 1) (nI (x + 1)) (if fg x < nI a then fg x else nI a) else K_soonest_L2 s fg (k + m + 1) (nI (x + 1)) (nI a) := by
      generalize k + m + 1 = j
      simp only [K_soonest_L2, K_soonest_3, K_soonest_6, K_soonest_5, K_soonest_4, K_soonest_2, K_soonest_1, M_soonest]
      rw [if_neg (by omega), exc, nI_1]
    by_cases b : xb s x = true
    · obtain ⟨g1, g2⟩ := hg x (by omega) b
      rw [if_pos ((xsr_1 s (by omega)).mpr b), g1] at un
      have lt : nI (g x) < nI a ↔ ((g x : Nat) : Int) < (a : Int) := ilt (nI_toInt (by omega)) (nI_toInt (by omega))
      by_cases y : g x < a
      · rw [if_pos (lt.mpr (by omega))] at un
        exact go (g x) (by omega) (Or.inr ⟨rfl, by omega, b⟩) un
      · rw [if_neg (fun z => y (by have := lt.mp z; omega))] at un
        exact go a ha (Or.inl ⟨rfl, fun _ => by omega⟩) un
    · rw [if_neg (fun z => b ((xsr_1 s (by omega)).mp z))] at un
      exact go a ha (Or.inl ⟨rfl, fun z => absurd z b⟩) un
theorem t_soonest {fg : Nat → Int32} {g : Nat → Nat} {s : Int32} (hg : ∀ j, j < 8 → xb s j = true → fg j = nI (g j) ∧ g j ≤ 1000) : ∃ z : Nat, M_soonest s fg = nI z ∧ z ≤ 144 ∧ (∀ j, j < 8 → xb s j = true → z ≤ g j) ∧ (z = 144 ∨ ∃ j, j < 8 ∧ xb s j = true ∧ g j = z) := by
  obtain ⟨z, z1, z2, z3, z4⟩ := so_in hg 8 0 99991 144 (by decide) (by decide)
  refine ⟨z, z1, z2, fun j h1 h2 => z3 j (by omega) h1 h2, ?_⟩
  rcases z4 with y | ⟨j, j1, j2, j3, j4⟩
  · exact Or.inl y
  · exact Or.inr ⟨j, j2, j3, j4⟩
/-- those of v whose time is r are up from now on -/
theorem lo_in {rec : Int32 → Int32 → Int32 → Int32 → (Nat → Int32) → (Nat → Int32) → Int32 × Int32 × (Nat → Int32) × (Nat → Int32)} {a v9 r v : Int32} {fr fg : Nat → Int32} {U : Nat} (hU : U < 256) : ∀ (m x k : Nat), x + m = 8 → K_follow_L9 rec a v9 r fr fg v (k + m + 1) (nI x) (nI (xup (fun j => xb v j && decide ((fg j).toInt = r.toInt)) x U)) = rec (a + 1) v9 (nI (xup (fun j => xb v j && decide ((fg j).toInt = r.toInt)) 8 U)) r fr fg := by
  intro m
  induction m with
  | zero =>
    intro x k hx
    have ex : (nI x).toInt = (x : Int) := nI_toInt (by omega)
    obtain rfl : x = 8 := by omega
    simp only [K_follow_L9, K_follow_3, K_follow_7, K_follow_10, K_follow_15, K_follow_14, K_follow_13, K_follow_12, K_follow_11, K_follow_9, K_follow_8, K_follow_6, K_follow_5, K_follow_4, K_follow_2, K_follow_1, M_follow]
    rw [if_pos (by omega)]
  | succ m ih =>
    intro x k hx
    have ex : (nI x).toInt = (x : Int) := nI_toInt (by omega)
    have exc : (nI x).toNatClampNeg = x := nI_clamp (by omega)
    have l := xup_lt (c := fun j => xb v j && decide ((fg j).toInt = r.toInt)) (g := U) hU x (by omega)
    have z := ih (x + 1) k (by omega)
    rw [← z]
    show K_follow_L9 rec a v9 r fr fg v ((k + m + 1) + 1) (nI x) _ = _
    generalize k + m + 1 = j
    simp only [K_follow_L9, K_follow_3, K_follow_7, K_follow_10, K_follow_15, K_follow_14, K_follow_13, K_follow_12, K_follow_11, K_follow_9, K_follow_8, K_follow_6, K_follow_5, K_follow_4, K_follow_2, K_follow_1, M_follow]
    rw [if_neg (by omega), exc, nI_1, xup_st]
    by_cases b : xb v x = true
    · rw [if_pos ((xsr_1 v (by omega)).mpr b)]
      by_cases c : (fg x).toInt = r.toInt
      · rw [if_pos c, if_pos (by simp [b, c]), x_put l (by omega)]
      · rw [if_neg c, if_neg (by simp [c])]
    · rw [if_neg (fun z => b ((xsr_1 v (by omega)).mp z)), if_neg (by simp [b])]
