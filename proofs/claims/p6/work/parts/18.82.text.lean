theorem xE_nar {q : Nat} {pn : Nat → Int32} {pt : Nat → Int64} {Td Nm Tb O N B : Nat → Int32} (q8 : q ≤ 8) (h : xE true q pn pt Td Nm Tb) (h1 : ∀ j, j < 56 → O j = Td j) (h2 : ∀ j, j < 8 → N j = Nm j) (h3 : ∀ j, j < 4096 → B j = vp_nar .boolean (Tb j)) : xE true q pn pt O N B := by
  have n0 : vp_nar .boolean (0 : Int32) = 0 := by decide
  have n1 : vp_nar .boolean (1 : Int32) = 1 := by decide
  intro r hr
  obtain ⟨a, b, c, d, e⟩ := h r hr
  refine ⟨fun k hk hw => ?_, ?_, fun s hs => ?_, by rw [h2 _ (by omega)]; exact d, fun hw => by rw [h1 _ (by omega)]; exact e hw⟩
  · rw [h1 _ (by omega)]
    exact a k hk hw
  · rw [h2 _ (by omega)]
    exact b
  · rw [h3 _ (by omega), c s hs]
    split
    · exact n1
    · exact n0
/-- what a text leaves, both sides: T the class's, U the reference's -/
def xTxt (T : Int32 × Int32 × Int32 × Int32 × Int32 × Int32 × Int32 × Int32 × Int32 × (Nat → Int32) × (Nat → Int64) × (Nat → Int64) × (Nat → Int64) × (Nat → Int64) × (Nat → Int64) × (Nat → Int64) × (Nat → Int64) × (Nat → Int64) × (Nat → Int64) × (Nat → Int64) × (Nat → Int64) × (Nat → Int64) × (Nat → Int64) × (Nat → Int64) × Int32 × Int32 × Int32 × Int32 × (Nat → Int32) × (Nat → Int64)) (U : xTM) (sS : Nat → Int32) (sI : Nat → Int32) (sU : Nat → Int32) (sD : Nat → Int32) (sT : Nat → Int32) (sG : Nat → Int32) (oT : Nat → Int32) (oN : Nat → Int32) (oD : Nat → Int32) (mra mli mre mpa mtk mon mhe mtr mdn mdm mtp mhp : Int32) : Prop :=
  (T.2.2.2.2.2.2.2.1.toInt = 0 ∧ U.2.2.2.2.2.2.2.2.2.2.2.2.2.2.2.2.2.2.2.1.toInt = 0 ∧ U.1 = T.1 ∧ U.2.1 = T.2.2.2.2.2.2.2.2.2.2.2.2.2.2.2.2.2.2.2.2.2.2.2.2.1 ∧ (0 ≤ T.2.2.2.2.2.2.2.2.2.2.2.2.2.2.2.2.2.2.2.2.2.2.2.2.1.toInt ∧ T.2.2.2.2.2.2.2.2.2.2.2.2.2.2.2.2.2.2.2.2.2.2.2.2.1.toInt ≤ 8) ∧ U.2.2.1 = T.2.2.2.2.2.2.2.2.2.2.2.2.2.2.2.2.2.2.2.2.2.2.2.2.2.1 ∧ U.2.2.2.1 = T.2.2.2.2.2.2.2.2.2.2.2.2.2.2.2.2.2.2.2.2.2.2.2.2.2.2.1 ∧ U.2.2.2.2.1 = T.2.2.2.2.2.2.2.2.2.2.2.2.2.2.2.2.2.2.2.2.2.2.2.2.2.2.2.1 ∧ (U.2.2.2.2.2.2.2.2.2.2.2.2.2.2.2.2.2.2.2.2.2.1 = 0 ∧ U.2.2.2.2.2.2.2.2.2.2.2.2.2.2.2.2.2.2.2.2.2.2.1 = 0 ∧ U.2.2.2.2.2.2.2.2.2.2.2.2.2.2.2.2.2.2.2.2.2.2.2.1 = 0 ∧ U.2.2.2.2.2.2.2.2.2.2.2.2.2.2.2.2.2.2.2.2.2.2.2.2.1 = T.2.2.2.2.2.2.2.2.2.2.2.2.2.2.2.2.2.2.2.2.2.2.2.2.2.2.1 ∧ U.2.2.2.2.2.2.2.2.2.2.2.2.2.2.2.2.2.2.2.2.2.2.2.2.2.1 = 0 ∧ U.2.2.2.2.2.2.2.2.2.2.2.2.2.2.2.2.2.2.2.2.2.2.2.2.2.2.1 = 0 ∧ U.2.2.2.2.2.2.2.2.2.2.2.2.2.2.2.2.2.2.2.2.2.2.2.2.2.2.2.1 = 0 ∧ U.2.2.2.2.2.2.2.2.2.2.2.2.2.2.2.2.2.2.2.2.2.2.2.2.2.2.2.2.1 = 0) ∧ xE true T.2.2.2.2.2.2.2.2.2.2.2.2.2.2.2.2.2.2.2.2.2.2.2.2.1.toNatClampNeg T.2.2.2.2.2.2.2.2.2.2.2.2.2.2.2.2.2.2.2.2.2.2.2.2.2.2.2.2.1 T.2.2.2.2.2.2.2.2.2.2.2.2.2.2.2.2.2.2.2.2.2.2.2.2.2.2.2.2.2 U.2.2.2.2.2.2.2.2.2.2.2.2.2.2.2.2.2.2.2.2.2.2.2.2.2.2.2.2.2.2.2.2.2.2.2.2.2.1 U.2.2.2.2.2.2.2.2.2.2.2.2.2.2.2.2.2.2.2.2.2.2.2.2.2.2.2.2.2.2.2.2.2.2.2.2.2.2.1 U.2.2.2.2.2.2.2.2.2.2.2.2.2.2.2.2.2.2.2.2.2.2.2.2.2.2.2.2.2.2.2.2.2.2.2.2.2.2.2.1 ∧ ∀ j, j < 8 → xB0 T.2.2.2.2.2.2.2.2.2.2.2.2.2.2.2.2.2.2.2.2.2.2.2.2.1.toInt U.2.2.2.2.2.2.2.2.2.2.2.2.2.2.2.2.2.2.2.2.2.2.2.2.2.2.2.2.2.2.2.2.2.2.2.2.2.1 U.2.2.2.2.2.2.2.2.2.2.2.2.2.2.2.2.2.2.2.2.2.2.2.2.2.2.2.2.2.2.2.2.2.2.2.2.2.2.2.2.1 U.2.2.2.2.2.2.2.2.2.2.2.2.2.2.2.2.2.2.2.2.2.2.2.2.2.2.2.2.2.2.2.2.2.2.2.2.2.2.2.2.2.1 U.2.2.2.2.2.2.2.2.2.2.2.2.2.2.2.2.2.2.2.2.2.2.2.2.2.2.2.2.2.2.2.2.2.2.2.2.2.2.2.2.2.2.1 U.2.2.2.2.2.2.2.2.2.2.2.2.2.2.2.2.2.2.2.2.2.2.2.2.2.2.2.2.2.2.2.2.2.2.2.2.2.2.2.2.2.2.2.1 U.2.2.2.2.2.2.2.2.2.2.2.2.2.2.2.2.2.2.2.2.2.2.2.2.2.2.2.2.2.2.2.2.2.2.2.2.2.2.2.2.2.2.2.2.1 U.2.2.2.2.2.2.2.2.2.2.2.2.2.2.2.2.2.2.2.2.2.2.2.2.2.2.2.2.2.2.2.2.2.2.2.2.2.2.2.2.2.2.2.2.2 j) ∨
  (¬ T.2.2.2.2.2.2.2.1.toInt = 0 ∧ U.2.2.2.2.2.2.2.2.2.2.2.2.2.2.2.2.2.2.2.1 = T.2.2.2.2.2.2.2.1 ∧ U.1 = -10 - T.2.2.2.2.2.2.2.2.1 ∧ (U.2.1 = mra ∧ U.2.2.1 = mli ∧ U.2.2.2.1 = mre ∧ U.2.2.2.2.1 = mpa) ∧ (U.2.2.2.2.2.2.2.2.2.2.2.2.2.2.2.2.2.2.2.2.2.1 = mtk ∧ U.2.2.2.2.2.2.2.2.2.2.2.2.2.2.2.2.2.2.2.2.2.2.1 = mon ∧ U.2.2.2.2.2.2.2.2.2.2.2.2.2.2.2.2.2.2.2.2.2.2.2.1 = mhe ∧ U.2.2.2.2.2.2.2.2.2.2.2.2.2.2.2.2.2.2.2.2.2.2.2.2.1 = mtr ∧ U.2.2.2.2.2.2.2.2.2.2.2.2.2.2.2.2.2.2.2.2.2.2.2.2.2.1 = mdn ∧ U.2.2.2.2.2.2.2.2.2.2.2.2.2.2.2.2.2.2.2.2.2.2.2.2.2.2.1 = mdm ∧ U.2.2.2.2.2.2.2.2.2.2.2.2.2.2.2.2.2.2.2.2.2.2.2.2.2.2.2.1 = mtp ∧ U.2.2.2.2.2.2.2.2.2.2.2.2.2.2.2.2.2.2.2.2.2.2.2.2.2.2.2.2.1 = mhp) ∧ U.2.2.2.2.2.2.2.2.2.2.2.2.2.2.2.2.2.2.2.2.2.2.2.2.2.2.2.2.2.2.2.2.2.2.2.2.2.1 = oD ∧ U.2.2.2.2.2.2.2.2.2.2.2.2.2.2.2.2.2.2.2.2.2.2.2.2.2.2.2.2.2.2.2.2.2.2.2.2.2.2.1 = oN ∧ U.2.2.2.2.2.2.2.2.2.2.2.2.2.2.2.2.2.2.2.2.2.2.2.2.2.2.2.2.2.2.2.2.2.2.2.2.2.2.2.1 = oT ∧ U.2.2.2.2.2.2.2.2.2.2.2.2.2.2.2.2.2.2.2.2.2.2.2.2.2.2.2.2.2.2.2.2.2.2.2.2.2.2.2.2.1 = sS ∧ U.2.2.2.2.2.2.2.2.2.2.2.2.2.2.2.2.2.2.2.2.2.2.2.2.2.2.2.2.2.2.2.2.2.2.2.2.2.2.2.2.2.1 = sI ∧ U.2.2.2.2.2.2.2.2.2.2.2.2.2.2.2.2.2.2.2.2.2.2.2.2.2.2.2.2.2.2.2.2.2.2.2.2.2.2.2.2.2.2.1 = sU ∧ U.2.2.2.2.2.2.2.2.2.2.2.2.2.2.2.2.2.2.2.2.2.2.2.2.2.2.2.2.2.2.2.2.2.2.2.2.2.2.2.2.2.2.2.1 = sD ∧ U.2.2.2.2.2.2.2.2.2.2.2.2.2.2.2.2.2.2.2.2.2.2.2.2.2.2.2.2.2.2.2.2.2.2.2.2.2.2.2.2.2.2.2.2.1 = sT ∧ U.2.2.2.2.2.2.2.2.2.2.2.2.2.2.2.2.2.2.2.2.2.2.2.2.2.2.2.2.2.2.2.2.2.2.2.2.2.2.2.2.2.2.2.2.2 = sG)
theorem f_T {f rf pn : Nat → Int32} {pt : Nat → Int64} {G A : Nat → Nat → Int64} {n dep kd : Int32} : M_readText n f (G 0) (G 1) (G 2) (G 3) (G 4) (G 5) (G 6) (A 0) (A 1) (A 2) (A 3) (A 4) (A 5) (A 6) pn pt dep kd rf = (fun S => K_readText_L4 n f 100000 0 0 (G 0) (G 1) (G 2) (G 3) (G 4) (G 5) (G 6) (A 0) (A 1) (A 2) (A 3) (A 4) (A 5) (A 6) pn pt 0 999 0 5 (M_fillI 8 (-4) rf) S.1 S.2.1 S.2.2.1 S.2.2.2.1 0 dep S.2.2.2.2.1 S.2.2.2.2.2) (M_step n f 0 0 kd 0) := by
  simp only [K_readText_7, K_readText_5, K_readText_13, K_readText_11, K_readText_18, K_readText_17, K_readText_15, K_readText_20, K_readText_19, K_readText_16, K_readText_14, K_readText_12, K_readText_9, K_readText_10, K_readText_8, K_readText_6, K_readText_4, K_readText_3, K_readText_2, K_readText_1, M_readText]
theorem f_M {f c w ur ua Nm Tb P Td : Nat → Int32} {n nc nw dp mv mw mr so : Int32} {sS sI sU sD sT sG oT oN oD : Nat → Int32} {mra mli mre mpa mtk mon mhe mtr mdn mdm mtp mhp : Int32} : M_m_text sS sI sU sD sT sG oT oN oD mra mli mre mpa mtk mon mhe mtr mdn mdm mtp mhp n f c w ur ua Nm Tb P Td nc nw dp mv mw mr so = (fun V => K_m_text_L14 sS sI sU sD sT sG oT oN oD mra mli mre mpa mtk mon mhe mtr mdn mdm mtp mhp n f 100000 0 c w ur ua Nm Tb P Td 0 999 0 5 0 0 0 nc nw dp V.1 V.2.1 V.2.2.1 V.2.2.2.1 V.2.2.2.2.1 V.2.2.2.2.2) (M_m_next 0 mv mw n f 0 mr so) := by
  simp only [K_m_text_8, K_m_text_6, K_m_text_7, K_m_text_4, K_m_text_11, K_m_text_12, K_m_text_10, K_m_text_9, K_m_text_5, K_m_text_3, K_m_text_2, K_m_text_17, K_m_text_19, K_m_text_18, K_m_text_16, K_m_text_15, K_m_text_14, K_m_text_13, K_m_text_1, M_m_text]
theorem r_text {f rf pn c w ur ua Nm Tb P Td : Nat → Int32} {pt : Nat → Int64} {G A : Nat → Nat → Int64} {n dep kd nc nw dp mv mw mr so : Int32} {sS sI sU sD sT sG oT oN oD : Nat → Int32} {mra mli mre mpa mtk mon mhe mtr mdn mdm mtp mhp : Int32} (hf : ∀ j, 0 ≤ (f j).toInt) (h0 : 0 ≤ n.toInt) (hn : n.toInt ≤ 400) : xTxt (M_readText n f (G 0) (G 1) (G 2) (G 3) (G 4) (G 5) (G 6) (A 0) (A 1) (A 2) (A 3) (A 4) (A 5) (A 6) pn pt dep kd rf) (M_m_text sS sI sU sD sT sG oT oN oD mra mli mre mpa mtk mon mhe mtr mdn mdm mtp mhp n f c w ur ua Nm Tb P Td nc nw dp mv mw mr so) sS sI sU sD sT sG oT oN oD mra mli mre mpa mtk mon mhe mtr mdn mdm mtp mhp := by
  have z0 : (0 : Int32).toInt = 0 := by decide
  have rt := r_tok (fl := 0) (mf := 0) (x := 0) (fp := 0) (kd := kd) (mv := mv) (mw := mw) (mr := mr) (so := so) hf hn (by decide) (by omega) rfl (by decide)
  rw [f_T, f_M]
  dsimp only
  generalize M_step n f 0 0 kd 0 = S at rt ⊢
  generalize M_m_next 0 mv mw n f 0 mr so = V at rt ⊢
  obtain ⟨lines', pl', kd', fr', vl', told', dep', fl', fp', dr', hl', hr', us', nc', nw', dp', ps', mr', so', mv', mf', mw', li', re', be', dL', dR', dP', rf', ur', ua', c', w', Nm', Tb', P', Td', pn', pt', G', A', q', y1, y2, q8, y4, y5, y6, y7⟩ := r_lines (sS := sS) (sI := sI) (sU := sU) (sD := sD) (sT := sT) (sG := sG) (oT := oT) (oN := oN) (oD := oD) (mra := mra) (mli := mli) (mre := mre) (mpa := mpa) (mtk := mtk) (mon := mon) (mhe := mhe) (mtr := mtr) (mdn := mdn) (mdm := mdm) (mtp := mtp) (mhp := mhp) hf hn 401 (M_fillI 8 (-4) rf) ur ua c w Nm Tb P Td pn pt G A 0 0 S.1 S.2.1 S.2.2.1 S.2.2.2.1 0 dep S.2.2.2.2.1 S.2.2.2.2.2 0 0 0 0 nc nw dp V.1 V.2.1 V.2.2.1 V.2.2.2.1 V.2.2.2.2.1 V.2.2.2.2.2 999 0 5 999 0 5 0 rt.1 (by decide) (fun z => by
    have g := (rt.1.2.2.2 z).2.2.1
    refine ⟨by omega, by omega, by omega, rfl, ⟨by decide, fun j hj => absurd hj (by omega), fun i j _ hj => absurd hj (by omega), fun r hr => Or.inl ⟨?_, fun j hj => absurd hj (by omega)⟩⟩, by omega, by decide, by decide, by decide, ⟨rfl, rfl, rfl⟩, fun r hr => absurd hr (by omega)⟩
    unfold M_fillI
    rw [if_pos hr]
    decide)
  rw [show K_readText_L4 n f 100000 0 0 (G 0) (G 1) (G 2) (G 3) (G 4) (G 5) (G 6) (A 0) (A 1) (A 2) (A 3) (A 4) (A 5) (A 6) pn pt 0 999 0 5 (M_fillI 8 (-4) rf) S.1 S.2.1 S.2.2.1 S.2.2.2.1 0 dep S.2.2.2.2.1 S.2.2.2.2.2 = _ from y1 100000 (by decide), y2 100000 (by decide)]
  have qq : (nI q').toInt = (q' : Int) := nI_toInt (by omega)
  rcases r_told (us := us') (lines := lines') (dr := dr') (dL := dL') (dR := dR') (dP := dP') (hl := hl') (hr := hr') (nc := nc') (nw := nw') (dp := dp') (ps := ps') (mr := mr') (so := so') (mv := mv') (c := c') (w := w') (ur := ur') (ua := ua') (Nm := Nm') (Tb := Tb') (P := P') (Td := Td') (sS := sS) (sI := sI) (sU := sU) (sD := sD) (sT := sT) (sG := sG) (oT := oT) (oN := oN) (oD := oD) (mra := mra) (mli := mli) (mre := mre) (mpa := mpa) (mtk := mtk) (mon := mon) (mhe := mhe) (mtr := mtr) (mdn := mdn) (mdm := mdm) (mtp := mtp) (mhp := mhp) y4 y5 y6 q8 (fun z => ⟨(y7 z).1, (y7 z).2.1, (y7 z).2.2.1⟩) with ⟨a1, a2, a3⟩ | ⟨a1, a2⟩
  · obtain ⟨b1, b2, b3, ⟨b4, b5, b6⟩, b7⟩ := y7 a2
    have mz : mf' = 0 := by rw [← y4]; exact xi0 a2
    subst mz
    subst b1
    subst b4
    subst b5
    subst b6
    obtain ⟨O', N', T', S', I', U', D', K', G2, k1, k2, k3, k4, k5⟩ := r_draft (nI q') sS sI sU sD sT sG Tb' oT Nm' oN Td' oD
    rw [a3]
    unfold okM
    rw [k1]
    refine Or.inl ⟨a1, z0, rfl, rfl, ?_, rfl, rfl, rfl, ⟨rfl, rfl, rfl, rfl, rfl, rfl, rfl, rfl⟩, ?_, k5⟩
    · show 0 ≤ (nI q').toInt ∧ (nI q').toInt ≤ 8
      omega
    · show xE true (nI q').toNatClampNeg pn' pt' O' N' T'
      rw [nI_clamp (by omega)]
      exact xE_nar q8 b7 k2 k3 k4
  · rw [a2]
    unfold badM
    exact Or.inr ⟨a1, rfl, rfl, ⟨rfl, rfl, rfl, rfl⟩, ⟨rfl, rfl, rfl, rfl, rfl, rfl, rfl, rfl⟩, rfl, rfl, rfl, rfl, rfl, rfl, rfl, rfl, rfl⟩
