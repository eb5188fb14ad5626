/-- what a formula leaves where both have read it: the class's words of it, the reference's signs -/
def xFm (pn0 : Nat → Int32) (pt : Nat → Int64) (r : Int32) (fr : Int) (pn' : Nat → Int32) (pt' : Nat → Int64) (c : Nat → Int32) (nc : Int32) : Prop := 0 ≤ nc.toInt ∧ nc.toInt ≤ fr ∧ pn' = upd pn0 (xKn r) (xnm c nc.toNatClampNeg) ∧ ∃ g : Nat → Int64, pt' = va_cpy g pt (0 : Int32).toNatClampNeg (r * 8).toNatClampNeg (8 : Int32).toNatClampNeg ∧ (∀ j, j < nc.toNatClampNeg → 0 ≤ (c j).toInt ∧ ((c j).toInt < 9 ∨ (c j).toInt = 10 ∨ (c j).toInt = 11)) ∧ xwk c nc.toNatClampNeg ∧ ∀ s, s < 512 → xev c s nc.toNatClampNeg = [xbt g s]
def xFin (n : Int32) (fr0 : Int) (pn0 : Nat → Int32) (pt : Nat → Int64) (r : Int32) (t : xTC) (u : xF) : Prop := (xR n t.1 t.2.1 t.2.2.1 t.2.2.2.1 t.2.2.2.2.2.1 t.2.2.2.2.2.2.1 u.2.2.2.2.1 u.2.2.2.2.2.1 u.2.2.2.2.2.2.1 u.2.2.2.2.2.2.2.1 u.2.2.2.2.2.2.2.2.1 u.2.2.2.2.2.2.2.2.2.1 ∧ (t.2.2.2.2.2.1.toInt = 0 → xUs t.2.2.2.2.2.2.2.1 u.1 u.2.2.2.2.2.2.2.2.2.2.2.2.1 u.2.2.2.2.2.2.2.2.2.2.2.2.2 t.2.2.1.toInt ∧ u.1.toInt ≤ t.2.2.1.toInt ∧ fr0 ≤ t.2.2.1.toInt ∧ xFm pn0 pt r t.2.2.1.toInt t.2.2.2.2.2.2.2.2.2.2.2.2.2.2.2.2.2.2.2.2.2.2.1 t.2.2.2.2.2.2.2.2.2.2.2.2.2.2.2.2.2.2.2.2.2.2.2 u.2.2.2.2.2.2.2.2.2.2.1 u.2.1)) ∨ (t.2.2.2.2.2.1.toInt = 0 ∧ t.2.1.toInt = 3 ∧ t.2.2.2.1.toInt = 41 ∧ u.2.2.2.2.2.2.2.2.1 = 2 ∧ u.2.2.2.2.2.2.2.2.2.1 = t.2.2.1)
theorem fin_fault {n pl kd fr vl dep fl fp us nc nw dp ps mr so mv mf mw r : Int32} {rf pn ur ua c w pn0 : Nat → Int32} {pt : Nat → Int64} {j : xT7} {fr0 : Int} (h : xR n pl kd fr vl fl fp ps mr so mv mf mw) (q : ¬ fl.toInt = 0) : xFin n fr0 pn0 pt r (xFn pl kd fr vl dep fl fp rf pn pt r j) (us, nc, nw, dp, ps, mr, so, mv, mf, mw, c, w, ur, ua) := Or.inl ⟨h, fun z => absurd z q⟩
theorem nlt {n x y : Int32} {m : Nat} (h : n.toInt - x.toInt < ((m + 1 : Nat) : Int)) (q : x.toInt < y.toInt) : n.toInt - y.toInt < (m : Int) := by omega
theorem sim {f pn0 : Nat → Int32} {pt : Nat → Int64} {n r : Int32} (hf : ∀ j, 0 ≤ (f j).toInt) (hn : n.toInt ≤ 400) : ∀ m : Nat, m ≤ 500 →
    (∀ (i pl kd fr vl fl fp us nc nw ps mr so mv mf mw : Int32) (rf pn c w ur ua : Nat → Int32) (G A : Nat → Nat → Int64) (d : Nat) (fr0 : Int), xR n pl kd fr vl fl fp ps mr so mv mf mw → (fl.toInt = 0 → d ≤ 6 ∧ n.toInt - fr.toInt < (m : Int) ∧ 0 ≤ i.toInt ∧ i.toInt ≤ fr.toInt ∧ xUs rf us ur ua fr.toInt ∧ us.toInt ≤ fr.toInt ∧ fr0 ≤ fr.toInt ∧ 0 ≤ nc.toInt ∧ 0 ≤ nw.toInt ∧ nc.toInt + nw.toInt ≤ fr.toInt ∧ xS false d G A c w nc.toNatClampNeg nw.toNatClampNeg ∧ pn = upd pn0 (xKn r) (xnm c nc.toNatClampNeg)) → ∀ kc k1 k3 : Nat, m + 2 ≤ kc → m + 1 ≤ k1 → m + 1 ≤ k3 → xFin n fr0 pn0 pt r (K_readFormula_L3 pt r n f kc i 1 1 rf pn pl kd fr vl (nI d) fl fp (G 0) (G 1) (G 2) (G 3) (G 4) (G 5) (G 6) (A 0) (A 1) (A 2) (A 3) (A 4) (A 5) (A 6)) (R1 n f k1 k3 us nc c ur ua nw (nI d) ps mr so mv mf mw w)) ∧
    (∀ (i pl kd fr vl fl fp us nc nw ps mr so mv mf mw : Int32) (rf pn c w ur ua : Nat → Int32) (G A : Nat → Nat → Int64) (d : Nat) (fr0 : Int), xR n pl kd fr vl fl fp ps mr so mv mf mw → (fl.toInt = 0 → d ≤ 6 ∧ n.toInt - fr.toInt < (m : Int) ∧ 0 ≤ i.toInt ∧ i.toInt ≤ fr.toInt ∧ xUs rf us ur ua fr.toInt ∧ us.toInt ≤ fr.toInt ∧ fr0 ≤ fr.toInt ∧ 0 ≤ nc.toInt ∧ 0 ≤ nw.toInt ∧ nc.toInt + nw.toInt ≤ fr.toInt ∧ xS true d G A c w nc.toNatClampNeg nw.toNatClampNeg ∧ pn = upd pn0 (xKn r) (xnm c nc.toNatClampNeg)) → ∀ kc k2 k3 : Nat, m + 2 ≤ kc → m + 1 ≤ k2 → m + 1 ≤ k3 → xFin n fr0 pn0 pt r (K_readFormula_L3 pt r n f kc i 1 0 rf pn pl kd fr vl (nI d) fl fp (G 0) (G 1) (G 2) (G 3) (G 4) (G 5) (G 6) (A 0) (A 1) (A 2) (A 3) (A 4) (A 5) (A 6)) (R2 n f k2 k3 us nc c ur ua nw (nI d) ps mr so mv mf mw w)) := by
  have F1 : ∀ (i pl kd fr vl fl fp us nc nw ps mr so mv mf mw : Int32) (rf pn c w ur ua : Nat → Int32) (G A : Nat → Nat → Int64) (d : Nat) (fr0 : Int) (dp : Int32), xR n pl kd fr vl fl fp ps mr so mv mf mw → ¬ fl.toInt = 0 → ∀ kc k1 k3 : Nat, xFin n fr0 pn0 pt r (K_readFormula_L3 pt r n f (kc + 1) i 1 1 rf pn pl kd fr vl (nI d) fl fp (G 0) (G 1) (G 2) (G 3) (G 4) (G 5) (G 6) (A 0) (A 1) (A 2) (A 3) (A 4) (A 5) (A 6)) (R1 n f (k1 + 1) (k3 + 1) us nc c ur ua nw dp ps mr so mv mf mw w) := by
    intro i pl kd fr vl fl fp us nc nw ps mr so mv mf mw rf pn c w ur ua G A d fr0 dp h q kc k1 k3
    have q2 : mf.toInt ≠ 0 := by rw [← h.1]; exact q
    rw [C_fault q, R1_fault q2, show R2 n f 100000 (k3 + 1) us nc c ur ua nw dp ps mr so mv mf mw w = _ from R2_fault q2 99999 k3]
    exact fin_fault h q
  have F2 : ∀ (i pl kd fr vl fl fp us nc nw ps mr so mv mf mw : Int32) (rf pn c w ur ua : Nat → Int32) (G A : Nat → Nat → Int64) (d : Nat) (fr0 : Int) (x dp : Int32), xR n pl kd fr vl fl fp ps mr so mv mf mw → ¬ fl.toInt = 0 → ∀ kc k2 k3 : Nat, xFin n fr0 pn0 pt r (K_readFormula_L3 pt r n f (kc + 1) i 1 x rf pn pl kd fr vl (nI d) fl fp (G 0) (G 1) (G 2) (G 3) (G 4) (G 5) (G 6) (A 0) (A 1) (A 2) (A 3) (A 4) (A 5) (A 6)) (R2 n f (k2 + 1) (k3 + 1) us nc c ur ua nw dp ps mr so mv mf mw w) := by
    intro i pl kd fr vl fl fp us nc nw ps mr so mv mf mw rf pn c w ur ua G A d fr0 x dp h q kc k2 k3
    have q2 : mf.toInt ≠ 0 := by rw [← h.1]; exact q
    rw [C_fault q, R2_fault q2]
    exact fin_fault h q
  intro m
  induction m with
  | zero =>
    intro _
    refine ⟨fun i pl kd fr vl fl fp us nc nw ps mr so mv mf mw rf pn c w ur ua G A d fr0 h g kc k1 k3 a1 a2 a3 => ?_, fun i pl kd fr vl fl fp us nc nw ps mr so mv mf mw rf pn c w ur ua G A d fr0 h g kc k2 k3 a1 a2 a3 => ?_⟩
    all_goals
      have q : ¬ fl.toInt = 0 := fun z => by
        have b := (g z).2.1
        have c := h.2.2.2 z
        omega
    · obtain ⟨kc, rfl⟩ : ∃ j, kc = j + 1 := ⟨kc - 1, by omega⟩
      obtain ⟨k1, rfl⟩ : ∃ j, k1 = j + 1 := ⟨k1 - 1, by omega⟩
      obtain ⟨k3, rfl⟩ : ∃ j, k3 = j + 1 := ⟨k3 - 1, by omega⟩
      exact F1 _ _ _ _ _ _ _ _ _ _ _ _ _ _ _ _ _ _ _ _ _ _ _ _ _ _ _ h q _ _ _
    · obtain ⟨kc, rfl⟩ : ∃ j, kc = j + 1 := ⟨kc - 1, by omega⟩
      obtain ⟨k2, rfl⟩ : ∃ j, k2 = j + 1 := ⟨k2 - 1, by omega⟩
      obtain ⟨k3, rfl⟩ : ∃ j, k3 = j + 1 := ⟨k3 - 1, by omega⟩
      exact F2 _ _ _ _ _ _ _ _ _ _ _ _ _ _ _ _ _ _ _ _ _ _ _ _ _ _ _ _ h q _ _ _
  | succ m ih =>
    intro hm
    obtain ⟨ih1, ih2⟩ := ih (by omega)
    refine ⟨fun i pl kd fr vl fl fp us nc nw ps mr so mv mf mw rf pn c w ur ua G A d fr0 h g kc k1 k3 a1 a2 a3 => ?_, fun i pl kd fr vl fl fp us nc nw ps mr so mv mf mw rf pn c w ur ua G A d fr0 h g kc k2 k3 a1 a2 a3 => ?_⟩
    · obtain ⟨kc, rfl⟩ : ∃ j, kc = j + 1 := ⟨kc - 1, by omega⟩
      obtain ⟨k1, rfl⟩ : ∃ j, k1 = j + 1 := ⟨k1 - 1, by omega⟩
      obtain ⟨k3, rfl⟩ : ∃ j, k3 = j + 1 := ⟨k3 - 1, by omega⟩
      by_cases q : fl.toInt = 0
      · obtain ⟨d6, gm, i0, i1, gu, gl, g0, nc0, nw0, ncw, gs, gn⟩ := g q
        obtain ⟨e, hp, hw, hk⟩ := h
        subst e
        obtain ⟨e1, e2, r0, r1, r2, r3, k⟩ := hk q
        subst e1
        subst e2
        have dd : (nI d).toInt = (d : Int) := nI_toInt (by omega)
        have ii : (i + 1).toInt = i.toInt + 1 := xadd rfl (by decide) (by omega) (by omega)
        have rt := r_tok (fp := fp) (kd := kd) (mv := mv) (mw := mw) (mr := fr) (so := so) hf hn (by omega) r2 (rfl : fl = fl) q
        by_cases c40 : kd.toInt = 3 ∧ vl.toInt = 40
        · have s3 : so.toInt = 3 := by unfold xK at k; omega
          have lt := r3 (by omega)
          by_cases dl : d < 6
          · rw [C_want q (by omega) (by decide) (by decide), U_left q c40.1 c40.2 (by omega), R1_left q s3 (by omega), nI_1, r_open (show d + 1 ≤ 6 by omega) G A]
            have nw1 : (nw + 1).toInt = nw.toInt + 1 := xadd rfl (by decide) (by omega) (by omega)
            have nw2 : (nw + 1).toNatClampNeg = nw.toNatClampNeg + 1 := xtn1 nw0 nw1
            dsimp only [xt7]
            refine ih1 _ _ _ _ _ _ _ _ _ _ _ _ _ _ _ _ _ _ _ _ _ _ (zst G (d + 1) (M_fillJ 8 0 (G (d + 1)))) (zst A (d + 1) (M_fillJ 8 (-1) (A (d + 1)))) (d + 1) _ rt.1 (fun z => ?_) _ _ _ (by omega) (by omega) (by omega)
            have b := rt.2 z
            refine ⟨by omega, by omega, by omega, by omega, xUs_up gu (by omega), by omega, by omega, nc0, by omega, by omega, ?_, gn⟩
            rw [nw2]
            exact s_open gs (fun x hx => by unfold M_fillJ; rw [if_pos hx]) (fun x hx => by unfold M_fillJ; rw [if_pos hx])
          · rw [C_want q (by omega) (by decide) (by decide), U_deep q c40.1 c40.2 (by omega), R1_deep q s3 (by omega)]
            obtain ⟨kc, rfl⟩ : ∃ j, kc = j + 1 := ⟨kc - 1, by omega⟩
            obtain ⟨k1, rfl⟩ : ∃ j, k1 = j + 1 := ⟨k1 - 1, by omega⟩
            exact F1 _ _ _ _ _ _ _ _ _ _ _ _ _ _ _ _ _ _ _ _ _ _ _ _ _ _ _ (xR_no rfl (by dsimp only; decide) rfl) (by dsimp only; decide) _ _ _
        · by_cases c1 : kd.toInt = 1
          · have s1 : so.toInt = 1 := (xK1 k).1.mp c1
            have lt := r3 (by omega)
            have nc1 : (nc + 1).toInt = nc.toInt + 1 := xadd rfl (by decide) (by omega) (by omega)
            have nc2 : (nc + 1).toNatClampNeg = nc.toNatClampNeg + 1 := xtn1 nc0 nc1
            obtain ⟨n20, n21, n22, n23, n24, n25, n26, n27, n28, nle⟩ := nm_some (f := f) (ps := pl) r0 r2 hn
            rw [C_want q (by omega) (by decide) (by decide), R1_name q s1]
            by_cases w6 : xW6 f fr pl
            · obtain ⟨a, ea, ha⟩ := r_jp d6 pn 8 r A
              rw [U_key c1 w6, L_key q (n28.mpr w6), ea]
              dsimp only
              refine ih2 _ _ _ _ _ _ _ _ _ _ _ _ _ _ _ _ _ _ _ _ _ _ G (zst A d a) d _ rt.1 (fun z => ?_) _ _ _ (by omega) (by omega) (by omega)
              have b := rt.2 z
              refine ⟨d6, by omega, by omega, by omega, xUs_up gu (by omega), by omega, by omega, by omega, nw0, by omega, ?_, ?_⟩
              · rw [nc2]
                exact s_unit (k := 8) (by decide) gs ha
              · rw [nc2, xnm_put (by decide), gn, xupd_s, xupd_2]
            · rcases nr (f := f) (pl := pl) r0 r2 hn with ⟨l0, l7, le⟩ | ⟨l4, ln⟩
              · obtain ⟨a, ea, ha⟩ := r_jp d6 pn (M_railNamed pl fr f) r A
                rw [U_letter c1 w6 l0, L_letter q (by rw [le]; exact ⟨l0, l7⟩), le, ea]
                have uu : (us + 1).toInt = us.toInt + 1 := xadd rfl (by decide) (by have := gu.1; omega) (by omega)
                obtain ⟨kk, hkk, ekk⟩ : ∃ kk : Nat, kk < 8 ∧ (M_railNamed pl fr f) = nI kk := ⟨(M_railNamed pl fr f).toNatClampNeg, by have := xtn l0; omega, (xnI l0).symm⟩
                dsimp only
                refine ih2 _ _ _ _ _ _ _ _ _ _ _ _ _ _ _ _ _ _ _ _ _ _ G (zst A d a) d _ rt.1 (fun z => ?_) _ _ _ (by omega) (by omega) (by omega)
                have b := rt.2 z
                refine ⟨d6, by omega, by omega, by omega, xUs_up (use_add gu (by omega) l0 l7 r0) (by omega), by omega, by omega, by omega, nw0, by omega, ?_, ?_⟩
                · rw [nc2, ekk]
                  rw [ekk] at ha
                  exact s_unit (by omega) gs ha
                · rw [nc2, xnm_put (by omega), gn, xupd_s, xupd_2]
              · rw [U_bad q c1 w6 l4, L_bad q ln (fun z => w6 (n28.mp z))]
                obtain ⟨kc, rfl⟩ : ∃ j, kc = j + 1 := ⟨kc - 1, by omega⟩
                exact F2 _ _ _ _ _ _ _ _ _ _ _ _ _ _ _ _ _ _ _ _ _ _ _ _ _ _ _ _ (xR_no rfl (by dsimp only; decide) rfl) (by dsimp only; decide) _ 99999 _
          · have s1 : so.toInt ≠ 1 := fun z => c1 ((xK1 k).1.mpr z)
            have s3 : so.toInt ≠ 3 := by unfold xK at k; omega
            rw [C_want q (by omega) (by decide) (by decide), U_other q c40 c1, R1_other q s3 s1]
            obtain ⟨kc, rfl⟩ : ∃ j, kc = j + 1 := ⟨kc - 1, by omega⟩
            exact F2 _ _ _ _ _ _ _ _ _ _ _ _ _ _ _ _ _ _ _ _ _ _ _ _ _ _ _ _ (xR_no rfl (by dsimp only; decide) rfl) (by dsimp only; decide) _ 99999 _
      · exact F1 _ _ _ _ _ _ _ _ _ _ _ _ _ _ _ _ _ _ _ _ _ _ _ _ _ _ _ h q _ _ _
    · obtain ⟨kc, rfl⟩ : ∃ j, kc = j + 1 := ⟨kc - 1, by omega⟩
      obtain ⟨k2, rfl⟩ : ∃ j, k2 = j + 1 := ⟨k2 - 1, by omega⟩
      obtain ⟨k3, rfl⟩ : ∃ j, k3 = j + 1 := ⟨k3 - 1, by omega⟩
      by_cases q : fl.toInt = 0
      · obtain ⟨d6, gm, i0, i1, gu, gl, g0, nc0, nw0, ncw, gs, gn⟩ := g q
        obtain ⟨e, hp, hw, hk⟩ := h
        subst e
        obtain ⟨e1, e2, r0, r1, r2, r3, k⟩ := hk q
        subst e1
        subst e2
        have dd : (nI d).toInt = (d : Int) := nI_toInt (by omega)
        have ii : (i + 1).toInt = i.toInt + 1 := xadd rfl (by decide) (by omega) (by omega)
        have rt := r_tok (fp := fp) (kd := kd) (mv := mv) (mw := mw) (mr := fr) (so := so) hf hn (by omega) r2 (rfl : fl = fl) q
        by_cases c41 : kd.toInt = 3 ∧ vl.toInt = 41
        · have s4 : so.toInt = 4 := by unfold xK at k; omega
          have lt := r3 (by omega)
          by_cases dl : 0 < d
          · obtain ⟨d, rfl⟩ : ∃ j, d = j + 1 := ⟨d - 1, by omega⟩
            obtain ⟨g1, a, a2, ecd, hga, ha2⟩ := r_cd (show d ≤ 5 by omega) G A
            obtain ⟨nc', nw', c', b1, b2, b3, b4, b5, b6⟩ := r_done 11 gs nc0 nw0 (by omega)
            rw [C_right q (by omega) (by decide) (by decide) c41.1 c41.2 (by omega), R2_right q s4 (by omega), ecd, b1, nIm1 (by omega)]
            obtain ⟨n2, en, gs2⟩ := s_close gs b5 hga ha2
            have y0 := xtn (x := nw') b2
            have y1 : (nw' - 1).toInt = nw'.toInt - 1 := xsub rfl (by decide) (by omega) (by omega)
            have y2 : (nw' - 1).toNatClampNeg = n2 := by
              have := xtn (x := nw' - 1) (by omega)
              omega
            dsimp only
            refine ih2 _ _ _ _ _ _ _ _ _ _ _ _ _ _ _ _ _ _ _ _ _ _ (zst G (d + 1) g1) (zst (zst A (d + 1) a) d a2) d _ rt.1 (fun z => ?_) _ _ _ (by omega) (by omega) (by omega)
            have b := rt.2 z
            refine ⟨by omega, by omega, by omega, by omega, xUs_up gu (by omega), by omega, by omega, by omega, by omega, by omega, ?_, ?_⟩
            · rw [y2]
              exact gs2
            · rw [b6]
              exact gn
          · obtain rfl : d = 0 := by omega
            obtain ⟨kc, rfl⟩ : ∃ j, kc = j + 1 := ⟨kc - 1, by omega⟩
            obtain ⟨k2, rfl⟩ : ∃ j, k2 = j + 1 := ⟨k2 - 1, by omega⟩
            rw [R2_right0 q s4 (by omega), R2_fault (by decide), show K_readFormula_L3 pt r n f (kc + 1 + 1) i 1 0 rf pn pl kd fr vl (nI 0) fl fp (G 0) (G 1) (G 2) (G 3) (G 4) (G 5) (G 6) (A 0) (A 1) (A 2) (A 3) (A 4) (A 5) (A 6) = _ from C_last q (by omega) (by decide) (by decide) (by omega) kc, if_pos (by omega)]
            exact Or.inr ⟨q, c41.1, c41.2, rfl, rfl⟩
        · by_cases op : kd.toInt = 3 ∧ vl.toInt = 38
          · have s5 : so.toInt = 5 := by unfold xK at k; omega
            have lt := r3 (by omega)
            obtain ⟨nc', nw', c', b1, b2, b3, b4, b5, b6⟩ := r_done 10 gs nc0 nw0 (by omega)
            rw [C_and q (by omega) (by decide) (by decide) op.1 op.2, R2_and q s5, b1]
            have y1 : (nw' + 1).toInt = nw'.toInt + 1 := xadd rfl (by decide) (by omega) (by omega)
            have y2 : (nw' + 1).toNatClampNeg = nw'.toNatClampNeg + 1 := xtn1 b2 y1
            dsimp only
            refine ih1 _ _ _ _ _ _ _ _ _ _ _ _ _ _ _ _ _ _ _ _ _ _ G A d _ rt.1 (fun z => ?_) _ _ _ (by omega) (by omega) (by omega)
            have b := rt.2 z
            refine ⟨d6, by omega, by omega, by omega, xUs_up gu (by omega), by omega, by omega, by omega, by omega, by omega, ?_, ?_⟩
            · rw [y2]
              exact s_and gs b5
            · rw [b6]
              exact gn
          · by_cases op2 : kd.toInt = 3 ∧ vl.toInt = 124
            · have s6 : so.toInt = 6 := by unfold xK at k; omega
              have lt := r3 (by omega)
              obtain ⟨g1, a, ea, hga⟩ := r_ja d6 G A
              obtain ⟨nc', nw', c', b1, b2, b3, b4, b5, b6⟩ := r_done 11 gs nc0 nw0 (by omega)
              rw [C_or q (by omega) (by decide) (by decide) op2.1 op2.2, R2_or q s6, b1, ea]
              have y1 : (nw' + 1).toInt = nw'.toInt + 1 := xadd rfl (by decide) (by omega) (by omega)
              have y2 : (nw' + 1).toNatClampNeg = nw'.toNatClampNeg + 1 := xtn1 b2 y1
              dsimp only [xt7]
              refine ih1 _ _ _ _ _ _ _ _ _ _ _ _ _ _ _ _ _ _ _ _ _ _ (zst G d g1) (zst A d a) d _ rt.1 (fun z => ?_) _ _ _ (by omega) (by omega) (by omega)
              have b := rt.2 z
              refine ⟨d6, by omega, by omega, by omega, xUs_up gu (by omega), by omega, by omega, by omega, by omega, by omega, ?_, ?_⟩
              · rw [y2]
                exact s_or gs b5 hga
              · rw [b6]
                exact gn
            · have ss : so.toInt ≠ 4 ∧ so.toInt ≠ 5 ∧ so.toInt ≠ 6 := by unfold xK at k; omega
              obtain ⟨kc, rfl⟩ : ∃ j, kc = j + 1 := ⟨kc - 1, by omega⟩
              rw [R2_end q ss.1 ss.2.1 ss.2.2, show K_readFormula_L3 pt r n f (kc + 1 + 1) i 1 0 rf pn pl kd fr vl (nI d) fl fp (G 0) (G 1) (G 2) (G 3) (G 4) (G 5) (G 6) (A 0) (A 1) (A 2) (A 3) (A 4) (A 5) (A 6) = _ from C_last q (by omega) (by decide) (by decide) (by omega) kc]
              by_cases dz : d = 0
              · subst dz
                obtain ⟨g1, a, ea, hga⟩ := r_ja d6 G A
                obtain ⟨nc', nw', c', b1, b2, b3, b4, b5, b6⟩ := r_done 11 gs nc0 nw0 (by omega)
                have fin := s_end gs b5 (fun x hx => (hga x hx).1)
                rw [if_pos (by omega), if_pos (by omega), ea, b1]
                exact Or.inl ⟨xR_ok rfl q r0 r1 r2 r3 k rfl, fun _ => ⟨gu, gl, g0, by show 0 ≤ nc'.toInt; omega, by show nc'.toInt ≤ fr.toInt; omega, by rw [b6]; exact gn, g1, rfl, fin.1, fin.2.1, fin.2.2⟩⟩
              · rw [if_neg (by omega), if_neg (by omega)]
                exact fin_fault (xR_no rfl (by decide) rfl) (by decide)
      · exact F2 _ _ _ _ _ _ _ _ _ _ _ _ _ _ _ _ _ _ _ _ _ _ _ _ _ _ _ _ h q _ _ _
