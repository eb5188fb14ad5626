theorem nr {f : Nat → Int32} {n pl fr : Int32} (h0 : 0 ≤ fr.toInt) (h2 : pl.toInt ≤ n.toInt) (hn : n.toInt ≤ 400) : (0 ≤ (M_railNamed pl fr f).toInt ∧ (M_railNamed pl fr f).toInt ≤ 7 ∧ M_m_nameNow pl fr n f = M_railNamed pl fr f) ∨ ((M_railNamed pl fr f).toInt = -4 ∧ ¬ (0 ≤ (M_m_nameNow pl fr n f).toInt ∧ (M_m_nameNow pl fr n f).toInt ≤ 7)) := by
  rw [t_railN, nm h0 h2 hn]
  by_cases q : pl.toInt - fr.toInt = 1
  · rw [if_pos q, if_pos q]
    by_cases g : 0 ≤ (f fr.toNatClampNeg - 97).toInt ∧ (f fr.toNatClampNeg - 97).toInt ≤ 7
    · rw [if_pos g]
      exact Or.inl ⟨g.1, g.2, rfl⟩
    · rw [if_neg g]
      exact Or.inr ⟨by decide, by decide⟩
  · rw [if_neg q, if_neg q]
    refine Or.inr ⟨by decide, ?_⟩
    split
    · decide
    split
    · decide
    split
    · decide
    split
    · decide
    split
    · decide
    split
    · decide
    split
    · decide
    split
    · decide
    split
    · decide
    decide
abbrev xC : Type := Int32 × Int32 × Int32 × Int32 × Int32 × Int32 × Int32 × (Nat → Int32)
def xFin (n : Int32) (fr0 : Int) (t : xC) (u : xF) : Prop := (xR n t.1 t.2.1 t.2.2.1 t.2.2.2.1 t.2.2.2.2.2.1 t.2.2.2.2.2.2.1 u.2.2.1 u.2.2.2.1 u.2.2.2.2.1 u.2.2.2.2.2.1 u.2.2.2.2.2.2.1 u.2.2.2.2.2.2.2.1 ∧ (t.2.2.2.2.2.1.toInt = 0 → xUs t.2.2.2.2.2.2.2 u.1 u.2.2.2.2.2.2.2.2.1 u.2.2.2.2.2.2.2.2.2 t.2.2.1.toInt ∧ u.1.toInt ≤ t.2.2.1.toInt ∧ fr0 ≤ t.2.2.1.toInt)) ∨ (t.2.2.2.2.2.1.toInt = 0 ∧ t.2.1.toInt = 3 ∧ t.2.2.2.1.toInt = 41 ∧ u.2.2.2.2.2.2.1 = 2 ∧ u.2.2.2.2.2.2.2.1 = t.2.2.1)
theorem fin_fault {n pl kd fr vl dep fl fp us dp ps mr so mv mf mw : Int32} {rf ur ua : Nat → Int32} {fr0 : Int} (h : xR n pl kd fr vl fl fp ps mr so mv mf mw) (q : ¬ fl.toInt = 0) : xFin n fr0 (pl, kd, fr, vl, dep, fl, fp, rf) (us, dp, ps, mr, so, mv, mf, mw, ur, ua) := Or.inl ⟨h, fun z => absurd z q⟩
theorem sim {f : Nat → Int32} {n : Int32} (hf : ∀ j, 0 ≤ (f j).toInt) (hn : n.toInt ≤ 400) : ∀ m : Nat, m ≤ 500 →
    (∀ (i pl kd fr vl dep fl fp us ps mr so mv mf mw : Int32) (rf ur ua : Nat → Int32) (fr0 : Int), xR n pl kd fr vl fl fp ps mr so mv mf mw → (fl.toInt = 0 → 0 ≤ dep.toInt ∧ dep.toInt ≤ 6 ∧ n.toInt - fr.toInt < (m : Int) ∧ 0 ≤ i.toInt ∧ i.toInt ≤ fr.toInt ∧ xUs rf us ur ua fr.toInt ∧ us.toInt ≤ fr.toInt ∧ fr0 ≤ fr.toInt) → ∀ kc k1 k3 : Nat, m + 2 ≤ kc → m + 1 ≤ k1 → m + 1 ≤ k3 → xFin n fr0 (K_readFormula_L2 n f kc i 1 1 rf pl kd fr vl dep fl fp) (R1 n f k1 k3 us ur ua dep ps mr so mv mf mw)) ∧
    (∀ (i pl kd fr vl dep fl fp us ps mr so mv mf mw : Int32) (rf ur ua : Nat → Int32) (fr0 : Int), xR n pl kd fr vl fl fp ps mr so mv mf mw → (fl.toInt = 0 → 0 ≤ dep.toInt ∧ dep.toInt ≤ 6 ∧ n.toInt - fr.toInt < (m : Int) ∧ 0 ≤ i.toInt ∧ i.toInt ≤ fr.toInt ∧ xUs rf us ur ua fr.toInt ∧ us.toInt ≤ fr.toInt ∧ fr0 ≤ fr.toInt) → ∀ kc k2 k3 : Nat, m + 2 ≤ kc → m + 1 ≤ k2 → m + 1 ≤ k3 → xFin n fr0 (K_readFormula_L2 n f kc i 1 0 rf pl kd fr vl dep fl fp) (R2 n f k2 k3 us ur ua dep ps mr so mv mf mw)) := by
  have F1 : ∀ (i pl kd fr vl dep fl fp us ps mr so mv mf mw : Int32) (rf ur ua : Nat → Int32) (fr0 : Int), xR n pl kd fr vl fl fp ps mr so mv mf mw → ¬ fl.toInt = 0 → ∀ kc k1 k3 : Nat, xFin n fr0 (K_readFormula_L2 n f (kc + 1) i 1 1 rf pl kd fr vl dep fl fp) (R1 n f (k1 + 1) (k3 + 1) us ur ua dep ps mr so mv mf mw) := by
    intro i pl kd fr vl dep fl fp us ps mr so mv mf mw rf ur ua fr0 h q kc k1 k3
    have q2 : mf.toInt ≠ 0 := by rw [← h.1]; exact q
    rw [C_fault q, R1_fault q2, show R2 n f 100000 (k3 + 1) us ur ua dep ps mr so mv mf mw = _ from R2_fault q2 99999 k3]
    exact fin_fault h q
  have F2 : ∀ (i w pl kd fr vl dep dp fl fp us ps mr so mv mf mw : Int32) (rf ur ua : Nat → Int32) (fr0 : Int), xR n pl kd fr vl fl fp ps mr so mv mf mw → ¬ fl.toInt = 0 → ∀ kc k2 k3 : Nat, xFin n fr0 (K_readFormula_L2 n f (kc + 1) i 1 w rf pl kd fr vl dep fl fp) (R2 n f (k2 + 1) (k3 + 1) us ur ua dp ps mr so mv mf mw) := by
    intro i w pl kd fr vl dep dp fl fp us ps mr so mv mf mw rf ur ua fr0 h q kc k2 k3
    have q2 : mf.toInt ≠ 0 := by rw [← h.1]; exact q
    rw [C_fault q, R2_fault q2]
    exact fin_fault h q
  intro m
  induction m with
  | zero =>
    intro _
    refine ⟨fun i pl kd fr vl dep fl fp us ps mr so mv mf mw rf ur ua fr0 h g kc k1 k3 a1 a2 a3 => ?_, fun i pl kd fr vl dep fl fp us ps mr so mv mf mw rf ur ua fr0 h g kc k2 k3 a1 a2 a3 => ?_⟩
    all_goals
      have q : ¬ fl.toInt = 0 := fun z => by
        have b := g z
        have c := h.2.2.2 z
        omega
    · obtain ⟨kc, rfl⟩ : ∃ j, kc = j + 1 := ⟨kc - 1, by omega⟩
      obtain ⟨k1, rfl⟩ : ∃ j, k1 = j + 1 := ⟨k1 - 1, by omega⟩
      obtain ⟨k3, rfl⟩ : ∃ j, k3 = j + 1 := ⟨k3 - 1, by omega⟩
      exact F1 _ _ _ _ _ _ _ _ _ _ _ _ _ _ _ _ _ _ _ h q _ _ _
    · obtain ⟨kc, rfl⟩ : ∃ j, kc = j + 1 := ⟨kc - 1, by omega⟩
      obtain ⟨k2, rfl⟩ : ∃ j, k2 = j + 1 := ⟨k2 - 1, by omega⟩
      obtain ⟨k3, rfl⟩ : ∃ j, k3 = j + 1 := ⟨k3 - 1, by omega⟩
      exact F2 _ _ _ _ _ _ _ _ _ _ _ _ _ _ _ _ _ _ _ _ _ h q _ _ _
  | succ m ih =>
    intro hm
    obtain ⟨ih1, ih2⟩ := ih (by omega)
    refine ⟨fun i pl kd fr vl dep fl fp us ps mr so mv mf mw rf ur ua fr0 h g kc k1 k3 a1 a2 a3 => ?_, fun i pl kd fr vl dep fl fp us ps mr so mv mf mw rf ur ua fr0 h g kc k2 k3 a1 a2 a3 => ?_⟩
    · obtain ⟨kc, rfl⟩ : ∃ j, kc = j + 1 := ⟨kc - 1, by omega⟩
      obtain ⟨k1, rfl⟩ : ∃ j, k1 = j + 1 := ⟨k1 - 1, by omega⟩
      obtain ⟨k3, rfl⟩ : ∃ j, k3 = j + 1 := ⟨k3 - 1, by omega⟩
      by_cases q : fl.toInt = 0
      · obtain ⟨d0, d6, gm, i0, i1, gu, gl, g0⟩ := g q
        obtain ⟨e, hp, hw, hk⟩ := h
        subst e
        obtain ⟨e1, e2, r0, r1, r2, r3, k⟩ := hk q
        subst e1
        subst e2
        have ii : (i + 1).toInt = i.toInt + 1 := xadd rfl (by decide) (by omega) (by omega)
        have rt := r_tok (fp := fp) (kd := kd) (mv := mv) (mw := mw) (mr := fr) (so := so) hf hn (by omega) r2 (rfl : fl = fl) q
        by_cases c40 : kd.toInt = 3 ∧ vl.toInt = 40
        · have s3 : so.toInt = 3 := by unfold xK at k; omega
          have lt := r3 (by omega)
          by_cases d : dep.toInt < 6
          · have dd : (dep + 1).toInt = dep.toInt + 1 := xadd rfl (by decide) (by omega) (by omega)
            rw [C_want q (by omega) (by decide) (by decide), U_left q c40.1 c40.2 d, R1_left q s3 d]
            dsimp only
            refine ih1 _ _ _ _ _ _ _ _ _ _ _ _ _ _ _ _ _ _ _ rt.1 (fun z => ?_) _ _ _ (by omega) (by omega) (by omega)
            have b := rt.2 z
            exact ⟨by omega, by omega, by omega, by omega, by omega, xUs_up gu (by omega), by omega, by omega⟩
          · rw [C_want q (by omega) (by decide) (by decide), U_deep q c40.1 c40.2 (by omega), R1_deep q s3 (by omega)]
            obtain ⟨kc, rfl⟩ : ∃ j, kc = j + 1 := ⟨kc - 1, by omega⟩
            obtain ⟨k1, rfl⟩ : ∃ j, k1 = j + 1 := ⟨k1 - 1, by omega⟩
            show xFin n fr0 (K_readFormula_L2 n f (kc + 1) (i + 1) 1 1 rf pl kd fr vl dep 5 fr) _
            rw [C_fault (by decide), R1_fault (by decide), show R2 n f 100000 (k3 + 1) us ur ua (dep + 1) pl fr so mv 5 fr = _ from R2_fault (by decide) 99999 k3]
            exact fin_fault (xR_no rfl (by decide) rfl) (by decide)
        · by_cases c1 : kd.toInt = 1
          · have s1 : so.toInt = 1 := (xK1 k).1.mp c1
            have lt := r3 (by omega)
            obtain ⟨n20, n21, n22, n23, n24, n25, n26, n27, n28, nle⟩ := nm_some (f := f) (ps := pl) r0 r2 hn
            rw [C_want q (by omega) (by decide) (by decide), R1_name q s1]
            by_cases w6 : xW6 f fr pl
            · rw [U_key c1 w6, L_key q (n28.mpr w6)]
              dsimp only
              refine ih2 _ _ _ _ _ _ _ _ _ _ _ _ _ _ _ _ _ _ _ rt.1 (fun z => ?_) _ _ _ (by omega) (by omega) (by omega)
              have b := rt.2 z
              exact ⟨by omega, by omega, by omega, by omega, by omega, xUs_up gu (by omega), by omega, by omega⟩
            · rcases nr (f := f) (pl := pl) r0 r2 hn with ⟨l0, l7, le⟩ | ⟨l4, ln⟩
              · rw [U_letter c1 w6 l0, L_letter q (by rw [le]; exact ⟨l0, l7⟩), le]
                have uu : (us + 1).toInt = us.toInt + 1 := xadd rfl (by decide) (by have := gu.1; omega) (by omega)
                dsimp only
                refine ih2 _ _ _ _ _ _ _ _ _ _ _ _ _ _ _ _ _ _ _ rt.1 (fun z => ?_) _ _ _ (by omega) (by omega) (by omega)
                have b := rt.2 z
                exact ⟨by omega, by omega, by omega, by omega, by omega, xUs_up (use_add gu (by omega) l0 l7 r0) (by omega), by omega, by omega⟩
              · rw [U_bad q c1 w6 l4, L_bad q ln (fun z => w6 (n28.mp z))]
                obtain ⟨kc, rfl⟩ : ∃ j, kc = j + 1 := ⟨kc - 1, by omega⟩
                show xFin n fr0 (K_readFormula_L2 n f (kc + 1) (i + 1) 1 0 rf pl kd fr vl dep 3 fr) (R2 n f (99999 + 1) (k3 + 1) us ur ua dep pl fr so mv 3 fr)
                exact F2 _ _ _ _ _ _ _ _ _ _ _ _ _ _ _ _ _ _ _ _ _ (xR_no rfl (by decide) rfl) (by decide) _ _ _
          · have s1 : so.toInt ≠ 1 := fun z => c1 ((xK1 k).1.mpr z)
            have s3 : so.toInt ≠ 3 := by unfold xK at k; omega
            rw [C_want q (by omega) (by decide) (by decide), U_other q c40 c1, R1_other q s3 s1]
            obtain ⟨kc, rfl⟩ : ∃ j, kc = j + 1 := ⟨kc - 1, by omega⟩
            show xFin n fr0 (K_readFormula_L2 n f (kc + 1) (i + 1) 1 0 rf pl kd fr vl dep 2 fr) (R2 n f (99999 + 1) (k3 + 1) us ur ua dep pl fr so mv 2 fr)
            exact F2 _ _ _ _ _ _ _ _ _ _ _ _ _ _ _ _ _ _ _ _ _ (xR_no rfl (by decide) rfl) (by decide) _ _ _
      · exact F1 _ _ _ _ _ _ _ _ _ _ _ _ _ _ _ _ _ _ _ h q _ _ _
    · obtain ⟨kc, rfl⟩ : ∃ j, kc = j + 1 := ⟨kc - 1, by omega⟩
      obtain ⟨k2, rfl⟩ : ∃ j, k2 = j + 1 := ⟨k2 - 1, by omega⟩
      obtain ⟨k3, rfl⟩ : ∃ j, k3 = j + 1 := ⟨k3 - 1, by omega⟩
      by_cases q : fl.toInt = 0
      · obtain ⟨d0, d6, gm, i0, i1, gu, gl, g0⟩ := g q
        obtain ⟨e, hp, hw, hk⟩ := h
        subst e
        obtain ⟨e1, e2, r0, r1, r2, r3, k⟩ := hk q
        subst e1
        subst e2
        have ii : (i + 1).toInt = i.toInt + 1 := xadd rfl (by decide) (by omega) (by omega)
        have rt := r_tok (fp := fp) (kd := kd) (mv := mv) (mw := mw) (mr := fr) (so := so) hf hn (by omega) r2 (rfl : fl = fl) q
        by_cases c41 : kd.toInt = 3 ∧ vl.toInt = 41
        · have s4 : so.toInt = 4 := by unfold xK at k; omega
          have lt := r3 (by omega)
          by_cases d : 0 < dep.toInt
          · have dd : (dep - 1).toInt = dep.toInt - 1 := xsub rfl (by decide) (by omega) (by omega)
            rw [C_right q (by omega) (by decide) (by decide) c41.1 c41.2 d, R2_right q s4 d]
            dsimp only
            refine ih2 _ _ _ _ _ _ _ _ _ _ _ _ _ _ _ _ _ _ _ rt.1 (fun z => ?_) _ _ _ (by omega) (by omega) (by omega)
            have b := rt.2 z
            exact ⟨by omega, by omega, by omega, by omega, by omega, xUs_up gu (by omega), by omega, by omega⟩
          · obtain ⟨kc, rfl⟩ : ∃ j, kc = j + 1 := ⟨kc - 1, by omega⟩
            obtain ⟨k2, rfl⟩ : ∃ j, k2 = j + 1 := ⟨k2 - 1, by omega⟩
            rw [R2_right0 q s4 (by omega), R2_fault (by decide), show K_readFormula_L2 n f (kc + 1 + 1) i 1 0 rf pl kd fr vl dep fl fp = _ from C_last q (by omega) (by decide) (by decide) (by omega) kc, if_pos (by omega)]
            exact Or.inr ⟨q, c41.1, c41.2, rfl, rfl⟩
        · by_cases op : kd.toInt = 3 ∧ (vl.toInt = 38 ∨ vl.toInt = 124)
          · have s5 : so.toInt = 5 ∨ so.toInt = 6 := by unfold xK at k; omega
            have lt := r3 (by omega)
            rw [C_op q (by omega) (by decide) (by decide) op.1 op.2, R2_op q s5]
            dsimp only
            refine ih1 _ _ _ _ _ _ _ _ _ _ _ _ _ _ _ _ _ _ _ rt.1 (fun z => ?_) _ _ _ (by omega) (by omega) (by omega)
            have b := rt.2 z
            exact ⟨by omega, by omega, by omega, by omega, by omega, xUs_up gu (by omega), by omega, by omega⟩
          · have ss : so.toInt ≠ 4 ∧ so.toInt ≠ 5 ∧ so.toInt ≠ 6 := by unfold xK at k; omega
            obtain ⟨kc, rfl⟩ : ∃ j, kc = j + 1 := ⟨kc - 1, by omega⟩
            rw [R2_end q ss.1 ss.2.1 ss.2.2, show K_readFormula_L2 n f (kc + 1 + 1) i 1 0 rf pl kd fr vl dep fl fp = _ from C_last q (by omega) (by decide) (by decide) (by omega) kc]
            by_cases d : dep.toInt = 0
            · rw [if_pos (by omega), if_pos d]
              exact Or.inl ⟨xR_ok rfl q r0 r1 r2 r3 k rfl, fun _ => ⟨gu, gl, g0⟩⟩
            · rw [if_neg (by omega), if_neg d]
              exact fin_fault (xR_no rfl (by decide) rfl) (by decide)
      · exact F2 _ _ _ _ _ _ _ _ _ _ _ _ _ _ _ _ _ _ _ _ _ h q _ _ _
