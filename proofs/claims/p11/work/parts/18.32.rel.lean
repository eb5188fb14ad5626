abbrev xT : Type := Int32 × Int32 × Int32 × Int32 × Int32 × Int32
/-- the same token on both sides -/
def xK (kd vl so mv : Int32) : Prop := (kd.toInt = 0 ∧ so.toInt = 0) ∨ (kd.toInt = 1 ∧ so.toInt = 1) ∨ (kd.toInt = 2 ∧ so.toInt = 2 ∧ vl = mv) ∨ (kd.toInt = 3 ∧ ((vl.toInt = 40 ∧ so.toInt = 3) ∨ (vl.toInt = 41 ∧ so.toInt = 4) ∨ (vl.toInt = 38 ∧ so.toInt = 5) ∨ (vl.toInt = 124 ∧ so.toInt = 6) ∨ (vl.toInt = 59 ∧ so.toInt = 7)))
/-- the same place in the text, or the same fault -/
def xR (n pl kd fr vl fl fp ps mr so mv mf mw : Int32) : Prop := fl = mf ∧ 0 ≤ fl.toInt ∧ (fl.toInt ≠ 0 → fp = mw) ∧ (fl.toInt = 0 → pl = ps ∧ fr = mr ∧ 0 ≤ fr.toInt ∧ fr.toInt ≤ pl.toInt ∧ pl.toInt ≤ n.toInt ∧ (kd.toInt ≠ 0 → fr.toInt < pl.toInt) ∧ xK kd vl so mv)
def xRt (n : Int32) (t u : xT) : Prop := xR n t.1 t.2.1 t.2.2.1 t.2.2.2.1 t.2.2.2.2.1 t.2.2.2.2.2 u.1 u.2.1 u.2.2.1 u.2.2.2.1 u.2.2.2.2.1 u.2.2.2.2.2
theorem xR_ok {n pl kd fr vl fl fp mr so mv mf mw : Int32} (e : fl = mf) (h : fl.toInt = 0) (h0 : 0 ≤ fr.toInt) (h1 : fr.toInt ≤ pl.toInt) (h2 : pl.toInt ≤ n.toInt) (h3 : kd.toInt ≠ 0 → fr.toInt < pl.toInt) (hk : xK kd vl so mv) (er : fr = mr) : xR n pl kd fr vl fl fp pl mr so mv mf mw := ⟨e, by omega, fun z => absurd h z, fun _ => ⟨rfl, er, h0, h1, h2, h3, hk⟩⟩
theorem xR_no {n pl kd fr vl fl fp ps mr so mv mf mw : Int32} (e : fl = mf) (h : 0 < fl.toInt) (hp : fp = mw) : xR n pl kd fr vl fl fp ps mr so mv mf mw := ⟨e, by omega, fun _ => hp, fun z => absurd h (by omega)⟩
theorem dig_val {f : Nat → Int32} {n s : Int32} (hn : n.toInt ≤ 400) (hs : 0 ≤ s.toInt) {e : Int32} (he : e.toInt - s.toInt ≤ 3) : ∀ (k : Nat) (x v : Int32), s.toInt ≤ x.toInt → x.toInt ≤ n.toInt → n.toInt - x.toInt < (k : Int) → e = sp_run f n 48 57 k x → sp_dig f n s k x v = sp_val f e k x v := by
  intro k
  induction k with
  | zero => intro x v h0 h1 h; exact absurd h (by omega)
  | succ k ih =>
    intro x v h0 h1 h ee
    have e1 : sp_run f n 48 57 (k + 1) x = if 48 ≤ (sp_look f n x).toInt ∧ (sp_look f n x).toInt ≤ 57 then sp_run f n 48 57 k (x + 1) else x := rfl
    have e2 : sp_dig f n s (k + 1) x v = if 48 ≤ (sp_look f n x).toInt ∧ (sp_look f n x).toInt ≤ 57 then sp_dig f n s k (x + 1) (if 3 ≤ x.toInt - s.toInt then v else 10 * v + sp_look f n x - 48) else v := rfl
    have e3 : sp_val f e (k + 1) x v = if e.toInt ≤ x.toInt then v else sp_val f e k (x + 1) (v * 10 + f x.toNatClampNeg - 48) := rfl
    by_cases q : 48 ≤ (sp_look f n x).toInt ∧ (sp_look f n x).toInt ≤ 57
    · have l := sp_look_lt (f := f) (n := n) (x := x) (by omega)
      have z := xinc (by omega) l hn
      rw [if_pos q] at e1 e2
      have le := sp_run_le (f := f) (lo := 48) (hi := 57) (by decide) hn k (x + 1) (by omega) (by omega)
      rw [← e1, ← ee] at le
      rw [e2, e3, if_neg (by omega), if_neg (by omega), sp_look_in l, Int32.mul_comm 10 v]
      exact ih _ _ (by omega) (by omega) (by omega) (ee.trans e1)
    · rw [if_neg q] at e1 e2
      rw [e2, e3, if_pos (by rw [ee, e1]; exact Int.le_refl _)]
/-- a token is read on both sides -/
theorem r_tok {f : Nat → Int32} {n fl fp kd x mf mv mw mr so : Int32} (hf : ∀ j, 0 ≤ (f j).toInt) (hn : n.toInt ≤ 400) (h0 : 0 ≤ x.toInt) (h1 : x.toInt ≤ n.toInt) (e : fl = mf) (hfl : fl.toInt = 0) : xRt n (M_step n f fl fp kd x) (M_m_next mf mv mw n f x mr so) ∧ ((M_step n f fl fp kd x).2.2.2.2.1.toInt = 0 → x.toInt ≤ (M_step n f fl fp kd x).2.2.1.toInt) := by
  subst e
  rw [t_step hf hn h0 h1, t_next hf hn h0 h1 (by omega)]
  have hs := sp_run_le (f := f) (lo := 32) (hi := 32) (by decide) hn 401 x h0 h1
  generalize sp_run f n 32 32 401 x = s at hs ⊢
  unfold sp_step sp_next sp_fl sp_fp
  have z1 : (1 : Int32).toInt = 1 := by decide
  have z2 : (2 : Int32).toInt = 2 := by decide
  have z3 : (3 : Int32).toInt = 3 := by decide
  have z0 : (0 : Int32).toInt = 0 := by decide
  by_cases a0 : (sp_look f n s).toInt < 0
  · rw [if_pos a0, if_pos a0]
    exact ⟨(show xR n s 0 s 0 fl fp s s 0 mv fl mw from xR_ok rfl hfl (by omega) (Int.le_refl _) hs.2 (fun z => absurd z0 z) (Or.inl ⟨z0, z0⟩) rfl), fun _ => hs.1⟩
  · rw [if_neg a0, if_neg a0]
    have l := sp_look_lt (f := f) (n := n) (x := s) (by omega)
    have w := xinc (by omega) l hn
    by_cases a1 : 97 ≤ (sp_look f n s).toInt ∧ (sp_look f n s).toInt ≤ 122
    · rw [if_pos a1, if_pos a1]
      have e1 : sp_run f n 97 122 401 s = sp_run f n 97 122 400 (s + 1) := by
        show (if 97 ≤ (sp_look f n s).toInt ∧ (sp_look f n s).toInt ≤ 122 then sp_run f n 97 122 400 (s + 1) else s) = _
        rw [if_pos a1]
      have le := sp_run_le (f := f) (lo := 97) (hi := 122) (by decide) hn 400 (s + 1) (by omega) (by omega)
      rw [← e1] at le
      exact ⟨(show xR n (sp_run f n 97 122 401 s) 1 s 0 fl fp (sp_run f n 97 122 401 s) s 1 mv fl mw from xR_ok rfl hfl (by omega) (by omega) le.2 (fun _ => by omega) (Or.inr (Or.inl ⟨z1, z1⟩)) rfl), fun _ => hs.1⟩
    · rw [if_neg a1, if_neg a1]
      by_cases a2 : 48 ≤ (sp_look f n s).toInt ∧ (sp_look f n s).toInt ≤ 57
      · rw [if_pos a2, if_pos a2]
        have e1 : sp_run f n 48 57 401 s = sp_run f n 48 57 400 (s + 1) := by
          show (if 48 ≤ (sp_look f n s).toInt ∧ (sp_look f n s).toInt ≤ 57 then sp_run f n 48 57 400 (s + 1) else s) = _
          rw [if_pos a2]
        have le := sp_run_le (f := f) (lo := 48) (hi := 57) (by decide) hn 400 (s + 1) (by omega) (by omega)
        rw [← e1] at le
        by_cases a3 : (sp_run f n 48 57 401 s).toInt - s.toInt ≤ 3
        · have dv := dig_val (f := f) (e := sp_run f n 48 57 401 s) hn (by omega : 0 ≤ s.toInt) a3 401 s 0 (Int.le_refl _) (by omega) (by omega) rfl
          have sv := sp_val_any (f := f) (e := sp_run f n 48 57 401 s) (x := s) (v := 0) (k := 4) (by omega) (by omega) (by omega) (by omega) 397
          rw [if_pos a3, if_neg (by omega)]
          exact ⟨(show xR n (sp_run f n 48 57 401 s) 2 s (sp_val f (sp_run f n 48 57 401 s) 4 s 0) fl fp (sp_run f n 48 57 401 s) s 2 (sp_dig f n s 401 s 0) fl mw from xR_ok rfl hfl (by omega) (by omega) le.2 (fun _ => by omega) (Or.inr (Or.inr (Or.inl ⟨z2, z2, (dv.trans sv).symm⟩))) rfl), fun _ => hs.1⟩
        · rw [if_neg a3, if_pos (by omega : 3 < (sp_run f n 48 57 401 s).toInt - s.toInt), if_pos hfl, if_pos hfl, if_pos hfl]
          exact ⟨xR_no rfl (by show 0 < (1 : Int32).toInt; omega) rfl, fun z => absurd z (by show ¬ (1 : Int32).toInt = 0; omega)⟩
      · rw [if_neg a2, if_neg a2]
        by_cases a3 : sp_sign (sp_look f n s)
        · rw [if_pos a3]
          have hk : ∀ so9 : Int32, ((sp_look f n s).toInt = 40 ∧ so9.toInt = 3) ∨ ((sp_look f n s).toInt = 41 ∧ so9.toInt = 4) ∨ ((sp_look f n s).toInt = 38 ∧ so9.toInt = 5) ∨ ((sp_look f n s).toInt = 124 ∧ so9.toInt = 6) ∨ ((sp_look f n s).toInt = 59 ∧ so9.toInt = 7) → xRt n (s + 1, 3, s, sp_look f n s, fl, fp) (s + 1, s, so9, mv, fl, mw) := fun so9 h9 =>
            (show xR n (s + 1) 3 s (sp_look f n s) fl fp (s + 1) s so9 mv fl mw from xR_ok rfl hfl (by omega) (by omega) (by omega) (fun _ => by omega) (Or.inr (Or.inr (Or.inr ⟨z3, h9⟩))) rfl)
          refine ⟨?_, fun _ => hs.1⟩
          by_cases b1 : (sp_look f n s).toInt = 40
          · rw [if_pos b1]; exact hk 3 (Or.inl ⟨b1, by decide⟩)
          · rw [if_neg b1]
            by_cases b2 : (sp_look f n s).toInt = 41
            · rw [if_pos b2]; exact hk 4 (Or.inr (Or.inl ⟨b2, by decide⟩))
            · rw [if_neg b2]
              by_cases b3 : (sp_look f n s).toInt = 38
              · rw [if_pos b3]; exact hk 5 (Or.inr (Or.inr (Or.inl ⟨b3, by decide⟩)))
              · rw [if_neg b3]
                by_cases b4 : (sp_look f n s).toInt = 124
                · rw [if_pos b4]; exact hk 6 (Or.inr (Or.inr (Or.inr (Or.inl ⟨b4, by decide⟩))))
                · rw [if_neg b4]
                  have b5 : (sp_look f n s).toInt = 59 := by unfold sp_sign at a3; omega
                  rw [if_pos b5]; exact hk 7 (Or.inr (Or.inr (Or.inr (Or.inr ⟨b5, by decide⟩))))
        · have b : ¬ (sp_look f n s).toInt = 40 ∧ ¬ (sp_look f n s).toInt = 41 ∧ ¬ (sp_look f n s).toInt = 38 ∧ ¬ (sp_look f n s).toInt = 124 ∧ ¬ (sp_look f n s).toInt = 59 := by unfold sp_sign at a3; omega
          rw [if_neg a3, if_neg b.1, if_neg b.2.1, if_neg b.2.2.1, if_neg b.2.2.2.1, if_neg b.2.2.2.2, if_pos hfl, if_pos hfl, if_pos hfl]
          exact ⟨xR_no rfl (by show 0 < (1 : Int32).toInt; omega) rfl, fun z => absurd z (by show ¬ (1 : Int32).toInt = 0; omega)⟩
