def sp_run (f : Nat → Int32) (n : Int32) (lo hi : Int) : Nat → Int32 → Int32
  | 0, x => x
  | k + 1, x => if lo ≤ (sp_look f n x).toInt ∧ (sp_look f n x).toInt ≤ hi then sp_run f n lo hi k (x + 1) else x
theorem sp_look_lt {f : Nat → Int32} {n x : Int32} (h : 0 ≤ (sp_look f n x).toInt) : x.toInt < n.toInt := by
  unfold sp_look at h
  split at h
  · assumption
  · exact absurd h (by decide)
theorem xinc {x n : Int32} (h0 : 0 ≤ x.toInt) (h : x.toInt < n.toInt) (hn : n.toInt ≤ 400) : (x + 1).toInt = x.toInt + 1 := xadd rfl (by decide) (by omega) (by omega)
theorem sp_run_fuel {f : Nat → Int32} {n : Int32} {lo hi : Int} (hlo : 0 ≤ lo) (hn : n.toInt ≤ 400) : ∀ (k : Nat) (x : Int32), 0 ≤ x.toInt → n.toInt - x.toInt < (k : Int) → sp_run f n lo hi (k + 1) x = sp_run f n lo hi k x := by
  intro k
  induction k with
  | zero =>
    intro x h0 h
    have q : ¬ (lo ≤ (sp_look f n x).toInt ∧ (sp_look f n x).toInt ≤ hi) := fun z => by
      have := sp_look_lt (f := f) (n := n) (x := x) (by omega)
      omega
    show (if lo ≤ (sp_look f n x).toInt ∧ (sp_look f n x).toInt ≤ hi then sp_run f n lo hi 0 (x + 1) else x) = x
    rw [if_neg q]
  | succ k ih =>
    intro x h0 h
    show (if lo ≤ (sp_look f n x).toInt ∧ (sp_look f n x).toInt ≤ hi then sp_run f n lo hi (k + 1) (x + 1) else x) = (if lo ≤ (sp_look f n x).toInt ∧ (sp_look f n x).toInt ≤ hi then sp_run f n lo hi k (x + 1) else x)
    by_cases q : lo ≤ (sp_look f n x).toInt ∧ (sp_look f n x).toInt ≤ hi
    · rw [if_pos q, if_pos q]
      have a := sp_look_lt (f := f) (n := n) (x := x) (by omega)
      have b := xinc h0 a hn
      exact ih _ (by omega) (by omega)
    · rw [if_neg q, if_neg q]
theorem sp_run_big {f : Nat → Int32} {n : Int32} {lo hi : Int} (hlo : 0 ≤ lo) (hn : n.toInt ≤ 400) {x : Int32} (h0 : 0 ≤ x.toInt) {k : Nat} (hk : n.toInt - x.toInt < (k : Int)) : ∀ d : Nat, sp_run f n lo hi (k + d) x = sp_run f n lo hi k x := by
  intro d
  induction d with
  | zero => rfl
  | succ d ih => exact (sp_run_fuel hlo hn (k + d) x h0 (by omega)).trans ih
theorem sp_run_any {f : Nat → Int32} {n : Int32} {lo hi : Int} (hlo : 0 ≤ lo) (hn : n.toInt ≤ 400) {x : Int32} (h0 : 0 ≤ x.toInt) {k j : Nat} (hk : n.toInt - x.toInt < (k : Int)) (hj : n.toInt - x.toInt < (j : Int)) : sp_run f n lo hi k x = sp_run f n lo hi j x := by
  rcases Nat.le_total k j with q | q
  · obtain ⟨d, rfl⟩ := Nat.le.dest q
    exact (sp_run_big hlo hn h0 hk d).symm
  · obtain ⟨d, rfl⟩ := Nat.le.dest q
    exact sp_run_big hlo hn h0 hj d
theorem sp_run_le {f : Nat → Int32} {n : Int32} {lo hi : Int} (hlo : 0 ≤ lo) (hn : n.toInt ≤ 400) : ∀ (k : Nat) (x : Int32), 0 ≤ x.toInt → x.toInt ≤ n.toInt → x.toInt ≤ (sp_run f n lo hi k x).toInt ∧ (sp_run f n lo hi k x).toInt ≤ n.toInt := by
  intro k
  induction k with
  | zero => exact fun x _ h => ⟨Int.le_refl _, h⟩
  | succ k ih =>
    intro x h0 h
    show x.toInt ≤ (if lo ≤ (sp_look f n x).toInt ∧ (sp_look f n x).toInt ≤ hi then sp_run f n lo hi k (x + 1) else x).toInt ∧ (if lo ≤ (sp_look f n x).toInt ∧ (sp_look f n x).toInt ≤ hi then sp_run f n lo hi k (x + 1) else x).toInt ≤ n.toInt
    by_cases q : lo ≤ (sp_look f n x).toInt ∧ (sp_look f n x).toInt ≤ hi
    · rw [if_pos q]
      have a := sp_look_lt (f := f) (n := n) (x := x) (by omega)
      have b := xinc h0 a hn
      have c := ih (x + 1) (by omega) (by omega)
      omega
    · rw [if_neg q]
      exact ⟨Int.le_refl _, h⟩
theorem sp_run_out {f : Nat → Int32} {n : Int32} {lo hi : Int} (hlo : 0 ≤ lo) (hn : n.toInt ≤ 400) : ∀ (k : Nat) (x : Int32), 0 ≤ x.toInt → n.toInt - x.toInt < (k : Int) → ¬ (lo ≤ (sp_look f n (sp_run f n lo hi k x)).toInt ∧ (sp_look f n (sp_run f n lo hi k x)).toInt ≤ hi) := by
  intro k
  induction k with
  | zero =>
    intro x h0 h z
    have : x.toInt < n.toInt := sp_look_lt (f := f) (n := n) (x := x) (by have := z.1; exact Int.le_trans hlo this)
    omega
  | succ k ih =>
    intro x h0 h
    show ¬ (lo ≤ (sp_look f n (if lo ≤ (sp_look f n x).toInt ∧ (sp_look f n x).toInt ≤ hi then sp_run f n lo hi k (x + 1) else x)).toInt ∧ (sp_look f n (if lo ≤ (sp_look f n x).toInt ∧ (sp_look f n x).toInt ≤ hi then sp_run f n lo hi k (x + 1) else x)).toInt ≤ hi)
    by_cases q : lo ≤ (sp_look f n x).toInt ∧ (sp_look f n x).toInt ≤ hi
    · rw [if_pos q]
      have a := sp_look_lt (f := f) (n := n) (x := x) (by omega)
      have b := xinc h0 a hn
      exact ih (x + 1) (by omega) (by omega)
    · rw [if_neg q]
      exact q
theorem t_look {f : Nat → Int32} {n x : Int32} : M_m_look n x f = sp_look f n x := by
  simp only [K_m_look_2, K_m_look_3, K_m_look_1, M_m_look]
  unfold sp_look
  by_cases q : x.toInt < n.toInt
  · rw [if_pos q, if_neg (by omega)]
  · rw [if_neg q, if_pos (by omega)]
theorem sp_look_in {f : Nat → Int32} {n x : Int32} (h : x.toInt < n.toInt) : sp_look f n x = f x.toNatClampNeg := by
  unfold sp_look
  rw [if_pos h]
theorem sp_look_no {f : Nat → Int32} {n x : Int32} (h : n.toInt ≤ x.toInt) : sp_look f n x = -1 := by
  unfold sp_look
  rw [if_neg (by omega)]
theorem t_skip_L {f : Nat → Int32} {n a b : Int32} (ha : 0 ≤ a.toInt) (hn : n.toInt ≤ 400) : ∀ (k : Nat) (x : Int32), 0 ≤ x.toInt → x.toInt ≤ n.toInt → n.toInt - x.toInt < (k : Int) → K_skipWithin_L2 n f a b k x = sp_run f n a.toInt b.toInt k x := by
  intro k
  induction k with
  | zero => intro x h0 h1 h; exact absurd h (by omega)
  | succ k ih =>
    intro x h0 h1 h
    simp only [K_skipWithin_3, K_skipWithin_5, K_skipWithin_7, K_skipWithin_8, K_skipWithin_6, K_skipWithin_4, K_skipWithin_2, K_skipWithin_L2, K_skipWithin_1, M_skipWithin, sp_run]
    by_cases q : n.toInt ≤ x.toInt
    · rw [if_pos q, sp_look_no q, if_neg (fun z => absurd (Int.le_trans ha z.1) (by decide))]
    · rw [if_neg q, sp_look_in (by omega)]
      by_cases q1 : (f x.toNatClampNeg).toInt < a.toInt
      · rw [if_pos q1, if_neg (by omega)]
      · rw [if_neg q1]
        by_cases q2 : b.toInt < (f x.toNatClampNeg).toInt
        · rw [if_pos q2, if_neg (by omega)]
        · rw [if_neg q2, if_pos (by omega)]
          have e := xinc h0 (by omega : x.toInt < n.toInt) hn
          exact ih _ (by omega) (by omega) (by omega)
theorem t_skip {f : Nat → Int32} {n a b x : Int32} (ha : 0 ≤ a.toInt) (hn : n.toInt ≤ 400) (h0 : 0 ≤ x.toInt) (h1 : x.toInt ≤ n.toInt) : M_skipWithin n f a b x = sp_run f n a.toInt b.toInt 401 x := by
  show K_skipWithin_L2 n f a b 100000 x = _
  rw [t_skip_L ha hn 100000 x h0 h1 (by omega)]
  exact sp_run_any ha hn h0 (by omega) (by omega)
def sp_val (f : Nat → Int32) (e : Int32) : Nat → Int32 → Int32 → Int32
  | 0, _, v => v
  | k + 1, x, v => if e.toInt ≤ x.toInt then v else sp_val f e k (x + 1) (v * 10 + f x.toNatClampNeg - 48)
theorem t_value_L {f : Nat → Int32} {e fl fp : Int32} (he : e.toInt ≤ 400) : ∀ (k : Nat) (x v : Int32), 0 ≤ x.toInt → x.toInt ≤ e.toInt → e.toInt - x.toInt < (k : Int) → K_valueNumber_L4 e fl fp f k x v = (sp_val f e k x v, fl, fp) := by
  intro k
  induction k with
  | zero => intro x v h0 h1 h; exact absurd h (by omega)
  | succ k ih =>
    intro x v h0 h1 h
    simp only [K_valueNumber_5, K_valueNumber_6, K_valueNumber_4, K_valueNumber_L4, K_valueNumber_2, K_valueNumber_7, K_valueNumber_3, K_valueNumber_1, M_valueNumber, sp_val]
    by_cases q : e.toInt ≤ x.toInt
    · rw [if_pos q, if_pos q]
    · rw [if_neg q, if_neg q]
      have z := xinc h0 (by omega : x.toInt < e.toInt) he
      exact ih _ _ (by omega) (by omega) (by omega)
theorem sp_val_fuel {f : Nat → Int32} {e : Int32} (he : e.toInt ≤ 400) : ∀ (k : Nat) (x v : Int32), 0 ≤ x.toInt → x.toInt ≤ e.toInt → e.toInt - x.toInt < (k : Int) → sp_val f e (k + 1) x v = sp_val f e k x v := by
  intro k
  induction k with
  | zero => intro x v h0 h1 h; exact absurd h (by omega)
  | succ k ih =>
    intro x v h0 h1 h
    show (if e.toInt ≤ x.toInt then v else sp_val f e (k + 1) (x + 1) (v * 10 + f x.toNatClampNeg - 48)) = (if e.toInt ≤ x.toInt then v else sp_val f e k (x + 1) (v * 10 + f x.toNatClampNeg - 48))
    by_cases q : e.toInt ≤ x.toInt
    · rw [if_pos q, if_pos q]
    · rw [if_neg q, if_neg q]
      have z := xinc h0 (by omega : x.toInt < e.toInt) he
      exact ih _ _ (by omega) (by omega) (by omega)
theorem sp_val_any {f : Nat → Int32} {e : Int32} (he : e.toInt ≤ 400) {x v : Int32} (h0 : 0 ≤ x.toInt) (h1 : x.toInt ≤ e.toInt) {k : Nat} (hk : e.toInt - x.toInt < (k : Int)) : ∀ d : Nat, sp_val f e (k + d) x v = sp_val f e k x v := by
  intro d
  induction d with
  | zero => rfl
  | succ d ih => exact (sp_val_fuel he (k + d) x v h0 h1 (by omega)).trans ih
theorem t_value {f : Nat → Int32} {e x v fl fp : Int32} (he : e.toInt ≤ 400) (h0 : 0 ≤ x.toInt) (h1 : x.toInt ≤ e.toInt) : M_valueNumber e x fl fp f v = if e.toInt - x.toInt ≤ 3 then (sp_val f e 4 x v, fl, fp) else (v, if fl.toInt = 0 then 1 else fl, if fl.toInt = 0 then x else fp) := by
  simp only [K_valueNumber_5, K_valueNumber_6, K_valueNumber_4, K_valueNumber_2, K_valueNumber_7, K_valueNumber_3, K_valueNumber_1, M_valueNumber, K_refuse_3, K_refuse_2, K_refuse_1, M_refuse]
  by_cases q : e.toInt - x.toInt ≤ 3
  · rw [if_pos q, if_pos q, t_value_L he 100000 x v h0 h1 (by omega), show (100000 : Nat) = 4 + 99996 from rfl, sp_val_any he h0 h1 (by omega)]
  · rw [if_neg q, if_neg q]
    by_cases z : fl.toInt = 0
    · rw [if_pos z, if_pos z, if_pos z]
    · rw [if_neg z, if_neg z, if_neg z]
def sp_sign (c : Int32) : Prop := c.toInt = 40 ∨ c.toInt = 41 ∨ c.toInt = 38 ∨ c.toInt = 124 ∨ c.toInt = 59
def sp_fl (a b : Int32) : Int32 := if a.toInt = 0 then b else a
def sp_fp (a b c : Int32) : Int32 := if a.toInt = 0 then b else c
noncomputable def sp_step (f : Nat → Int32) (n fl fp kd s : Int32) : Int32 × Int32 × Int32 × Int32 × Int32 × Int32 :=
  if (sp_look f n s).toInt < 0 then (s, 0, s, 0, fl, fp)
  else if 97 ≤ (sp_look f n s).toInt ∧ (sp_look f n s).toInt ≤ 122 then (sp_run f n 97 122 401 s, 1, s, 0, fl, fp)
  else if 48 ≤ (sp_look f n s).toInt ∧ (sp_look f n s).toInt ≤ 57 then
    (if (sp_run f n 48 57 401 s).toInt - s.toInt ≤ 3 then (sp_run f n 48 57 401 s, 2, s, sp_val f (sp_run f n 48 57 401 s) 4 s 0, fl, fp)
     else (sp_run f n 48 57 401 s, 2, s, 0, sp_fl fl 1, sp_fp fl s fp))
  else @ite _ (sp_sign (sp_look f n s)) (Classical.propDecidable _) (s + 1, 3, s, sp_look f n s, fl, fp) (s, kd, s, 0, sp_fl fl 1, sp_fp fl s fp)
theorem t_step_L {f : Nat → Int32} {n fl fp kd : Int32} (hn : n.toInt ≤ 400) : ∀ (k : Nat) (x : Int32), 0 ≤ x.toInt → x.toInt ≤ n.toInt → n.toInt - x.toInt < (k : Int) → K_step_L2 n f fl fp kd k x = K_step_L2 n f fl fp kd 1 (sp_run f n 32 32 k x) := by
  intro k
  induction k with
  | zero => intro x h0 h1 h; exact absurd h (by omega)
  | succ k ih =>
    intro x h0 h1 h
    by_cases q : 32 ≤ (sp_look f n x).toInt ∧ (sp_look f n x).toInt ≤ 32
    · have l := sp_look_lt (f := f) (n := n) (x := x) (by omega)
      have z := xinc h0 l hn
      have e : sp_run f n 32 32 (k + 1) x = sp_run f n 32 32 k (x + 1) := by
        show (if 32 ≤ (sp_look f n x).toInt ∧ (sp_look f n x).toInt ≤ 32 then sp_run f n 32 32 k (x + 1) else x) = _
        rw [if_pos q]
      rw [e, ← ih (x + 1) (by omega) (by omega) (by omega)]
      rw [sp_look_in l] at q
      simp only [K_step_11, K_step_13, K_step_15, K_step_17, K_step_16, K_step_14, K_step_12, K_step_9, K_step_21, K_step_22, K_step_20, K_step_18, K_step_24, K_step_23, K_step_19, K_step_10, K_step_7, K_step_27, K_step_29, K_step_28, K_step_25, K_step_30, K_step_26, K_step_8, K_step_5, K_step_6, K_step_3, K_step_32, K_step_39, K_step_41, K_step_43, K_step_45, K_step_44, K_step_42, K_step_40, K_step_37, K_step_49, K_step_50, K_step_48, K_step_46, K_step_52, K_step_51, K_step_47, K_step_38, K_step_35, K_step_55, K_step_57, K_step_56, K_step_53, K_step_58, K_step_54, K_step_36, K_step_33, K_step_34, K_step_31, K_step_4, K_step_2, K_step_L2, K_step_1, M_step]
      rw [if_neg (by omega), if_pos (by omega)]
    · have e : sp_run f n 32 32 (k + 1) x = x := by
        show (if 32 ≤ (sp_look f n x).toInt ∧ (sp_look f n x).toInt ≤ 32 then sp_run f n 32 32 k (x + 1) else x) = _
        rw [if_neg q]
      rw [e]
      simp only [K_step_11, K_step_13, K_step_15, K_step_17, K_step_16, K_step_14, K_step_12, K_step_9, K_step_21, K_step_22, K_step_20, K_step_18, K_step_24, K_step_23, K_step_19, K_step_10, K_step_7, K_step_27, K_step_29, K_step_28, K_step_25, K_step_30, K_step_26, K_step_8, K_step_5, K_step_6, K_step_3, K_step_32, K_step_39, K_step_41, K_step_43, K_step_45, K_step_44, K_step_42, K_step_40, K_step_37, K_step_49, K_step_50, K_step_48, K_step_46, K_step_52, K_step_51, K_step_47, K_step_38, K_step_35, K_step_55, K_step_57, K_step_56, K_step_53, K_step_58, K_step_54, K_step_36, K_step_33, K_step_34, K_step_31, K_step_4, K_step_2, K_step_L2, K_step_1, M_step]
      by_cases l : n.toInt ≤ x.toInt
      · rw [if_pos l, if_pos l]
      · rw [sp_look_in (by omega)] at q
        rw [if_neg l, if_neg l, if_neg (by omega : ¬ (f x.toNatClampNeg).toInt = 32), if_neg (by omega : ¬ (f x.toNatClampNeg).toInt = 32)]
theorem t_step {f : Nat → Int32} {n fl fp kd x : Int32} (hf : ∀ j, 0 ≤ (f j).toInt) (hn : n.toInt ≤ 400) (h0 : 0 ≤ x.toInt) (h1 : x.toInt ≤ n.toInt) : M_step n f fl fp kd x = sp_step f n fl fp kd (sp_run f n 32 32 401 x) := by
  show K_step_L2 n f fl fp kd 100000 x = _
  rw [t_step_L hn 100000 x h0 h1 (by omega), sp_run_any (k := 100000) (j := 401) (by decide) hn h0 (by omega) (by omega)]
  have hs := sp_run_le (f := f) (lo := 32) (hi := 32) (by decide) hn 401 x h0 h1
  have ho := sp_run_out (f := f) (lo := 32) (hi := 32) (by decide) hn 401 x h0 (by omega)
  generalize sp_run f n 32 32 401 x = s at hs ho ⊢
  unfold sp_step
  simp only [K_step_11, K_step_13, K_step_15, K_step_17, K_step_16, K_step_14, K_step_12, K_step_9, K_step_21, K_step_22, K_step_20, K_step_18, K_step_24, K_step_23, K_step_19, K_step_10, K_step_7, K_step_27, K_step_29, K_step_28, K_step_25, K_step_30, K_step_26, K_step_8, K_step_5, K_step_6, K_step_3, K_step_32, K_step_39, K_step_41, K_step_43, K_step_45, K_step_44, K_step_42, K_step_40, K_step_37, K_step_49, K_step_50, K_step_48, K_step_46, K_step_52, K_step_51, K_step_47, K_step_38, K_step_35, K_step_55, K_step_57, K_step_56, K_step_53, K_step_58, K_step_54, K_step_36, K_step_33, K_step_34, K_step_31, K_step_4, K_step_2, K_step_L2, K_step_1, M_step, K_refuse_3, K_refuse_2, K_refuse_1, M_refuse]
  by_cases q : n.toInt ≤ s.toInt
  · rw [sp_look_no q, if_pos q, if_neg (by omega), if_pos (by decide)]
  · have l : s.toInt < n.toInt := by omega
    have g := hf s.toNatClampNeg
    have r97 := t_skip (f := f) (n := n) (a := 97) (b := 122) (x := s) (by decide) hn (by omega) (by omega)
    have r48 := t_skip (f := f) (n := n) (a := 48) (b := 57) (x := s) (by decide) hn (by omega) (by omega)
    rw [show (97 : Int32).toInt = 97 from (by decide), show (122 : Int32).toInt = 122 from (by decide)] at r97
    rw [show (48 : Int32).toInt = 48 from (by decide), show (57 : Int32).toInt = 57 from (by decide)] at r48
    have le48 := sp_run_le (f := f) (lo := 48) (hi := 57) (by decide) hn 401 s (by omega) (by omega)
    rw [sp_look_in l] at ho ⊢
    generalize f s.toNatClampNeg = c at ho g ⊢
    rw [if_neg q, if_neg (by omega), if_pos l, if_neg (by omega : ¬ c.toInt < 0)]
    by_cases a1 : c.toInt < 97
    · rw [if_pos a1, if_neg (by omega : ¬ (97 ≤ c.toInt ∧ c.toInt ≤ 122))]
      by_cases a2 : c.toInt < 48
      · rw [if_pos a2, if_neg (by omega : ¬ (48 ≤ c.toInt ∧ c.toInt ≤ 57))]
        by_cases a3 : c.toInt = 40
        · rw [if_pos a3, if_pos (show sp_sign c from Or.inl a3)]
        · rw [if_neg a3]
          by_cases a4 : c.toInt = 41
          · rw [if_pos a4, if_pos (show sp_sign c from Or.inr (Or.inl a4))]
          · rw [if_neg a4]
            by_cases a5 : c.toInt = 38
            · rw [if_pos a5, if_pos (show sp_sign c from Or.inr (Or.inr (Or.inl a5)))]
            · rw [if_neg a5, if_neg (show ¬ sp_sign c from by unfold sp_sign; omega)]
              unfold sp_fl sp_fp
              by_cases z : fl.toInt = 0
              · rw [if_pos z, if_pos z, if_pos z]
              · rw [if_neg z, if_neg z, if_neg z]
      · rw [if_neg a2]
        by_cases a3 : 57 < c.toInt
        · rw [if_pos a3, if_neg (by omega : ¬ (48 ≤ c.toInt ∧ c.toInt ≤ 57))]
          by_cases a4 : c.toInt = 59
          · rw [if_pos a4, if_pos (show sp_sign c from Or.inr (Or.inr (Or.inr (Or.inr a4))))]
          · rw [if_neg a4, if_neg (show ¬ sp_sign c from by unfold sp_sign; omega)]
            unfold sp_fl sp_fp
            by_cases z : fl.toInt = 0
            · rw [if_pos z, if_pos z, if_pos z]
            · rw [if_neg z, if_neg z, if_neg z]
        · rw [if_neg a3, if_pos (by omega : 48 ≤ c.toInt ∧ c.toInt ≤ 57), r48, t_value (by omega) (by omega) (by omega)]
          by_cases a4 : (sp_run f n 48 57 401 s).toInt - s.toInt ≤ 3
          · rw [if_pos a4, if_pos a4]
          · rw [if_neg a4, if_neg a4]
            rfl
    · rw [if_neg a1]
      by_cases a2 : 122 < c.toInt
      · rw [if_pos a2, if_neg (by omega : ¬ (97 ≤ c.toInt ∧ c.toInt ≤ 122)), if_neg (by omega : ¬ (48 ≤ c.toInt ∧ c.toInt ≤ 57))]
        by_cases a3 : c.toInt = 124
        · rw [if_pos a3, if_pos (show sp_sign c from Or.inr (Or.inr (Or.inr (Or.inl a3))))]
        · rw [if_neg a3, if_neg (show ¬ sp_sign c from by unfold sp_sign; omega)]
          unfold sp_fl sp_fp
          by_cases z : fl.toInt = 0
          · rw [if_pos z, if_pos z, if_pos z]
          · rw [if_neg z, if_neg z, if_neg z]
      · rw [if_neg a2, if_pos (by omega : 97 ≤ c.toInt ∧ c.toInt ≤ 122), r97]
