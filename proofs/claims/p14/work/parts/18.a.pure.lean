-- 30.tok
def sp_run (f : Nat → Int32) (n : Int32) (lo hi : Int) : Nat → Int32 → Int32
  | 0, x => x
  | k + 1, x => if lo ≤ (sp_look f n x).toInt ∧ (sp_look f n x).toInt ≤ hi then sp_run f n lo hi k (x + 1) else x
theorem sp_look_lt {f : Nat → Int32} {n x : Int32} (h : 0 ≤ (sp_look f n x).toInt) : x.toInt < n.toInt := by
  unfold sp_look at h
  split at h
  · assumption
  · exact absurd h (by decide)
theorem xinc {x n : Int32} (h0 : 0 ≤ x.toInt) (h : x.toInt < n.toInt) (hn : n.toInt ≤ 400) : (x + 1).toInt = x.toInt + 1 := xadd rfl (by decide) (by omega) (by omega)
theorem sp_run_fuel {f : Nat → Int32} {n : Int32} {lo hi : Int} (hlo : 0 ≤ lo) (hn : n.toInt ≤ 400) : ∀ (k : Nat) (x : Int32), 0 ≤ x.toInt → n.toInt - x.toInt < (k : Int) → sp_run f n lo hi (k + 1) x = sp_run f n lo hi k x := by
  intro k
  induction k with
  | zero =>
    intro x h0 h
    have q : ¬ (lo ≤ (sp_look f n x).toInt ∧ (sp_look f n x).toInt ≤ hi) := fun z => by
      have := sp_look_lt (f := f) (n := n) (x := x) (by omega)
      omega
    show (if lo ≤ (sp_look f n x).toInt ∧ (sp_look f n x).toInt ≤ hi then sp_run f n lo hi 0 (x + 1) else x) = x
    rw [if_neg q]
  | succ k ih =>
    intro x h0 h
    show (if lo ≤ (sp_look f n x).toInt ∧ (sp_look f n x).toInt ≤ hi then sp_run f n lo hi (k + 1) (x + 1) else x) = (if lo ≤ (sp_look f n x).toInt ∧ (sp_look f n x).toInt ≤ hi then sp_run f n lo hi k (x + 1) else x)
    by_cases q : lo ≤ (sp_look f n x).toInt ∧ (sp_look f n x).toInt ≤ hi
    · rw [if_pos q, if_pos q]
      have a := sp_look_lt (f := f) (n := n) (x := x) (by omega)
      have b := xinc h0 a hn
      exact ih _ (by omega) (by omega)
    · rw [if_neg q, if_neg q]
theorem sp_run_big {f : Nat → Int32} {n : Int32} {lo hi : Int} (hlo : 0 ≤ lo) (hn : n.toInt ≤ 400) {x : Int32} (h0 : 0 ≤ x.toInt) {k : Nat} (hk : n.toInt - x.toInt < (k : Int)) : ∀ d : Nat, sp_run f n lo hi (k + d) x = sp_run f n lo hi k x := by
  intro d
  induction d with
  | zero => rfl
  | succ d ih => exact (sp_run_fuel hlo hn (k + d) x h0 (by omega)).trans ih
theorem sp_run_any {f : Nat → Int32} {n : Int32} {lo hi : Int} (hlo : 0 ≤ lo) (hn : n.toInt ≤ 400) {x : Int32} (h0 : 0 ≤ x.toInt) {k j : Nat} (hk : n.toInt - x.toInt < (k : Int)) (hj : n.toInt - x.toInt < (j : Int)) : sp_run f n lo hi k x = sp_run f n lo hi j x := by
  rcases Nat.le_total k j with q | q
  · obtain ⟨d, rfl⟩ := Nat.le.dest q
    exact (sp_run_big hlo hn h0 hk d).symm
  · obtain ⟨d, rfl⟩ := Nat.le.dest q
    exact sp_run_big hlo hn h0 hj d
theorem sp_run_le {f : Nat → Int32} {n : Int32} {lo hi : Int} (hlo : 0 ≤ lo) (hn : n.toInt ≤ 400) : ∀ (k : Nat) (x : Int32), 0 ≤ x.toInt → x.toInt ≤ n.toInt → x.toInt ≤ (sp_run f n lo hi k x).toInt ∧ (sp_run f n lo hi k x).toInt ≤ n.toInt := by
  intro k
  induction k with
  | zero => exact fun x _ h => ⟨Int.le_refl _, h⟩
  | succ k ih =>
    intro x h0 h
    show x.toInt ≤ (if lo ≤ (sp_look f n x).toInt ∧ (sp_look f n x).toInt ≤ hi then sp_run f n lo hi k (x + 1) else x).toInt ∧ (if lo ≤ (sp_look f n x).toInt ∧ (sp_look f n x).toInt ≤ hi then sp_run f n lo hi k (x + 1) else x).toInt ≤ n.toInt
    by_cases q : lo ≤ (sp_look f n x).toInt ∧ (sp_look f n x).toInt ≤ hi
    · rw [if_pos q]
      have a := sp_look_lt (f := f) (n := n) (x := x) (by omega)
      have b := xinc h0 a hn
      have c := ih (x + 1) (by omega) (by omega)
      omega
    · rw [if_neg q]
      exact ⟨Int.le_refl _, h⟩
theorem sp_run_out {f : Nat → Int32} {n : Int32} {lo hi : Int} (hlo : 0 ≤ lo) (hn : n.toInt ≤ 400) : ∀ (k : Nat) (x : Int32), 0 ≤ x.toInt → n.toInt - x.toInt < (k : Int) → ¬ (lo ≤ (sp_look f n (sp_run f n lo hi k x)).toInt ∧ (sp_look f n (sp_run f n lo hi k x)).toInt ≤ hi) := by
  intro k
  induction k with
  | zero =>
    intro x h0 h z
    have : x.toInt < n.toInt := sp_look_lt (f := f) (n := n) (x := x) (by have := z.1; exact Int.le_trans hlo this)
    omega
  | succ k ih =>
    intro x h0 h
    show ¬ (lo ≤ (sp_look f n (if lo ≤ (sp_look f n x).toInt ∧ (sp_look f n x).toInt ≤ hi then sp_run f n lo hi k (x + 1) else x)).toInt ∧ (sp_look f n (if lo ≤ (sp_look f n x).toInt ∧ (sp_look f n x).toInt ≤ hi then sp_run f n lo hi k (x + 1) else x)).toInt ≤ hi)
    by_cases q : lo ≤ (sp_look f n x).toInt ∧ (sp_look f n x).toInt ≤ hi
    · rw [if_pos q]
      have a := sp_look_lt (f := f) (n := n) (x := x) (by omega)
      have b := xinc h0 a hn
      exact ih (x + 1) (by omega) (by omega)
    · rw [if_neg q]
      exact q
theorem t_look {f : Nat → Int32} {n x : Int32} : M_m_look n x f = sp_look f n x := by
  simp only [K_m_look_2, K_m_look_3, K_m_look_1, M_m_look]
  unfold sp_look
  by_cases q : x.toInt < n.toInt
  · rw [if_pos q, if_neg (by omega)]
  · rw [if_neg q, if_pos (by omega)]
theorem sp_look_in {f : Nat → Int32} {n x : Int32} (h : x.toInt < n.toInt) : sp_look f n x = f x.toNatClampNeg := by
  unfold sp_look
  rw [if_pos h]
theorem sp_look_no {f : Nat → Int32} {n x : Int32} (h : n.toInt ≤ x.toInt) : sp_look f n x = -1 := by
  unfold sp_look
  rw [if_neg (by omega)]
theorem t_skip_L {f : Nat → Int32} {n a b : Int32} (ha : 0 ≤ a.toInt) (hn : n.toInt ≤ 400) : ∀ (k : Nat) (x : Int32), 0 ≤ x.toInt → x.toInt ≤ n.toInt → n.toInt - x.toInt < (k : Int) → K_skipWithin_L2 n f a b k x = sp_run f n a.toInt b.toInt k x := by
  intro k
  induction k with
  | zero => intro x h0 h1 h; exact absurd h (by omega)
  | succ k ih =>
    intro x h0 h1 h
    simp only [K_skipWithin_3, K_skipWithin_5, K_skipWithin_7, K_skipWithin_8, K_skipWithin_6, K_skipWithin_4, K_skipWithin_2, K_skipWithin_L2, K_skipWithin_1, M_skipWithin, sp_run]
    by_cases q : n.toInt ≤ x.toInt
    · rw [if_pos q, sp_look_no q, if_neg (fun z => absurd (Int.le_trans ha z.1) (by decide))]
    · rw [if_neg q, sp_look_in (by omega)]
      by_cases q1 : (f x.toNatClampNeg).toInt < a.toInt
      · rw [if_pos q1, if_neg (by omega)]
      · rw [if_neg q1]
        by_cases q2 : b.toInt < (f x.toNatClampNeg).toInt
        · rw [if_pos q2, if_neg (by omega)]
        · rw [if_neg q2, if_pos (by omega)]
          have e := xinc h0 (by omega : x.toInt < n.toInt) hn
          exact ih _ (by omega) (by omega) (by omega)
theorem t_skip {f : Nat → Int32} {n a b x : Int32} (ha : 0 ≤ a.toInt) (hn : n.toInt ≤ 400) (h0 : 0 ≤ x.toInt) (h1 : x.toInt ≤ n.toInt) : M_skipWithin n f a b x = sp_run f n a.toInt b.toInt 401 x := by
  show K_skipWithin_L2 n f a b 100000 x = _
  rw [t_skip_L ha hn 100000 x h0 h1 (by omega)]
  exact sp_run_any ha hn h0 (by omega) (by omega)
def sp_val (f : Nat → Int32) (e : Int32) : Nat → Int32 → Int32 → Int32
  | 0, _, v => v
  | k + 1, x, v => if e.toInt ≤ x.toInt then v else sp_val f e k (x + 1) (v * 10 + f x.toNatClampNeg - 48)
theorem t_value_L {f : Nat → Int32} {e fl fp : Int32} (he : e.toInt ≤ 400) : ∀ (k : Nat) (x v : Int32), 0 ≤ x.toInt → x.toInt ≤ e.toInt → e.toInt - x.toInt < (k : Int) → K_valueNumber_L4 e fl fp f k x v = (sp_val f e k x v, fl, fp) := by
  intro k
  induction k with
  | zero => intro x v h0 h1 h; exact absurd h (by omega)
  | succ k ih =>
    intro x v h0 h1 h
    simp only [K_valueNumber_5, K_valueNumber_6, K_valueNumber_4, K_valueNumber_L4, K_valueNumber_2, K_valueNumber_7, K_valueNumber_3, K_valueNumber_1, M_valueNumber, sp_val]
    by_cases q : e.toInt ≤ x.toInt
    · rw [if_pos q, if_pos q]
    · rw [if_neg q, if_neg q]
      have z := xinc h0 (by omega : x.toInt < e.toInt) he
      exact ih _ _ (by omega) (by omega) (by omega)
theorem sp_val_fuel {f : Nat → Int32} {e : Int32} (he : e.toInt ≤ 400) : ∀ (k : Nat) (x v : Int32), 0 ≤ x.toInt → x.toInt ≤ e.toInt → e.toInt - x.toInt < (k : Int) → sp_val f e (k + 1) x v = sp_val f e k x v := by
  intro k
  induction k with
  | zero => intro x v h0 h1 h; exact absurd h (by omega)
  | succ k ih =>
    intro x v h0 h1 h
    show (if e.toInt ≤ x.toInt then v else sp_val f e (k + 1) (x + 1) (v * 10 + f x.toNatClampNeg - 48)) = (if e.toInt ≤ x.toInt then v else sp_val f e k (x + 1) (v * 10 + f x.toNatClampNeg - 48))
    by_cases q : e.toInt ≤ x.toInt
    · rw [if_pos q, if_pos q]
    · rw [if_neg q, if_neg q]
      have z := xinc h0 (by omega : x.toInt < e.toInt) he
      exact ih _ _ (by omega) (by omega) (by omega)
theorem sp_val_any {f : Nat → Int32} {e : Int32} (he : e.toInt ≤ 400) {x v : Int32} (h0 : 0 ≤ x.toInt) (h1 : x.toInt ≤ e.toInt) {k : Nat} (hk : e.toInt - x.toInt < (k : Int)) : ∀ d : Nat, sp_val f e (k + d) x v = sp_val f e k x v := by
  intro d
  induction d with
  | zero => rfl
  | succ d ih => exact (sp_val_fuel he (k + d) x v h0 h1 (by omega)).trans ih
theorem t_value {f : Nat → Int32} {e x v fl fp : Int32} (he : e.toInt ≤ 400) (h0 : 0 ≤ x.toInt) (h1 : x.toInt ≤ e.toInt) : M_valueNumber e x fl fp f v = if e.toInt - x.toInt ≤ 3 then (sp_val f e 4 x v, fl, fp) else (v, if fl.toInt = 0 then 1 else fl, if fl.toInt = 0 then x else fp) := by
  simp only [K_valueNumber_5, K_valueNumber_6, K_valueNumber_4, K_valueNumber_2, K_valueNumber_7, K_valueNumber_3, K_valueNumber_1, M_valueNumber, K_refuse_3, K_refuse_2, K_refuse_1, M_refuse]
  by_cases q : e.toInt - x.toInt ≤ 3
  · rw [if_pos q, if_pos q, t_value_L he 100000 x v h0 h1 (by omega), show (100000 : Nat) = 4 + 99996 from rfl, sp_val_any he h0 h1 (by omega)]
  · rw [if_neg q, if_neg q]
    by_cases z : fl.toInt = 0
    · rw [if_pos z, if_pos z, if_pos z]
    · rw [if_neg z, if_neg z, if_neg z]
def sp_sign (c : Int32) : Prop := c.toInt = 40 ∨ c.toInt = 41 ∨ c.toInt = 38 ∨ c.toInt = 124 ∨ c.toInt = 59
def sp_fl (a b : Int32) : Int32 := if a.toInt = 0 then b else a
def sp_fp (a b c : Int32) : Int32 := if a.toInt = 0 then b else c
noncomputable def sp_step (f : Nat → Int32) (n fl fp kd s : Int32) : Int32 × Int32 × Int32 × Int32 × Int32 × Int32 :=
  if (sp_look f n s).toInt < 0 then (s, 0, s, 0, fl, fp)
  else if 97 ≤ (sp_look f n s).toInt ∧ (sp_look f n s).toInt ≤ 122 then (sp_run f n 97 122 401 s, 1, s, 0, fl, fp)
  else if 48 ≤ (sp_look f n s).toInt ∧ (sp_look f n s).toInt ≤ 57 then
    (if (sp_run f n 48 57 401 s).toInt - s.toInt ≤ 3 then (sp_run f n 48 57 401 s, 2, s, sp_val f (sp_run f n 48 57 401 s) 4 s 0, fl, fp)
     else (sp_run f n 48 57 401 s, 2, s, 0, sp_fl fl 1, sp_fp fl s fp))
  else @ite _ (sp_sign (sp_look f n s)) (Classical.propDecidable _) (s + 1, 3, s, sp_look f n s, fl, fp) (s, kd, s, 0, sp_fl fl 1, sp_fp fl s fp)
theorem t_step_L {f : Nat → Int32} {n fl fp kd : Int32} (hn : n.toInt ≤ 400) : ∀ (k : Nat) (x : Int32), 0 ≤ x.toInt → x.toInt ≤ n.toInt → n.toInt - x.toInt < (k : Int) → K_step_L2 n f fl fp kd k x = K_step_L2 n f fl fp kd 1 (sp_run f n 32 32 k x) := by
  intro k
  induction k with
  | zero => intro x h0 h1 h; exact absurd h (by omega)
  | succ k ih =>
    intro x h0 h1 h
    by_cases q : 32 ≤ (sp_look f n x).toInt ∧ (sp_look f n x).toInt ≤ 32
    · have l := sp_look_lt (f := f) (n := n) (x := x) (by omega)
      have z := xinc h0 l hn
      have e : sp_run f n 32 32 (k + 1) x = sp_run f n 32 32 k (x + 1) := by
        show (if 32 ≤ (sp_look f n x).toInt ∧ (sp_look f n x).toInt ≤ 32 then sp_run f n 32 32 k (x + 1) else x) = _
        rw [if_pos q]
      rw [e, ← ih (x + 1) (by omega) (by omega) (by omega)]
      rw [sp_look_in l] at q
      simp only [K_step_11, K_step_13, K_step_15, K_step_17, K_step_16, K_step_14, K_step_12, K_step_9, K_step_21, K_step_22, K_step_20, K_step_18, K_step_24, K_step_23, K_step_19, K_step_10, K_step_7, K_step_27, K_step_29, K_step_28, K_step_25, K_step_30, K_step_26, K_step_8, K_step_5, K_step_6, K_step_3, K_step_32, K_step_39, K_step_41, K_step_43, K_step_45, K_step_44, K_step_42, K_step_40, K_step_37, K_step_49, K_step_50, K_step_48, K_step_46, K_step_52, K_step_51, K_step_47, K_step_38, K_step_35, K_step_55, K_step_57, K_step_56, K_step_53, K_step_58, K_step_54, K_step_36, K_step_33, K_step_34, K_step_31, K_step_4, K_step_2, K_step_L2, K_step_1, M_step]
      rw [if_neg (by omega), if_pos (by omega)]
    · have e : sp_run f n 32 32 (k + 1) x = x := by
        show (if 32 ≤ (sp_look f n x).toInt ∧ (sp_look f n x).toInt ≤ 32 then sp_run f n 32 32 k (x + 1) else x) = _
        rw [if_neg q]
      rw [e]
      simp only [K_step_11, K_step_13, K_step_15, K_step_17, K_step_16, K_step_14, K_step_12, K_step_9, K_step_21, K_step_22, K_step_20, K_step_18, K_step_24, K_step_23, K_step_19, K_step_10, K_step_7, K_step_27, K_step_29, K_step_28, K_step_25, K_step_30, K_step_26, K_step_8, K_step_5, K_step_6, K_step_3, K_step_32, K_step_39, K_step_41, K_step_43, K_step_45, K_step_44, K_step_42, K_step_40, K_step_37, K_step_49, K_step_50, K_step_48, K_step_46, K_step_52, K_step_51, K_step_47, K_step_38, K_step_35, K_step_55, K_step_57, K_step_56, K_step_53, K_step_58, K_step_54, K_step_36, K_step_33, K_step_34, K_step_31, K_step_4, K_step_2, K_step_L2, K_step_1, M_step]
      by_cases l : n.toInt ≤ x.toInt
      · rw [if_pos l, if_pos l]
      · rw [sp_look_in (by omega)] at q
        rw [if_neg l, if_neg l, if_neg (by omega : ¬ (f x.toNatClampNeg).toInt = 32), if_neg (by omega : ¬ (f x.toNatClampNeg).toInt = 32)]
theorem t_step {f : Nat → Int32} {n fl fp kd x : Int32} (hf : ∀ j, 0 ≤ (f j).toInt) (hn : n.toInt ≤ 400) (h0 : 0 ≤ x.toInt) (h1 : x.toInt ≤ n.toInt) : M_step n f fl fp kd x = sp_step f n fl fp kd (sp_run f n 32 32 401 x) := by
  show K_step_L2 n f fl fp kd 100000 x = _
  rw [t_step_L hn 100000 x h0 h1 (by omega), sp_run_any (k := 100000) (j := 401) (by decide) hn h0 (by omega) (by omega)]
  have hs := sp_run_le (f := f) (lo := 32) (hi := 32) (by decide) hn 401 x h0 h1
  have ho := sp_run_out (f := f) (lo := 32) (hi := 32) (by decide) hn 401 x h0 (by omega)
  generalize sp_run f n 32 32 401 x = s at hs ho ⊢
  unfold sp_step
  simp only [K_step_11, K_step_13, K_step_15, K_step_17, K_step_16, K_step_14, K_step_12, K_step_9, K_step_21, K_step_22, K_step_20, K_step_18, K_step_24, K_step_23, K_step_19, K_step_10, K_step_7, K_step_27, K_step_29, K_step_28, K_step_25, K_step_30, K_step_26, K_step_8, K_step_5, K_step_6, K_step_3, K_step_32, K_step_39, K_step_41, K_step_43, K_step_45, K_step_44, K_step_42, K_step_40, K_step_37, K_step_49, K_step_50, K_step_48, K_step_46, K_step_52, K_step_51, K_step_47, K_step_38, K_step_35, K_step_55, K_step_57, K_step_56, K_step_53, K_step_58, K_step_54, K_step_36, K_step_33, K_step_34, K_step_31, K_step_4, K_step_2, K_step_L2, K_step_1, M_step, K_refuse_3, K_refuse_2, K_refuse_1, M_refuse]
  by_cases q : n.toInt ≤ s.toInt
  · rw [sp_look_no q, if_pos q, if_neg (by omega), if_pos (by decide)]
  · have l : s.toInt < n.toInt := by omega
    have g := hf s.toNatClampNeg
    have r97 := t_skip (f := f) (n := n) (a := 97) (b := 122) (x := s) (by decide) hn (by omega) (by omega)
    have r48 := t_skip (f := f) (n := n) (a := 48) (b := 57) (x := s) (by decide) hn (by omega) (by omega)
    rw [show (97 : Int32).toInt = 97 from (by decide), show (122 : Int32).toInt = 122 from (by decide)] at r97
    rw [show (48 : Int32).toInt = 48 from (by decide), show (57 : Int32).toInt = 57 from (by decide)] at r48
    have le48 := sp_run_le (f := f) (lo := 48) (hi := 57) (by decide) hn 401 s (by omega) (by omega)
    rw [sp_look_in l] at ho ⊢
    generalize f s.toNatClampNeg = c at ho g ⊢
    rw [if_neg q, if_neg (by omega), if_pos l, if_neg (by omega : ¬ c.toInt < 0)]
    by_cases a1 : c.toInt < 97
    · rw [if_pos a1, if_neg (by omega : ¬ (97 ≤ c.toInt ∧ c.toInt ≤ 122))]
      by_cases a2 : c.toInt < 48
      · rw [if_pos a2, if_neg (by omega : ¬ (48 ≤ c.toInt ∧ c.toInt ≤ 57))]
        by_cases a3 : c.toInt = 40
        · rw [if_pos a3, if_pos (show sp_sign c from Or.inl a3)]
        · rw [if_neg a3]
          by_cases a4 : c.toInt = 41
          · rw [if_pos a4, if_pos (show sp_sign c from Or.inr (Or.inl a4))]
          · rw [if_neg a4]
            by_cases a5 : c.toInt = 38
            · rw [if_pos a5, if_pos (show sp_sign c from Or.inr (Or.inr (Or.inl a5)))]
            · rw [if_neg a5, if_neg (show ¬ sp_sign c from by unfold sp_sign; omega)]
              unfold sp_fl sp_fp
              by_cases z : fl.toInt = 0
              · rw [if_pos z, if_pos z, if_pos z]
              · rw [if_neg z, if_neg z, if_neg z]
      · rw [if_neg a2]
        by_cases a3 : 57 < c.toInt
        · rw [if_pos a3, if_neg (by omega : ¬ (48 ≤ c.toInt ∧ c.toInt ≤ 57))]
          by_cases a4 : c.toInt = 59
          · rw [if_pos a4, if_pos (show sp_sign c from Or.inr (Or.inr (Or.inr (Or.inr a4))))]
          · rw [if_neg a4, if_neg (show ¬ sp_sign c from by unfold sp_sign; omega)]
            unfold sp_fl sp_fp
            by_cases z : fl.toInt = 0
            · rw [if_pos z, if_pos z, if_pos z]
            · rw [if_neg z, if_neg z, if_neg z]
        · rw [if_neg a3, if_pos (by omega : 48 ≤ c.toInt ∧ c.toInt ≤ 57), r48, t_value (by omega) (by omega) (by omega)]
          by_cases a4 : (sp_run f n 48 57 401 s).toInt - s.toInt ≤ 3
          · rw [if_pos a4, if_pos a4]
          · rw [if_neg a4, if_neg a4]
            rfl
    · rw [if_neg a1]
      by_cases a2 : 122 < c.toInt
      · rw [if_pos a2, if_neg (by omega : ¬ (97 ≤ c.toInt ∧ c.toInt ≤ 122)), if_neg (by omega : ¬ (48 ≤ c.toInt ∧ c.toInt ≤ 57))]
        by_cases a3 : c.toInt = 124
        · rw [if_pos a3, if_pos (show sp_sign c from Or.inr (Or.inr (Or.inr (Or.inl a3))))]
        · rw [if_neg a3, if_neg (show ¬ sp_sign c from by unfold sp_sign; omega)]
          unfold sp_fl sp_fp
          by_cases z : fl.toInt = 0
          · rw [if_pos z, if_pos z, if_pos z]
          · rw [if_neg z, if_neg z, if_neg z]
      · rw [if_neg a2, if_pos (by omega : 97 ≤ c.toInt ∧ c.toInt ≤ 122), r97]
-- 31.tok2
theorem t_wants0 {fl c s w : Int32} : M_m_wants 0 fl c s w = (sp_fl fl c, sp_fp fl s w) := by
  simp only [K_m_wants_5, K_m_wants_4, K_m_wants_3, K_m_wants_2, K_m_wants_1, M_m_wants]
  unfold sp_fl sp_fp
  rw [if_pos (by decide)]
  by_cases z : fl.toInt = 0
  · rw [if_pos z, if_pos z, if_pos z]
  · rw [if_neg z, if_neg z, if_neg z]
theorem t_wants1 {fl c s w : Int32} : M_m_wants 1 fl c s w = (fl, w) := by
  simp only [K_m_wants_5, K_m_wants_4, K_m_wants_3, K_m_wants_2, K_m_wants_1, M_m_wants]
  rw [if_neg (by decide)]
theorem t_name_L {f : Nat → Int32} {n s v fl w : Int32} (hn : n.toInt ≤ 400) : ∀ (k : Nat) (x : Int32), 0 ≤ x.toInt → x.toInt ≤ n.toInt → n.toInt - x.toInt < (k : Int) → K_m_next_L66 s v fl w n f k x = (sp_run f n 97 122 k x, s, 1, v, fl, w) := by
  intro k
  induction k with
  | zero => intro x h0 h1 h; exact absurd h (by omega)
  | succ k ih =>
    intro x h0 h1 h
    simp only [K_m_next_7, K_m_next_69, K_m_next_68, K_m_next_67, K_m_next_66, K_m_next_65, K_m_next_64, K_m_next_63, K_m_next_12, K_m_next_48, K_m_next_50, K_m_next_49, K_m_next_43, K_m_next_46, K_m_next_44, K_m_next_47, K_m_next_45, K_m_next_42, K_m_next_41, K_m_next_40, K_m_next_38, K_m_next_60, K_m_next_62, K_m_next_61, K_m_next_55, K_m_next_58, K_m_next_56, K_m_next_59, K_m_next_57, K_m_next_54, K_m_next_53, K_m_next_52, K_m_next_51, K_m_next_39, K_m_next_33, K_m_next_36, K_m_next_34, K_m_next_37, K_m_next_35, K_m_next_32, K_m_next_31, K_m_next_14, K_m_next_30, K_m_next_16, K_m_next_29, K_m_next_18, K_m_next_28, K_m_next_20, K_m_next_27, K_m_next_22, K_m_next_26, K_m_next_24, K_m_next_25, K_m_next_23, K_m_next_21, K_m_next_19, K_m_next_17, K_m_next_15, K_m_next_13, K_m_next_11, K_m_next_9, K_m_next_10, K_m_next_8, K_m_next_6, K_m_next_5, K_m_next_4, K_m_next_2, K_m_next_3, K_m_next_1, M_m_next, K_m_next_L66, sp_run, t_look]
    by_cases q : 97 ≤ (sp_look f n x).toInt ∧ (sp_look f n x).toInt ≤ 122
    · rw [if_pos q, if_pos q]
      have l := sp_look_lt (f := f) (n := n) (x := x) (by omega)
      have e := xinc h0 l hn
      exact ih _ (by omega) (by omega) (by omega)
    · rw [if_neg q, if_neg q]
def sp_dig (f : Nat → Int32) (n s : Int32) : Nat → Int32 → Int32 → Int32
  | 0, _, v => v
  | k + 1, x, v => if 48 ≤ (sp_look f n x).toInt ∧ (sp_look f n x).toInt ≤ 57 then sp_dig f n s k (x + 1) (if 3 ≤ x.toInt - s.toInt then v else 10 * v + sp_look f n x - 48) else v
theorem t_dig_L {f : Nat → Int32} {n s fl w : Int32} (hn : n.toInt ≤ 400) : ∀ (k : Nat) (x v : Int32), 0 ≤ x.toInt → x.toInt ≤ n.toInt → n.toInt - x.toInt < (k : Int) → K_m_next_L52 s n f fl w k x v = if 3 < (sp_run f n 48 57 k x).toInt - s.toInt then (sp_run f n 48 57 k x, s, 2, sp_dig f n s k x v, sp_fl fl 1, sp_fp fl s w) else (sp_run f n 48 57 k x, s, 2, sp_dig f n s k x v, fl, w) := by
  intro k
  induction k with
  | zero => intro x v h0 h1 h; exact absurd h (by omega)
  | succ k ih =>
    intro x v h0 h1 h
    have e1 : sp_run f n 48 57 (k + 1) x = if 48 ≤ (sp_look f n x).toInt ∧ (sp_look f n x).toInt ≤ 57 then sp_run f n 48 57 k (x + 1) else x := rfl
    have e2 : sp_dig f n s (k + 1) x v = if 48 ≤ (sp_look f n x).toInt ∧ (sp_look f n x).toInt ≤ 57 then sp_dig f n s k (x + 1) (if 3 ≤ x.toInt - s.toInt then v else 10 * v + sp_look f n x - 48) else v := rfl
    by_cases q : 48 ≤ (sp_look f n x).toInt ∧ (sp_look f n x).toInt ≤ 57
    · have l := sp_look_lt (f := f) (n := n) (x := x) (by omega)
      have e := xinc h0 l hn
      rw [if_pos q] at e1 e2
      rw [e1, e2]
      simp only [K_m_next_7, K_m_next_69, K_m_next_68, K_m_next_67, K_m_next_66, K_m_next_65, K_m_next_64, K_m_next_63, K_m_next_12, K_m_next_48, K_m_next_50, K_m_next_49, K_m_next_43, K_m_next_46, K_m_next_44, K_m_next_47, K_m_next_45, K_m_next_42, K_m_next_41, K_m_next_40, K_m_next_38, K_m_next_60, K_m_next_62, K_m_next_61, K_m_next_55, K_m_next_58, K_m_next_56, K_m_next_59, K_m_next_57, K_m_next_54, K_m_next_53, K_m_next_52, K_m_next_51, K_m_next_39, K_m_next_33, K_m_next_36, K_m_next_34, K_m_next_37, K_m_next_35, K_m_next_32, K_m_next_31, K_m_next_14, K_m_next_30, K_m_next_16, K_m_next_29, K_m_next_18, K_m_next_28, K_m_next_20, K_m_next_27, K_m_next_22, K_m_next_26, K_m_next_24, K_m_next_25, K_m_next_23, K_m_next_21, K_m_next_19, K_m_next_17, K_m_next_15, K_m_next_13, K_m_next_11, K_m_next_9, K_m_next_10, K_m_next_8, K_m_next_6, K_m_next_5, K_m_next_4, K_m_next_2, K_m_next_3, K_m_next_1, M_m_next, K_m_next_L52, t_look, t_wants0, t_wants1]
      rw [if_pos q]
      by_cases q3 : 3 ≤ x.toInt - s.toInt
      · rw [if_pos q3, if_pos q3]
        exact ih _ _ (by omega) (by omega) (by omega)
      · rw [if_neg q3, if_neg q3]
        exact ih _ _ (by omega) (by omega) (by omega)
    · rw [if_neg q] at e1 e2
      rw [e1, e2]
      simp only [K_m_next_7, K_m_next_69, K_m_next_68, K_m_next_67, K_m_next_66, K_m_next_65, K_m_next_64, K_m_next_63, K_m_next_12, K_m_next_48, K_m_next_50, K_m_next_49, K_m_next_43, K_m_next_46, K_m_next_44, K_m_next_47, K_m_next_45, K_m_next_42, K_m_next_41, K_m_next_40, K_m_next_38, K_m_next_60, K_m_next_62, K_m_next_61, K_m_next_55, K_m_next_58, K_m_next_56, K_m_next_59, K_m_next_57, K_m_next_54, K_m_next_53, K_m_next_52, K_m_next_51, K_m_next_39, K_m_next_33, K_m_next_36, K_m_next_34, K_m_next_37, K_m_next_35, K_m_next_32, K_m_next_31, K_m_next_14, K_m_next_30, K_m_next_16, K_m_next_29, K_m_next_18, K_m_next_28, K_m_next_20, K_m_next_27, K_m_next_22, K_m_next_26, K_m_next_24, K_m_next_25, K_m_next_23, K_m_next_21, K_m_next_19, K_m_next_17, K_m_next_15, K_m_next_13, K_m_next_11, K_m_next_9, K_m_next_10, K_m_next_8, K_m_next_6, K_m_next_5, K_m_next_4, K_m_next_2, K_m_next_3, K_m_next_1, M_m_next, K_m_next_L52, t_look, t_wants0, t_wants1]
      rw [if_neg q]
theorem t_next_L {f : Nat → Int32} {n v fl w : Int32} (hn : n.toInt ≤ 400) : ∀ (k : Nat) (x : Int32), 0 ≤ x.toInt → x.toInt ≤ n.toInt → n.toInt - x.toInt < (k : Int) → K_m_next_L4 v fl w n f k x = K_m_next_L4 v fl w n f 1 (sp_run f n 32 32 k x) := by
  intro k
  induction k with
  | zero => intro x h0 h1 h; exact absurd h (by omega)
  | succ k ih =>
    intro x h0 h1 h
    by_cases q : 32 ≤ (sp_look f n x).toInt ∧ (sp_look f n x).toInt ≤ 32
    · have l := sp_look_lt (f := f) (n := n) (x := x) (by omega)
      have z := xinc h0 l hn
      have e : sp_run f n 32 32 (k + 1) x = sp_run f n 32 32 k (x + 1) := by
        show (if 32 ≤ (sp_look f n x).toInt ∧ (sp_look f n x).toInt ≤ 32 then sp_run f n 32 32 k (x + 1) else x) = _
        rw [if_pos q]
      rw [e, ← ih (x + 1) (by omega) (by omega) (by omega)]
      simp only [K_m_next_7, K_m_next_69, K_m_next_68, K_m_next_67, K_m_next_66, K_m_next_65, K_m_next_64, K_m_next_63, K_m_next_12, K_m_next_48, K_m_next_50, K_m_next_49, K_m_next_43, K_m_next_46, K_m_next_44, K_m_next_47, K_m_next_45, K_m_next_42, K_m_next_41, K_m_next_40, K_m_next_38, K_m_next_60, K_m_next_62, K_m_next_61, K_m_next_55, K_m_next_58, K_m_next_56, K_m_next_59, K_m_next_57, K_m_next_54, K_m_next_53, K_m_next_52, K_m_next_51, K_m_next_39, K_m_next_33, K_m_next_36, K_m_next_34, K_m_next_37, K_m_next_35, K_m_next_32, K_m_next_31, K_m_next_14, K_m_next_30, K_m_next_16, K_m_next_29, K_m_next_18, K_m_next_28, K_m_next_20, K_m_next_27, K_m_next_22, K_m_next_26, K_m_next_24, K_m_next_25, K_m_next_23, K_m_next_21, K_m_next_19, K_m_next_17, K_m_next_15, K_m_next_13, K_m_next_11, K_m_next_9, K_m_next_10, K_m_next_8, K_m_next_6, K_m_next_5, K_m_next_4, K_m_next_2, K_m_next_3, K_m_next_1, M_m_next, K_m_next_L4, t_look]
      rw [if_pos (by omega)]
    · have e : sp_run f n 32 32 (k + 1) x = x := by
        show (if 32 ≤ (sp_look f n x).toInt ∧ (sp_look f n x).toInt ≤ 32 then sp_run f n 32 32 k (x + 1) else x) = _
        rw [if_neg q]
      rw [e]
      simp only [K_m_next_7, K_m_next_69, K_m_next_68, K_m_next_67, K_m_next_66, K_m_next_65, K_m_next_64, K_m_next_63, K_m_next_12, K_m_next_48, K_m_next_50, K_m_next_49, K_m_next_43, K_m_next_46, K_m_next_44, K_m_next_47, K_m_next_45, K_m_next_42, K_m_next_41, K_m_next_40, K_m_next_38, K_m_next_60, K_m_next_62, K_m_next_61, K_m_next_55, K_m_next_58, K_m_next_56, K_m_next_59, K_m_next_57, K_m_next_54, K_m_next_53, K_m_next_52, K_m_next_51, K_m_next_39, K_m_next_33, K_m_next_36, K_m_next_34, K_m_next_37, K_m_next_35, K_m_next_32, K_m_next_31, K_m_next_14, K_m_next_30, K_m_next_16, K_m_next_29, K_m_next_18, K_m_next_28, K_m_next_20, K_m_next_27, K_m_next_22, K_m_next_26, K_m_next_24, K_m_next_25, K_m_next_23, K_m_next_21, K_m_next_19, K_m_next_17, K_m_next_15, K_m_next_13, K_m_next_11, K_m_next_9, K_m_next_10, K_m_next_8, K_m_next_6, K_m_next_5, K_m_next_4, K_m_next_2, K_m_next_3, K_m_next_1, M_m_next, K_m_next_L4, t_look]
      rw [if_neg (by omega : ¬ (sp_look f n x).toInt = 32), if_neg (by omega : ¬ (sp_look f n x).toInt = 32)]
noncomputable def sp_next (f : Nat → Int32) (n fl w v s : Int32) : Int32 × Int32 × Int32 × Int32 × Int32 × Int32 :=
  if (sp_look f n s).toInt < 0 then (s, s, 0, v, fl, w)
  else if 97 ≤ (sp_look f n s).toInt ∧ (sp_look f n s).toInt ≤ 122 then (sp_run f n 97 122 401 s, s, 1, v, fl, w)
  else if 48 ≤ (sp_look f n s).toInt ∧ (sp_look f n s).toInt ≤ 57 then
    (if 3 < (sp_run f n 48 57 401 s).toInt - s.toInt then (sp_run f n 48 57 401 s, s, 2, sp_dig f n s 401 s 0, sp_fl fl 1, sp_fp fl s w)
     else (sp_run f n 48 57 401 s, s, 2, sp_dig f n s 401 s 0, fl, w))
  else if (sp_look f n s).toInt = 40 then (s + 1, s, 3, v, fl, w)
  else if (sp_look f n s).toInt = 41 then (s + 1, s, 4, v, fl, w)
  else if (sp_look f n s).toInt = 38 then (s + 1, s, 5, v, fl, w)
  else if (sp_look f n s).toInt = 124 then (s + 1, s, 6, v, fl, w)
  else if (sp_look f n s).toInt = 59 then (s + 1, s, 7, v, fl, w)
  else (s + 1, s, 7, v, sp_fl fl 1, sp_fp fl s w)
theorem sp_dig_fuel {f : Nat → Int32} {n s : Int32} (hn : n.toInt ≤ 400) : ∀ (k : Nat) (x v : Int32), 0 ≤ x.toInt → n.toInt - x.toInt < (k : Int) → sp_dig f n s (k + 1) x v = sp_dig f n s k x v := by
  intro k
  induction k with
  | zero =>
    intro x v h0 h
    have q : ¬ (48 ≤ (sp_look f n x).toInt ∧ (sp_look f n x).toInt ≤ 57) := fun z => by
      have := sp_look_lt (f := f) (n := n) (x := x) (by omega)
      omega
    show (if 48 ≤ (sp_look f n x).toInt ∧ (sp_look f n x).toInt ≤ 57 then _ else v) = v
    rw [if_neg q]
  | succ k ih =>
    intro x v h0 h
    show (if 48 ≤ (sp_look f n x).toInt ∧ (sp_look f n x).toInt ≤ 57 then sp_dig f n s (k + 1) (x + 1) _ else v) = (if 48 ≤ (sp_look f n x).toInt ∧ (sp_look f n x).toInt ≤ 57 then sp_dig f n s k (x + 1) _ else v)
    by_cases q : 48 ≤ (sp_look f n x).toInt ∧ (sp_look f n x).toInt ≤ 57
    · rw [if_pos q, if_pos q]
      have a := sp_look_lt (f := f) (n := n) (x := x) (by omega)
      have b := xinc h0 a hn
      exact ih _ _ (by omega) (by omega)
    · rw [if_neg q, if_neg q]
theorem sp_dig_any {f : Nat → Int32} {n s : Int32} (hn : n.toInt ≤ 400) {x v : Int32} (h0 : 0 ≤ x.toInt) {k : Nat} (hk : n.toInt - x.toInt < (k : Int)) : ∀ d : Nat, sp_dig f n s (k + d) x v = sp_dig f n s k x v := by
  intro d
  induction d with
  | zero => rfl
  | succ d ih => exact (sp_dig_fuel hn (k + d) x v h0 (by omega)).trans ih
theorem t_next {f : Nat → Int32} {n fl w v x fr so : Int32} (hf : ∀ j, 0 ≤ (f j).toInt) (hn : n.toInt ≤ 400) (h0 : 0 ≤ x.toInt) (h1 : x.toInt ≤ n.toInt) (hfl : fl.toInt ≤ 0) : M_m_next fl v w n f x fr so = sp_next f n fl w v (sp_run f n 32 32 401 x) := by
  have e : M_m_next fl v w n f x fr so = K_m_next_L4 v fl w n f 100000 x := by
    simp only [K_m_next_7, K_m_next_69, K_m_next_68, K_m_next_67, K_m_next_66, K_m_next_65, K_m_next_64, K_m_next_63, K_m_next_12, K_m_next_48, K_m_next_50, K_m_next_49, K_m_next_43, K_m_next_46, K_m_next_44, K_m_next_47, K_m_next_45, K_m_next_42, K_m_next_41, K_m_next_40, K_m_next_38, K_m_next_60, K_m_next_62, K_m_next_61, K_m_next_55, K_m_next_58, K_m_next_56, K_m_next_59, K_m_next_57, K_m_next_54, K_m_next_53, K_m_next_52, K_m_next_51, K_m_next_39, K_m_next_33, K_m_next_36, K_m_next_34, K_m_next_37, K_m_next_35, K_m_next_32, K_m_next_31, K_m_next_14, K_m_next_30, K_m_next_16, K_m_next_29, K_m_next_18, K_m_next_28, K_m_next_20, K_m_next_27, K_m_next_22, K_m_next_26, K_m_next_24, K_m_next_25, K_m_next_23, K_m_next_21, K_m_next_19, K_m_next_17, K_m_next_15, K_m_next_13, K_m_next_11, K_m_next_9, K_m_next_10, K_m_next_8, K_m_next_6, K_m_next_5, K_m_next_4, K_m_next_2, K_m_next_3, K_m_next_1, M_m_next]
    rw [if_pos hfl]
  rw [e, t_next_L hn 100000 x h0 h1 (by omega), sp_run_any (k := 100000) (j := 401) (by decide) hn h0 (by omega) (by omega)]
  have hs := sp_run_le (f := f) (lo := 32) (hi := 32) (by decide) hn 401 x h0 h1
  have ho := sp_run_out (f := f) (lo := 32) (hi := 32) (by decide) hn 401 x h0 (by omega)
  generalize sp_run f n 32 32 401 x = s at hs ho ⊢
  unfold sp_next
  simp only [K_m_next_7, K_m_next_69, K_m_next_68, K_m_next_67, K_m_next_66, K_m_next_65, K_m_next_64, K_m_next_63, K_m_next_12, K_m_next_48, K_m_next_50, K_m_next_49, K_m_next_43, K_m_next_46, K_m_next_44, K_m_next_47, K_m_next_45, K_m_next_42, K_m_next_41, K_m_next_40, K_m_next_38, K_m_next_60, K_m_next_62, K_m_next_61, K_m_next_55, K_m_next_58, K_m_next_56, K_m_next_59, K_m_next_57, K_m_next_54, K_m_next_53, K_m_next_52, K_m_next_51, K_m_next_39, K_m_next_33, K_m_next_36, K_m_next_34, K_m_next_37, K_m_next_35, K_m_next_32, K_m_next_31, K_m_next_14, K_m_next_30, K_m_next_16, K_m_next_29, K_m_next_18, K_m_next_28, K_m_next_20, K_m_next_27, K_m_next_22, K_m_next_26, K_m_next_24, K_m_next_25, K_m_next_23, K_m_next_21, K_m_next_19, K_m_next_17, K_m_next_15, K_m_next_13, K_m_next_11, K_m_next_9, K_m_next_10, K_m_next_8, K_m_next_6, K_m_next_5, K_m_next_4, K_m_next_2, K_m_next_3, K_m_next_1, M_m_next, K_m_next_L4, t_look, t_wants0, t_wants1]
  rw [if_neg (by omega : ¬ (sp_look f n s).toInt = 32)]
  by_cases a0 : (sp_look f n s).toInt < 0
  · rw [if_pos a0, if_neg (by omega)]
  · have l := sp_look_lt (f := f) (n := n) (x := s) (by omega)
    have z := xinc (by omega) l hn
    rw [if_neg a0, if_pos (by omega)]
    by_cases a1 : 97 ≤ (sp_look f n s).toInt ∧ (sp_look f n s).toInt ≤ 122
    · rw [if_pos a1, if_pos a1, if_pos a1, t_name_L hn 100000 (s + 1) (by omega) (by omega) (by omega)]
      have e1 : sp_run f n 97 122 401 s = sp_run f n 97 122 400 (s + 1) := by
        show (if 97 ≤ (sp_look f n s).toInt ∧ (sp_look f n s).toInt ≤ 122 then sp_run f n 97 122 400 (s + 1) else s) = _
        rw [if_pos a1]
      rw [e1, sp_run_any (k := 100000) (j := 400) (by decide) hn (by omega) (by omega) (by omega)]
    · rw [if_neg a1, if_neg a1]
      by_cases a2 : 48 ≤ (sp_look f n s).toInt ∧ (sp_look f n s).toInt ≤ 57
      · rw [if_pos a2, if_pos a2, if_pos a2, if_neg (by omega : ¬ 3 ≤ s.toInt - s.toInt), t_dig_L hn 100000 (s + 1) _ (by omega) (by omega) (by omega)]
        have e1 : sp_run f n 48 57 401 s = sp_run f n 48 57 400 (s + 1) := by
          show (if 48 ≤ (sp_look f n s).toInt ∧ (sp_look f n s).toInt ≤ 57 then sp_run f n 48 57 400 (s + 1) else s) = _
          rw [if_pos a2]
        have e2 : sp_dig f n s 401 s 0 = sp_dig f n s 400 (s + 1) (10 * 0 + sp_look f n s - 48) := by
          show (if 48 ≤ (sp_look f n s).toInt ∧ (sp_look f n s).toInt ≤ 57 then sp_dig f n s 400 (s + 1) (if 3 ≤ s.toInt - s.toInt then 0 else 10 * 0 + sp_look f n s - 48) else 0) = _
          rw [if_pos a2, if_neg (by omega)]
        rw [e1, e2, sp_run_any (k := 100000) (j := 400) (by decide) hn (by omega) (by omega) (by omega), show (100000 : Nat) = 400 + 99600 from rfl, sp_dig_any hn (by omega) (by omega)]
        rfl
      · rw [if_neg a2, if_neg a2]
-- 32.rel
abbrev xT : Type := Int32 × Int32 × Int32 × Int32 × Int32 × Int32
/-- the same token on both sides -/
def xK (kd vl so mv : Int32) : Prop := (kd.toInt = 0 ∧ so.toInt = 0) ∨ (kd.toInt = 1 ∧ so.toInt = 1) ∨ (kd.toInt = 2 ∧ so.toInt = 2 ∧ vl = mv) ∨ (kd.toInt = 3 ∧ ((vl.toInt = 40 ∧ so.toInt = 3) ∨ (vl.toInt = 41 ∧ so.toInt = 4) ∨ (vl.toInt = 38 ∧ so.toInt = 5) ∨ (vl.toInt = 124 ∧ so.toInt = 6) ∨ (vl.toInt = 59 ∧ so.toInt = 7)))
/-- the same place in the text, or the same fault -/
def xR (n pl kd fr vl fl fp ps mr so mv mf mw : Int32) : Prop := fl = mf ∧ 0 ≤ fl.toInt ∧ (fl.toInt ≠ 0 → fp = mw) ∧ (fl.toInt = 0 → pl = ps ∧ fr = mr ∧ 0 ≤ fr.toInt ∧ fr.toInt ≤ pl.toInt ∧ pl.toInt ≤ n.toInt ∧ (kd.toInt ≠ 0 → fr.toInt < pl.toInt) ∧ xK kd vl so mv)
def xRt (n : Int32) (t u : xT) : Prop := xR n t.1 t.2.1 t.2.2.1 t.2.2.2.1 t.2.2.2.2.1 t.2.2.2.2.2 u.1 u.2.1 u.2.2.1 u.2.2.2.1 u.2.2.2.2.1 u.2.2.2.2.2
theorem xR_ok {n pl kd fr vl fl fp mr so mv mf mw : Int32} (e : fl = mf) (h : fl.toInt = 0) (h0 : 0 ≤ fr.toInt) (h1 : fr.toInt ≤ pl.toInt) (h2 : pl.toInt ≤ n.toInt) (h3 : kd.toInt ≠ 0 → fr.toInt < pl.toInt) (hk : xK kd vl so mv) (er : fr = mr) : xR n pl kd fr vl fl fp pl mr so mv mf mw := ⟨e, by omega, fun z => absurd h z, fun _ => ⟨rfl, er, h0, h1, h2, h3, hk⟩⟩
theorem xR_no {n pl kd fr vl fl fp ps mr so mv mf mw : Int32} (e : fl = mf) (h : 0 < fl.toInt) (hp : fp = mw) : xR n pl kd fr vl fl fp ps mr so mv mf mw := ⟨e, by omega, fun _ => hp, fun z => absurd h (by omega)⟩
theorem dig_val {f : Nat → Int32} {n s : Int32} (hn : n.toInt ≤ 400) (hs : 0 ≤ s.toInt) {e : Int32} (he : e.toInt - s.toInt ≤ 3) : ∀ (k : Nat) (x v : Int32), s.toInt ≤ x.toInt → x.toInt ≤ n.toInt → n.toInt - x.toInt < (k : Int) → e = sp_run f n 48 57 k x → sp_dig f n s k x v = sp_val f e k x v := by
  intro k
  induction k with
  | zero => intro x v h0 h1 h; exact absurd h (by omega)
  | succ k ih =>
    intro x v h0 h1 h ee
    have e1 : sp_run f n 48 57 (k + 1) x = if 48 ≤ (sp_look f n x).toInt ∧ (sp_look f n x).toInt ≤ 57 then sp_run f n 48 57 k (x + 1) else x := rfl
    have e2 : sp_dig f n s (k + 1) x v = if 48 ≤ (sp_look f n x).toInt ∧ (sp_look f n x).toInt ≤ 57 then sp_dig f n s k (x + 1) (if 3 ≤ x.toInt - s.toInt then v else 10 * v + sp_look f n x - 48) else v := rfl
    have e3 : sp_val f e (k + 1) x v = if e.toInt ≤ x.toInt then v else sp_val f e k (x + 1) (v * 10 + f x.toNatClampNeg - 48) := rfl
    by_cases q : 48 ≤ (sp_look f n x).toInt ∧ (sp_look f n x).toInt ≤ 57
    · have l := sp_look_lt (f := f) (n := n) (x := x) (by omega)
      have z := xinc (by omega) l hn
      rw [if_pos q] at e1 e2
      have le := sp_run_le (f := f) (lo := 48) (hi := 57) (by decide) hn k (x + 1) (by omega) (by omega)
      rw [← e1, ← ee] at le
      rw [e2, e3, if_neg (by omega), if_neg (by omega), sp_look_in l, Int32.mul_comm 10 v]
      exact ih _ _ (by omega) (by omega) (by omega) (ee.trans e1)
    · rw [if_neg q] at e1 e2
      rw [e2, e3, if_pos (by rw [ee, e1]; exact Int.le_refl _)]
/-- a token is read on both sides -/
theorem r_tok {f : Nat → Int32} {n fl fp kd x mf mv mw mr so : Int32} (hf : ∀ j, 0 ≤ (f j).toInt) (hn : n.toInt ≤ 400) (h0 : 0 ≤ x.toInt) (h1 : x.toInt ≤ n.toInt) (e : fl = mf) (hfl : fl.toInt = 0) : xRt n (M_step n f fl fp kd x) (M_m_next mf mv mw n f x mr so) ∧ ((M_step n f fl fp kd x).2.2.2.2.1.toInt = 0 → x.toInt ≤ (M_step n f fl fp kd x).2.2.1.toInt) := by
  subst e
  rw [t_step hf hn h0 h1, t_next hf hn h0 h1 (by omega)]
  have hs := sp_run_le (f := f) (lo := 32) (hi := 32) (by decide) hn 401 x h0 h1
  generalize sp_run f n 32 32 401 x = s at hs ⊢
  unfold sp_step sp_next sp_fl sp_fp
  have z1 : (1 : Int32).toInt = 1 := by decide
  have z2 : (2 : Int32).toInt = 2 := by decide
  have z3 : (3 : Int32).toInt = 3 := by decide
  have z0 : (0 : Int32).toInt = 0 := by decide
  by_cases a0 : (sp_look f n s).toInt < 0
  · rw [if_pos a0, if_pos a0]
    exact ⟨(show xR n s 0 s 0 fl fp s s 0 mv fl mw from xR_ok rfl hfl (by omega) (Int.le_refl _) hs.2 (fun z => absurd z0 z) (Or.inl ⟨z0, z0⟩) rfl), fun _ => hs.1⟩
  · rw [if_neg a0, if_neg a0]
    have l := sp_look_lt (f := f) (n := n) (x := s) (by omega)
    have w := xinc (by omega) l hn
    by_cases a1 : 97 ≤ (sp_look f n s).toInt ∧ (sp_look f n s).toInt ≤ 122
    · rw [if_pos a1, if_pos a1]
      have e1 : sp_run f n 97 122 401 s = sp_run f n 97 122 400 (s + 1) := by
        show (if 97 ≤ (sp_look f n s).toInt ∧ (sp_look f n s).toInt ≤ 122 then sp_run f n 97 122 400 (s + 1) else s) = _
        rw [if_pos a1]
      have le := sp_run_le (f := f) (lo := 97) (hi := 122) (by decide) hn 400 (s + 1) (by omega) (by omega)
      rw [← e1] at le
      exact ⟨(show xR n (sp_run f n 97 122 401 s) 1 s 0 fl fp (sp_run f n 97 122 401 s) s 1 mv fl mw from xR_ok rfl hfl (by omega) (by omega) le.2 (fun _ => by omega) (Or.inr (Or.inl ⟨z1, z1⟩)) rfl), fun _ => hs.1⟩
    · rw [if_neg a1, if_neg a1]
      by_cases a2 : 48 ≤ (sp_look f n s).toInt ∧ (sp_look f n s).toInt ≤ 57
      · rw [if_pos a2, if_pos a2]
        have e1 : sp_run f n 48 57 401 s = sp_run f n 48 57 400 (s + 1) := by
          show (if 48 ≤ (sp_look f n s).toInt ∧ (sp_look f n s).toInt ≤ 57 then sp_run f n 48 57 400 (s + 1) else s) = _
          rw [if_pos a2]
        have le := sp_run_le (f := f) (lo := 48) (hi := 57) (by decide) hn 400 (s + 1) (by omega) (by omega)
        rw [← e1] at le
        by_cases a3 : (sp_run f n 48 57 401 s).toInt - s.toInt ≤ 3
        · have dv := dig_val (f := f) (e := sp_run f n 48 57 401 s) hn (by omega : 0 ≤ s.toInt) a3 401 s 0 (Int.le_refl _) (by omega) (by omega) rfl
          have sv := sp_val_any (f := f) (e := sp_run f n 48 57 401 s) (x := s) (v := 0) (k := 4) (by omega) (by omega) (by omega) (by omega) 397
          rw [if_pos a3, if_neg (by omega)]
          exact ⟨(show xR n (sp_run f n 48 57 401 s) 2 s (sp_val f (sp_run f n 48 57 401 s) 4 s 0) fl fp (sp_run f n 48 57 401 s) s 2 (sp_dig f n s 401 s 0) fl mw from xR_ok rfl hfl (by omega) (by omega) le.2 (fun _ => by omega) (Or.inr (Or.inr (Or.inl ⟨z2, z2, (dv.trans sv).symm⟩))) rfl), fun _ => hs.1⟩
        · rw [if_neg a3, if_pos (by omega : 3 < (sp_run f n 48 57 401 s).toInt - s.toInt), if_pos hfl, if_pos hfl, if_pos hfl]
          exact ⟨xR_no rfl (by show 0 < (1 : Int32).toInt; omega) rfl, fun z => absurd z (by show ¬ (1 : Int32).toInt = 0; omega)⟩
      · rw [if_neg a2, if_neg a2]
        by_cases a3 : sp_sign (sp_look f n s)
        · rw [if_pos a3]
          have hk : ∀ so9 : Int32, ((sp_look f n s).toInt = 40 ∧ so9.toInt = 3) ∨ ((sp_look f n s).toInt = 41 ∧ so9.toInt = 4) ∨ ((sp_look f n s).toInt = 38 ∧ so9.toInt = 5) ∨ ((sp_look f n s).toInt = 124 ∧ so9.toInt = 6) ∨ ((sp_look f n s).toInt = 59 ∧ so9.toInt = 7) → xRt n (s + 1, 3, s, sp_look f n s, fl, fp) (s + 1, s, so9, mv, fl, mw) := fun so9 h9 =>
            (show xR n (s + 1) 3 s (sp_look f n s) fl fp (s + 1) s so9 mv fl mw from xR_ok rfl hfl (by omega) (by omega) (by omega) (fun _ => by omega) (Or.inr (Or.inr (Or.inr ⟨z3, h9⟩))) rfl)
          refine ⟨?_, fun _ => hs.1⟩
          by_cases b1 : (sp_look f n s).toInt = 40
          · rw [if_pos b1]; exact hk 3 (Or.inl ⟨b1, by decide⟩)
          · rw [if_neg b1]
            by_cases b2 : (sp_look f n s).toInt = 41
            · rw [if_pos b2]; exact hk 4 (Or.inr (Or.inl ⟨b2, by decide⟩))
            · rw [if_neg b2]
              by_cases b3 : (sp_look f n s).toInt = 38
              · rw [if_pos b3]; exact hk 5 (Or.inr (Or.inr (Or.inl ⟨b3, by decide⟩)))
              · rw [if_neg b3]
                by_cases b4 : (sp_look f n s).toInt = 124
                · rw [if_pos b4]; exact hk 6 (Or.inr (Or.inr (Or.inr (Or.inl ⟨b4, by decide⟩))))
                · rw [if_neg b4]
                  have b5 : (sp_look f n s).toInt = 59 := by unfold sp_sign at a3; omega
                  rw [if_pos b5]; exact hk 7 (Or.inr (Or.inr (Or.inr (Or.inr ⟨b5, by decide⟩))))
        · have b : ¬ (sp_look f n s).toInt = 40 ∧ ¬ (sp_look f n s).toInt = 41 ∧ ¬ (sp_look f n s).toInt = 38 ∧ ¬ (sp_look f n s).toInt = 124 ∧ ¬ (sp_look f n s).toInt = 59 := by unfold sp_sign at a3; omega
          rw [if_neg a3, if_neg b.1, if_neg b.2.1, if_neg b.2.2.1, if_neg b.2.2.2.1, if_neg b.2.2.2.2, if_pos hfl, if_pos hfl, if_pos hfl]
          exact ⟨xR_no rfl (by show 0 < (1 : Int32).toInt; omega) rfl, fun z => absurd z (by show ¬ (1 : Int32).toInt = 0; omega)⟩
-- 33.ops
theorem t_refuse {fl c a fp : Int32} (h : fl.toInt = 0) : M_refuse fl c a fp = (c, a) := by
  simp only [K_refuse_3, K_refuse_2, K_refuse_1, M_refuse]
  rw [if_pos h]
theorem t_wantsF {fl c s w : Int32} (h : fl.toInt = 0) : M_m_wants 0 fl c s w = (c, s) := by
  rw [t_wants0]
  unfold sp_fl sp_fp
  rw [if_pos h, if_pos h]
theorem t_wantsN {a fl c s w : Int32} (h : fl.toInt ≠ 0) : M_m_wants a fl c s w = (fl, w) := by
  simp only [K_m_wants_5, K_m_wants_4, K_m_wants_3, K_m_wants_2, K_m_wants_1, M_m_wants]
  by_cases q : a.toInt = 0
  · rw [if_pos q, if_neg h]
  · rw [if_neg q]
theorem t_next_id {f : Nat → Int32} {n fl v w ps fr so : Int32} (h : 0 < fl.toInt) : M_m_next fl v w n f ps fr so = (ps, fr, so, v, fl, w) := by
  simp only [K_m_next_7, K_m_next_69, K_m_next_68, K_m_next_67, K_m_next_66, K_m_next_65, K_m_next_64, K_m_next_63, K_m_next_12, K_m_next_48, K_m_next_50, K_m_next_49, K_m_next_43, K_m_next_46, K_m_next_44, K_m_next_47, K_m_next_45, K_m_next_42, K_m_next_41, K_m_next_40, K_m_next_38, K_m_next_60, K_m_next_62, K_m_next_61, K_m_next_55, K_m_next_58, K_m_next_56, K_m_next_59, K_m_next_57, K_m_next_54, K_m_next_53, K_m_next_52, K_m_next_51, K_m_next_39, K_m_next_33, K_m_next_36, K_m_next_34, K_m_next_37, K_m_next_35, K_m_next_32, K_m_next_31, K_m_next_14, K_m_next_30, K_m_next_16, K_m_next_29, K_m_next_18, K_m_next_28, K_m_next_20, K_m_next_27, K_m_next_22, K_m_next_26, K_m_next_24, K_m_next_25, K_m_next_23, K_m_next_21, K_m_next_19, K_m_next_17, K_m_next_15, K_m_next_13, K_m_next_11, K_m_next_9, K_m_next_10, K_m_next_8, K_m_next_6, K_m_next_5, K_m_next_4, K_m_next_2, K_m_next_3, K_m_next_1, M_m_next]
  rw [if_neg (by omega)]
theorem xK2 {kd vl so mv : Int32} (h : xK kd vl so mv) : (kd.toInt = 2 → so.toInt = 2 ∧ vl = mv) ∧ (so.toInt = 2 → kd.toInt = 2) := by
  unfold xK at h
  rcases h with h | h | h | h
  · exact ⟨fun z => absurd z (by omega), fun z => absurd z (by omega)⟩
  · exact ⟨fun z => absurd z (by omega), fun z => absurd z (by omega)⟩
  · exact ⟨fun _ => h.2, fun _ => h.1⟩
  · exact ⟨fun z => absurd z (by omega), fun z => absurd z (by omega)⟩
theorem xK1 {kd vl so mv : Int32} (h : xK kd vl so mv) : (kd.toInt = 1 ↔ so.toInt = 1) ∧ (kd.toInt = 0 ↔ so.toInt = 0) := by
  unfold xK at h
  omega
theorem r_num {f : Nat → Int32} {n lo hi pl kd fr vl fl fp ps mr so mv mf mw : Int32} (hf : ∀ j, 0 ≤ (f j).toInt) (hn : n.toInt ≤ 400) (h : xR n pl kd fr vl fl fp ps mr so mv mf mw) : xRt n (M_takeNumber fl kd vl lo pl fr fp hi n f).2 (M_m_readNumber mf so mv n f ps mr lo hi mw).2 ∧ ((M_takeNumber fl kd vl lo pl fr fp hi n f).2.2.2.2.2.1.toInt = 0 → fl.toInt = 0 ∧ (M_takeNumber fl kd vl lo pl fr fp hi n f).1 = (M_m_readNumber mf so mv n f ps mr lo hi mw).1 ∧ lo.toInt ≤ (M_takeNumber fl kd vl lo pl fr fp hi n f).1.toInt ∧ (M_takeNumber fl kd vl lo pl fr fp hi n f).1.toInt ≤ hi.toInt ∧ pl.toInt ≤ (M_takeNumber fl kd vl lo pl fr fp hi n f).2.2.2.1.toInt) := by
  obtain ⟨e, hp, hw, hk⟩ := h
  subst e
  simp only [K_takeNumber_8, K_takeNumber_6, K_takeNumber_11, K_takeNumber_9, K_takeNumber_12, K_takeNumber_10, K_takeNumber_7, K_takeNumber_4, K_takeNumber_13, K_takeNumber_5, K_takeNumber_2, K_takeNumber_3, K_takeNumber_1, M_takeNumber, K_m_readNumber_18, K_m_readNumber_17, K_m_readNumber_15, K_m_readNumber_16, K_m_readNumber_14, K_m_readNumber_13, K_m_readNumber_6, K_m_readNumber_12, K_m_readNumber_11, K_m_readNumber_9, K_m_readNumber_10, K_m_readNumber_8, K_m_readNumber_7, K_m_readNumber_5, K_m_readNumber_3, K_m_readNumber_4, K_m_readNumber_2, K_m_readNumber_1, M_m_readNumber]
  have z2 : (2 : Int32).toInt = 2 := by decide
  have z3 : (3 : Int32).toInt = 3 := by decide
  by_cases q : fl.toInt = 0
  · obtain ⟨e1, e2, r0, r1, r2, r3, k⟩ := hk q
    subst e1
    subst e2
    have k2 := xK2 k
    rw [if_pos q, if_pos q]
    by_cases q2 : kd.toInt = 2
    · obtain ⟨s2, ev⟩ := k2.1 q2
      subst ev
      rw [if_pos q2, if_pos s2]
      simp only [t_wants1]
      rw [if_pos q]
      by_cases q3 : lo.toInt ≤ vl.toInt ∧ vl.toInt ≤ hi.toInt
      · rw [if_neg (by omega : ¬ vl.toInt < lo.toInt), if_pos q3.2, if_pos q3]
        simp only [t_wants1]
        have w := r_tok (fp := fp) (kd := kd) (mv := vl) (mw := mw) (mr := fr) (so := so) hf hn (by omega) r2 (rfl : fl = fl) q
        exact ⟨w.1, fun z => ⟨q, trivial, q3.1, q3.2, w.2 z⟩⟩
      · rw [if_neg q3]
        simp only [t_wantsF q]
        rw [t_next_id (by omega)]
        by_cases q4 : vl.toInt < lo.toInt
        · rw [if_pos q4]
          simp only [t_refuse q]
          exact ⟨xR_no rfl (by show 0 < (3 : Int32).toInt; omega) rfl, fun z => absurd z (by show ¬ (3 : Int32).toInt = 0; omega)⟩
        · rw [if_neg q4, if_neg (by omega : ¬ vl.toInt ≤ hi.toInt)]
          simp only [t_refuse q]
          exact ⟨xR_no rfl (by show 0 < (3 : Int32).toInt; omega) rfl, fun z => absurd z (by show ¬ (3 : Int32).toInt = 0; omega)⟩
    · rw [if_neg q2, if_neg (fun z => q2 (k2.2 z))]
      simp only [t_wantsF q, t_refuse q]
      rw [if_neg (by omega), t_next_id (by omega)]
      exact ⟨xR_no rfl (by show 0 < (2 : Int32).toInt; omega) rfl, fun z => absurd z (by show ¬ (2 : Int32).toInt = 0; omega)⟩
  · rw [if_neg q, if_neg q, t_next_id (by omega)]
    exact ⟨xR_no rfl (by show 0 < fl.toInt; omega) (hw q), fun z => absurd z q⟩
theorem t_isSign {kd vl c : Int32} : M_isSign kd vl c = if kd.toInt = 3 ∧ vl.toInt = c.toInt then 1 else 0 := by
  simp only [K_isSign_5, K_isSign_4, K_isSign_3, K_isSign_2, K_isSign_1, M_isSign]
  by_cases q : kd.toInt = 3
  · rw [if_pos q]
    by_cases w : vl.toInt = c.toInt
    · rw [if_pos w, if_pos ⟨q, w⟩]
    · rw [if_neg w, if_neg (fun z => w z.2)]
  · rw [if_neg q, if_neg (fun z => q z.1)]
/-- the end of a line on both sides: a ; is taken -/
theorem r_sign {f : Nat → Int32} {n pl kd fr vl fl fp ps mr so mv mf mw : Int32} (hf : ∀ j, 0 ≤ (f j).toInt) (hn : n.toInt ≤ 400) (h : xR n pl kd fr vl fl fp ps mr so mv mf mw) : xRt n (M_takeSign fl pl kd fr vl fp n f 59) (if mf.toInt = 0 then (if so.toInt = 7 then M_m_next mf mv mw n f ps mr so else (ps, mr, so, mv, 2, mr)) else (ps, mr, so, mv, mf, mw)) ∧ ((M_takeSign fl pl kd fr vl fp n f 59).2.2.2.2.1.toInt = 0 → fl.toInt = 0 ∧ pl.toInt ≤ (M_takeSign fl pl kd fr vl fp n f 59).2.2.1.toInt) := by
  obtain ⟨e, hp, hw, hk⟩ := h
  subst e
  simp only [K_takeSign_7, K_takeSign_5, K_takeSign_8, K_takeSign_6, K_takeSign_4, K_takeSign_2, K_takeSign_3, K_takeSign_1, M_takeSign, t_isSign]
  by_cases q : fl.toInt = 0
  · obtain ⟨e1, e2, r0, r1, r2, r3, k⟩ := hk q
    subst e1
    subst e2
    rw [if_pos q, if_pos q]
    have z59 : (59 : Int32).toInt = 59 := by decide
    by_cases q7 : so.toInt = 7
    · have c9 : kd.toInt = 3 ∧ vl.toInt = (59 : Int32).toInt := by unfold xK at k; omega
      rw [if_pos c9, if_neg (by decide), if_pos q7]
      have w := r_tok (fp := fp) (kd := kd) (mv := mv) (mw := mw) (mr := fr) (so := so) hf hn (by omega) r2 (rfl : fl = fl) q
      exact ⟨w.1, fun z => ⟨q, w.2 z⟩⟩
    · have c9 : ¬ (kd.toInt = 3 ∧ vl.toInt = (59 : Int32).toInt) := by unfold xK at k; omega
      rw [if_neg c9, if_pos (by decide), if_neg q7]
      simp only [t_refuse q]
      exact ⟨xR_no rfl (by show 0 < (2 : Int32).toInt; decide) rfl, fun z => absurd z (by show ¬ (2 : Int32).toInt = 0; decide)⟩
  · rw [if_neg q, if_neg q]
    exact ⟨xR_no rfl (by show 0 < fl.toInt; omega) (hw q), fun z => absurd z q⟩
-- 34.words
def xW0 (f : Nat → Int32) (fr pl : Int32) : Prop := pl.toInt - fr.toInt = 4 ∧ (f fr.toNatClampNeg).toInt = 114 ∧ (f (fr + 1).toNatClampNeg).toInt = 97 ∧ (f (fr + 2).toNatClampNeg).toInt = 105 ∧ (f (fr + 3).toNatClampNeg).toInt = 108
def xW1 (f : Nat → Int32) (fr pl : Int32) : Prop := pl.toInt - fr.toInt = 4 ∧ (f fr.toNatClampNeg).toInt = 119 ∧ (f (fr + 1).toNatClampNeg).toInt = 104 ∧ (f (fr + 2).toNatClampNeg).toInt = 101 ∧ (f (fr + 3).toNatClampNeg).toInt = 110
def xW2 (f : Nat → Int32) (fr pl : Int32) : Prop := pl.toInt - fr.toInt = 4 ∧ (f fr.toNatClampNeg).toInt = 102 ∧ (f (fr + 1).toNatClampNeg).toInt = 97 ∧ (f (fr + 2).toNatClampNeg).toInt = 108 ∧ (f (fr + 3).toNatClampNeg).toInt = 108
def xW3 (f : Nat → Int32) (fr pl : Int32) : Prop := pl.toInt - fr.toInt = 4 ∧ (f fr.toNatClampNeg).toInt = 100 ∧ (f (fr + 1).toNatClampNeg).toInt = 114 ∧ (f (fr + 2).toNatClampNeg).toInt = 97 ∧ (f (fr + 3).toNatClampNeg).toInt = 119
def xW4 (f : Nat → Int32) (fr pl : Int32) : Prop := pl.toInt - fr.toInt = 4 ∧ (f fr.toNatClampNeg).toInt = 119 ∧ (f (fr + 1).toNatClampNeg).toInt = 97 ∧ (f (fr + 2).toNatClampNeg).toInt = 105 ∧ (f (fr + 3).toNatClampNeg).toInt = 116
def xW5 (f : Nat → Int32) (fr pl : Int32) : Prop := pl.toInt - fr.toInt = 6 ∧ (f fr.toNatClampNeg).toInt = 119 ∧ (f (fr + 1).toNatClampNeg).toInt = 105 ∧ (f (fr + 2).toNatClampNeg).toInt = 116 ∧ (f (fr + 3).toNatClampNeg).toInt = 104 ∧ (f (fr + 4).toNatClampNeg).toInt = 105 ∧ (f (fr + 5).toNatClampNeg).toInt = 110
def xW6 (f : Nat → Int32) (fr pl : Int32) : Prop := pl.toInt - fr.toInt = 3 ∧ (f fr.toNatClampNeg).toInt = 107 ∧ (f (fr + 1).toNatClampNeg).toInt = 101 ∧ (f (fr + 2).toNatClampNeg).toInt = 121
def xW7 (f : Nat → Int32) (fr pl : Int32) : Prop := pl.toInt - fr.toInt = 5 ∧ (f fr.toNatClampNeg).toInt = 108 ∧ (f (fr + 1).toNatClampNeg).toInt = 105 ∧ (f (fr + 2).toNatClampNeg).toInt = 109 ∧ (f (fr + 3).toNatClampNeg).toInt = 105 ∧ (f (fr + 4).toNatClampNeg).toInt = 116
def xW8 (f : Nat → Int32) (fr pl : Int32) : Prop := pl.toInt - fr.toInt = 5 ∧ (f fr.toNatClampNeg).toInt = 114 ∧ (f (fr + 1).toNatClampNeg).toInt = 101 ∧ (f (fr + 2).toNatClampNeg).toInt = 116 ∧ (f (fr + 3).toNatClampNeg).toInt = 114 ∧ (f (fr + 4).toNatClampNeg).toInt = 121
theorem w_L {f : Nat → Int32} {fr : Int32} {N ix : Nat} (k : Nat) (x : Int32) : K_isWord_L6 N f fr ix (k + 1) x = if ((N : Nat) : Int) ≤ x.toInt then 1 else if (f (fr + x).toNatClampNeg).toInt = (M_s_charAt ix x).toInt then K_isWord_L6 N f fr ix k (x + 1) else 0 := rfl
theorem w_rail {f : Nat → Int32} {kd pl fr : Int32} : M_isWord kd pl fr 4 f 0 = @ite _ (kd.toInt = 1 ∧ xW0 f fr pl) (Classical.propDecidable _) 1 0 := by
  simp only [K_isWord_7, K_isWord_10, K_isWord_11, K_isWord_9, K_isWord_8, K_isWord_6, K_isWord_4, K_isWord_5, K_isWord_3, K_isWord_2, K_isWord_1, M_isWord]
  by_cases q : kd.toInt = 1
  · rw [if_pos q]
    by_cases q1 : pl.toInt - fr.toInt = (((4 : Nat) : Nat) : Int)
    · rw [if_pos q1]
      rw [show K_isWord_L6 4 f fr 0 100000 0 = _ from w_L 99999 0, if_neg (by decide), show (M_s_charAt 0 0).toInt = 114 from by decide, Int32.add_zero]
      by_cases g0 : (f fr.toNatClampNeg).toInt = 114
      rotate_left
      · rw [if_neg g0, if_neg (fun z => g0 z.2.2.1)]
      rw [if_pos g0]
      rw [show (0 + 1 : Int32) = 1 from by decide, show K_isWord_L6 4 f fr 0 99999 1 = _ from w_L 99998 1, if_neg (by decide), show (M_s_charAt 0 1).toInt = 97 from by decide]
      by_cases g1 : (f (fr + 1).toNatClampNeg).toInt = 97
      rotate_left
      · rw [if_neg g1, if_neg (fun z => g1 z.2.2.2.1)]
      rw [if_pos g1]
      rw [show (1 + 1 : Int32) = 2 from by decide, show K_isWord_L6 4 f fr 0 99998 2 = _ from w_L 99997 2, if_neg (by decide), show (M_s_charAt 0 2).toInt = 105 from by decide]
      by_cases g2 : (f (fr + 2).toNatClampNeg).toInt = 105
      rotate_left
      · rw [if_neg g2, if_neg (fun z => g2 z.2.2.2.2.1)]
      rw [if_pos g2]
      rw [show (2 + 1 : Int32) = 3 from by decide, show K_isWord_L6 4 f fr 0 99997 3 = _ from w_L 99996 3, if_neg (by decide), show (M_s_charAt 0 3).toInt = 108 from by decide]
      by_cases g3 : (f (fr + 3).toNatClampNeg).toInt = 108
      rotate_left
      · rw [if_neg g3, if_neg (fun z => g3 z.2.2.2.2.2)]
      rw [if_pos g3]
      rw [show (3 + 1 : Int32) = 4 from by decide, show K_isWord_L6 4 f fr 0 99996 4 = _ from w_L 99995 4, if_pos (by decide), if_pos ⟨q, q1, g0, g1, g2, g3⟩]
    · rw [if_neg q1, if_neg (fun z => q1 z.2.1)]
  · rw [if_neg q, if_neg (fun z => q z.1)]
theorem w_when {f : Nat → Int32} {kd pl fr : Int32} : M_isWord kd pl fr 4 f 1 = @ite _ (kd.toInt = 1 ∧ xW1 f fr pl) (Classical.propDecidable _) 1 0 := by
  simp only [K_isWord_7, K_isWord_10, K_isWord_11, K_isWord_9, K_isWord_8, K_isWord_6, K_isWord_4, K_isWord_5, K_isWord_3, K_isWord_2, K_isWord_1, M_isWord]
  by_cases q : kd.toInt = 1
  · rw [if_pos q]
    by_cases q1 : pl.toInt - fr.toInt = (((4 : Nat) : Nat) : Int)
    · rw [if_pos q1]
      rw [show K_isWord_L6 4 f fr 1 100000 0 = _ from w_L 99999 0, if_neg (by decide), show (M_s_charAt 1 0).toInt = 119 from by decide, Int32.add_zero]
      by_cases g0 : (f fr.toNatClampNeg).toInt = 119
      rotate_left
      · rw [if_neg g0, if_neg (fun z => g0 z.2.2.1)]
      rw [if_pos g0]
      rw [show (0 + 1 : Int32) = 1 from by decide, show K_isWord_L6 4 f fr 1 99999 1 = _ from w_L 99998 1, if_neg (by decide), show (M_s_charAt 1 1).toInt = 104 from by decide]
      by_cases g1 : (f (fr + 1).toNatClampNeg).toInt = 104
      rotate_left
      · rw [if_neg g1, if_neg (fun z => g1 z.2.2.2.1)]
      rw [if_pos g1]
      rw [show (1 + 1 : Int32) = 2 from by decide, show K_isWord_L6 4 f fr 1 99998 2 = _ from w_L 99997 2, if_neg (by decide), show (M_s_charAt 1 2).toInt = 101 from by decide]
      by_cases g2 : (f (fr + 2).toNatClampNeg).toInt = 101
      rotate_left
      · rw [if_neg g2, if_neg (fun z => g2 z.2.2.2.2.1)]
      rw [if_pos g2]
      rw [show (2 + 1 : Int32) = 3 from by decide, show K_isWord_L6 4 f fr 1 99997 3 = _ from w_L 99996 3, if_neg (by decide), show (M_s_charAt 1 3).toInt = 110 from by decide]
      by_cases g3 : (f (fr + 3).toNatClampNeg).toInt = 110
      rotate_left
      · rw [if_neg g3, if_neg (fun z => g3 z.2.2.2.2.2)]
      rw [if_pos g3]
      rw [show (3 + 1 : Int32) = 4 from by decide, show K_isWord_L6 4 f fr 1 99996 4 = _ from w_L 99995 4, if_pos (by decide), if_pos ⟨q, q1, g0, g1, g2, g3⟩]
    · rw [if_neg q1, if_neg (fun z => q1 z.2.1)]
  · rw [if_neg q, if_neg (fun z => q z.1)]
theorem w_fall {f : Nat → Int32} {kd pl fr : Int32} : M_isWord kd pl fr 4 f 2 = @ite _ (kd.toInt = 1 ∧ xW2 f fr pl) (Classical.propDecidable _) 1 0 := by
  simp only [K_isWord_7, K_isWord_10, K_isWord_11, K_isWord_9, K_isWord_8, K_isWord_6, K_isWord_4, K_isWord_5, K_isWord_3, K_isWord_2, K_isWord_1, M_isWord]
  by_cases q : kd.toInt = 1
  · rw [if_pos q]
    by_cases q1 : pl.toInt - fr.toInt = (((4 : Nat) : Nat) : Int)
    · rw [if_pos q1]
      rw [show K_isWord_L6 4 f fr 2 100000 0 = _ from w_L 99999 0, if_neg (by decide), show (M_s_charAt 2 0).toInt = 102 from by decide, Int32.add_zero]
      by_cases g0 : (f fr.toNatClampNeg).toInt = 102
      rotate_left
      · rw [if_neg g0, if_neg (fun z => g0 z.2.2.1)]
      rw [if_pos g0]
      rw [show (0 + 1 : Int32) = 1 from by decide, show K_isWord_L6 4 f fr 2 99999 1 = _ from w_L 99998 1, if_neg (by decide), show (M_s_charAt 2 1).toInt = 97 from by decide]
      by_cases g1 : (f (fr + 1).toNatClampNeg).toInt = 97
      rotate_left
      · rw [if_neg g1, if_neg (fun z => g1 z.2.2.2.1)]
      rw [if_pos g1]
      rw [show (1 + 1 : Int32) = 2 from by decide, show K_isWord_L6 4 f fr 2 99998 2 = _ from w_L 99997 2, if_neg (by decide), show (M_s_charAt 2 2).toInt = 108 from by decide]
      by_cases g2 : (f (fr + 2).toNatClampNeg).toInt = 108
      rotate_left
      · rw [if_neg g2, if_neg (fun z => g2 z.2.2.2.2.1)]
      rw [if_pos g2]
      rw [show (2 + 1 : Int32) = 3 from by decide, show K_isWord_L6 4 f fr 2 99997 3 = _ from w_L 99996 3, if_neg (by decide), show (M_s_charAt 2 3).toInt = 108 from by decide]
      by_cases g3 : (f (fr + 3).toNatClampNeg).toInt = 108
      rotate_left
      · rw [if_neg g3, if_neg (fun z => g3 z.2.2.2.2.2)]
      rw [if_pos g3]
      rw [show (3 + 1 : Int32) = 4 from by decide, show K_isWord_L6 4 f fr 2 99996 4 = _ from w_L 99995 4, if_pos (by decide), if_pos ⟨q, q1, g0, g1, g2, g3⟩]
    · rw [if_neg q1, if_neg (fun z => q1 z.2.1)]
  · rw [if_neg q, if_neg (fun z => q z.1)]
theorem w_draw {f : Nat → Int32} {kd pl fr : Int32} : M_isWord kd pl fr 4 f 3 = @ite _ (kd.toInt = 1 ∧ xW3 f fr pl) (Classical.propDecidable _) 1 0 := by
  simp only [K_isWord_7, K_isWord_10, K_isWord_11, K_isWord_9, K_isWord_8, K_isWord_6, K_isWord_4, K_isWord_5, K_isWord_3, K_isWord_2, K_isWord_1, M_isWord]
  by_cases q : kd.toInt = 1
  · rw [if_pos q]
    by_cases q1 : pl.toInt - fr.toInt = (((4 : Nat) : Nat) : Int)
    · rw [if_pos q1]
      rw [show K_isWord_L6 4 f fr 3 100000 0 = _ from w_L 99999 0, if_neg (by decide), show (M_s_charAt 3 0).toInt = 100 from by decide, Int32.add_zero]
      by_cases g0 : (f fr.toNatClampNeg).toInt = 100
      rotate_left
      · rw [if_neg g0, if_neg (fun z => g0 z.2.2.1)]
      rw [if_pos g0]
      rw [show (0 + 1 : Int32) = 1 from by decide, show K_isWord_L6 4 f fr 3 99999 1 = _ from w_L 99998 1, if_neg (by decide), show (M_s_charAt 3 1).toInt = 114 from by decide]
      by_cases g1 : (f (fr + 1).toNatClampNeg).toInt = 114
      rotate_left
      · rw [if_neg g1, if_neg (fun z => g1 z.2.2.2.1)]
      rw [if_pos g1]
      rw [show (1 + 1 : Int32) = 2 from by decide, show K_isWord_L6 4 f fr 3 99998 2 = _ from w_L 99997 2, if_neg (by decide), show (M_s_charAt 3 2).toInt = 97 from by decide]
      by_cases g2 : (f (fr + 2).toNatClampNeg).toInt = 97
      rotate_left
      · rw [if_neg g2, if_neg (fun z => g2 z.2.2.2.2.1)]
      rw [if_pos g2]
      rw [show (2 + 1 : Int32) = 3 from by decide, show K_isWord_L6 4 f fr 3 99997 3 = _ from w_L 99996 3, if_neg (by decide), show (M_s_charAt 3 3).toInt = 119 from by decide]
      by_cases g3 : (f (fr + 3).toNatClampNeg).toInt = 119
      rotate_left
      · rw [if_neg g3, if_neg (fun z => g3 z.2.2.2.2.2)]
      rw [if_pos g3]
      rw [show (3 + 1 : Int32) = 4 from by decide, show K_isWord_L6 4 f fr 3 99996 4 = _ from w_L 99995 4, if_pos (by decide), if_pos ⟨q, q1, g0, g1, g2, g3⟩]
    · rw [if_neg q1, if_neg (fun z => q1 z.2.1)]
  · rw [if_neg q, if_neg (fun z => q z.1)]
theorem w_wait {f : Nat → Int32} {kd pl fr : Int32} : M_isWord kd pl fr 4 f 4 = @ite _ (kd.toInt = 1 ∧ xW4 f fr pl) (Classical.propDecidable _) 1 0 := by
  simp only [K_isWord_7, K_isWord_10, K_isWord_11, K_isWord_9, K_isWord_8, K_isWord_6, K_isWord_4, K_isWord_5, K_isWord_3, K_isWord_2, K_isWord_1, M_isWord]
  by_cases q : kd.toInt = 1
  · rw [if_pos q]
    by_cases q1 : pl.toInt - fr.toInt = (((4 : Nat) : Nat) : Int)
    · rw [if_pos q1]
      rw [show K_isWord_L6 4 f fr 4 100000 0 = _ from w_L 99999 0, if_neg (by decide), show (M_s_charAt 4 0).toInt = 119 from by decide, Int32.add_zero]
      by_cases g0 : (f fr.toNatClampNeg).toInt = 119
      rotate_left
      · rw [if_neg g0, if_neg (fun z => g0 z.2.2.1)]
      rw [if_pos g0]
      rw [show (0 + 1 : Int32) = 1 from by decide, show K_isWord_L6 4 f fr 4 99999 1 = _ from w_L 99998 1, if_neg (by decide), show (M_s_charAt 4 1).toInt = 97 from by decide]
      by_cases g1 : (f (fr + 1).toNatClampNeg).toInt = 97
      rotate_left
      · rw [if_neg g1, if_neg (fun z => g1 z.2.2.2.1)]
      rw [if_pos g1]
      rw [show (1 + 1 : Int32) = 2 from by decide, show K_isWord_L6 4 f fr 4 99998 2 = _ from w_L 99997 2, if_neg (by decide), show (M_s_charAt 4 2).toInt = 105 from by decide]
      by_cases g2 : (f (fr + 2).toNatClampNeg).toInt = 105
      rotate_left
      · rw [if_neg g2, if_neg (fun z => g2 z.2.2.2.2.1)]
      rw [if_pos g2]
      rw [show (2 + 1 : Int32) = 3 from by decide, show K_isWord_L6 4 f fr 4 99997 3 = _ from w_L 99996 3, if_neg (by decide), show (M_s_charAt 4 3).toInt = 116 from by decide]
      by_cases g3 : (f (fr + 3).toNatClampNeg).toInt = 116
      rotate_left
      · rw [if_neg g3, if_neg (fun z => g3 z.2.2.2.2.2)]
      rw [if_pos g3]
      rw [show (3 + 1 : Int32) = 4 from by decide, show K_isWord_L6 4 f fr 4 99996 4 = _ from w_L 99995 4, if_pos (by decide), if_pos ⟨q, q1, g0, g1, g2, g3⟩]
    · rw [if_neg q1, if_neg (fun z => q1 z.2.1)]
  · rw [if_neg q, if_neg (fun z => q z.1)]
theorem w_within {f : Nat → Int32} {kd pl fr : Int32} : M_isWord kd pl fr 6 f 5 = @ite _ (kd.toInt = 1 ∧ xW5 f fr pl) (Classical.propDecidable _) 1 0 := by
  simp only [K_isWord_7, K_isWord_10, K_isWord_11, K_isWord_9, K_isWord_8, K_isWord_6, K_isWord_4, K_isWord_5, K_isWord_3, K_isWord_2, K_isWord_1, M_isWord]
  by_cases q : kd.toInt = 1
  · rw [if_pos q]
    by_cases q1 : pl.toInt - fr.toInt = (((6 : Nat) : Nat) : Int)
    · rw [if_pos q1]
      rw [show K_isWord_L6 6 f fr 5 100000 0 = _ from w_L 99999 0, if_neg (by decide), show (M_s_charAt 5 0).toInt = 119 from by decide, Int32.add_zero]
      by_cases g0 : (f fr.toNatClampNeg).toInt = 119
      rotate_left
      · rw [if_neg g0, if_neg (fun z => g0 z.2.2.1)]
      rw [if_pos g0]
      rw [show (0 + 1 : Int32) = 1 from by decide, show K_isWord_L6 6 f fr 5 99999 1 = _ from w_L 99998 1, if_neg (by decide), show (M_s_charAt 5 1).toInt = 105 from by decide]
      by_cases g1 : (f (fr + 1).toNatClampNeg).toInt = 105
      rotate_left
      · rw [if_neg g1, if_neg (fun z => g1 z.2.2.2.1)]
      rw [if_pos g1]
      rw [show (1 + 1 : Int32) = 2 from by decide, show K_isWord_L6 6 f fr 5 99998 2 = _ from w_L 99997 2, if_neg (by decide), show (M_s_charAt 5 2).toInt = 116 from by decide]
      by_cases g2 : (f (fr + 2).toNatClampNeg).toInt = 116
      rotate_left
      · rw [if_neg g2, if_neg (fun z => g2 z.2.2.2.2.1)]
      rw [if_pos g2]
      rw [show (2 + 1 : Int32) = 3 from by decide, show K_isWord_L6 6 f fr 5 99997 3 = _ from w_L 99996 3, if_neg (by decide), show (M_s_charAt 5 3).toInt = 104 from by decide]
      by_cases g3 : (f (fr + 3).toNatClampNeg).toInt = 104
      rotate_left
      · rw [if_neg g3, if_neg (fun z => g3 z.2.2.2.2.2.1)]
      rw [if_pos g3]
      rw [show (3 + 1 : Int32) = 4 from by decide, show K_isWord_L6 6 f fr 5 99996 4 = _ from w_L 99995 4, if_neg (by decide), show (M_s_charAt 5 4).toInt = 105 from by decide]
      by_cases g4 : (f (fr + 4).toNatClampNeg).toInt = 105
      rotate_left
      · rw [if_neg g4, if_neg (fun z => g4 z.2.2.2.2.2.2.1)]
      rw [if_pos g4]
      rw [show (4 + 1 : Int32) = 5 from by decide, show K_isWord_L6 6 f fr 5 99995 5 = _ from w_L 99994 5, if_neg (by decide), show (M_s_charAt 5 5).toInt = 110 from by decide]
      by_cases g5 : (f (fr + 5).toNatClampNeg).toInt = 110
      rotate_left
      · rw [if_neg g5, if_neg (fun z => g5 z.2.2.2.2.2.2.2)]
      rw [if_pos g5]
      rw [show (5 + 1 : Int32) = 6 from by decide, show K_isWord_L6 6 f fr 5 99994 6 = _ from w_L 99993 6, if_pos (by decide), if_pos ⟨q, q1, g0, g1, g2, g3, g4, g5⟩]
    · rw [if_neg q1, if_neg (fun z => q1 z.2.1)]
  · rw [if_neg q, if_neg (fun z => q z.1)]
theorem w_key {f : Nat → Int32} {kd pl fr : Int32} : M_isWord kd pl fr 3 f 6 = @ite _ (kd.toInt = 1 ∧ xW6 f fr pl) (Classical.propDecidable _) 1 0 := by
  simp only [K_isWord_7, K_isWord_10, K_isWord_11, K_isWord_9, K_isWord_8, K_isWord_6, K_isWord_4, K_isWord_5, K_isWord_3, K_isWord_2, K_isWord_1, M_isWord]
  by_cases q : kd.toInt = 1
  · rw [if_pos q]
    by_cases q1 : pl.toInt - fr.toInt = (((3 : Nat) : Nat) : Int)
    · rw [if_pos q1]
      rw [show K_isWord_L6 3 f fr 6 100000 0 = _ from w_L 99999 0, if_neg (by decide), show (M_s_charAt 6 0).toInt = 107 from by decide, Int32.add_zero]
      by_cases g0 : (f fr.toNatClampNeg).toInt = 107
      rotate_left
      · rw [if_neg g0, if_neg (fun z => g0 z.2.2.1)]
      rw [if_pos g0]
      rw [show (0 + 1 : Int32) = 1 from by decide, show K_isWord_L6 3 f fr 6 99999 1 = _ from w_L 99998 1, if_neg (by decide), show (M_s_charAt 6 1).toInt = 101 from by decide]
      by_cases g1 : (f (fr + 1).toNatClampNeg).toInt = 101
      rotate_left
      · rw [if_neg g1, if_neg (fun z => g1 z.2.2.2.1)]
      rw [if_pos g1]
      rw [show (1 + 1 : Int32) = 2 from by decide, show K_isWord_L6 3 f fr 6 99998 2 = _ from w_L 99997 2, if_neg (by decide), show (M_s_charAt 6 2).toInt = 121 from by decide]
      by_cases g2 : (f (fr + 2).toNatClampNeg).toInt = 121
      rotate_left
      · rw [if_neg g2, if_neg (fun z => g2 z.2.2.2.2)]
      rw [if_pos g2]
      rw [show (2 + 1 : Int32) = 3 from by decide, show K_isWord_L6 3 f fr 6 99997 3 = _ from w_L 99996 3, if_pos (by decide), if_pos ⟨q, q1, g0, g1, g2⟩]
    · rw [if_neg q1, if_neg (fun z => q1 z.2.1)]
  · rw [if_neg q, if_neg (fun z => q z.1)]
theorem w_limit {f : Nat → Int32} {kd pl fr : Int32} : M_isWord kd pl fr 5 f 7 = @ite _ (kd.toInt = 1 ∧ xW7 f fr pl) (Classical.propDecidable _) 1 0 := by
  simp only [K_isWord_7, K_isWord_10, K_isWord_11, K_isWord_9, K_isWord_8, K_isWord_6, K_isWord_4, K_isWord_5, K_isWord_3, K_isWord_2, K_isWord_1, M_isWord]
  by_cases q : kd.toInt = 1
  · rw [if_pos q]
    by_cases q1 : pl.toInt - fr.toInt = (((5 : Nat) : Nat) : Int)
    · rw [if_pos q1]
      rw [show K_isWord_L6 5 f fr 7 100000 0 = _ from w_L 99999 0, if_neg (by decide), show (M_s_charAt 7 0).toInt = 108 from by decide, Int32.add_zero]
      by_cases g0 : (f fr.toNatClampNeg).toInt = 108
      rotate_left
      · rw [if_neg g0, if_neg (fun z => g0 z.2.2.1)]
      rw [if_pos g0]
      rw [show (0 + 1 : Int32) = 1 from by decide, show K_isWord_L6 5 f fr 7 99999 1 = _ from w_L 99998 1, if_neg (by decide), show (M_s_charAt 7 1).toInt = 105 from by decide]
      by_cases g1 : (f (fr + 1).toNatClampNeg).toInt = 105
      rotate_left
      · rw [if_neg g1, if_neg (fun z => g1 z.2.2.2.1)]
      rw [if_pos g1]
      rw [show (1 + 1 : Int32) = 2 from by decide, show K_isWord_L6 5 f fr 7 99998 2 = _ from w_L 99997 2, if_neg (by decide), show (M_s_charAt 7 2).toInt = 109 from by decide]
      by_cases g2 : (f (fr + 2).toNatClampNeg).toInt = 109
      rotate_left
      · rw [if_neg g2, if_neg (fun z => g2 z.2.2.2.2.1)]
      rw [if_pos g2]
      rw [show (2 + 1 : Int32) = 3 from by decide, show K_isWord_L6 5 f fr 7 99997 3 = _ from w_L 99996 3, if_neg (by decide), show (M_s_charAt 7 3).toInt = 105 from by decide]
      by_cases g3 : (f (fr + 3).toNatClampNeg).toInt = 105
      rotate_left
      · rw [if_neg g3, if_neg (fun z => g3 z.2.2.2.2.2.1)]
      rw [if_pos g3]
      rw [show (3 + 1 : Int32) = 4 from by decide, show K_isWord_L6 5 f fr 7 99996 4 = _ from w_L 99995 4, if_neg (by decide), show (M_s_charAt 7 4).toInt = 116 from by decide]
      by_cases g4 : (f (fr + 4).toNatClampNeg).toInt = 116
      rotate_left
      · rw [if_neg g4, if_neg (fun z => g4 z.2.2.2.2.2.2)]
      rw [if_pos g4]
      rw [show (4 + 1 : Int32) = 5 from by decide, show K_isWord_L6 5 f fr 7 99995 5 = _ from w_L 99994 5, if_pos (by decide), if_pos ⟨q, q1, g0, g1, g2, g3, g4⟩]
    · rw [if_neg q1, if_neg (fun z => q1 z.2.1)]
  · rw [if_neg q, if_neg (fun z => q z.1)]
theorem w_retry {f : Nat → Int32} {kd pl fr : Int32} : M_isWord kd pl fr 5 f 8 = @ite _ (kd.toInt = 1 ∧ xW8 f fr pl) (Classical.propDecidable _) 1 0 := by
  simp only [K_isWord_7, K_isWord_10, K_isWord_11, K_isWord_9, K_isWord_8, K_isWord_6, K_isWord_4, K_isWord_5, K_isWord_3, K_isWord_2, K_isWord_1, M_isWord]
  by_cases q : kd.toInt = 1
  · rw [if_pos q]
    by_cases q1 : pl.toInt - fr.toInt = (((5 : Nat) : Nat) : Int)
    · rw [if_pos q1]
      rw [show K_isWord_L6 5 f fr 8 100000 0 = _ from w_L 99999 0, if_neg (by decide), show (M_s_charAt 8 0).toInt = 114 from by decide, Int32.add_zero]
      by_cases g0 : (f fr.toNatClampNeg).toInt = 114
      rotate_left
      · rw [if_neg g0, if_neg (fun z => g0 z.2.2.1)]
      rw [if_pos g0]
      rw [show (0 + 1 : Int32) = 1 from by decide, show K_isWord_L6 5 f fr 8 99999 1 = _ from w_L 99998 1, if_neg (by decide), show (M_s_charAt 8 1).toInt = 101 from by decide]
      by_cases g1 : (f (fr + 1).toNatClampNeg).toInt = 101
      rotate_left
      · rw [if_neg g1, if_neg (fun z => g1 z.2.2.2.1)]
      rw [if_pos g1]
      rw [show (1 + 1 : Int32) = 2 from by decide, show K_isWord_L6 5 f fr 8 99998 2 = _ from w_L 99997 2, if_neg (by decide), show (M_s_charAt 8 2).toInt = 116 from by decide]
      by_cases g2 : (f (fr + 2).toNatClampNeg).toInt = 116
      rotate_left
      · rw [if_neg g2, if_neg (fun z => g2 z.2.2.2.2.1)]
      rw [if_pos g2]
      rw [show (2 + 1 : Int32) = 3 from by decide, show K_isWord_L6 5 f fr 8 99997 3 = _ from w_L 99996 3, if_neg (by decide), show (M_s_charAt 8 3).toInt = 114 from by decide]
      by_cases g3 : (f (fr + 3).toNatClampNeg).toInt = 114
      rotate_left
      · rw [if_neg g3, if_neg (fun z => g3 z.2.2.2.2.2.1)]
      rw [if_pos g3]
      rw [show (3 + 1 : Int32) = 4 from by decide, show K_isWord_L6 5 f fr 8 99996 4 = _ from w_L 99995 4, if_neg (by decide), show (M_s_charAt 8 4).toInt = 121 from by decide]
      by_cases g4 : (f (fr + 4).toNatClampNeg).toInt = 121
      rotate_left
      · rw [if_neg g4, if_neg (fun z => g4 z.2.2.2.2.2.2)]
      rw [if_pos g4]
      rw [show (4 + 1 : Int32) = 5 from by decide, show K_isWord_L6 5 f fr 8 99995 5 = _ from w_L 99994 5, if_pos (by decide), if_pos ⟨q, q1, g0, g1, g2, g3, g4⟩]
    · rw [if_neg q1, if_neg (fun z => q1 z.2.1)]
  · rw [if_neg q, if_neg (fun z => q z.1)]
-- 35.names
def xV0 (f : Nat → Int32) (n fr pl : Int32) : Prop := pl.toInt - fr.toInt = 4 ∧ (sp_look f n fr).toInt = 114 ∧ (sp_look f n (fr + 1)).toInt = 97 ∧ (sp_look f n (fr + 2)).toInt = 105 ∧ (sp_look f n (fr + 3)).toInt = 108
def xV1 (f : Nat → Int32) (n fr pl : Int32) : Prop := pl.toInt - fr.toInt = 4 ∧ (sp_look f n fr).toInt = 119 ∧ (sp_look f n (fr + 1)).toInt = 104 ∧ (sp_look f n (fr + 2)).toInt = 101 ∧ (sp_look f n (fr + 3)).toInt = 110
def xV2 (f : Nat → Int32) (n fr pl : Int32) : Prop := pl.toInt - fr.toInt = 4 ∧ (sp_look f n fr).toInt = 102 ∧ (sp_look f n (fr + 1)).toInt = 97 ∧ (sp_look f n (fr + 2)).toInt = 108 ∧ (sp_look f n (fr + 3)).toInt = 108
def xV3 (f : Nat → Int32) (n fr pl : Int32) : Prop := pl.toInt - fr.toInt = 4 ∧ (sp_look f n fr).toInt = 100 ∧ (sp_look f n (fr + 1)).toInt = 114 ∧ (sp_look f n (fr + 2)).toInt = 97 ∧ (sp_look f n (fr + 3)).toInt = 119
def xV4 (f : Nat → Int32) (n fr pl : Int32) : Prop := pl.toInt - fr.toInt = 4 ∧ (sp_look f n fr).toInt = 119 ∧ (sp_look f n (fr + 1)).toInt = 97 ∧ (sp_look f n (fr + 2)).toInt = 105 ∧ (sp_look f n (fr + 3)).toInt = 116
def xV5 (f : Nat → Int32) (n fr pl : Int32) : Prop := pl.toInt - fr.toInt = 6 ∧ (sp_look f n fr).toInt = 119 ∧ (sp_look f n (fr + 1)).toInt = 105 ∧ (sp_look f n (fr + 2)).toInt = 116 ∧ (sp_look f n (fr + 3)).toInt = 104 ∧ (sp_look f n (fr + 4)).toInt = 105 ∧ (sp_look f n (fr + 5)).toInt = 110
def xV6 (f : Nat → Int32) (n fr pl : Int32) : Prop := pl.toInt - fr.toInt = 3 ∧ (sp_look f n fr).toInt = 107 ∧ (sp_look f n (fr + 1)).toInt = 101 ∧ (sp_look f n (fr + 2)).toInt = 121
def xV7 (f : Nat → Int32) (n fr pl : Int32) : Prop := pl.toInt - fr.toInt = 5 ∧ (sp_look f n fr).toInt = 108 ∧ (sp_look f n (fr + 1)).toInt = 105 ∧ (sp_look f n (fr + 2)).toInt = 109 ∧ (sp_look f n (fr + 3)).toInt = 105 ∧ (sp_look f n (fr + 4)).toInt = 116
def xV8 (f : Nat → Int32) (n fr pl : Int32) : Prop := pl.toInt - fr.toInt = 5 ∧ (sp_look f n fr).toInt = 114 ∧ (sp_look f n (fr + 1)).toInt = 101 ∧ (sp_look f n (fr + 2)).toInt = 116 ∧ (sp_look f n (fr + 3)).toInt = 114 ∧ (sp_look f n (fr + 4)).toInt = 121
theorem is_rail {f : Nat → Int32} {n ps fr : Int32} : M_m_is ps fr 4 114 97 105 108 n f = @ite _ (xV0 f n fr ps) (Classical.propDecidable _) 1 0 := by
  simp only [K_m_is_13, K_m_is_17, K_m_is_16, K_m_is_15, K_m_is_14, K_m_is_12, K_m_is_11, K_m_is_10, K_m_is_9, K_m_is_8, K_m_is_7, K_m_is_6, K_m_is_5, K_m_is_4, K_m_is_3, K_m_is_2, K_m_is_1, M_m_is, t_look, show (4 : Int32).toInt = 4 from by decide, show (97 : Int32).toInt = 97 from by decide, show (105 : Int32).toInt = 105 from by decide, show (108 : Int32).toInt = 108 from by decide, show (114 : Int32).toInt = 114 from by decide]
  by_cases q1 : ps.toInt - fr.toInt = 4
  rotate_left
  · rw [if_neg q1, if_neg (fun z => q1 z.1)]
  rw [if_pos q1]
  by_cases g0 : (sp_look f n fr).toInt = 114
  rotate_left
  · rw [if_neg g0, if_neg (fun z => g0 z.2.1)]
  rw [if_pos g0]
  by_cases g1 : (sp_look f n (fr + 1)).toInt = 97
  rotate_left
  · rw [if_neg g1, if_neg (fun z => g1 z.2.2.1)]
  rw [if_pos g1]
  by_cases g2 : (sp_look f n (fr + 2)).toInt = 105
  rotate_left
  · rw [if_neg g2, if_neg (fun z => g2 z.2.2.2.1)]
  rw [if_pos g2]
  rw [if_neg (by decide)]
  by_cases g3 : (sp_look f n (fr + 3)).toInt = 108
  · rw [if_pos g3, if_pos ⟨q1, g0, g1, g2, g3⟩]
  · rw [if_neg g3, if_neg (fun z => g3 z.2.2.2.2)]
theorem is_when {f : Nat → Int32} {n ps fr : Int32} : M_m_is ps fr 4 119 104 101 110 n f = @ite _ (xV1 f n fr ps) (Classical.propDecidable _) 1 0 := by
  simp only [K_m_is_13, K_m_is_17, K_m_is_16, K_m_is_15, K_m_is_14, K_m_is_12, K_m_is_11, K_m_is_10, K_m_is_9, K_m_is_8, K_m_is_7, K_m_is_6, K_m_is_5, K_m_is_4, K_m_is_3, K_m_is_2, K_m_is_1, M_m_is, t_look, show (4 : Int32).toInt = 4 from by decide, show (101 : Int32).toInt = 101 from by decide, show (104 : Int32).toInt = 104 from by decide, show (110 : Int32).toInt = 110 from by decide, show (119 : Int32).toInt = 119 from by decide]
  by_cases q1 : ps.toInt - fr.toInt = 4
  rotate_left
  · rw [if_neg q1, if_neg (fun z => q1 z.1)]
  rw [if_pos q1]
  by_cases g0 : (sp_look f n fr).toInt = 119
  rotate_left
  · rw [if_neg g0, if_neg (fun z => g0 z.2.1)]
  rw [if_pos g0]
  by_cases g1 : (sp_look f n (fr + 1)).toInt = 104
  rotate_left
  · rw [if_neg g1, if_neg (fun z => g1 z.2.2.1)]
  rw [if_pos g1]
  by_cases g2 : (sp_look f n (fr + 2)).toInt = 101
  rotate_left
  · rw [if_neg g2, if_neg (fun z => g2 z.2.2.2.1)]
  rw [if_pos g2]
  rw [if_neg (by decide)]
  by_cases g3 : (sp_look f n (fr + 3)).toInt = 110
  · rw [if_pos g3, if_pos ⟨q1, g0, g1, g2, g3⟩]
  · rw [if_neg g3, if_neg (fun z => g3 z.2.2.2.2)]
theorem is_fall {f : Nat → Int32} {n ps fr : Int32} : M_m_is ps fr 4 102 97 108 108 n f = @ite _ (xV2 f n fr ps) (Classical.propDecidable _) 1 0 := by
  simp only [K_m_is_13, K_m_is_17, K_m_is_16, K_m_is_15, K_m_is_14, K_m_is_12, K_m_is_11, K_m_is_10, K_m_is_9, K_m_is_8, K_m_is_7, K_m_is_6, K_m_is_5, K_m_is_4, K_m_is_3, K_m_is_2, K_m_is_1, M_m_is, t_look, show (4 : Int32).toInt = 4 from by decide, show (97 : Int32).toInt = 97 from by decide, show (102 : Int32).toInt = 102 from by decide, show (108 : Int32).toInt = 108 from by decide]
  by_cases q1 : ps.toInt - fr.toInt = 4
  rotate_left
  · rw [if_neg q1, if_neg (fun z => q1 z.1)]
  rw [if_pos q1]
  by_cases g0 : (sp_look f n fr).toInt = 102
  rotate_left
  · rw [if_neg g0, if_neg (fun z => g0 z.2.1)]
  rw [if_pos g0]
  by_cases g1 : (sp_look f n (fr + 1)).toInt = 97
  rotate_left
  · rw [if_neg g1, if_neg (fun z => g1 z.2.2.1)]
  rw [if_pos g1]
  by_cases g2 : (sp_look f n (fr + 2)).toInt = 108
  rotate_left
  · rw [if_neg g2, if_neg (fun z => g2 z.2.2.2.1)]
  rw [if_pos g2]
  rw [if_neg (by decide)]
  by_cases g3 : (sp_look f n (fr + 3)).toInt = 108
  · rw [if_pos g3, if_pos ⟨q1, g0, g1, g2, g3⟩]
  · rw [if_neg g3, if_neg (fun z => g3 z.2.2.2.2)]
theorem is_draw {f : Nat → Int32} {n ps fr : Int32} : M_m_is ps fr 4 100 114 97 119 n f = @ite _ (xV3 f n fr ps) (Classical.propDecidable _) 1 0 := by
  simp only [K_m_is_13, K_m_is_17, K_m_is_16, K_m_is_15, K_m_is_14, K_m_is_12, K_m_is_11, K_m_is_10, K_m_is_9, K_m_is_8, K_m_is_7, K_m_is_6, K_m_is_5, K_m_is_4, K_m_is_3, K_m_is_2, K_m_is_1, M_m_is, t_look, show (4 : Int32).toInt = 4 from by decide, show (97 : Int32).toInt = 97 from by decide, show (100 : Int32).toInt = 100 from by decide, show (114 : Int32).toInt = 114 from by decide, show (119 : Int32).toInt = 119 from by decide]
  by_cases q1 : ps.toInt - fr.toInt = 4
  rotate_left
  · rw [if_neg q1, if_neg (fun z => q1 z.1)]
  rw [if_pos q1]
  by_cases g0 : (sp_look f n fr).toInt = 100
  rotate_left
  · rw [if_neg g0, if_neg (fun z => g0 z.2.1)]
  rw [if_pos g0]
  by_cases g1 : (sp_look f n (fr + 1)).toInt = 114
  rotate_left
  · rw [if_neg g1, if_neg (fun z => g1 z.2.2.1)]
  rw [if_pos g1]
  by_cases g2 : (sp_look f n (fr + 2)).toInt = 97
  rotate_left
  · rw [if_neg g2, if_neg (fun z => g2 z.2.2.2.1)]
  rw [if_pos g2]
  rw [if_neg (by decide)]
  by_cases g3 : (sp_look f n (fr + 3)).toInt = 119
  · rw [if_pos g3, if_pos ⟨q1, g0, g1, g2, g3⟩]
  · rw [if_neg g3, if_neg (fun z => g3 z.2.2.2.2)]
theorem is_wait {f : Nat → Int32} {n ps fr : Int32} : M_m_is ps fr 4 119 97 105 116 n f = @ite _ (xV4 f n fr ps) (Classical.propDecidable _) 1 0 := by
  simp only [K_m_is_13, K_m_is_17, K_m_is_16, K_m_is_15, K_m_is_14, K_m_is_12, K_m_is_11, K_m_is_10, K_m_is_9, K_m_is_8, K_m_is_7, K_m_is_6, K_m_is_5, K_m_is_4, K_m_is_3, K_m_is_2, K_m_is_1, M_m_is, t_look, show (4 : Int32).toInt = 4 from by decide, show (97 : Int32).toInt = 97 from by decide, show (105 : Int32).toInt = 105 from by decide, show (116 : Int32).toInt = 116 from by decide, show (119 : Int32).toInt = 119 from by decide]
  by_cases q1 : ps.toInt - fr.toInt = 4
  rotate_left
  · rw [if_neg q1, if_neg (fun z => q1 z.1)]
  rw [if_pos q1]
  by_cases g0 : (sp_look f n fr).toInt = 119
  rotate_left
  · rw [if_neg g0, if_neg (fun z => g0 z.2.1)]
  rw [if_pos g0]
  by_cases g1 : (sp_look f n (fr + 1)).toInt = 97
  rotate_left
  · rw [if_neg g1, if_neg (fun z => g1 z.2.2.1)]
  rw [if_pos g1]
  by_cases g2 : (sp_look f n (fr + 2)).toInt = 105
  rotate_left
  · rw [if_neg g2, if_neg (fun z => g2 z.2.2.2.1)]
  rw [if_pos g2]
  rw [if_neg (by decide)]
  by_cases g3 : (sp_look f n (fr + 3)).toInt = 116
  · rw [if_pos g3, if_pos ⟨q1, g0, g1, g2, g3⟩]
  · rw [if_neg g3, if_neg (fun z => g3 z.2.2.2.2)]
theorem is_within {f : Nat → Int32} {n ps fr : Int32} : M_m_is ps fr 6 119 105 116 104 n f = @ite _ (ps.toInt - fr.toInt = 6 ∧ (sp_look f n fr).toInt = 119 ∧ (sp_look f n (fr + 1)).toInt = 105 ∧ (sp_look f n (fr + 2)).toInt = 116 ∧ (sp_look f n (fr + 3)).toInt = 104) (Classical.propDecidable _) 1 0 := by
  simp only [K_m_is_13, K_m_is_17, K_m_is_16, K_m_is_15, K_m_is_14, K_m_is_12, K_m_is_11, K_m_is_10, K_m_is_9, K_m_is_8, K_m_is_7, K_m_is_6, K_m_is_5, K_m_is_4, K_m_is_3, K_m_is_2, K_m_is_1, M_m_is, t_look, show (6 : Int32).toInt = 6 from by decide, show (104 : Int32).toInt = 104 from by decide, show (105 : Int32).toInt = 105 from by decide, show (116 : Int32).toInt = 116 from by decide, show (119 : Int32).toInt = 119 from by decide]
  by_cases q1 : ps.toInt - fr.toInt = 6
  rotate_left
  · rw [if_neg q1, if_neg (fun z => q1 z.1)]
  rw [if_pos q1]
  by_cases g0 : (sp_look f n fr).toInt = 119
  rotate_left
  · rw [if_neg g0, if_neg (fun z => g0 z.2.1)]
  rw [if_pos g0]
  by_cases g1 : (sp_look f n (fr + 1)).toInt = 105
  rotate_left
  · rw [if_neg g1, if_neg (fun z => g1 z.2.2.1)]
  rw [if_pos g1]
  by_cases g2 : (sp_look f n (fr + 2)).toInt = 116
  rotate_left
  · rw [if_neg g2, if_neg (fun z => g2 z.2.2.2.1)]
  rw [if_pos g2]
  rw [if_neg (by decide)]
  by_cases g3 : (sp_look f n (fr + 3)).toInt = 104
  · rw [if_pos g3, if_pos ⟨q1, g0, g1, g2, g3⟩]
  · rw [if_neg g3, if_neg (fun z => g3 z.2.2.2.2)]
theorem is_key {f : Nat → Int32} {n ps fr : Int32} : M_m_is ps fr 3 107 101 121 0 n f = @ite _ (xV6 f n fr ps) (Classical.propDecidable _) 1 0 := by
  simp only [K_m_is_13, K_m_is_17, K_m_is_16, K_m_is_15, K_m_is_14, K_m_is_12, K_m_is_11, K_m_is_10, K_m_is_9, K_m_is_8, K_m_is_7, K_m_is_6, K_m_is_5, K_m_is_4, K_m_is_3, K_m_is_2, K_m_is_1, M_m_is, t_look, show (0 : Int32).toInt = 0 from by decide, show (3 : Int32).toInt = 3 from by decide, show (101 : Int32).toInt = 101 from by decide, show (107 : Int32).toInt = 107 from by decide, show (121 : Int32).toInt = 121 from by decide]
  by_cases q1 : ps.toInt - fr.toInt = 3
  rotate_left
  · rw [if_neg q1, if_neg (fun z => q1 z.1)]
  rw [if_pos q1]
  by_cases g0 : (sp_look f n fr).toInt = 107
  rotate_left
  · rw [if_neg g0, if_neg (fun z => g0 z.2.1)]
  rw [if_pos g0]
  by_cases g1 : (sp_look f n (fr + 1)).toInt = 101
  rotate_left
  · rw [if_neg g1, if_neg (fun z => g1 z.2.2.1)]
  rw [if_pos g1]
  by_cases g2 : (sp_look f n (fr + 2)).toInt = 121
  rotate_left
  · rw [if_neg g2, if_neg (fun z => g2 z.2.2.2)]
  rw [if_pos g2]
  rw [if_pos (by decide), if_pos ⟨q1, g0, g1, g2⟩]
theorem is_limit {f : Nat → Int32} {n ps fr : Int32} : M_m_is ps fr 5 108 105 109 105 n f = @ite _ (ps.toInt - fr.toInt = 5 ∧ (sp_look f n fr).toInt = 108 ∧ (sp_look f n (fr + 1)).toInt = 105 ∧ (sp_look f n (fr + 2)).toInt = 109 ∧ (sp_look f n (fr + 3)).toInt = 105) (Classical.propDecidable _) 1 0 := by
  simp only [K_m_is_13, K_m_is_17, K_m_is_16, K_m_is_15, K_m_is_14, K_m_is_12, K_m_is_11, K_m_is_10, K_m_is_9, K_m_is_8, K_m_is_7, K_m_is_6, K_m_is_5, K_m_is_4, K_m_is_3, K_m_is_2, K_m_is_1, M_m_is, t_look, show (5 : Int32).toInt = 5 from by decide, show (105 : Int32).toInt = 105 from by decide, show (108 : Int32).toInt = 108 from by decide, show (109 : Int32).toInt = 109 from by decide]
  by_cases q1 : ps.toInt - fr.toInt = 5
  rotate_left
  · rw [if_neg q1, if_neg (fun z => q1 z.1)]
  rw [if_pos q1]
  by_cases g0 : (sp_look f n fr).toInt = 108
  rotate_left
  · rw [if_neg g0, if_neg (fun z => g0 z.2.1)]
  rw [if_pos g0]
  by_cases g1 : (sp_look f n (fr + 1)).toInt = 105
  rotate_left
  · rw [if_neg g1, if_neg (fun z => g1 z.2.2.1)]
  rw [if_pos g1]
  by_cases g2 : (sp_look f n (fr + 2)).toInt = 109
  rotate_left
  · rw [if_neg g2, if_neg (fun z => g2 z.2.2.2.1)]
  rw [if_pos g2]
  rw [if_neg (by decide)]
  by_cases g3 : (sp_look f n (fr + 3)).toInt = 105
  · rw [if_pos g3, if_pos ⟨q1, g0, g1, g2, g3⟩]
  · rw [if_neg g3, if_neg (fun z => g3 z.2.2.2.2)]
theorem is_retry {f : Nat → Int32} {n ps fr : Int32} : M_m_is ps fr 5 114 101 116 114 n f = @ite _ (ps.toInt - fr.toInt = 5 ∧ (sp_look f n fr).toInt = 114 ∧ (sp_look f n (fr + 1)).toInt = 101 ∧ (sp_look f n (fr + 2)).toInt = 116 ∧ (sp_look f n (fr + 3)).toInt = 114) (Classical.propDecidable _) 1 0 := by
  simp only [K_m_is_13, K_m_is_17, K_m_is_16, K_m_is_15, K_m_is_14, K_m_is_12, K_m_is_11, K_m_is_10, K_m_is_9, K_m_is_8, K_m_is_7, K_m_is_6, K_m_is_5, K_m_is_4, K_m_is_3, K_m_is_2, K_m_is_1, M_m_is, t_look, show (5 : Int32).toInt = 5 from by decide, show (101 : Int32).toInt = 101 from by decide, show (114 : Int32).toInt = 114 from by decide, show (116 : Int32).toInt = 116 from by decide]
  by_cases q1 : ps.toInt - fr.toInt = 5
  rotate_left
  · rw [if_neg q1, if_neg (fun z => q1 z.1)]
  rw [if_pos q1]
  by_cases g0 : (sp_look f n fr).toInt = 114
  rotate_left
  · rw [if_neg g0, if_neg (fun z => g0 z.2.1)]
  rw [if_pos g0]
  by_cases g1 : (sp_look f n (fr + 1)).toInt = 101
  rotate_left
  · rw [if_neg g1, if_neg (fun z => g1 z.2.2.1)]
  rw [if_pos g1]
  by_cases g2 : (sp_look f n (fr + 2)).toInt = 116
  rotate_left
  · rw [if_neg g2, if_neg (fun z => g2 z.2.2.2.1)]
  rw [if_pos g2]
  rw [if_neg (by decide)]
  by_cases g3 : (sp_look f n (fr + 3)).toInt = 114
  · rw [if_pos g3, if_pos ⟨q1, g0, g1, g2, g3⟩]
  · rw [if_neg g3, if_neg (fun z => g3 z.2.2.2.2)]
theorem b_when {f : Nat → Int32} {n ps fr : Int32} : K_m_nameNow_22 ps fr n f = @ite _ (xV1 f n fr ps) (Classical.propDecidable _) 27 (@ite _ (xV6 f n fr ps) (Classical.propDecidable _) 28 (-4)) := by
  simp only [K_m_nameNow_48, K_m_nameNow_47, K_m_nameNow_4, K_m_nameNow_27, K_m_nameNow_28, K_m_nameNow_26, K_m_nameNow_24, K_m_nameNow_25, K_m_nameNow_23, K_m_nameNow_22, K_m_nameNow_29, K_m_nameNow_36, K_m_nameNow_35, K_m_nameNow_34, K_m_nameNow_33, K_m_nameNow_32, K_m_nameNow_31, K_m_nameNow_30, K_m_nameNow_21, K_m_nameNow_19, K_m_nameNow_20, K_m_nameNow_18, K_m_nameNow_16, K_m_nameNow_17, K_m_nameNow_15, K_m_nameNow_13, K_m_nameNow_14, K_m_nameNow_12, K_m_nameNow_37, K_m_nameNow_41, K_m_nameNow_40, K_m_nameNow_39, K_m_nameNow_38, K_m_nameNow_10, K_m_nameNow_42, K_m_nameNow_46, K_m_nameNow_45, K_m_nameNow_44, K_m_nameNow_43, K_m_nameNow_8, K_m_nameNow_6, K_m_nameNow_7, K_m_nameNow_5, K_m_nameNow_3, K_m_nameNow_2, K_m_nameNow_1, M_m_nameNow, is_when, is_key]
  by_cases h : xV1 f n fr ps
  · rw [if_pos h, if_neg (by decide), if_pos h]
  · rw [if_neg h, if_pos (by decide), if_neg h]
    by_cases h2 : xV6 f n fr ps
    · rw [if_pos h2, if_neg (by decide), if_pos h2]
    · rw [if_neg h2, if_pos (by decide), if_neg h2]
theorem b_fall {f : Nat → Int32} {n ps fr : Int32} : K_m_nameNow_11 ps fr n f = @ite _ (xV2 f n fr ps) (Classical.propDecidable _) 23 (@ite _ (xV3 f n fr ps) (Classical.propDecidable _) 24 (@ite _ (xV4 f n fr ps) (Classical.propDecidable _) 25 (@ite _ (xV5 f n fr ps) (Classical.propDecidable _) 26 (K_m_nameNow_22 ps fr n f)))) := by
  simp only [K_m_nameNow_48, K_m_nameNow_47, K_m_nameNow_4, K_m_nameNow_27, K_m_nameNow_28, K_m_nameNow_26, K_m_nameNow_24, K_m_nameNow_25, K_m_nameNow_23, K_m_nameNow_29, K_m_nameNow_36, K_m_nameNow_35, K_m_nameNow_34, K_m_nameNow_33, K_m_nameNow_32, K_m_nameNow_31, K_m_nameNow_30, K_m_nameNow_21, K_m_nameNow_19, K_m_nameNow_20, K_m_nameNow_18, K_m_nameNow_16, K_m_nameNow_17, K_m_nameNow_15, K_m_nameNow_13, K_m_nameNow_14, K_m_nameNow_12, K_m_nameNow_11, K_m_nameNow_37, K_m_nameNow_41, K_m_nameNow_40, K_m_nameNow_39, K_m_nameNow_38, K_m_nameNow_10, K_m_nameNow_42, K_m_nameNow_46, K_m_nameNow_45, K_m_nameNow_44, K_m_nameNow_43, K_m_nameNow_8, K_m_nameNow_6, K_m_nameNow_7, K_m_nameNow_5, K_m_nameNow_3, K_m_nameNow_2, K_m_nameNow_1, M_m_nameNow, is_fall, is_draw, is_wait, is_within, t_look, show (105 : Int32).toInt = 105 from by decide, show (110 : Int32).toInt = 110 from by decide]
  by_cases h : xV2 f n fr ps
  · rw [if_pos h, if_neg (by decide), if_pos h]
  · rw [if_neg h, if_pos (by decide), if_neg h]
    by_cases h2 : xV3 f n fr ps
    · rw [if_pos h2, if_neg (by decide), if_pos h2]
    · rw [if_neg h2, if_pos (by decide), if_neg h2]
      by_cases h3 : xV4 f n fr ps
      · rw [if_pos h3, if_neg (by decide), if_pos h3]
      · rw [if_neg h3, if_pos (by decide), if_neg h3]
        by_cases h4 : ps.toInt - fr.toInt = 6 ∧ (sp_look f n fr).toInt = 119 ∧ (sp_look f n (fr + 1)).toInt = 105 ∧ (sp_look f n (fr + 2)).toInt = 116 ∧ (sp_look f n (fr + 3)).toInt = 104
        · rw [if_pos h4, if_neg (by decide)]
          by_cases h5 : (sp_look f n (fr + 4)).toInt = 105
          · rw [if_pos h5]
            by_cases h6 : (sp_look f n (fr + 5)).toInt = 110
            · rw [if_pos h6, if_pos (show xV5 f n fr ps from ⟨h4.1, h4.2.1, h4.2.2.1, h4.2.2.2.1, h4.2.2.2.2, h5, h6⟩)]
            · rw [if_neg h6, if_neg (show ¬ xV5 f n fr ps from fun z => h6 z.2.2.2.2.2.2)]
          · rw [if_neg h5, if_neg (show ¬ xV5 f n fr ps from fun z => h5 z.2.2.2.2.2.1)]
        · rw [if_neg h4, if_pos (by decide), if_neg (show ¬ xV5 f n fr ps from fun z => h4 ⟨z.1, z.2.1, z.2.2.1, z.2.2.2.1, z.2.2.2.2.1⟩)]
theorem b_retry {f : Nat → Int32} {n ps fr : Int32} : K_m_nameNow_9 ps fr n f = @ite _ (xV8 f n fr ps) (Classical.propDecidable _) 22 (K_m_nameNow_11 ps fr n f) := by
  simp only [K_m_nameNow_48, K_m_nameNow_47, K_m_nameNow_4, K_m_nameNow_27, K_m_nameNow_28, K_m_nameNow_26, K_m_nameNow_24, K_m_nameNow_25, K_m_nameNow_23, K_m_nameNow_29, K_m_nameNow_36, K_m_nameNow_35, K_m_nameNow_34, K_m_nameNow_33, K_m_nameNow_32, K_m_nameNow_31, K_m_nameNow_30, K_m_nameNow_21, K_m_nameNow_19, K_m_nameNow_20, K_m_nameNow_18, K_m_nameNow_16, K_m_nameNow_17, K_m_nameNow_15, K_m_nameNow_13, K_m_nameNow_14, K_m_nameNow_12, K_m_nameNow_37, K_m_nameNow_41, K_m_nameNow_40, K_m_nameNow_39, K_m_nameNow_38, K_m_nameNow_10, K_m_nameNow_9, K_m_nameNow_42, K_m_nameNow_46, K_m_nameNow_45, K_m_nameNow_44, K_m_nameNow_43, K_m_nameNow_8, K_m_nameNow_6, K_m_nameNow_7, K_m_nameNow_5, K_m_nameNow_3, K_m_nameNow_2, K_m_nameNow_1, M_m_nameNow, is_retry, t_look, show (121 : Int32).toInt = 121 from by decide]
  by_cases h4 : ps.toInt - fr.toInt = 5 ∧ (sp_look f n fr).toInt = 114 ∧ (sp_look f n (fr + 1)).toInt = 101 ∧ (sp_look f n (fr + 2)).toInt = 116 ∧ (sp_look f n (fr + 3)).toInt = 114
  · rw [if_pos h4, if_neg (by decide)]
    by_cases h5 : (sp_look f n (fr + 4)).toInt = 121
    · rw [if_pos h5, if_pos (show xV8 f n fr ps from ⟨h4.1, h4.2.1, h4.2.2.1, h4.2.2.2.1, h4.2.2.2.2, h5⟩)]
    · rw [if_neg h5, if_neg (show ¬ xV8 f n fr ps from fun z => h5 z.2.2.2.2.2)]
  · rw [if_neg h4, if_pos (by decide), if_neg (show ¬ xV8 f n fr ps from fun z => h4 ⟨z.1, z.2.1, z.2.2.1, z.2.2.2.1, z.2.2.2.2.1⟩)]
theorem t_name {f : Nat → Int32} {n ps fr : Int32} : M_m_nameNow ps fr n f = if ps.toInt - fr.toInt = 1 then (if 0 ≤ (sp_look f n fr - 97).toInt ∧ (sp_look f n fr - 97).toInt ≤ 7 then sp_look f n fr - 97 else -4) else @ite _ (xV0 f n fr ps) (Classical.propDecidable _) 20 (@ite _ (xV7 f n fr ps) (Classical.propDecidable _) 21 (K_m_nameNow_9 ps fr n f)) := by
  simp only [K_m_nameNow_48, K_m_nameNow_47, K_m_nameNow_4, K_m_nameNow_27, K_m_nameNow_28, K_m_nameNow_26, K_m_nameNow_24, K_m_nameNow_25, K_m_nameNow_23, K_m_nameNow_29, K_m_nameNow_36, K_m_nameNow_35, K_m_nameNow_34, K_m_nameNow_33, K_m_nameNow_32, K_m_nameNow_31, K_m_nameNow_30, K_m_nameNow_21, K_m_nameNow_19, K_m_nameNow_20, K_m_nameNow_18, K_m_nameNow_16, K_m_nameNow_17, K_m_nameNow_15, K_m_nameNow_13, K_m_nameNow_14, K_m_nameNow_12, K_m_nameNow_37, K_m_nameNow_41, K_m_nameNow_40, K_m_nameNow_39, K_m_nameNow_38, K_m_nameNow_10, K_m_nameNow_42, K_m_nameNow_46, K_m_nameNow_45, K_m_nameNow_44, K_m_nameNow_43, K_m_nameNow_8, K_m_nameNow_6, K_m_nameNow_7, K_m_nameNow_5, K_m_nameNow_3, K_m_nameNow_2, K_m_nameNow_1, M_m_nameNow, is_rail, is_limit, t_look, show (116 : Int32).toInt = 116 from by decide]
  by_cases q1 : ps.toInt - fr.toInt = 1
  · rw [if_pos q1, if_pos q1]
  · rw [if_neg q1, if_neg q1]
    by_cases h : xV0 f n fr ps
    · rw [if_pos h, if_neg (by decide), if_pos h]
    · rw [if_neg h, if_pos (by decide), if_neg h]
      by_cases h4 : ps.toInt - fr.toInt = 5 ∧ (sp_look f n fr).toInt = 108 ∧ (sp_look f n (fr + 1)).toInt = 105 ∧ (sp_look f n (fr + 2)).toInt = 109 ∧ (sp_look f n (fr + 3)).toInt = 105
      · rw [if_pos h4, if_neg (by decide)]
        by_cases h5 : (sp_look f n (fr + 4)).toInt = 116
        · rw [if_pos h5, if_pos (show xV7 f n fr ps from ⟨h4.1, h4.2.1, h4.2.2.1, h4.2.2.2.1, h4.2.2.2.2, h5⟩)]
        · rw [if_neg h5, if_neg (show ¬ xV7 f n fr ps from fun z => h5 z.2.2.2.2.2)]
      · rw [if_neg h4, if_pos (by decide), if_neg (show ¬ xV7 f n fr ps from fun z => h4 ⟨z.1, z.2.1, z.2.2.1, z.2.2.2.1, z.2.2.2.2.1⟩)]
theorem vw0 {f : Nat → Int32} {n ps fr : Int32} (h0 : 0 ≤ fr.toInt) (h1 : ps.toInt ≤ n.toInt) (hn : n.toInt ≤ 400) : xV0 f n fr ps ↔ xW0 f fr ps := by
  unfold xV0 xW0
  by_cases q : ps.toInt - fr.toInt = 4
  · have a1 : (fr + 1).toInt = fr.toInt + 1 := xadd rfl (by decide) (by omega) (by omega)
    have a2 : (fr + 2).toInt = fr.toInt + 2 := xadd rfl (by decide) (by omega) (by omega)
    have a3 : (fr + 3).toInt = fr.toInt + 3 := xadd rfl (by decide) (by omega) (by omega)
    rw [sp_look_in (x := fr) (by omega), sp_look_in (x := fr + 1) (by omega), sp_look_in (x := fr + 2) (by omega), sp_look_in (x := fr + 3) (by omega)]
  · exact ⟨fun z => absurd z.1 q, fun z => absurd z.1 q⟩
theorem vw1 {f : Nat → Int32} {n ps fr : Int32} (h0 : 0 ≤ fr.toInt) (h1 : ps.toInt ≤ n.toInt) (hn : n.toInt ≤ 400) : xV1 f n fr ps ↔ xW1 f fr ps := by
  unfold xV1 xW1
  by_cases q : ps.toInt - fr.toInt = 4
  · have a1 : (fr + 1).toInt = fr.toInt + 1 := xadd rfl (by decide) (by omega) (by omega)
    have a2 : (fr + 2).toInt = fr.toInt + 2 := xadd rfl (by decide) (by omega) (by omega)
    have a3 : (fr + 3).toInt = fr.toInt + 3 := xadd rfl (by decide) (by omega) (by omega)
    rw [sp_look_in (x := fr) (by omega), sp_look_in (x := fr + 1) (by omega), sp_look_in (x := fr + 2) (by omega), sp_look_in (x := fr + 3) (by omega)]
  · exact ⟨fun z => absurd z.1 q, fun z => absurd z.1 q⟩
theorem vw2 {f : Nat → Int32} {n ps fr : Int32} (h0 : 0 ≤ fr.toInt) (h1 : ps.toInt ≤ n.toInt) (hn : n.toInt ≤ 400) : xV2 f n fr ps ↔ xW2 f fr ps := by
  unfold xV2 xW2
  by_cases q : ps.toInt - fr.toInt = 4
  · have a1 : (fr + 1).toInt = fr.toInt + 1 := xadd rfl (by decide) (by omega) (by omega)
    have a2 : (fr + 2).toInt = fr.toInt + 2 := xadd rfl (by decide) (by omega) (by omega)
    have a3 : (fr + 3).toInt = fr.toInt + 3 := xadd rfl (by decide) (by omega) (by omega)
    rw [sp_look_in (x := fr) (by omega), sp_look_in (x := fr + 1) (by omega), sp_look_in (x := fr + 2) (by omega), sp_look_in (x := fr + 3) (by omega)]
  · exact ⟨fun z => absurd z.1 q, fun z => absurd z.1 q⟩
theorem vw3 {f : Nat → Int32} {n ps fr : Int32} (h0 : 0 ≤ fr.toInt) (h1 : ps.toInt ≤ n.toInt) (hn : n.toInt ≤ 400) : xV3 f n fr ps ↔ xW3 f fr ps := by
  unfold xV3 xW3
  by_cases q : ps.toInt - fr.toInt = 4
  · have a1 : (fr + 1).toInt = fr.toInt + 1 := xadd rfl (by decide) (by omega) (by omega)
    have a2 : (fr + 2).toInt = fr.toInt + 2 := xadd rfl (by decide) (by omega) (by omega)
    have a3 : (fr + 3).toInt = fr.toInt + 3 := xadd rfl (by decide) (by omega) (by omega)
    rw [sp_look_in (x := fr) (by omega), sp_look_in (x := fr + 1) (by omega), sp_look_in (x := fr + 2) (by omega), sp_look_in (x := fr + 3) (by omega)]
  · exact ⟨fun z => absurd z.1 q, fun z => absurd z.1 q⟩
theorem vw4 {f : Nat → Int32} {n ps fr : Int32} (h0 : 0 ≤ fr.toInt) (h1 : ps.toInt ≤ n.toInt) (hn : n.toInt ≤ 400) : xV4 f n fr ps ↔ xW4 f fr ps := by
  unfold xV4 xW4
  by_cases q : ps.toInt - fr.toInt = 4
  · have a1 : (fr + 1).toInt = fr.toInt + 1 := xadd rfl (by decide) (by omega) (by omega)
    have a2 : (fr + 2).toInt = fr.toInt + 2 := xadd rfl (by decide) (by omega) (by omega)
    have a3 : (fr + 3).toInt = fr.toInt + 3 := xadd rfl (by decide) (by omega) (by omega)
    rw [sp_look_in (x := fr) (by omega), sp_look_in (x := fr + 1) (by omega), sp_look_in (x := fr + 2) (by omega), sp_look_in (x := fr + 3) (by omega)]
  · exact ⟨fun z => absurd z.1 q, fun z => absurd z.1 q⟩
theorem vw5 {f : Nat → Int32} {n ps fr : Int32} (h0 : 0 ≤ fr.toInt) (h1 : ps.toInt ≤ n.toInt) (hn : n.toInt ≤ 400) : xV5 f n fr ps ↔ xW5 f fr ps := by
  unfold xV5 xW5
  by_cases q : ps.toInt - fr.toInt = 6
  · have a1 : (fr + 1).toInt = fr.toInt + 1 := xadd rfl (by decide) (by omega) (by omega)
    have a2 : (fr + 2).toInt = fr.toInt + 2 := xadd rfl (by decide) (by omega) (by omega)
    have a3 : (fr + 3).toInt = fr.toInt + 3 := xadd rfl (by decide) (by omega) (by omega)
    have a4 : (fr + 4).toInt = fr.toInt + 4 := xadd rfl (by decide) (by omega) (by omega)
    have a5 : (fr + 5).toInt = fr.toInt + 5 := xadd rfl (by decide) (by omega) (by omega)
    rw [sp_look_in (x := fr) (by omega), sp_look_in (x := fr + 1) (by omega), sp_look_in (x := fr + 2) (by omega), sp_look_in (x := fr + 3) (by omega), sp_look_in (x := fr + 4) (by omega), sp_look_in (x := fr + 5) (by omega)]
  · exact ⟨fun z => absurd z.1 q, fun z => absurd z.1 q⟩
theorem vw6 {f : Nat → Int32} {n ps fr : Int32} (h0 : 0 ≤ fr.toInt) (h1 : ps.toInt ≤ n.toInt) (hn : n.toInt ≤ 400) : xV6 f n fr ps ↔ xW6 f fr ps := by
  unfold xV6 xW6
  by_cases q : ps.toInt - fr.toInt = 3
  · have a1 : (fr + 1).toInt = fr.toInt + 1 := xadd rfl (by decide) (by omega) (by omega)
    have a2 : (fr + 2).toInt = fr.toInt + 2 := xadd rfl (by decide) (by omega) (by omega)
    rw [sp_look_in (x := fr) (by omega), sp_look_in (x := fr + 1) (by omega), sp_look_in (x := fr + 2) (by omega)]
  · exact ⟨fun z => absurd z.1 q, fun z => absurd z.1 q⟩
theorem vw7 {f : Nat → Int32} {n ps fr : Int32} (h0 : 0 ≤ fr.toInt) (h1 : ps.toInt ≤ n.toInt) (hn : n.toInt ≤ 400) : xV7 f n fr ps ↔ xW7 f fr ps := by
  unfold xV7 xW7
  by_cases q : ps.toInt - fr.toInt = 5
  · have a1 : (fr + 1).toInt = fr.toInt + 1 := xadd rfl (by decide) (by omega) (by omega)
    have a2 : (fr + 2).toInt = fr.toInt + 2 := xadd rfl (by decide) (by omega) (by omega)
    have a3 : (fr + 3).toInt = fr.toInt + 3 := xadd rfl (by decide) (by omega) (by omega)
    have a4 : (fr + 4).toInt = fr.toInt + 4 := xadd rfl (by decide) (by omega) (by omega)
    rw [sp_look_in (x := fr) (by omega), sp_look_in (x := fr + 1) (by omega), sp_look_in (x := fr + 2) (by omega), sp_look_in (x := fr + 3) (by omega), sp_look_in (x := fr + 4) (by omega)]
  · exact ⟨fun z => absurd z.1 q, fun z => absurd z.1 q⟩
theorem vw8 {f : Nat → Int32} {n ps fr : Int32} (h0 : 0 ≤ fr.toInt) (h1 : ps.toInt ≤ n.toInt) (hn : n.toInt ≤ 400) : xV8 f n fr ps ↔ xW8 f fr ps := by
  unfold xV8 xW8
  by_cases q : ps.toInt - fr.toInt = 5
  · have a1 : (fr + 1).toInt = fr.toInt + 1 := xadd rfl (by decide) (by omega) (by omega)
    have a2 : (fr + 2).toInt = fr.toInt + 2 := xadd rfl (by decide) (by omega) (by omega)
    have a3 : (fr + 3).toInt = fr.toInt + 3 := xadd rfl (by decide) (by omega) (by omega)
    have a4 : (fr + 4).toInt = fr.toInt + 4 := xadd rfl (by decide) (by omega) (by omega)
    rw [sp_look_in (x := fr) (by omega), sp_look_in (x := fr + 1) (by omega), sp_look_in (x := fr + 2) (by omega), sp_look_in (x := fr + 3) (by omega), sp_look_in (x := fr + 4) (by omega)]
  · exact ⟨fun z => absurd z.1 q, fun z => absurd z.1 q⟩
-- 39.with
def cn (td : Int32) : Nat := td.toInt.toNat / 4 % 2 + td.toInt.toNat / 8 % 2 + td.toInt.toNat / 16 % 2 + td.toInt.toNat / 32 % 2
/-- which withs are told: the same on both sides -/
def xH (td had : Int32) : Prop := (0 ≤ td.toInt ∧ td.toInt < 64) ∧ had = Int32.ofNat (td.toInt.toNat / 4)
theorem cn_le (td : Int32) : cn td ≤ 4 := by
  unfold cn
  omega
abbrev xHs (td : Int32) (b s : Int32) : Prop := ((td &&& b).toInt = 0 ↔ (((Int32.ofNat (td.toInt.toNat / 4)) >>> (s &&& 31)) &&& 1).toInt = 0) ∧ (0 ≤ (td ||| b).toInt ∧ (td ||| b).toInt < 64) ∧ (Int32.ofNat (td.toInt.toNat / 4)) ||| ((1 : Int32) <<< (s &&& 31)) = Int32.ofNat ((td ||| b).toInt.toNat / 4) ∧ ((td &&& b).toInt = 0 → cn (td ||| b) = cn td + 1) ∧ ((td ||| b) &&& 1) = (td &&& 1) ∧ ((td ||| b) &&& 2) = (td &&& 2)
theorem h4 : ∀ t : Fin 64, xHs (Int32.ofNat t.val) 4 (23 - 23) := by decide +kernel
theorem h8 : ∀ t : Fin 64, xHs (Int32.ofNat t.val) 8 (24 - 23) := by decide +kernel
theorem h16 : ∀ t : Fin 64, xHs (Int32.ofNat t.val) 16 (25 - 23) := by decide +kernel
theorem h32 : ∀ t : Fin 64, xHs (Int32.ofNat t.val) 32 (26 - 23) := by decide +kernel
theorem h3 : ∀ t : Fin 64, (0 ≤ ((Int32.ofNat t.val) &&& 3).toInt ∧ ((Int32.ofNat t.val) &&& 3).toInt < 64) ∧ (0 : Int32) = Int32.ofNat (((Int32.ofNat t.val) &&& 3).toInt.toNat / 4) ∧ cn ((Int32.ofNat t.val) &&& 3) = 0 ∧ (((Int32.ofNat t.val) &&& 3) &&& 1) = ((Int32.ofNat t.val) &&& 1) ∧ (((Int32.ofNat t.val) &&& 3) &&& 2) = ((Int32.ofNat t.val) &&& 2) := by decide +kernel
-- 55.bits
theorem b255 : ∀ j : Fin 32, ¬ j.val < 8 → (255#32)[j.val] = false := by decide
theorem tb56 (v : Int64) : (((v.toUInt64 >>> (((56 : Int32)).toInt64.toUInt64 &&& Int64.toUInt64 63)).toInt64).toInt32 &&& 255) = ((v >>> (((56 : Int32)).toInt64 &&& 63)) &&& 255).toInt32 := by
  apply Int32.toBitVec_inj.mp
  have e1 : ((56 : Int32).toInt64.toUInt64 &&& Int64.toUInt64 63) = 56 := by decide
  have e2 : ((56 : Int32).toInt64 &&& 63) = 56 := by decide
  rw [e1, e2]
  simp only [Int32.toBitVec_and, Int64.toBitVec_toInt32, Int64.toBitVec_and, Int64.toBitVec_shiftRight, UInt64.toBitVec_toInt64, UInt64.toBitVec_shiftRight, Int64.toBitVec_toUInt64]
  ext i hi
  simp only [BitVec.getElem_and]
  by_cases q : i < 8
  · simp [BitVec.getElem_signExtend, BitVec.getElem_ushiftRight, BitVec.getElem_sshiftRight, show 56 + i < 64 from by omega, show i < 64 from by omega]
  · simp [b255 ⟨i, hi⟩ q]
theorem tb48 (v : Int64) : (((v.toUInt64 >>> (((48 : Int32)).toInt64.toUInt64 &&& Int64.toUInt64 63)).toInt64).toInt32 &&& 255) = ((v >>> (((48 : Int32)).toInt64 &&& 63)) &&& 255).toInt32 := by
  apply Int32.toBitVec_inj.mp
  have e1 : ((48 : Int32).toInt64.toUInt64 &&& Int64.toUInt64 63) = 48 := by decide
  have e2 : ((48 : Int32).toInt64 &&& 63) = 48 := by decide
  rw [e1, e2]
  simp only [Int32.toBitVec_and, Int64.toBitVec_toInt32, Int64.toBitVec_and, Int64.toBitVec_shiftRight, UInt64.toBitVec_toInt64, UInt64.toBitVec_shiftRight, Int64.toBitVec_toUInt64]
  ext i hi
  simp only [BitVec.getElem_and]
  by_cases q : i < 8
  · simp [BitVec.getElem_signExtend, BitVec.getElem_ushiftRight, BitVec.getElem_sshiftRight, show 48 + i < 64 from by omega, show i < 64 from by omega]
  · simp [b255 ⟨i, hi⟩ q]
theorem tb40 (v : Int64) : (((v.toUInt64 >>> (((40 : Int32)).toInt64.toUInt64 &&& Int64.toUInt64 63)).toInt64).toInt32 &&& 255) = ((v >>> (((40 : Int32)).toInt64 &&& 63)) &&& 255).toInt32 := by
  apply Int32.toBitVec_inj.mp
  have e1 : ((40 : Int32).toInt64.toUInt64 &&& Int64.toUInt64 63) = 40 := by decide
  have e2 : ((40 : Int32).toInt64 &&& 63) = 40 := by decide
  rw [e1, e2]
  simp only [Int32.toBitVec_and, Int64.toBitVec_toInt32, Int64.toBitVec_and, Int64.toBitVec_shiftRight, UInt64.toBitVec_toInt64, UInt64.toBitVec_shiftRight, Int64.toBitVec_toUInt64]
  ext i hi
  simp only [BitVec.getElem_and]
  by_cases q : i < 8
  · simp [BitVec.getElem_signExtend, BitVec.getElem_ushiftRight, BitVec.getElem_sshiftRight, show 40 + i < 64 from by omega, show i < 64 from by omega]
  · simp [b255 ⟨i, hi⟩ q]
theorem tb32 (v : Int64) : (((v.toUInt64 >>> (((32 : Int32)).toInt64.toUInt64 &&& Int64.toUInt64 63)).toInt64).toInt32 &&& 255) = ((v >>> (((32 : Int32)).toInt64 &&& 63)) &&& 255).toInt32 := by
  apply Int32.toBitVec_inj.mp
  have e1 : ((32 : Int32).toInt64.toUInt64 &&& Int64.toUInt64 63) = 32 := by decide
  have e2 : ((32 : Int32).toInt64 &&& 63) = 32 := by decide
  rw [e1, e2]
  simp only [Int32.toBitVec_and, Int64.toBitVec_toInt32, Int64.toBitVec_and, Int64.toBitVec_shiftRight, UInt64.toBitVec_toInt64, UInt64.toBitVec_shiftRight, Int64.toBitVec_toUInt64]
  ext i hi
  simp only [BitVec.getElem_and]
  by_cases q : i < 8
  · simp [BitVec.getElem_signExtend, BitVec.getElem_ushiftRight, BitVec.getElem_sshiftRight, show 32 + i < 64 from by omega, show i < 64 from by omega]
  · simp [b255 ⟨i, hi⟩ q]
theorem tb24 (v : Int64) : (((v.toUInt64 >>> (((24 : Int32)).toInt64.toUInt64 &&& Int64.toUInt64 63)).toInt64).toInt32 &&& 255) = ((v >>> (((24 : Int32)).toInt64 &&& 63)) &&& 255).toInt32 := by
  apply Int32.toBitVec_inj.mp
  have e1 : ((24 : Int32).toInt64.toUInt64 &&& Int64.toUInt64 63) = 24 := by decide
  have e2 : ((24 : Int32).toInt64 &&& 63) = 24 := by decide
  rw [e1, e2]
  simp only [Int32.toBitVec_and, Int64.toBitVec_toInt32, Int64.toBitVec_and, Int64.toBitVec_shiftRight, UInt64.toBitVec_toInt64, UInt64.toBitVec_shiftRight, Int64.toBitVec_toUInt64]
  ext i hi
  simp only [BitVec.getElem_and]
  by_cases q : i < 8
  · simp [BitVec.getElem_signExtend, BitVec.getElem_ushiftRight, BitVec.getElem_sshiftRight, show 24 + i < 64 from by omega, show i < 64 from by omega]
  · simp [b255 ⟨i, hi⟩ q]
theorem tb16 (v : Int64) : (((v.toUInt64 >>> (((16 : Int32)).toInt64.toUInt64 &&& Int64.toUInt64 63)).toInt64).toInt32 &&& 255) = ((v >>> (((16 : Int32)).toInt64 &&& 63)) &&& 255).toInt32 := by
  apply Int32.toBitVec_inj.mp
  have e1 : ((16 : Int32).toInt64.toUInt64 &&& Int64.toUInt64 63) = 16 := by decide
  have e2 : ((16 : Int32).toInt64 &&& 63) = 16 := by decide
  rw [e1, e2]
  simp only [Int32.toBitVec_and, Int64.toBitVec_toInt32, Int64.toBitVec_and, Int64.toBitVec_shiftRight, UInt64.toBitVec_toInt64, UInt64.toBitVec_shiftRight, Int64.toBitVec_toUInt64]
  ext i hi
  simp only [BitVec.getElem_and]
  by_cases q : i < 8
  · simp [BitVec.getElem_signExtend, BitVec.getElem_ushiftRight, BitVec.getElem_sshiftRight, show 16 + i < 64 from by omega, show i < 64 from by omega]
  · simp [b255 ⟨i, hi⟩ q]
theorem tb8 (v : Int64) : (((v.toUInt64 >>> (((8 : Int32)).toInt64.toUInt64 &&& Int64.toUInt64 63)).toInt64).toInt32 &&& 255) = ((v >>> (((8 : Int32)).toInt64 &&& 63)) &&& 255).toInt32 := by
  apply Int32.toBitVec_inj.mp
  have e1 : ((8 : Int32).toInt64.toUInt64 &&& Int64.toUInt64 63) = 8 := by decide
  have e2 : ((8 : Int32).toInt64 &&& 63) = 8 := by decide
  rw [e1, e2]
  simp only [Int32.toBitVec_and, Int64.toBitVec_toInt32, Int64.toBitVec_and, Int64.toBitVec_shiftRight, UInt64.toBitVec_toInt64, UInt64.toBitVec_shiftRight, Int64.toBitVec_toUInt64]
  ext i hi
  simp only [BitVec.getElem_and]
  by_cases q : i < 8
  · simp [BitVec.getElem_signExtend, BitVec.getElem_ushiftRight, BitVec.getElem_sshiftRight, show 8 + i < 64 from by omega, show i < 64 from by omega]
  · simp [b255 ⟨i, hi⟩ q]
theorem tb0 (v : Int64) : (((v.toUInt64 >>> (((0 : Int32)).toInt64.toUInt64 &&& Int64.toUInt64 63)).toInt64).toInt32 &&& 255) = ((v >>> (((0 : Int32)).toInt64 &&& 63)) &&& 255).toInt32 := by
  apply Int32.toBitVec_inj.mp
  have e1 : ((0 : Int32).toInt64.toUInt64 &&& Int64.toUInt64 63) = 0 := by decide
  have e2 : ((0 : Int32).toInt64 &&& 63) = 0 := by decide
  rw [e1, e2]
  simp only [Int32.toBitVec_and, Int64.toBitVec_toInt32, Int64.toBitVec_and, Int64.toBitVec_shiftRight, UInt64.toBitVec_toInt64, UInt64.toBitVec_shiftRight, Int64.toBitVec_toUInt64]
  ext i hi
  simp only [BitVec.getElem_and]
  by_cases q : i < 8
  · simp [BitVec.getElem_signExtend, BitVec.getElem_ushiftRight, BitVec.getElem_sshiftRight, show 0 + i < 64 from by omega, show i < 64 from by omega]
  · simp [b255 ⟨i, hi⟩ q]
-- 59.d.dead
/-- THE DEAD BY HAND: the class's bits are the reference's row -/
def xDd (d : Int32) (F : Nat → Int32) : Prop := ∀ j : Nat, j < 8 → (F j = 0 ∧ d.toBitVec.getLsbD j = false) ∨ (F j = 1 ∧ d.toBitVec.getLsbD j = true)
theorem xdd_0 {F : Nat → Int32} (h : ∀ j : Nat, j < 8 → F j = 0) : xDd 0 F := fun j hj => Or.inl ⟨h j hj, by simp⟩
theorem xdb1 : ∀ j : Fin 8, ((1 : Int32) <<< (nI j.val &&& 31)).toBitVec = BitVec.twoPow 32 j.val := by decide
theorem xdb2 : ∀ j k : Fin 8, (BitVec.twoPow 32 j.val).getLsbD k.val = decide (k = j) := by decide
theorem xdb3 : ∀ k : Fin 8, (-1 : Int32).toBitVec.getLsbD k.val = true := by decide
theorem xdb4 : ∀ j : Fin 8, (BitVec.twoPow 32 j.val).toInt ≠ 0 := by decide
theorem xdb_f {d : Int32} {j : Nat} (hj : j < 8) (h : d.toBitVec.getLsbD j = false) : (d &&& ((1 : Int32) <<< (nI j &&& 31))).toInt = 0 := by
  have e : (d &&& ((1 : Int32) <<< (nI j &&& 31))).toBitVec = 0#32 := by
    rw [Int32.toBitVec_and, xdb1 ⟨j, hj⟩, BitVec.and_twoPow, h]
    rfl
  show (d &&& ((1 : Int32) <<< (nI j &&& 31))).toBitVec.toInt = 0
  rw [e]
  decide
theorem xdb_t {d : Int32} {j : Nat} (hj : j < 8) (h : d.toBitVec.getLsbD j = true) : ¬ (d &&& ((1 : Int32) <<< (nI j &&& 31))).toInt = 0 := by
  have e : (d &&& ((1 : Int32) <<< (nI j &&& 31))).toBitVec = BitVec.twoPow 32 j := by
    rw [Int32.toBitVec_and, xdb1 ⟨j, hj⟩, BitVec.and_twoPow, h]
    rfl
  show ¬ (d &&& ((1 : Int32) <<< (nI j &&& 31))).toBitVec.toInt = 0
  rw [e]
  exact xdb4 ⟨j, hj⟩
theorem xdd_set {d : Int32} {F : Nat → Int32} {j : Nat} (hj : j < 8) (h : xDd d F) : xDd (d ||| ((1 : Int32) <<< (nI j &&& 31))) (upd F j 1) := by
  intro k hk
  have e : (d ||| ((1 : Int32) <<< (nI j &&& 31))).toBitVec.getLsbD k = (d.toBitVec.getLsbD k || decide ((⟨k, hk⟩ : Fin 8) = ⟨j, hj⟩)) := by
    rw [Int32.toBitVec_or, BitVec.getLsbD_or, xdb1 ⟨j, hj⟩, xdb2 ⟨j, hj⟩ ⟨k, hk⟩]
  rw [e]
  by_cases q : k = j
  · subst q
    rw [xupd_s]
    exact Or.inr ⟨rfl, by simp⟩
  · have z : decide ((⟨k, hk⟩ : Fin 8) = ⟨j, hj⟩) = false := decide_eq_false (fun y => q (congrArg Fin.val y))
    rw [xupd_o q, z, Bool.or_false]
    exact h k hk
theorem xdd_clr {d : Int32} {F : Nat → Int32} {j : Nat} (hj : j < 8) (h : xDd d F) : xDd (d &&& (((1 : Int32) <<< (nI j &&& 31)) ^^^ (-1 : Int32))) (upd F j 0) := by
  intro k hk
  have e : (d &&& (((1 : Int32) <<< (nI j &&& 31)) ^^^ (-1 : Int32))).toBitVec.getLsbD k = (d.toBitVec.getLsbD k && (decide ((⟨k, hk⟩ : Fin 8) = ⟨j, hj⟩) ^^ true)) := by
    rw [Int32.toBitVec_and, BitVec.getLsbD_and, Int32.toBitVec_xor, BitVec.getLsbD_xor, xdb1 ⟨j, hj⟩, xdb2 ⟨j, hj⟩ ⟨k, hk⟩, xdb3 ⟨k, hk⟩]
  rw [e]
  by_cases q : k = j
  · subst q
    rw [xupd_s]
    exact Or.inl ⟨rfl, by simp⟩
  · have z : decide ((⟨k, hk⟩ : Fin 8) = ⟨j, hj⟩) = false := decide_eq_false (fun y => q (congrArg Fin.val y))
    rw [xupd_o q, z, Bool.false_xor, Bool.and_true]
    exact h k hk
theorem xdd_deadC {d a0 a1 ra mra r r9 d9 pk kn pk9 kn9 : Int32} {F F9 wk wk9 : Nat → Int32} (h : xDd d F) (hra : ra = mra) (hr : 0 ≤ ra.toInt ∧ ra.toInt ≤ 8) (ha : a1 = 0 ∨ a1 = 1) (e1 : M_x_dead a0 ra d a1 wk pk kn = (r, d9, pk9, wk9, kn9)) (e2 : M_m_dead a0 mra F a1 = (r9, F9)) : r = r9 ∧ xDd d9 F9 := by
  subst hra
  unfold M_x_dead K_x_dead_1 at e1
  unfold M_m_dead K_m_dead_1 at e2
  by_cases q : 0 ≤ a0.toInt ∧ a0.toInt < ra.toInt
  · rw [if_pos q] at e1 e2
    have k9 := xtn (x := a0) q.1
    obtain ⟨j, hj, ej⟩ : ∃ j : Nat, j < 8 ∧ a0 = nI j := ⟨a0.toNatClampNeg, by omega, (xnI q.1).symm⟩
    subst ej
    unfold K_m_dead_2 at e2
    rw [nI_clamp (by omega)] at e2
    unfold K_x_dead_2 at e1
    have n0 : vp_nar .boolean (0 : Int32) = 0 := by decide
    have n1 : vp_nar .boolean (1 : Int32) = 1 := by decide
    have s0 : sp_b 0 = 0 := by decide
    have s1 : sp_b 1 = 1 := by decide
    rcases h j hj with ⟨f0, b0⟩ | ⟨f1, b1⟩
    · rw [if_pos (xdb_f hj b0)] at e1
      unfold K_x_dead_4 at e1
      rw [f0] at e2
      rcases ha with y | y
      · subst y
        rw [if_pos (by decide)] at e1
        rw [n0] at e2
        exact ⟨(congrArg Prod.fst e1).symm.trans (congrArg Prod.fst e2), by have y1 : d9 = d &&& (((1 : Int32) <<< (nI j &&& 31)) ^^^ (-1 : Int32)) := (congrArg (fun z => z.2.1) e1).symm; have y2 : F9 = upd F j 0 := (congrArg Prod.snd e2).symm; rw [y1, y2]; exact xdd_clr hj h⟩
      · subst y
        rw [if_neg (by decide)] at e1
        rw [n1] at e2
        exact ⟨(congrArg Prod.fst e1).symm.trans (congrArg Prod.fst e2), by have y1 : d9 = d ||| ((1 : Int32) <<< (nI j &&& 31)) := (congrArg (fun z => z.2.1) e1).symm; have y2 : F9 = upd F j 1 := (congrArg Prod.snd e2).symm; rw [y1, y2]; exact xdd_set hj h⟩
    · rw [if_neg (xdb_t hj b1)] at e1
      unfold K_x_dead_5 at e1
      rw [f1] at e2
      rcases ha with y | y
      · subst y
        rw [if_pos (by decide)] at e1
        rw [n0] at e2
        exact ⟨(congrArg Prod.fst e1).symm.trans (congrArg Prod.fst e2), by have y1 : d9 = d &&& (((1 : Int32) <<< (nI j &&& 31)) ^^^ (-1 : Int32)) := (congrArg (fun z => z.2.1) e1).symm; have y2 : F9 = upd F j 0 := (congrArg Prod.snd e2).symm; rw [y1, y2]; exact xdd_clr hj h⟩
      · subst y
        rw [if_neg (by decide)] at e1
        rw [n1] at e2
        exact ⟨(congrArg Prod.fst e1).symm.trans (congrArg Prod.fst e2), by have y1 : d9 = d ||| ((1 : Int32) <<< (nI j &&& 31)) := (congrArg (fun z => z.2.1) e1).symm; have y2 : F9 = upd F j 1 := (congrArg Prod.snd e2).symm; rw [y1, y2]; exact xdd_set hj h⟩
  · rw [if_neg q] at e1 e2
    exact ⟨(congrArg Prod.fst e1).symm.trans (congrArg Prod.fst e2), by have y1 : d9 = d := (congrArg (fun z => z.2.1) e1).symm; have y2 : F9 = F := (congrArg Prod.snd e2).symm; rw [y1, y2]; exact h⟩
-- 59.e.tape
/-- what is fed: eight bytes, the same on both sides -/
theorem r_feed (n : Int32) (f : Nat → Int32) (v : Int64) : M_x_feed n f v = M_m_feed n f v := by
  unfold M_x_feed K_x_feed_1 M_m_feed K_m_feed_1 M_push K_push_1
  have z1 : ¬ (1 : Int32).toInt = 0 := by decide
  have z0 : (0 : Int32).toInt = 0 := by decide
  by_cases q : n.toInt + 8 ≤ 400
  · rw [if_pos q, if_pos q]
    unfold K_push_2
    show K_x_feed_2 _ _ _ = _
    unfold K_x_feed_2
    rw [if_neg z1]
    unfold K_x_feed_4 K_m_feed_2
    rw [tb56, tb48, tb40, tb32, tb24, tb16, tb8, tb0]
  · rw [if_neg q, if_neg q]
    unfold K_push_3
    show K_x_feed_2 _ _ _ = _
    unfold K_x_feed_2
    rw [if_pos z0]
    unfold K_x_feed_3 K_m_feed_3
    rfl
theorem xnn_upd {f : Nat → Int32} {k : Nat} {x : Int32} (h : ∀ j : Nat, 0 ≤ (f j).toInt) (hx : 0 ≤ x.toInt) : ∀ j : Nat, 0 ≤ (upd f k x j).toInt := by
  intro j
  unfold upd
  split
  · exact hx
  · exact h j
theorem xnn_b {x : Int32} : 0 ≤ (x &&& (255 : Int32)).toInt := (xand_rng (x := x) (y := 255) (by decide)).1
theorem r_feedn {n : Int32} {f : Nat → Int32} {v : Int64} (h : ∀ j : Nat, 0 ≤ (f j).toInt) : ∀ j : Nat, 0 ≤ ((M_x_feed n f v).2.2 j).toInt := by
  unfold M_x_feed K_x_feed_1 M_push K_push_1
  have z1 : ¬ (1 : Int32).toInt = 0 := by decide
  have z0 : (0 : Int32).toInt = 0 := by decide
  by_cases q : n.toInt + 8 ≤ 400
  · rw [if_pos q]
    unfold K_push_2
    show ∀ j : Nat, 0 ≤ ((K_x_feed_2 _ _ _).2.2 j).toInt
    unfold K_x_feed_2
    rw [if_neg z1]
    unfold K_x_feed_4
    exact xnn_upd (xnn_upd (xnn_upd (xnn_upd (xnn_upd (xnn_upd (xnn_upd (xnn_upd h xnn_b) xnn_b) xnn_b) xnn_b) xnn_b) xnn_b) xnn_b) xnn_b
  · rw [if_neg q]
    unfold K_push_3
    show ∀ j : Nat, 0 ≤ ((K_x_feed_2 _ _ _).2.2 j).toInt
    unfold K_x_feed_2
    rw [if_pos z0]
    unfold K_x_feed_3
    exact h
theorem xtape_keep {tl mt r r9 t9 m9 : Int32} {tb Ft b9 F9 : Nat → Int32} {v : Int64} (hta : tl.toInt = mt.toInt) (htb : tb = Ft) (e1 : M_x_feed tl tb v = (r, t9, b9)) (e2 : M_m_feed mt Ft v = (r9, m9, F9)) : b9 = F9 := by
  have q := Int32.toInt_inj.mp hta
  subst q
  subst htb
  have z := e1.symm.trans ((r_feed tl tb v).trans e2)
  exact congrArg (fun t => t.2.2) z
theorem xtape_nn {tl r t9 : Int32} {tb b9 : Nat → Int32} {v : Int64} (hbn : ∀ j : Nat, 0 ≤ (tb j).toInt) (e1 : M_x_feed tl tb v = (r, t9, b9)) : ∀ j : Nat, 0 ≤ (b9 j).toInt := by
  have z := r_feedn (n := tl) (v := v) hbn
  rw [e1] at z
  exact z
-- 60.abs
/-- one level of a formula where a unit is wanted: what waits and what is reckoned above the levels below -/
def xg1 (a l : Bool) (o : List Int) (v : List Bool) (o' : List Int) (v' : List Bool) : Prop := (o = o' ∧ v = v' ∧ a = false ∧ l = true) ∨ (o = 11 :: o' ∧ v = a :: v' ∧ l = true) ∨ (o = 10 :: o' ∧ v = l :: v' ∧ a = false) ∨ (o = 10 :: 11 :: o' ∧ v = l :: a :: v')
/-- one level of a formula behind a unit -/
def xg2 (a l : Bool) (o : List Int) (v : List Bool) (o' : List Int) (v' : List Bool) : Prop := (o = o' ∧ v = l :: v' ∧ a = false) ∨ (o = 11 :: o' ∧ v = l :: a :: v') ∨ (∃ b x, o = 10 :: o' ∧ v = x :: b :: v' ∧ l = (b && x) ∧ a = false) ∨ (∃ b x, o = 10 :: 11 :: o' ∧ v = x :: b :: a :: v' ∧ l = (b && x))
def xgb : List (Bool × Bool) → List Int → List Bool → Prop
  | [], o, v => o = [] ∧ v = []
  | p :: r, o, v => ∃ o1 o' v', o = 12 :: o1 ∧ xg1 p.1 p.2 o1 v o' v' ∧ xgb r o' v'
def xM1 : List (Bool × Bool) → List Int → List Bool → Prop
  | [], _, _ => False
  | p :: r, o, v => ∃ o' v', xg1 p.1 p.2 o v o' v' ∧ xgb r o' v'
def xM2 : List (Bool × Bool) → List Int → List Bool → Prop
  | [], _, _ => False
  | p :: r, o, v => ∃ o' v', xg2 p.1 p.2 o v o' v' ∧ xgb r o' v'
/-- a sign reckoned -/
def xap (x : Int) : List Bool → List Bool
  | y :: b :: v => (if x = 10 then b && y else b || y) :: v
  | v => v
def xdn (e : Int) : List Int → List Bool → List Int × List Bool
  | [], v => ([], v)
  | x :: o, v => if x ≠ 12 ∧ x ≤ e then xdn e o (xap x v) else (x :: o, v)
theorem xdn_b {r : List (Bool × Bool)} {o : List Int} {v v0 : List Bool} {e : Int} (h : xgb r o v0) : xdn e o v = (o, v) := by
  cases r with
  | nil =>
    obtain ⟨h1, -⟩ := h
    subst h1
    rfl
  | cons p r =>
    obtain ⟨o1, o', v', h1, -, -⟩ := h
    subst h1
    unfold xdn
    rw [if_neg (fun z => z.1 rfl)]
theorem xdn_10 {o : List Int} {v : List Bool} {b y : Bool} {e : Int} (he : 10 ≤ e) : xdn e (10 :: o) (y :: b :: v) = xdn e o ((b && y) :: v) := by
  rw [xdn, if_pos ⟨by decide, he⟩]
  rfl
theorem xdn_11 {o : List Int} {v : List Bool} {b y : Bool} {e : Int} (he : 11 ≤ e) : xdn e (11 :: o) (y :: b :: v) = xdn e o ((b || y) :: v) := by
  rw [xdn, if_pos ⟨by decide, he⟩]
  rfl
theorem xdn_n {o : List Int} {v : List Bool} : xdn 10 (11 :: o) v = (11 :: o, v) := by
  rw [xdn, if_neg (by decide)]
theorem xm_open {L : List (Bool × Bool)} {o : List Int} {v : List Bool} (h : xM1 L o v) : xM1 ((false, true) :: L) (12 :: o) v := by
  cases L with
  | nil => exact h.elim
  | cons p r =>
    obtain ⟨o', v', h1, h2⟩ := h
    exact ⟨12 :: o, v, Or.inl ⟨rfl, rfl, rfl, rfl⟩, o, o', v', rfl, h1, h2⟩
theorem xm_unit {a l x : Bool} {r : List (Bool × Bool)} {o : List Int} {v : List Bool} (h : xM1 ((a, l) :: r) o v) : xM2 ((a, l && x) :: r) o (x :: v) := by
  obtain ⟨o', v', h1, h2⟩ := h
  refine ⟨o', v', ?_, h2⟩
  rcases h1 with ⟨e1, e2, e3, e4⟩ | ⟨e1, e2, e3⟩ | ⟨e1, e2, e3⟩ | ⟨e1, e2⟩
  · dsimp only at e3 e4
    subst e1
    subst e2
    subst e3
    subst e4
    exact Or.inl ⟨rfl, by rw [Bool.true_and], rfl⟩
  · dsimp only at e2 e3
    subst e3
    exact Or.inr (Or.inl ⟨e1, by rw [e2, Bool.true_and]⟩)
  · exact Or.inr (Or.inr (Or.inl ⟨l, x, e1, by rw [e2], rfl, e3⟩))
  · exact Or.inr (Or.inr (Or.inr ⟨l, x, e1, by rw [e2], rfl⟩))
theorem xm_and {a l : Bool} {r : List (Bool × Bool)} {o : List Int} {v : List Bool} (h : xM2 ((a, l) :: r) o v) : xM1 ((a, l) :: r) (10 :: (xdn 10 o v).1) (xdn 10 o v).2 := by
  obtain ⟨o', v', h1, h2⟩ := h
  refine ⟨o', v', ?_, h2⟩
  rcases h1 with ⟨e1, e2, e3⟩ | ⟨e1, e2⟩ | ⟨b, x, e1, e2, e3, e4⟩ | ⟨b, x, e1, e2, e3⟩
  · rw [e1, e2, xdn_b h2]
    exact Or.inr (Or.inr (Or.inl ⟨rfl, rfl, e3⟩))
  · rw [e1, e2, xdn_n]
    exact Or.inr (Or.inr (Or.inr ⟨rfl, rfl⟩))
  · rw [e1, e2, xdn_10 (by decide), xdn_b h2]
    exact Or.inr (Or.inr (Or.inl ⟨rfl, by rw [e3], e4⟩))
  · rw [e1, e2, xdn_10 (by decide), xdn_n]
    exact Or.inr (Or.inr (Or.inr ⟨rfl, by rw [e3]⟩))
/-- all that waits on this level, reckoned -/
theorem xm_all {a l : Bool} {r : List (Bool × Bool)} {o : List Int} {v : List Bool} (h : xM2 ((a, l) :: r) o v) : ∃ o' v', xdn 11 o v = (o', (a || l) :: v') ∧ xgb r o' v' := by
  obtain ⟨o', v', h1, h2⟩ := h
  refine ⟨o', v', ?_, h2⟩
  rcases h1 with ⟨e1, e2, e3⟩ | ⟨e1, e2⟩ | ⟨b, x, e1, e2, e3, e4⟩ | ⟨b, x, e1, e2, e3⟩
  · dsimp only at e2 e3
    rw [e1, e2, xdn_b h2, e3, Bool.false_or]
  · rw [e1, e2, xdn_11 (by decide), xdn_b h2]
  · dsimp only at e3 e4
    rw [e1, e2, xdn_10 (by decide), xdn_b h2, e3, e4, Bool.false_or]
  · dsimp only at e2 e3
    rw [e1, e2, xdn_10 (by decide), xdn_11 (by decide), xdn_b h2, e3]
theorem xm_or {a l : Bool} {r : List (Bool × Bool)} {o : List Int} {v : List Bool} (h : xM2 ((a, l) :: r) o v) : xM1 ((a || l, true) :: r) (11 :: (xdn 11 o v).1) (xdn 11 o v).2 := by
  obtain ⟨o', v', h1, h2⟩ := xm_all h
  rw [h1]
  exact ⟨o', v', Or.inr (Or.inl ⟨rfl, rfl, rfl⟩), h2⟩
theorem xm_close {a l b m : Bool} {r : List (Bool × Bool)} {o : List Int} {v : List Bool} (h : xM2 ((a, l) :: (b, m) :: r) o v) : ∃ o2 v2, xdn 11 o v = (12 :: o2, (a || l) :: v2) ∧ xM2 ((b, m && (a || l)) :: r) o2 ((a || l) :: v2) := by
  obtain ⟨o', v', h1, o1, o2, v2, h2, h3, h4⟩ := xm_all h
  subst h2
  exact ⟨o1, v', h1, xm_unit ⟨o2, v2, h3, h4⟩⟩
theorem xm_end {a l : Bool} {o : List Int} {v : List Bool} (h : xM2 [(a, l)] o v) : xdn 11 o v = ([], [a || l]) := by
  obtain ⟨o', v', h1, h2, h3⟩ := xm_all h
  rw [h1, h2, h3]
/-- what waits, the top first -/
def xwl (w : Nat → Int32) : Nat → List Int
  | 0 => []
  | n + 1 => (w n).toInt :: xwl w n
/-- the signs told so far, reckoned for one set; the top first -/
def xev (c : Nat → Int32) (s : Nat) : Nat → List Bool
  | 0 => []
  | n + 1 => if (c n).toInt < 9 then s.testBit (c n).toInt.toNat :: xev c s n else xap (c n).toInt (xev c s n)
theorem xwl_ext {w w' : Nat → Int32} {n : Nat} (h : ∀ j, j < n → w j = w' j) : xwl w n = xwl w' n := by
  induction n with
  | zero => rfl
  | succ n ih => rw [xwl, xwl, h n (by omega), ih (fun j hj => h j (by omega))]
theorem xev_ext {c c' : Nat → Int32} {s n : Nat} (h : ∀ j, j < n → c j = c' j) : xev c s n = xev c' s n := by
  induction n with
  | zero => rfl
  | succ n ih => rw [xev, xev, h n (by omega), ih (fun j hj => h j (by omega))]
theorem xwl_put {w : Nat → Int32} {n : Nat} {x : Int32} : xwl (upd w n x) (n + 1) = x.toInt :: xwl w n := by
  rw [xwl, xupd_s, xwl_ext (w' := w) (fun j hj => xupd_o (by omega))]
theorem xev_put {c : Nat → Int32} {s n : Nat} {x : Int32} : xev (upd c n x) s (n + 1) = if x.toInt < 9 then s.testBit x.toInt.toNat :: xev c s n else xap x.toInt (xev c s n) := by
  rw [xev, xupd_s, xev_ext (c' := c) (fun j hj => xupd_o (by omega))]
/-- what is reckoned on the way has its two values -/
def zdp (e : Int) : List Int → List Bool → Prop
  | [], _ => True
  | x :: o, v => x ≠ 12 → x ≤ e → (∃ y b t, v = y :: b :: t) ∧ zdp e o (xap x v)
theorem xdp_b {r : List (Bool × Bool)} {o : List Int} {v v0 : List Bool} {e : Int} (h : xgb r o v0) : zdp e o v := by
  cases r with
  | nil =>
    obtain ⟨h1, -⟩ := h
    subst h1
    trivial
  | cons p r =>
    obtain ⟨o1, o', v', h1, -, -⟩ := h
    subst h1
    intro z
    exact absurd rfl z
theorem xdp_2 {a l : Bool} {r : List (Bool × Bool)} {o : List Int} {v : List Bool} {e : Int} (h : xM2 ((a, l) :: r) o v) : zdp e o v := by
  obtain ⟨o', v', h1, h2⟩ := h
  rcases h1 with ⟨e1, e2, e3⟩ | ⟨e1, e2⟩ | ⟨b, x, e1, e2, e3, e4⟩ | ⟨b, x, e1, e2, e3⟩
  · rw [e1]
    exact xdp_b h2
  · rw [e1, e2]
    exact fun _ _ => ⟨⟨_, _, _, rfl⟩, xdp_b h2⟩
  · rw [e1, e2]
    exact fun _ _ => ⟨⟨_, _, _, rfl⟩, xdp_b h2⟩
  · rw [e1, e2]
    exact fun _ _ => ⟨⟨_, _, _, rfl⟩, fun _ _ => ⟨⟨_, _, _, rfl⟩, xdp_b h2⟩⟩
/-- every sign told has its two values -/
def xwk (c : Nat → Int32) (n : Nat) : Prop := ∀ k, k < n → 9 ≤ (c k).toInt → ∀ s, s < 512 → ∃ y b t, xev c s k = y :: b :: t
theorem xwk_ext {c c' : Nat → Int32} {n : Nat} (h : ∀ j, j < n → c j = c' j) (w : xwk c n) : xwk c' n := by
  intro k hk h9 s hs
  have := w k hk (by rw [h k hk]; exact h9) s hs
  rw [xev_ext (c' := c') (fun j hj => h j (by omega))] at this
  exact this
-- 60.m.mono
/-- more sets, no less reckoned -/
def xle : List Bool → List Bool → Prop
  | [], [] => True
  | a :: l, b :: m => (a = true → b = true) ∧ xle l m
  | _, _ => False
theorem xap_le {x : Int} : ∀ {l m : List Bool}, xle l m → xle (xap x l) (xap x m)
  | [], [], _ => trivial
  | [], _ :: _, h => h.elim
  | _ :: _, [], h => h.elim
  | [_], [_], h => h
  | [_], _ :: _ :: _, h => h.2.elim
  | _ :: _ :: _, [_], h => h.2.elim
  | a :: b :: l, c :: d :: m, h => by
    obtain ⟨h1, h2, h3⟩ := h
    show (((if x = 10 then b && a else b || a) = true → (if x = 10 then d && c else d || c) = true) ∧ xle l m)
    refine ⟨fun z => ?_, h3⟩
    by_cases q : x = 10
    · rw [if_pos q, Bool.and_eq_true] at z ⊢
      exact ⟨h2 z.1, h1 z.2⟩
    · rw [if_neg q, Bool.or_eq_true] at z ⊢
      exact z.elim (fun y => Or.inl (h2 y)) (fun y => Or.inr (h1 y))
theorem xev_mono {c : Nat → Int32} {s t : Nat} : ∀ n : Nat, (∀ j, j < n → (c j).toInt < 9 → s.testBit (c j).toInt.toNat = true → t.testBit (c j).toInt.toNat = true) → xle (xev c s n) (xev c t n) := by
  intro n
  induction n with
  | zero => exact fun _ => trivial
  | succ n ih =>
    intro h
    have i9 := ih (fun j hj => h j (by omega))
    rw [xev, xev]
    by_cases q : (c n).toInt < 9
    · rw [if_pos q, if_pos q]
      exact ⟨h n (by omega) q, i9⟩
    · rw [if_neg q, if_neg q]
      exact xap_le i9
theorem xev_mono1 {c : Nat → Int32} {s t n : Nat} {a b : Bool} (h : ∀ j, j < n → (c j).toInt < 9 → s.testBit (c j).toInt.toNat = true → t.testBit (c j).toInt.toNat = true) (h1 : xev c s n = [a]) (h2 : xev c t n = [b]) (ha : a = true) : b = true := by
  have z := xev_mono n h
  rw [h1, h2] at z
  exact z.1 ha
-- 60.x.bits
/-- a bit of an int -/
def xb (s : Int32) (r : Nat) : Bool := s.toBitVec.getLsbD r
theorem xbv1 : (1 : Int32).toBitVec = BitVec.twoPow 32 0 := by decide
theorem xsr_bv (s : Int32) {r : Nat} (hr : r < 32) : (s >>> (nI r &&& 31)).toBitVec = s.toBitVec.sshiftRight r := by
  have e : ∀ r : Fin 32, ((nI r.val &&& 31 : Int32).toBitVec.smod 32#32).toNat = r.val := by decide
  rw [Int32.toBitVec_shiftRight]
  show s.toBitVec.sshiftRight' ((nI r &&& 31 : Int32).toBitVec.smod 32#32) = _
  unfold BitVec.sshiftRight'
  rw [e ⟨r, hr⟩]
theorem xsr_bit (s : Int32) {r : Nat} (hr : r < 32) : ((s >>> (nI r &&& 31)) &&& (1 : Int32)).toBitVec = if xb s r = true then BitVec.twoPow 32 0 else 0#32 := by
  rw [Int32.toBitVec_and, xbv1, BitVec.and_twoPow, xsr_bv s hr]
  have e : (s.toBitVec.sshiftRight r).getLsbD 0 = xb s r := by
    rw [BitVec.getLsbD_sshiftRight]
    simp only [Nat.add_zero]
    unfold xb
    have : decide (32 ≤ 0) = false := by decide
    rw [if_pos (by omega)]
    simp
  rw [e]
theorem xsr_1 (s : Int32) {r : Nat} (hr : r < 32) : ((s >>> (nI r &&& 31)) &&& (1 : Int32)).toInt = 1 ↔ xb s r = true := by
  show ((s >>> (nI r &&& 31)) &&& (1 : Int32)).toBitVec.toInt = 1 ↔ _
  rw [xsr_bit s hr]
  cases xb s r <;> decide
theorem xsr_0 (s : Int32) {r : Nat} (hr : r < 32) : ((s >>> (nI r &&& 31)) &&& (1 : Int32)).toInt = 0 ↔ xb s r = false := by
  show ((s >>> (nI r &&& 31)) &&& (1 : Int32)).toBitVec.toInt = 0 ↔ _
  rw [xsr_bit s hr]
  cases xb s r <;> decide
theorem xb_and (a b : Int32) (r : Nat) : xb (a &&& b) r = (xb a r && xb b r) := by
  unfold xb
  rw [Int32.toBitVec_and, BitVec.getLsbD_and]
theorem xb_or (a b : Int32) (r : Nat) : xb (a ||| b) r = (xb a r || xb b r) := by
  unfold xb
  rw [Int32.toBitVec_or, BitVec.getLsbD_or]
theorem xb_not (a : Int32) {r : Nat} (hr : r < 32) : xb (a ^^^ (-1)) r = !xb a r := by
  have e : ∀ r : Fin 32, (-1 : Int32).toBitVec.getLsbD r.val = true := by decide
  unfold xb
  rw [Int32.toBitVec_xor, BitVec.getLsbD_xor, e ⟨r, hr⟩]
  cases a.toBitVec.getLsbD r <;> rfl
theorem xb_shl : ∀ (k r : Fin 32), xb ((1 : Int32) <<< (nI k.val &&& 31)) r.val = decide (r = k) := by
  unfold xb
  decide +kernel
theorem xb_nI {n r : Nat} (hr : r < 32) : xb (nI n) r = n.testBit r := by
  unfold xb
  show (BitVec.ofNat 32 n).getLsbD r = _
  rw [BitVec.getLsbD_ofNat]
  simp [hr]
theorem xb_all : ∀ (q r : Fin 9), xb (((1 : Int32) <<< (nI q.val &&& 31)) - 1) r.val = decide (r.val < q.val) := by
  unfold xb
  decide +kernel
theorem x_all : ∀ (q : Fin 9), ((1 : Int32) <<< (nI q.val &&& 31)) - 1 = nI (2 ^ q.val - 1) := by decide +kernel
theorem x_shl : ∀ (q : Fin 9), ((1 : Int32) <<< (nI q.val &&& 31)) = nI (2 ^ q.val) := by decide +kernel
theorem x_or {m n : Nat} (hm : m < 512) (hn : n < 512) : nI m ||| nI n = nI (m ||| n) := by
  apply Int32.toBitVec_inj.mp
  rw [Int32.toBitVec_or]
  show BitVec.ofNat 32 m ||| BitVec.ofNat 32 n = BitVec.ofNat 32 (m ||| n)
  rw [BitVec.ofNat_or]
theorem x_and {m n : Nat} (hm : m < 512) (hn : n < 512) : nI m &&& nI n = nI (m &&& n) := by
  apply Int32.toBitVec_inj.mp
  rw [Int32.toBitVec_and]
  show BitVec.ofNat 32 m &&& BitVec.ofNat 32 n = BitVec.ofNat 32 (m &&& n)
  rw [BitVec.ofNat_and]
theorem x_put {n r : Nat} (hn : n < 256) (hr : r < 8) : nI n ||| ((1 : Int32) <<< (nI r &&& 31)) = nI (n ||| 2 ^ r) := by
  rw [x_shl ⟨r, by omega⟩]
  have : 2 ^ r < 512 := Nat.lt_of_le_of_lt (Nat.pow_le_pow_right (by decide) (show r ≤ 8 by omega)) (by decide)
  exact x_or (by omega) this
theorem x_put_lt {n r : Nat} (hn : n < 256) (hr : r < 8) : n ||| 2 ^ r < 256 := by
  have h : 2 ^ r < 2 ^ 8 := Nat.pow_lt_pow_right (by decide) hr
  exact Nat.or_lt_two_pow (n := 8) hn h
theorem x_or256 {g : Nat} (hg : g < 256) : nI g ||| 256 = nI (g + 256) := by
  have e : ∀ g : Fin 256, g.val ||| 256 = g.val + 256 := by decide +kernel
  rw [show (256 : Int32) = nI 256 from rfl, x_or (by omega) (by omega)]
  exact congrArg nI (e ⟨g, hg⟩)
