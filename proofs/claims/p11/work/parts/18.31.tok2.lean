theorem t_wants0 {fl c s w : Int32} : M_m_wants 0 fl c s w = (sp_fl fl c, sp_fp fl s w) := by
  simp only [K_m_wants_5, K_m_wants_4, K_m_wants_3, K_m_wants_2, K_m_wants_1, M_m_wants]
  unfold sp_fl sp_fp
  rw [if_pos (by decide)]
  by_cases z : fl.toInt = 0
  · rw [if_pos z, if_pos z, if_pos z]
  · rw [if_neg z, if_neg z, if_neg z]
theorem t_wants1 {fl c s w : Int32} : M_m_wants 1 fl c s w = (fl, w) := by
  simp only [K_m_wants_5, K_m_wants_4, K_m_wants_3, K_m_wants_2, K_m_wants_1, M_m_wants]
  rw [if_neg (by decide)]
theorem t_name_L {f : Nat → Int32} {n s v fl w : Int32} (hn : n.toInt ≤ 400) : ∀ (k : Nat) (x : Int32), 0 ≤ x.toInt → x.toInt ≤ n.toInt → n.toInt - x.toInt < (k : Int) → K_m_next_L66 s v fl w n f k x = (sp_run f n 97 122 k x, s, 1, v, fl, w) := by
  intro k
  induction k with
  | zero => intro x h0 h1 h; exact absurd h (by omega)
  | succ k ih =>
    intro x h0 h1 h
    simp only [K_m_next_7, K_m_next_69, K_m_next_68, K_m_next_67, K_m_next_66, K_m_next_65, K_m_next_64, K_m_next_63, K_m_next_12, K_m_next_48, K_m_next_50, K_m_next_49, K_m_next_43, K_m_next_46, K_m_next_44, K_m_next_47, K_m_next_45, K_m_next_42, K_m_next_41, K_m_next_40, K_m_next_38, K_m_next_60, K_m_next_62, K_m_next_61, K_m_next_55, K_m_next_58, K_m_next_56, K_m_next_59, K_m_next_57, K_m_next_54, K_m_next_53, K_m_next_52, K_m_next_51, K_m_next_39, K_m_next_33, K_m_next_36, K_m_next_34, K_m_next_37, K_m_next_35, K_m_next_32, K_m_next_31, K_m_next_14, K_m_next_30, K_m_next_16, K_m_next_29, K_m_next_18, K_m_next_28, K_m_next_20, K_m_next_27, K_m_next_22, K_m_next_26, K_m_next_24, K_m_next_25, K_m_next_23, K_m_next_21, K_m_next_19, K_m_next_17, K_m_next_15, K_m_next_13, K_m_next_11, K_m_next_9, K_m_next_10, K_m_next_8, K_m_next_6, K_m_next_5, K_m_next_4, K_m_next_2, K_m_next_3, K_m_next_1, M_m_next, K_m_next_L66, sp_run, t_look]
    by_cases q : 97 ≤ (sp_look f n x).toInt ∧ (sp_look f n x).toInt ≤ 122
    · rw [if_pos q, if_pos q]
      have l := sp_look_lt (f := f) (n := n) (x := x) (by omega)
      have e := xinc h0 l hn
      exact ih _ (by omega) (by omega) (by omega)
    · rw [if_neg q, if_neg q]
def sp_dig (f : Nat → Int32) (n s : Int32) : Nat → Int32 → Int32 → Int32
  | 0, _, v => v
  | k + 1, x, v => if 48 ≤ (sp_look f n x).toInt ∧ (sp_look f n x).toInt ≤ 57 then sp_dig f n s k (x + 1) (if 3 ≤ x.toInt - s.toInt then v else 10 * v + sp_look f n x - 48) else v
theorem t_dig_L {f : Nat → Int32} {n s fl w : Int32} (hn : n.toInt ≤ 400) : ∀ (k : Nat) (x v : Int32), 0 ≤ x.toInt → x.toInt ≤ n.toInt → n.toInt - x.toInt < (k : Int) → K_m_next_L52 s n f fl w k x v = if 3 < (sp_run f n 48 57 k x).toInt - s.toInt then (sp_run f n 48 57 k x, s, 2, sp_dig f n s k x v, sp_fl fl 1, sp_fp fl s w) else (sp_run f n 48 57 k x, s, 2, sp_dig f n s k x v, fl, w) := by
  intro k
  induction k with
  | zero => intro x v h0 h1 h; exact absurd h (by omega)
  | succ k ih =>
    intro x v h0 h1 h
    have e1 : sp_run f n 48 57 (k + 1) x = if 48 ≤ (sp_look f n x).toInt ∧ (sp_look f n x).toInt ≤ 57 then sp_run f n 48 57 k (x + 1) else x := rfl
    have e2 : sp_dig f n s (k + 1) x v = if 48 ≤ (sp_look f n x).toInt ∧ (sp_look f n x).toInt ≤ 57 then sp_dig f n s k (x + 1) (if 3 ≤ x.toInt - s.toInt then v else 10 * v + sp_look f n x - 48) else v := rfl
    by_cases q : 48 ≤ (sp_look f n x).toInt ∧ (sp_look f n x).toInt ≤ 57
    · have l := sp_look_lt (f := f) (n := n) (x := x) (by omega)
      have e := xinc h0 l hn
      rw [if_pos q] at e1 e2
      rw [e1, e2]
      simp only [K_m_next_7, K_m_next_69, K_m_next_68, K_m_next_67, K_m_next_66, K_m_next_65, K_m_next_64, K_m_next_63, K_m_next_12, K_m_next_48, K_m_next_50, K_m_next_49, K_m_next_43, K_m_next_46, K_m_next_44, K_m_next_47, K_m_next_45, K_m_next_42, K_m_next_41, K_m_next_40, K_m_next_38, K_m_next_60, K_m_next_62, K_m_next_61, K_m_next_55, K_m_next_58, K_m_next_56, K_m_next_59, K_m_next_57, K_m_next_54, K_m_next_53, K_m_next_52, K_m_next_51, K_m_next_39, K_m_next_33, K_m_next_36, K_m_next_34, K_m_next_37, K_m_next_35, K_m_next_32, K_m_next_31, K_m_next_14, K_m_next_30, K_m_next_16, K_m_next_29, K_m_next_18, K_m_next_28, K_m_next_20, K_m_next_27, K_m_next_22, K_m_next_26, K_m_next_24, K_m_next_25, K_m_next_23, K_m_next_21, K_m_next_19, K_m_next_17, K_m_next_15, K_m_next_13, K_m_next_11, K_m_next_9, K_m_next_10, K_m_next_8, K_m_next_6, K_m_next_5, K_m_next_4, K_m_next_2, K_m_next_3, K_m_next_1, M_m_next, K_m_next_L52, t_look, t_wants0, t_wants1]
      rw [if_pos q]
      by_cases q3 : 3 ≤ x.toInt - s.toInt
      · rw [if_pos q3, if_pos q3]
        exact ih _ _ (by omega) (by omega) (by omega)
      · rw [if_neg q3, if_neg q3]
        exact ih _ _ (by omega) (by omega) (by omega)
    · rw [if_neg q] at e1 e2
      rw [e1, e2]
      simp only [K_m_next_7, K_m_next_69, K_m_next_68, K_m_next_67, K_m_next_66, K_m_next_65, K_m_next_64, K_m_next_63, K_m_next_12, K_m_next_48, K_m_next_50, K_m_next_49, K_m_next_43, K_m_next_46, K_m_next_44, K_m_next_47, K_m_next_45, K_m_next_42, K_m_next_41, K_m_next_40, K_m_next_38, K_m_next_60, K_m_next_62, K_m_next_61, K_m_next_55, K_m_next_58, K_m_next_56, K_m_next_59, K_m_next_57, K_m_next_54, K_m_next_53, K_m_next_52, K_m_next_51, K_m_next_39, K_m_next_33, K_m_next_36, K_m_next_34, K_m_next_37, K_m_next_35, K_m_next_32, K_m_next_31, K_m_next_14, K_m_next_30, K_m_next_16, K_m_next_29, K_m_next_18, K_m_next_28, K_m_next_20, K_m_next_27, K_m_next_22, K_m_next_26, K_m_next_24, K_m_next_25, K_m_next_23, K_m_next_21, K_m_next_19, K_m_next_17, K_m_next_15, K_m_next_13, K_m_next_11, K_m_next_9, K_m_next_10, K_m_next_8, K_m_next_6, K_m_next_5, K_m_next_4, K_m_next_2, K_m_next_3, K_m_next_1, M_m_next, K_m_next_L52, t_look, t_wants0, t_wants1]
      rw [if_neg q]
theorem t_next_L {f : Nat → Int32} {n v fl w : Int32} (hn : n.toInt ≤ 400) : ∀ (k : Nat) (x : Int32), 0 ≤ x.toInt → x.toInt ≤ n.toInt → n.toInt - x.toInt < (k : Int) → K_m_next_L4 v fl w n f k x = K_m_next_L4 v fl w n f 1 (sp_run f n 32 32 k x) := by
  intro k
  induction k with
  | zero => intro x h0 h1 h; exact absurd h (by omega)
  | succ k ih =>
    intro x h0 h1 h
    by_cases q : 32 ≤ (sp_look f n x).toInt ∧ (sp_look f n x).toInt ≤ 32
    · have l := sp_look_lt (f := f) (n := n) (x := x) (by omega)
      have z := xinc h0 l hn
      have e : sp_run f n 32 32 (k + 1) x = sp_run f n 32 32 k (x + 1) := by
        show (if 32 ≤ (sp_look f n x).toInt ∧ (sp_look f n x).toInt ≤ 32 then sp_run f n 32 32 k (x + 1) else x) = _
        rw [if_pos q]
      rw [e, ← ih (x + 1) (by omega) (by omega) (by omega)]
      simp only [K_m_next_7, K_m_next_69, K_m_next_68, K_m_next_67, K_m_next_66, K_m_next_65, K_m_next_64, K_m_next_63, K_m_next_12, K_m_next_48, K_m_next_50, K_m_next_49, K_m_next_43, K_m_next_46, K_m_next_44, K_m_next_47, K_m_next_45, K_m_next_42, K_m_next_41, K_m_next_40, K_m_next_38, K_m_next_60, K_m_next_62, K_m_next_61, K_m_next_55, K_m_next_58, K_m_next_56, K_m_next_59, K_m_next_57, K_m_next_54, K_m_next_53, K_m_next_52, K_m_next_51, K_m_next_39, K_m_next_33, K_m_next_36, K_m_next_34, K_m_next_37, K_m_next_35, K_m_next_32, K_m_next_31, K_m_next_14, K_m_next_30, K_m_next_16, K_m_next_29, K_m_next_18, K_m_next_28, K_m_next_20, K_m_next_27, K_m_next_22, K_m_next_26, K_m_next_24, K_m_next_25, K_m_next_23, K_m_next_21, K_m_next_19, K_m_next_17, K_m_next_15, K_m_next_13, K_m_next_11, K_m_next_9, K_m_next_10, K_m_next_8, K_m_next_6, K_m_next_5, K_m_next_4, K_m_next_2, K_m_next_3, K_m_next_1, M_m_next, K_m_next_L4, t_look]
      rw [if_pos (by omega)]
    · have e : sp_run f n 32 32 (k + 1) x = x := by
        show (if 32 ≤ (sp_look f n x).toInt ∧ (sp_look f n x).toInt ≤ 32 then sp_run f n 32 32 k (x + 1) else x) = _
        rw [if_neg q]
      rw [e]
      simp only [K_m_next_7, K_m_next_69, K_m_next_68, K_m_next_67, K_m_next_66, K_m_next_65, K_m_next_64, K_m_next_63, K_m_next_12, K_m_next_48, K_m_next_50, K_m_next_49, K_m_next_43, K_m_next_46, K_m_next_44, K_m_next_47, K_m_next_45, K_m_next_42, K_m_next_41, K_m_next_40, K_m_next_38, K_m_next_60, K_m_next_62, K_m_next_61, K_m_next_55, K_m_next_58, K_m_next_56, K_m_next_59, K_m_next_57, K_m_next_54, K_m_next_53, K_m_next_52, K_m_next_51, K_m_next_39, K_m_next_33, K_m_next_36, K_m_next_34, K_m_next_37, K_m_next_35, K_m_next_32, K_m_next_31, K_m_next_14, K_m_next_30, K_m_next_16, K_m_next_29, K_m_next_18, K_m_next_28, K_m_next_20, K_m_next_27, K_m_next_22, K_m_next_26, K_m_next_24, K_m_next_25, K_m_next_23, K_m_next_21, K_m_next_19, K_m_next_17, K_m_next_15, K_m_next_13, K_m_next_11, K_m_next_9, K_m_next_10, K_m_next_8, K_m_next_6, K_m_next_5, K_m_next_4, K_m_next_2, K_m_next_3, K_m_next_1, M_m_next, K_m_next_L4, t_look]
      rw [if_neg (by omega : ¬ (sp_look f n x).toInt = 32), if_neg (by omega : ¬ (sp_look f n x).toInt = 32)]
noncomputable def sp_next (f : Nat → Int32) (n fl w v s : Int32) : Int32 × Int32 × Int32 × Int32 × Int32 × Int32 :=
  if (sp_look f n s).toInt < 0 then (s, s, 0, v, fl, w)
  else if 97 ≤ (sp_look f n s).toInt ∧ (sp_look f n s).toInt ≤ 122 then (sp_run f n 97 122 401 s, s, 1, v, fl, w)
  else if 48 ≤ (sp_look f n s).toInt ∧ (sp_look f n s).toInt ≤ 57 then
    (if 3 < (sp_run f n 48 57 401 s).toInt - s.toInt then (sp_run f n 48 57 401 s, s, 2, sp_dig f n s 401 s 0, sp_fl fl 1, sp_fp fl s w)
     else (sp_run f n 48 57 401 s, s, 2, sp_dig f n s 401 s 0, fl, w))
  else if (sp_look f n s).toInt = 40 then (s + 1, s, 3, v, fl, w)
  else if (sp_look f n s).toInt = 41 then (s + 1, s, 4, v, fl, w)
  else if (sp_look f n s).toInt = 38 then (s + 1, s, 5, v, fl, w)
  else if (sp_look f n s).toInt = 124 then (s + 1, s, 6, v, fl, w)
  else if (sp_look f n s).toInt = 59 then (s + 1, s, 7, v, fl, w)
  else (s + 1, s, 7, v, sp_fl fl 1, sp_fp fl s w)
theorem sp_dig_fuel {f : Nat → Int32} {n s : Int32} (hn : n.toInt ≤ 400) : ∀ (k : Nat) (x v : Int32), 0 ≤ x.toInt → n.toInt - x.toInt < (k : Int) → sp_dig f n s (k + 1) x v = sp_dig f n s k x v := by
  intro k
  induction k with
  | zero =>
    intro x v h0 h
    have q : ¬ (48 ≤ (sp_look f n x).toInt ∧ (sp_look f n x).toInt ≤ 57) := fun z => by
      have := sp_look_lt (f := f) (n := n) (x := x) (by omega)
      omega
    show (if 48 ≤ (sp_look f n x).toInt ∧ (sp_look f n x).toInt ≤ 57 then _ else v) = v
    rw [if_neg q]
  | succ k ih =>
    intro x v h0 h
    show (if 48 ≤ (sp_look f n x).toInt ∧ (sp_look f n x).toInt ≤ 57 then sp_dig f n s (k + 1) (x + 1) _ else v) = (if 48 ≤ (sp_look f n x).toInt ∧ (sp_look f n x).toInt ≤ 57 then sp_dig f n s k (x + 1) _ else v)
    by_cases q : 48 ≤ (sp_look f n x).toInt ∧ (sp_look f n x).toInt ≤ 57
    · rw [if_pos q, if_pos q]
      have a := sp_look_lt (f := f) (n := n) (x := x) (by omega)
      have b := xinc h0 a hn
      exact ih _ _ (by omega) (by omega)
    · rw [if_neg q, if_neg q]
theorem sp_dig_any {f : Nat → Int32} {n s : Int32} (hn : n.toInt ≤ 400) {x v : Int32} (h0 : 0 ≤ x.toInt) {k : Nat} (hk : n.toInt - x.toInt < (k : Int)) : ∀ d : Nat, sp_dig f n s (k + d) x v = sp_dig f n s k x v := by
  intro d
  induction d with
  | zero => rfl
  | succ d ih => exact (sp_dig_fuel hn (k + d) x v h0 (by omega)).trans ih
theorem t_next {f : Nat → Int32} {n fl w v x fr so : Int32} (hf : ∀ j, 0 ≤ (f j).toInt) (hn : n.toInt ≤ 400) (h0 : 0 ≤ x.toInt) (h1 : x.toInt ≤ n.toInt) (hfl : fl.toInt ≤ 0) : M_m_next fl v w n f x fr so = sp_next f n fl w v (sp_run f n 32 32 401 x) := by
  have e : M_m_next fl v w n f x fr so = K_m_next_L4 v fl w n f 100000 x := by
    simp only [K_m_next_7, K_m_next_69, K_m_next_68, K_m_next_67, K_m_next_66, K_m_next_65, K_m_next_64, K_m_next_63, K_m_next_12, K_m_next_48, K_m_next_50, K_m_next_49, K_m_next_43, K_m_next_46, K_m_next_44, K_m_next_47, K_m_next_45, K_m_next_42, K_m_next_41, K_m_next_40, K_m_next_38, K_m_next_60, K_m_next_62, K_m_next_61, K_m_next_55, K_m_next_58, K_m_next_56, K_m_next_59, K_m_next_57, K_m_next_54, K_m_next_53, K_m_next_52, K_m_next_51, K_m_next_39, K_m_next_33, K_m_next_36, K_m_next_34, K_m_next_37, K_m_next_35, K_m_next_32, K_m_next_31, K_m_next_14, K_m_next_30, K_m_next_16, K_m_next_29, K_m_next_18, K_m_next_28, K_m_next_20, K_m_next_27, K_m_next_22, K_m_next_26, K_m_next_24, K_m_next_25, K_m_next_23, K_m_next_21, K_m_next_19, K_m_next_17, K_m_next_15, K_m_next_13, K_m_next_11, K_m_next_9, K_m_next_10, K_m_next_8, K_m_next_6, K_m_next_5, K_m_next_4, K_m_next_2, K_m_next_3, K_m_next_1, M_m_next]
    rw [if_pos hfl]
  rw [e, t_next_L hn 100000 x h0 h1 (by omega), sp_run_any (k := 100000) (j := 401) (by decide) hn h0 (by omega) (by omega)]
  have hs := sp_run_le (f := f) (lo := 32) (hi := 32) (by decide) hn 401 x h0 h1
  have ho := sp_run_out (f := f) (lo := 32) (hi := 32) (by decide) hn 401 x h0 (by omega)
  generalize sp_run f n 32 32 401 x = s at hs ho ⊢
  unfold sp_next
  simp only [K_m_next_7, K_m_next_69, K_m_next_68, K_m_next_67, K_m_next_66, K_m_next_65, K_m_next_64, K_m_next_63, K_m_next_12, K_m_next_48, K_m_next_50, K_m_next_49, K_m_next_43, K_m_next_46, K_m_next_44, K_m_next_47, K_m_next_45, K_m_next_42, K_m_next_41, K_m_next_40, K_m_next_38, K_m_next_60, K_m_next_62, K_m_next_61, K_m_next_55, K_m_next_58, K_m_next_56, K_m_next_59, K_m_next_57, K_m_next_54, K_m_next_53, K_m_next_52, K_m_next_51, K_m_next_39, K_m_next_33, K_m_next_36, K_m_next_34, K_m_next_37, K_m_next_35, K_m_next_32, K_m_next_31, K_m_next_14, K_m_next_30, K_m_next_16, K_m_next_29, K_m_next_18, K_m_next_28, K_m_next_20, K_m_next_27, K_m_next_22, K_m_next_26, K_m_next_24, K_m_next_25, K_m_next_23, K_m_next_21, K_m_next_19, K_m_next_17, K_m_next_15, K_m_next_13, K_m_next_11, K_m_next_9, K_m_next_10, K_m_next_8, K_m_next_6, K_m_next_5, K_m_next_4, K_m_next_2, K_m_next_3, K_m_next_1, M_m_next, K_m_next_L4, t_look, t_wants0, t_wants1]
  rw [if_neg (by omega : ¬ (sp_look f n s).toInt = 32)]
  by_cases a0 : (sp_look f n s).toInt < 0
  · rw [if_pos a0, if_neg (by omega)]
  · have l := sp_look_lt (f := f) (n := n) (x := s) (by omega)
    have z := xinc (by omega) l hn
    rw [if_neg a0, if_pos (by omega)]
    by_cases a1 : 97 ≤ (sp_look f n s).toInt ∧ (sp_look f n s).toInt ≤ 122
    · rw [if_pos a1, if_pos a1, if_pos a1, t_name_L hn 100000 (s + 1) (by omega) (by omega) (by omega)]
      have e1 : sp_run f n 97 122 401 s = sp_run f n 97 122 400 (s + 1) := by
        show (if 97 ≤ (sp_look f n s).toInt ∧ (sp_look f n s).toInt ≤ 122 then sp_run f n 97 122 400 (s + 1) else s) = _
        rw [if_pos a1]
      rw [e1, sp_run_any (k := 100000) (j := 400) (by decide) hn (by omega) (by omega) (by omega)]
    · rw [if_neg a1, if_neg a1]
      by_cases a2 : 48 ≤ (sp_look f n s).toInt ∧ (sp_look f n s).toInt ≤ 57
      · rw [if_pos a2, if_pos a2, if_pos a2, if_neg (by omega : ¬ 3 ≤ s.toInt - s.toInt), t_dig_L hn 100000 (s + 1) _ (by omega) (by omega) (by omega)]
        have e1 : sp_run f n 48 57 401 s = sp_run f n 48 57 400 (s + 1) := by
          show (if 48 ≤ (sp_look f n s).toInt ∧ (sp_look f n s).toInt ≤ 57 then sp_run f n 48 57 400 (s + 1) else s) = _
          rw [if_pos a2]
        have e2 : sp_dig f n s 401 s 0 = sp_dig f n s 400 (s + 1) (10 * 0 + sp_look f n s - 48) := by
          show (if 48 ≤ (sp_look f n s).toInt ∧ (sp_look f n s).toInt ≤ 57 then sp_dig f n s 400 (s + 1) (if 3 ≤ s.toInt - s.toInt then 0 else 10 * 0 + sp_look f n s - 48) else 0) = _
          rw [if_pos a2, if_neg (by omega)]
        rw [e1, e2, sp_run_any (k := 100000) (j := 400) (by decide) hn (by omega) (by omega) (by omega), show (100000 : Nat) = 400 + 99600 from rfl, sp_dig_any hn (by omega) (by omega)]
        rfl
      · rw [if_neg a2, if_neg a2]
