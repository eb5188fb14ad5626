theorem t_addL {rails : Int32} : ∀ (m : Nat) (x : Int32) (k : Nat), m ≤ 8 → x.toInt = 8 - (m : Int) → K_addRail_L2 rails (k + m + 1) x = rails + 1 := by
  intro m
  induction m with
  | zero =>
    intro x k hm hx
    simp only [K_addRail_L2, K_addRail_3, K_addRail_5, K_addRail_6, K_addRail_4, K_addRail_2, K_addRail_1, M_addRail]
    rw [if_pos (by omega)]
  | succ m ih =>
    intro x k hm hx
    have e : (x + 1).toInt = x.toInt + 1 := xadd rfl (by decide) (by omega) (by omega)
    have r := ih (x + 1) k (by omega) (by omega)
    show K_addRail_L2 rails ((k + m + 1) + 1) x = _
    generalize k + m + 1 = j at r ⊢
    simp only [K_addRail_L2, K_addRail_3, K_addRail_5, K_addRail_6, K_addRail_4, K_addRail_2, K_addRail_1, M_addRail]
    rw [if_neg (by omega)]
    simp only [r, ite_self]
theorem t_addRail {rails : Int32} : M_addRail rails = rails + 1 := t_addL (rails := rails) 8 0 99991 (by decide) (by decide)
def xTF (f : Nat → Int32) (n dr : Int32) (V : xT) : Int32 := if V.2.2.2.2.1.toInt = 0 then (if V.2.2.1.toInt = 1 then (if (M_m_nameNow V.1 V.2.1 n f).toInt = dr.toInt then V.2.2.2.2.1 else 3) else 2) else V.2.2.2.2.1
def xTW (f : Nat → Int32) (n dr : Int32) (V : xT) : Int32 := if V.2.2.2.2.1.toInt = 0 then (if V.2.2.1.toInt = 1 then (if (M_m_nameNow V.1 V.2.1 n f).toInt = dr.toInt then V.2.2.2.2.2 else V.2.1) else V.2.1) else V.2.2.2.2.2
theorem m_rail {f ur ua : Nat → Int32} {n dr us dp mv ps mr so mf mw : Int32} (d : dr.toInt < 8) : M_m_readRail dr n f us ur ua dp mv ps mr so mf mw = (fun V => K_m_readRail_2 dr n f us ur ua dp (xTF f n dr V) V.2.2.2.1 (xTW f n dr V) V.1 V.2.1 V.2.2.1) (M_m_next mf mv mw n f ps mr so) := by
  simp only [K_m_readRail_17, K_m_readRail_15, K_m_readRail_19, K_m_readRail_18, K_m_readRail_27, K_m_readRail_25, K_m_readRail_26, K_m_readRail_24, K_m_readRail_23, K_m_readRail_22, K_m_readRail_21, K_m_readRail_20, K_m_readRail_16, K_m_readRail_14, K_m_readRail_12, K_m_readRail_13, K_m_readRail_11, K_m_readRail_9, K_m_readRail_10, K_m_readRail_8, K_m_readRail_7, K_m_readRail_5, K_m_readRail_6, K_m_readRail_4, K_m_readRail_28, K_m_readRail_3, K_m_readRail_30, K_m_readRail_29, K_m_readRail_51, K_m_readRail_49, K_m_readRail_50, K_m_readRail_48, K_m_readRail_47, K_m_readRail_46, K_m_readRail_45, K_m_readRail_44, K_m_readRail_35, K_m_readRail_43, K_m_readRail_41, K_m_readRail_42, K_m_readRail_40, K_m_readRail_39, K_m_readRail_38, K_m_readRail_37, K_m_readRail_36, K_m_readRail_34, K_m_readRail_33, K_m_readRail_32, K_m_readRail_31, K_m_readRail_55, K_m_readRail_54, K_m_readRail_52, K_m_readRail_57, K_m_readRail_56, K_m_readRail_53, K_m_readRail_1, M_m_readRail]
  rw [if_neg (by omega)]
  simp only [t_wants1]
  generalize M_m_next mf mv mw n f ps mr so = V
  unfold xTF xTW
  by_cases q : V.2.2.2.2.1.toInt = 0
  · by_cases s : V.2.2.1.toInt = 1
    · by_cases e : (M_m_nameNow V.1 V.2.1 n f).toInt = dr.toInt
      · simp only [if_pos q, if_pos s, if_pos e, t_wants1]
      · simp only [if_pos q, if_pos s, if_neg e, t_wants1, t_wantsF q]
    · simp only [if_pos q, if_neg s, t_wantsF q, if_neg (show ¬ (2 : Int32).toInt = 0 from by decide)]
  · simp only [if_neg q]
theorem r_turn {f : Nat → Int32} {n r pl kd fr vl fl fp : Int32} {V : xT} (hf : ∀ j, 0 ≤ (f j).toInt) (hn : n.toInt ≤ 400) (h : xR n pl kd fr vl fl fp V.1 V.2.1 V.2.2.1 V.2.2.2.1 V.2.2.2.2.1 V.2.2.2.2.2) (r0 : 0 ≤ r.toInt) (r7 : r.toInt ≤ 7) : xRt n (M_takeTurn fl kd r n f fp pl fr vl) (M_m_next (xTF f n r V) V.2.2.2.1 (xTW f n r V) n f V.1 V.2.1 V.2.2.1) ∧ ((M_takeTurn fl kd r n f fp pl fr vl).2.2.2.2.1.toInt = 0 → fl.toInt = 0 ∧ pl.toInt ≤ (M_takeTurn fl kd r n f fp pl fr vl).2.2.1.toInt) := by
  obtain ⟨ps, mr, so, mv, mf, mw⟩ := V
  unfold xTF xTW
  dsimp only at h ⊢
  obtain ⟨e, hp, hw, hk⟩ := h
  subst e
  simp only [K_takeTurn_9, K_takeTurn_7, K_takeTurn_10, K_takeTurn_8, K_takeTurn_6, K_takeTurn_4, K_takeTurn_11, K_takeTurn_5, K_takeTurn_2, K_takeTurn_3, K_takeTurn_1, M_takeTurn]
  by_cases q : fl.toInt = 0
  · obtain ⟨e1, e2, a0, a1, a2, a3, k⟩ := hk q
    subst e1
    subst e2
    by_cases c1 : kd.toInt = 1
    · have s1 : so.toInt = 1 := (xK1 k).1.mp c1
      simp only [if_pos q, if_pos c1, if_pos s1]
      rcases nr (f := f) (pl := pl) a0 a2 hn with ⟨l0, l7, le⟩ | ⟨l4, ln⟩
      · rw [le]
        by_cases e : (M_railNamed pl fr f).toInt = r.toInt
        · simp only [if_pos e]
          have w := r_tok (fp := fp) (kd := kd) (mv := mv) (mw := mw) (mr := fr) (so := so) hf hn (by omega) a2 (rfl : fl = fl) q
          exact ⟨w.1, fun z => ⟨q, w.2 z⟩⟩
        · simp only [if_neg e, t_refuse q]
          rw [t_next_id (show 0 < (3 : Int32).toInt from by decide)]
          exact ⟨xR_no rfl (show 0 < (3 : Int32).toInt from by decide) rfl, fun z => absurd z (show ¬ (3 : Int32).toInt = 0 from by decide)⟩
      · have e : ¬ (M_railNamed pl fr f).toInt = r.toInt := by omega
        have e2 : ¬ (M_m_nameNow pl fr n f).toInt = r.toInt := by omega
        simp only [if_neg e, if_neg e2, t_refuse q]
        rw [t_next_id (show 0 < (3 : Int32).toInt from by decide)]
        exact ⟨xR_no rfl (show 0 < (3 : Int32).toInt from by decide) rfl, fun z => absurd z (show ¬ (3 : Int32).toInt = 0 from by decide)⟩
    · have s1 : ¬ so.toInt = 1 := fun z => c1 ((xK1 k).1.mpr z)
      simp only [if_pos q, if_neg c1, if_neg s1, t_refuse q]
      rw [t_next_id (show 0 < (2 : Int32).toInt from by decide)]
      exact ⟨xR_no rfl (show 0 < (2 : Int32).toInt from by decide) rfl, fun z => absurd z (show ¬ (2 : Int32).toInt = 0 from by decide)⟩
  · simp only [if_neg q]
    rw [t_next_id (by omega)]
    exact ⟨xR_no rfl (by show 0 < fl.toInt; omega) (hw q), fun z => absurd z q⟩
