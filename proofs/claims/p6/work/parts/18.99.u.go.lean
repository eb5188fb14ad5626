/-- ticks: one on both sides -/
theorem b_go {a0 tp0 dead key behind limit : Int32} {pn rt Td D K Tb Nm : Nat → Int32} {pt : Nat → Int64} {q n : Nat} (hn : n ≤ 999) (ha : a0.toInt = (n : Int)) (hE : xE true q pn pt Td Nm Tb) (q8 : q ≤ 8) (hd : xDd dead D) (hrt : ∀ j, j < q → rt j = K j ∧ 1 ≤ (K j).toInt) : ∀ (m c k : Nat) (tk held tries trips ld gd ysz mh : Int32) (rs ri ra rg ya yb yc I U G H S : Nat → Int32), c + m = n → xR4 q rs ri ra rg S I U G → xHi ysz ya yb yc mh H → (0 ≤ ysz.toInt ∧ ysz.toInt ≤ 64) →
    ∃ (tk' held' tries' trips' ld' gd' ysz' mh' : Int32) (rs' ri' ra' rg' ya' yb' yc' I' U' G' H' S' : Nat → Int32), K_x_go_L6 a0 tp0 (nI q) dead pn rt key pt behind limit (k + m + 1) (nI c) tk held tries trips ld gd rs ri ra rg ysz ya yb yc = (trips' - tp0, tk', held', tries', trips', ld', gd', rs', ri', ra', rg', ysz', ya', yb', yc') ∧ K_m_go_L4 a0 tp0 (nI q) key Td D K Tb behind limit (k + m + 1) (nI c) tk held tries ld gd trips mh S I U G H = (trips' - tp0, tk', held', tries', ld', gd', trips', mh', S', I', U', G', H') ∧ xR4 q rs' ri' ra' rg' S' I' U' G' ∧ xHi ysz' ya' yb' yc' mh' H' ∧ (0 ≤ ysz'.toInt ∧ ysz'.toInt ≤ 64) := by
  intro m
  induction m with
  | zero =>
    intro c k tk held tries trips ld gd ysz mh rs ri ra rg ya yb yc I U G H S hc h4 hh hy
    have ec : (nI c).toInt = (c : Int) := nI_toInt (by omega)
    refine ⟨tk, held, tries, trips, ld, gd, ysz, mh, rs, ri, ra, rg, ya, yb, yc, I, U, G, H, S, ?_, ?_, h4, hh, hy⟩
    · simp only [K_x_go_L6, K_x_go_2, K_x_go_7, K_x_go_9, K_x_go_8, K_x_go_6, K_x_go_4, K_x_go_5, K_x_go_3, K_x_go_1, M_x_go]
      rw [if_pos (by omega)]
    · simp only [K_m_go_L4, K_m_go_5, K_m_go_7, K_m_go_6, K_m_go_4, K_m_go_2, K_m_go_3, K_m_go_1, M_m_go]
      rw [if_pos (by omega)]
  | succ m ih =>
    intro c k tk held tries trips ld gd ysz mh rs ri ra rg ya yb yc I U G H S hc h4 hh hy
    have ec : (nI c).toInt = (c : Int) := nI_toInt (by omega)
    obtain ⟨tk1, held1, tries1, trips1, ld1, gd1, ysz1, mh1, rs1, ri1, ra1, rg1, ya1, yb1, yc1, I1, U1, G1, H1, S1, t1, t2, t3, t4, t5⟩ := r_tick (tk := tk) (held := held) (key := key) (tries := tries) (trips := trips) (ld0 := ld) (gd := gd) (behind := behind) (limit := limit) hE q8 hd hrt h4 hh hy
    obtain ⟨tk', held', tries', trips', ld', gd', ysz', mh', rs', ri', ra', rg', ya', yb', yc', I', U', G', H', S', g1, g2, g3, g4, g5⟩ := ih (c + 1) k tk1 held1 tries1 trips1 ld1 gd1 ysz1 mh1 rs1 ri1 ra1 rg1 ya1 yb1 yc1 I1 U1 G1 H1 S1 (by omega) t3 t4 t5
    refine ⟨tk', held', tries', trips', ld', gd', ysz', mh', rs', ri', ra', rg', ya', yb', yc', I', U', G', H', S', ?_, ?_, g3, g4, g5⟩
    · rw [← g1]
      show K_x_go_L6 a0 tp0 (nI q) dead pn rt key pt behind limit ((k + m + 1) + 1) (nI c) tk held tries trips ld gd rs ri ra rg ysz ya yb yc = _
      generalize k + m + 1 = j
      simp only [K_x_go_L6, K_x_go_2, K_x_go_7, K_x_go_9, K_x_go_8, K_x_go_6, K_x_go_4, K_x_go_5, K_x_go_3, K_x_go_1, M_x_go]
      rw [if_neg (by omega), t1, nI_1]
    · rw [← g2]
      show K_m_go_L4 a0 tp0 (nI q) key Td D K Tb behind limit ((k + m + 1) + 1) (nI c) tk held tries ld gd trips mh S I U G H = _
      generalize k + m + 1 = j
      simp only [K_m_go_L4, K_m_go_5, K_m_go_7, K_m_go_6, K_m_go_4, K_m_go_2, K_m_go_3, K_m_go_1, M_m_go]
      rw [if_neg (by omega), t2, nI_1]
/-- go: one on both sides -/
theorem x_go_eq {a0 dead key behind limit tk held tries trips ld gd ysz mh : Int32} {pn rt Td D K Tb Nm rs ri ra rg ya yb yc I U G H S : Nat → Int32} {pt : Nat → Int64} {q : Nat} (hE : xE true q pn pt Td Nm Tb) (q8 : q ≤ 8) (hd : xDd dead D) (hrt : ∀ j, j < q → rt j = K j ∧ 1 ≤ (K j).toInt) (h4 : xR4 q rs ri ra rg S I U G) (hh : xHi ysz ya yb yc mh H) (hy : 0 ≤ ysz.toInt ∧ ysz.toInt ≤ 64) :
    ∃ (r tk' held' tries' trips' ld' gd' ysz' mh' : Int32) (rs' ri' ra' rg' ya' yb' yc' I' U' G' H' S' : Nat → Int32), M_x_go a0 tk held tries trips ld gd rs ri ra rg ysz ya yb yc (nI q) dead pn rt key pt behind limit = (r, tk', held', tries', trips', ld', gd', rs', ri', ra', rg', ysz', ya', yb', yc') ∧ M_m_go a0 trips (nI q) key Td D K Tb behind limit tk held tries ld gd mh S I U G H = (r, tk', held', tries', ld', gd', trips', mh', S', I', U', G', H') ∧ xR4 q rs' ri' ra' rg' S' I' U' G' ∧ xHi ysz' ya' yb' yc' mh' H' ∧ (0 ≤ ysz'.toInt ∧ ysz'.toInt ≤ 64) := by
  by_cases a : 1 ≤ a0.toInt ∧ a0.toInt ≤ 999
  · have an := xtn (x := a0) (by omega)
    obtain ⟨tk', held', tries', trips', ld', gd', ysz', mh', rs', ri', ra', rg', ya', yb', yc', I', U', G', H', S', g1, g2, g3, g4, g5⟩ := b_go (a0 := a0) (tp0 := trips) (key := key) (behind := behind) (limit := limit) (n := a0.toNatClampNeg) (by omega) (by omega) hE q8 hd hrt a0.toNatClampNeg 0 (99999 - a0.toNatClampNeg) tk held tries trips ld gd ysz mh rs ri ra rg ya yb yc I U G H S (by omega) h4 hh hy
    rw [show 99999 - a0.toNatClampNeg + a0.toNatClampNeg + 1 = 100000 from by omega] at g1 g2
    refine ⟨trips' - trips, tk', held', tries', trips', ld', gd', ysz', mh', rs', ri', ra', rg', ya', yb', yc', I', U', G', H', S', ?_, ?_, g3, g4, g5⟩
    · rw [← g1]
      simp only [K_x_go_2, K_x_go_7, K_x_go_9, K_x_go_8, K_x_go_4, K_x_go_5, K_x_go_3, K_x_go_1, M_x_go]
      rw [if_neg (by omega), if_pos (by omega)]
      rfl
    · rw [← g2]
      simp only [K_m_go_5, K_m_go_7, K_m_go_6, K_m_go_2, K_m_go_3, K_m_go_1, M_m_go]
      rw [if_pos a]
      rfl
  · refine ⟨-1, tk, held, tries, trips, ld, gd, ysz, mh, rs, ri, ra, rg, ya, yb, yc, I, U, G, H, S, ?_, ?_, h4, hh, hy⟩
    · simp only [K_x_go_2, K_x_go_7, K_x_go_9, K_x_go_8, K_x_go_4, K_x_go_5, K_x_go_3, K_x_go_1, M_x_go]
      by_cases b : a0.toInt < 1
      · rw [if_pos b]
      · rw [if_neg b, if_neg (by omega)]
    · simp only [K_m_go_5, K_m_go_7, K_m_go_6, K_m_go_2, K_m_go_3, K_m_go_1, M_m_go]
      rw [if_neg a]
/-- now: one on both sides -/
theorem x_now_eq {a0 key tk held tries trips ld gd : Int32} {rs ri ra rg I U G S : Nat → Int32} {q : Nat} (q8 : q ≤ 8) (h4 : xR4 q rs ri ra rg S I U G) : M_x_now a0 tk rs ld held tries gd key trips = M_m_now a0 tk (nI q) S ld held tries gd key trips := by
  simp only [K_x_now_2, K_x_now_6, K_x_now_4, K_x_now_9, K_x_now_7, K_x_now_10, K_x_now_12, K_x_now_14, K_x_now_16, K_x_now_18, K_x_now_20, K_x_now_21, K_x_now_19, K_x_now_17, K_x_now_15, K_x_now_13, K_x_now_11, K_x_now_8, K_x_now_5, K_x_now_3, K_x_now_1, M_x_now, K_m_now_2, K_m_now_6, K_m_now_4, K_m_now_9, K_m_now_7, K_m_now_10, K_m_now_12, K_m_now_14, K_m_now_16, K_m_now_18, K_m_now_20, K_m_now_21, K_m_now_19, K_m_now_17, K_m_now_15, K_m_now_13, K_m_now_11, K_m_now_8, K_m_now_5, K_m_now_3, K_m_now_1, M_m_now]
  rw [r_are q8 (by decide) h4, r_are q8 (by decide) h4]
theorem y_dbit {d : Int32} {D : Nat → Int32} {r : Nat} (hd : xDd d D) (hr : r < 8) : (d >>> (nI r &&& 31)) &&& (1 : Int32) = sp_b (D r) := by
  have o : ((d >>> (nI r &&& 31)) &&& (1 : Int32)).toInt = 1 ∨ ((d >>> (nI r &&& 31)) &&& (1 : Int32)).toInt = 0 := by
    cases e : xb d r with
    | true => exact Or.inl ((xsr_1 d (by omega)).mpr e)
    | false => exact Or.inr ((xsr_0 d (by omega)).mpr e)
  rcases hd r hr with ⟨f0, b0⟩ | ⟨f1, b1⟩
  · have z : ((d >>> (nI r &&& 31)) &&& (1 : Int32)).toInt = 0 := (xsr_0 d (by omega)).mpr b0
    have y : (d >>> (nI r &&& 31)) &&& (1 : Int32) = 0 := Int32.toInt_inj.mp (by rw [z]; decide)
    rw [y, f0]
    decide
  · have z : ((d >>> (nI r &&& 31)) &&& (1 : Int32)).toInt = 1 := (xsr_1 d (by omega)).mpr b1
    have y : (d >>> (nI r &&& 31)) &&& (1 : Int32) = 1 := Int32.toInt_inj.mp (by rw [z]; decide)
    rw [y, f1]
    decide
/-- is: one on both sides -/
theorem x_is_eq {a0 a1 dead : Int32} {rs ri ra rg rt I U G S K D : Nat → Int32} {q : Nat} (q8 : q ≤ 8) (h4 : xR4 q rs ri ra rg S I U G) (hd : xDd dead D) (hk : ∀ j, j < q → rt j = K j) : M_x_is a0 (nI q) a1 rs ri dead rt rg = M_m_is_ a0 (nI q) a1 S I D K G := by
  have qq : (nI q).toInt = (q : Int) := nI_toInt (by omega)
  simp only [K_x_is_4, K_x_is_6, K_x_is_8, K_x_is_10, K_x_is_12, K_x_is_13, K_x_is_11, K_x_is_9, K_x_is_7, K_x_is_5, K_x_is_2, K_x_is_3, K_x_is_1, M_x_is, K_m_is__7, K_m_is__9, K_m_is__11, K_m_is__13, K_m_is__12, K_m_is__10, K_m_is__8, K_m_is__6, K_m_is__4, K_m_is__5, K_m_is__3, K_m_is__2, K_m_is__1, M_m_is_]
  by_cases a : 0 ≤ a0.toInt ∧ a0.toInt < (nI q).toInt
  · rw [if_pos a, if_pos a]
    have an := xtn (x := a0) a.1
    have ea : nI a0.toNatClampNeg = a0 := xnI a.1
    obtain ⟨h1, h2, h3, h5, -⟩ := h4.1 a0.toNatClampNeg (by omega)
    have db := y_dbit (r := a0.toNatClampNeg) hd (by omega)
    rw [ea] at db
    rw [h1, h2, h5, hk _ (by omega), db]
    by_cases c0 : a1.toInt = 0
    · rw [if_pos c0, if_pos (by omega), if_pos c0]
    · rw [if_neg c0]
      by_cases c1 : a1.toInt = 1
      · rw [if_pos c1, if_pos (by omega), if_neg c0, if_pos c1]
      · rw [if_neg c1]
        by_cases c2 : a1.toInt = 2
        · rw [if_pos c2, if_pos (by omega), if_neg c0, if_neg c1, if_pos c2]
        · rw [if_neg c2]
          by_cases c3 : a1.toInt = 3
          · rw [if_pos c3, if_pos (by omega), if_neg c0, if_neg c1, if_neg c2, if_pos c3]
          · rw [if_neg c3]
            by_cases c4 : a1.toInt = 4
            · rw [if_pos c4, if_pos (by omega), if_neg c0, if_neg c1, if_neg c2, if_neg c3]
            · rw [if_neg c4, if_neg (by omega)]
  · rw [if_neg a, if_neg a]
/-- happened: one on both sides -/
theorem x_hap_eq {a0 a1 ysz mh : Int32} {ya yb yc H : Nat → Int32} (hh : xHi ysz ya yb yc mh H) (hy : 0 ≤ ysz.toInt ∧ ysz.toInt ≤ 64) : M_x_happened a0 ysz a1 ya yb yc = M_m_happened a0 mh a1 H := by
  obtain ⟨e, hj⟩ := hh
  subst e
  have y1 : (ysz - 1).toInt = ysz.toInt - 1 := xsub rfl (by decide) (by omega) (by omega)
  simp only [K_x_happened_2, K_x_happened_6, K_x_happened_8, K_x_happened_10, K_x_happened_11, K_x_happened_9, K_x_happened_7, K_x_happened_4, K_x_happened_5, K_x_happened_3, K_x_happened_1, M_x_happened, K_m_happened_5, K_m_happened_4, K_m_happened_3, K_m_happened_2, K_m_happened_1, M_m_happened]
  by_cases a : 0 ≤ a0.toInt ∧ a0.toInt < ysz.toInt
  · rw [if_neg (by omega), if_pos a.2, if_pos (show 0 ≤ a0.toInt ∧ a0.toInt ≤ ysz.toInt - 1 by omega)]
    have an := xtn (x := a0) a.1
    have ea : nI a0.toNatClampNeg = a0 := xnI a.1
    obtain ⟨h0, h1, h2⟩ := hj a0.toNatClampNeg (by omega)
    have ix : ∀ c : Nat, c ≤ 2 → ((3 : Int32) * a0 + nI c).toNatClampNeg = 3 * a0.toNatClampNeg + c := fun c hc => by
      rw [← ea, show (3 : Int32) * nI a0.toNatClampNeg = nI (3 * a0.toNatClampNeg) from pk_mul 3 _, nI_add, nI_clamp (by omega), nI_clamp (by omega)]
    by_cases b : 0 ≤ a1.toInt ∧ a1.toInt ≤ 2
    · have bn := xtn (x := a1) b.1
      have eb : nI a1.toNatClampNeg = a1 := xnI b.1
      have ib := ix a1.toNatClampNeg (by omega)
      rw [eb] at ib
      rw [if_pos b, ib, h0, h1, h2]
      by_cases c0 : a1.toInt = 0
      · rw [if_pos c0, show a1.toNatClampNeg = 0 from by omega]
        rfl
      · rw [if_neg c0]
        by_cases c1 : a1.toInt = 1
        · rw [if_pos c1, show a1.toNatClampNeg = 1 from by omega]
        · rw [if_neg c1, if_pos (by omega), show a1.toNatClampNeg = 2 from by omega]
    · rw [if_neg b, if_neg (by omega), if_neg (by omega), if_neg (by omega)]
  · rw [if_neg (show ¬ (0 ≤ a0.toInt ∧ a0.toInt ≤ ysz.toInt - 1) by omega)]
    by_cases b : a0.toInt < 0
    · rw [if_pos b]
    · rw [if_neg b, if_neg (by omega)]
