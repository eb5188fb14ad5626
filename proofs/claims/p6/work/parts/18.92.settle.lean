theorem g_in {f : Nat → Int32} {w : Int32} {q : Nat} (q8 : q ≤ 8) : ∀ (m r k : Nat), r + m = q → K_m_allIn_L2 (nI q) f w (k + m + 1) (nI r) (nI (xup (fun j => decide ((f j).toInt = w.toInt)) r 0)) = nI (xup (fun j => decide ((f j).toInt = w.toInt)) q 0) := by
  have qq : (nI q).toInt = (q : Int) := nI_toInt (by omega)
  intro m
  induction m with
  | zero =>
    intro r k hr
    have rr : (nI r).toInt = (r : Int) := nI_toInt (by omega)
    obtain rfl : r = q := by omega
    simp only [K_m_allIn_L2, K_m_allIn_3, K_m_allIn_6, K_m_allIn_5, K_m_allIn_4, K_m_allIn_2, K_m_allIn_1, M_m_allIn]
    rw [if_pos (by omega)]
  | succ m ih =>
    intro r k hr
    have rr : (nI r).toInt = (r : Int) := nI_toInt (by omega)
    have rc : (nI r).toNatClampNeg = r := nI_clamp (by omega)
    have l := xup_lt (c := fun j => decide ((f j).toInt = w.toInt)) (show 0 < 256 by decide) r (by omega)
    have z := ih (r + 1) k (by omega)
    rw [← z]
    show K_m_allIn_L2 (nI q) f w ((k + m + 1) + 1) (nI r) _ = _
    generalize k + m + 1 = j
    simp only [K_m_allIn_L2, K_m_allIn_3, K_m_allIn_6, K_m_allIn_5, K_m_allIn_4, K_m_allIn_2, K_m_allIn_1, M_m_allIn]
    rw [if_neg (by omega), rc, nI_1, xor00]
    have st : xup (fun j => decide ((f j).toInt = w.toInt)) (r + 1) 0 = if decide ((f r).toInt = w.toInt) = true then xup (fun j => decide ((f j).toInt = w.toInt)) r 0 ||| 2 ^ r else xup (fun j => decide ((f j).toInt = w.toInt)) r 0 := rfl
    rw [st]
    by_cases c : (f r).toInt = w.toInt
    · rw [if_pos c, if_pos (decide_eq_true c), x_put l (by omega)]
    · rw [if_neg c, if_neg (by simp [c])]
/-- those that are so, the reference's side -/
theorem r_allIn {f : Nat → Int32} {w : Int32} {q : Nat} (q8 : q ≤ 8) : M_m_allIn (nI q) f w = nI (xup (fun j => decide ((f j).toInt = w.toInt)) q 0) := by
  have z := g_in (f := f) (w := w) q8 q 0 (99999 - q) (by omega)
  rw [show 99999 - q + q + 1 = 100000 from by omega] at z
  exact z
theorem t_in {f : Nat → Int32} {w : Int32} : ∀ (m r k : Nat), r + m = 8 → K_railsThatAre_L2 f w (k + m + 1) (nI r) (nI (xup (fun j => decide ((f j).toInt = w.toInt)) r 0)) = nI (xup (fun j => decide ((f j).toInt = w.toInt)) 8 0) := by
  intro m
  induction m with
  | zero =>
    intro r k hr
    have rr : (nI r).toInt = (r : Int) := nI_toInt (by omega)
    obtain rfl : r = 8 := by omega
    simp only [K_railsThatAre_L2, K_railsThatAre_3, K_railsThatAre_6, K_railsThatAre_5, K_railsThatAre_4, K_railsThatAre_2, K_railsThatAre_1, M_railsThatAre]
    rw [if_pos (by omega)]
  | succ m ih =>
    intro r k hr
    have rr : (nI r).toInt = (r : Int) := nI_toInt (by omega)
    have rc : (nI r).toNatClampNeg = r := nI_clamp (by omega)
    have l := xup_lt (c := fun j => decide ((f j).toInt = w.toInt)) (show 0 < 256 by decide) r (by omega)
    have z := ih (r + 1) k (by omega)
    rw [← z]
    show K_railsThatAre_L2 f w ((k + m + 1) + 1) (nI r) _ = _
    generalize k + m + 1 = j
    simp only [K_railsThatAre_L2, K_railsThatAre_3, K_railsThatAre_6, K_railsThatAre_5, K_railsThatAre_4, K_railsThatAre_2, K_railsThatAre_1, M_railsThatAre]
    rw [if_neg (by omega), rc, nI_1]
    have st : xup (fun j => decide ((f j).toInt = w.toInt)) (r + 1) 0 = if decide ((f r).toInt = w.toInt) = true then xup (fun j => decide ((f j).toInt = w.toInt)) r 0 ||| 2 ^ r else xup (fun j => decide ((f j).toInt = w.toInt)) r 0 := rfl
    rw [st]
    by_cases c : (f r).toInt = w.toInt
    · rw [if_pos c, if_pos (decide_eq_true c), x_put l (by omega)]
    · rw [if_neg c, if_neg (by simp [c])]
theorem xup_more {c : Nat → Bool} {g q : Nat} : ∀ n, q ≤ n → (∀ j, q ≤ j → j < n → c j = false) → xup c n g = xup c q g := by
  intro n
  induction n with
  | zero =>
    intro h _
    obtain rfl : q = 0 := by omega
    rfl
  | succ n ih =>
    intro h hc
    by_cases e : q = n + 1
    · rw [e]
    · have c0 := hc n (by omega) (by omega)
      rw [show xup c (n + 1) g = if c n = true then xup c n g ||| 2 ^ n else xup c n g from rfl, c0, if_neg (by decide)]
      exact ih (by omega) (fun j j1 j2 => hc j j1 (by omega))
/-- those that are so: one on both sides -/
theorem r_are {rs ri ra rg S I U G : Nat → Int32} {w : Int32} {q : Nat} (q8 : q ≤ 8) (hw : w.toInt ≠ 0) (h : xR4 q rs ri ra rg S I U G) : M_railsThatAre rs w = M_m_allIn (nI q) S w := by
  have z := t_in (f := rs) (w := w) 8 0 99991 (by omega)
  rw [r_allIn q8, show M_railsThatAre rs w = K_railsThatAre_L2 rs w 100000 (nI 0) (nI 0) from rfl, show K_railsThatAre_L2 rs w 100000 (nI 0) (nI 0) = _ from z]
  congr 1
  rw [xup_more 8 q8 (fun j j1 j2 => by
    have := h.2 j j1 j2
    rw [this]
    have z0 : (0 : Int32).toInt = 0 := by decide
    simp
    omega)]
  exact xup_ext q (fun j hj => by rw [(h.1 j hj).1])
theorem y_in7 {pt : Nat → Int64} {q s : Nat} (q8 : q ≤ 8) (hs : s < 512) : ∀ (m r k : Nat), r + m = q → K_railsThatMay_L7 (nI q) pt (nI s) (k + m + 1) (nI r) (nI (xup (fun j => hb pt j s) r 0)) = nI (xup (fun j => hb pt j s) q 0) ∧ K_railsThatMay_L13 (nI q) pt (nI s) (k + m + 1) (nI r) (nI (xup (fun j => hb pt j s) r 0)) = nI (xup (fun j => hb pt j s) q 0) := by
  have qq : (nI q).toInt = (q : Int) := nI_toInt (by omega)
  intro m
  induction m with
  | zero =>
    intro r k hr
    have rr : (nI r).toInt = (r : Int) := nI_toInt (by omega)
    obtain rfl : r = q := by omega
    simp only [K_railsThatMay_L7, K_railsThatMay_L13, K_railsThatMay_8, K_railsThatMay_11, K_railsThatMay_12, K_railsThatMay_10, K_railsThatMay_9, K_railsThatMay_7, K_railsThatMay_5, K_railsThatMay_14, K_railsThatMay_17, K_railsThatMay_18, K_railsThatMay_16, K_railsThatMay_15, K_railsThatMay_13, K_railsThatMay_6, K_railsThatMay_4, K_railsThatMay_2, K_railsThatMay_3, K_railsThatMay_1, M_railsThatMay]
    exact ⟨if_pos (by omega), if_pos (by omega)⟩
  | succ m ih =>
    intro r k hr
    have rr : (nI r).toInt = (r : Int) := nI_toInt (by omega)
    have l := xup_lt (c := fun j => hb pt j s) (show 0 < 256 by decide) r (by omega)
    have z := ih (r + 1) k (by omega)
    show K_railsThatMay_L7 (nI q) pt (nI s) ((k + m + 1) + 1) (nI r) _ = _ ∧ K_railsThatMay_L13 (nI q) pt (nI s) ((k + m + 1) + 1) (nI r) _ = _
    generalize k + m + 1 = j at z ⊢
    have st : xup (fun j => hb pt j s) (r + 1) 0 = if hb pt r s = true then xup (fun j => hb pt j s) r 0 ||| 2 ^ r else xup (fun j => hb pt j s) r 0 := rfl
    rw [st] at z
    simp only [K_railsThatMay_L7, K_railsThatMay_L13, K_railsThatMay_8, K_railsThatMay_11, K_railsThatMay_12, K_railsThatMay_10, K_railsThatMay_9, K_railsThatMay_7, K_railsThatMay_5, K_railsThatMay_14, K_railsThatMay_17, K_railsThatMay_18, K_railsThatMay_16, K_railsThatMay_15, K_railsThatMay_13, K_railsThatMay_6, K_railsThatMay_4, K_railsThatMay_2, K_railsThatMay_3, K_railsThatMay_1, M_railsThatMay]
    rw [if_neg (show ¬ (nI q).toInt ≤ (nI r).toInt by omega), if_neg (show ¬ (nI q).toInt ≤ (nI r).toInt by omega), t_holds (by omega) hs, nI_1]
    by_cases c : hb pt r s = true
    · rw [if_pos c] at z
      rw [if_pos c, if_neg (by decide), if_neg (by decide), x_put l (by omega)]
      exact z
    · rw [if_neg c] at z
      rw [if_neg c, if_pos (by decide), if_pos (by decide)]
      exact z
/-- those that are good, and the key -/
def xgd (q : Nat) (S : Nat → Int32) (on : Int32) : Nat := xup (fun j => decide ((S j).toInt = 3)) q 0 + (if on.toInt = 0 then 0 else 256)
theorem xgd_lt {q : Nat} {S : Nat → Int32} {on : Int32} (q8 : q ≤ 8) : xgd q S on < 512 := by
  have := xup_lt (c := fun j => decide ((S j).toInt = 3)) (show 0 < 256 by decide) q q8
  unfold xgd
  split <;> omega
theorem r_may {held key : Int32} {rs ri ra rg S I U G : Nat → Int32} {pt : Nat → Int64} {q x : Nat} (q8 : q ≤ 8) (h : xR4 q rs ri ra rg S I U G) (hx : x < q) : xb (M_railsThatMay held key (nI q) pt rs) x = (decide (held.toInt = 0) && hb pt x (xgd q S key)) := by
  have l := xup_lt (c := fun j => decide ((S j).toInt = 3)) (show 0 < 256 by decide) q q8
  simp only [K_railsThatMay_8, K_railsThatMay_11, K_railsThatMay_12, K_railsThatMay_10, K_railsThatMay_9, K_railsThatMay_5, K_railsThatMay_14, K_railsThatMay_17, K_railsThatMay_18, K_railsThatMay_16, K_railsThatMay_15, K_railsThatMay_6, K_railsThatMay_4, K_railsThatMay_2, K_railsThatMay_3, K_railsThatMay_1, M_railsThatMay]
  by_cases a : held.toInt = 0
  · rw [if_pos a, r_are q8 (by decide) h, r_allIn q8, show ((3 : Int32).toInt) = 3 from by decide]
    have bit : ∀ s, xb (nI (xup (fun j => hb pt j s) q 0)) x = hb pt x s := fun s => by
      rw [xb_nI (by omega), xup_bit]
      simp [hx]
    by_cases b : key.toInt = 0
    · rw [if_pos b, xor00]
      have z := (y_in7 (pt := pt) (s := xup (fun j => decide ((S j).toInt = 3)) q 0) q8 (by omega) q 0 (99999 - q) (by omega)).1
      rw [show 99999 - q + q + 1 = 100000 from by omega] at z
      rw [show K_railsThatMay_L7 (nI q) pt (nI (xup (fun j => decide ((S j).toInt = 3)) q 0)) 100000 0 0 = _ from z, bit]
      unfold xgd
      rw [if_pos b]
      simp [a]
    · rw [if_neg b, x_or256 l]
      have z := (y_in7 (pt := pt) (s := xup (fun j => decide ((S j).toInt = 3)) q 0 + 256) q8 (by omega) q 0 (99999 - q) (by omega)).2
      rw [show 99999 - q + q + 1 = 100000 from by omega] at z
      rw [show K_railsThatMay_L13 (nI q) pt (nI (xup (fun j => decide ((S j).toInt = 3)) q 0 + 256)) 100000 0 0 = _ from z, bit]
      unfold xgd
      rw [if_neg b]
      simp [a]
  · rw [if_neg a, xb_z]
    simp [a]
theorem xAll_up {S : Nat → Int32} : ∀ n, n ≤ 8 → xAll S 3 n = nI (xup (fun j => decide ((S j).toInt = 3)) n 0) := by
  intro n
  induction n with
  | zero => exact fun _ => rfl
  | succ n ih =>
    intro hn
    have l := xup_lt (c := fun j => decide ((S j).toInt = 3)) (show 0 < 256 by decide) n (by omega)
    unfold xAll xup
    rw [ih (by omega)]
    by_cases c : (S n).toInt = 3
    · rw [if_pos c, if_pos (decide_eq_true c), x_put l (by omega)]
    · rw [if_neg c, if_neg (by simp [c]), xor00]
theorem xGd_up {S : Nat → Int32} {on : Int32} {q : Nat} (q8 : q ≤ 8) : xGd S q on = nI (xgd q S on) := by
  have l := xup_lt (c := fun j => decide ((S j).toInt = 3)) (show 0 < 256 by decide) q q8
  unfold xGd xgd
  rw [xAll_up q q8]
  by_cases b : on.toInt = 0
  · rw [if_pos b, if_pos b, xor00]
    rfl
  · rw [if_neg b, if_neg b, x_or256 l]
theorem xBf_up {pn Td Nm Tb S : Nat → Int32} {pt : Nat → Int64} {on held : Int32} {q x : Nat} (hE : xE true q pn pt Td Nm Tb) (q8 : q ≤ 8) (hx : x < q) : xBf Tb S q on held x = (decide (held.toInt = 0) && hb pt x (xgd q S on)) := by
  have g := xgd_lt (S := S) (on := on) q8
  unfold xBf
  rw [xGd_up q8, nI_clamp (by omega), (hE x hx).2.2.1 _ g]
  have e : xbt (fun i => pt (8 * x + i)) (xgd q S on) = hb pt x (xgd q S on) := rfl
  rw [e]
  cases hb pt x (xgd q S on) <;> by_cases a : held.toInt = 0 <;> simp [a]
/-- what a round of the reference looks at -/
theorem f_round {key held tk mh : Int32} {Td D K Tb I U G H S : Nat → Int32} {q : Nat} (q8 : q ≤ 8) : M_m_round key (nI q) held tk Td D K Tb I U G H mh S = K_m_round_L3 (nI q) held tk Td D K Tb (nI (xgd q S key)) 100000 0 0 I U G H mh S := by
  have l := xup_lt (c := fun j => decide ((S j).toInt = 3)) (show 0 < 256 by decide) q q8
  simp only [K_m_round_4, K_m_round_22, K_m_round_26, K_m_round_25, K_m_round_28, K_m_round_27, K_m_round_24, K_m_round_30, K_m_round_29, K_m_round_23, K_m_round_21, K_m_round_19, K_m_round_32, K_m_round_36, K_m_round_35, K_m_round_38, K_m_round_37, K_m_round_34, K_m_round_40, K_m_round_39, K_m_round_33, K_m_round_31, K_m_round_20, K_m_round_18, K_m_round_7, K_m_round_9, K_m_round_13, K_m_round_12, K_m_round_15, K_m_round_14, K_m_round_11, K_m_round_17, K_m_round_16, K_m_round_10, K_m_round_8, K_m_round_6, K_m_round_5, K_m_round_2, K_m_round_42, K_m_round_43, K_m_round_41, K_m_round_1, M_m_round]
  rw [r_allIn q8, show ((3 : Int32).toInt) = 3 from by decide]
  unfold xgd
  by_cases b : key.toInt = 0
  · rw [if_pos b, if_pos b, xor00]
    rfl
  · rw [if_neg b, if_neg b, x_or256 l]
theorem b_set {tk dead held key : Int32} {pn rt Td D K Tb Nm : Nat → Int32} {pt : Nat → Int64} {q : Nat} (hE : xE true q pn pt Td Nm Tb) (q8 : q ≤ 8) (hd : xDd dead D) (hrt : ∀ j, j < q → rt j = K j ∧ 1 ≤ (K j).toInt) : ∀ (u rd kc km : Nat) (ysz mh : Int32) (rs ri ra rg ya yb yc I U G H S : Nat → Int32), rd + u ≤ 998 → xM S I Tb q key held ≤ (u : Int) → xR4 q rs ri ra rg S I U G → xHi ysz ya yb yc mh H → (0 ≤ ysz.toInt ∧ ysz.toInt ≤ 64) →
    ∃ (ysz' mh' : Int32) (rs' ri' ra' rg' ya' yb' yc' I' U' G' H' S' : Nat → Int32), K_settle_L2 (nI q) tk dead pn rt held key pt (kc + u + 2) (nI rd) 1 rs ri ra rg ysz ya yb yc = (rs', ri', ra', rg', ysz', ya', yb', yc') ∧ K_m_settles_L2 key (nI q) held tk Td D K Tb (km + u + 2) 1 mh S I U G H = (mh', S', I', U', G', H') ∧ xR4 q rs' ri' ra' rg' S' I' U' G' ∧ xHi ysz' ya' yb' yc' mh' H' ∧ (0 ≤ ysz'.toInt ∧ ysz'.toInt ≤ 64) := by
  intro u
  induction u with
  | zero =>
    intro rd kc km ysz mh rs ri ra rg ya yb yc I U G H S hrd hu h4 hh hy
    obtain ⟨any, ysz1, mh1, rs1, ri1, ra1, rg1, ya1, yb1, yc1, I1, U1, G1, H1, S1, g1, g2, g3, g4, g5, g6, g7, g8⟩ := b_rnd (may := M_railsThatMay held key (nI q) pt rs) (tk := tk) (dead := dead) (mhe := held) (good := xgd q S key) (ok := fun x => decide (held.toInt = 0) && hb pt x (xgd q S key)) hE q8 (xgd_lt q8) hd hrt (fun x hx => r_may q8 h4 hx) (fun x hx => rfl) q 0 (99999 - q) 0 ysz mh rs ri ra rg ya yb yc I U G H S (by omega) h4 hh hy
    rw [show 99999 - q + q + 1 = 100000 from by omega] at g1 g2
    have fall := xM_fall (tab := Tb) (on := key) (held := held) (st := S) (si := I) (st' := S1) (si' := I1) q8 (fun j hj => by rw [xBf_up hE q8 hj]; exact g7 j (by omega) hj)
    have pos := xM_pos S1 I1 Tb q key held
    have rr : (nI rd).toInt = (rd : Int) := nI_toInt (by omega)
    have rr1 : (nI (rd + 1)).toInt = ((rd + 1 : Nat) : Int) := nI_toInt (by omega)
    rcases g8 with ⟨a0, a1⟩ | ⟨a0, a1⟩
    · refine ⟨ysz1, mh1, rs1, ri1, ra1, rg1, ya1, yb1, yc1, I1, U1, G1, H1, S1, ?_, ?_, g3, g4, g5⟩
      · simp only [K_settle_L2, K_settle_3, K_settle_5, K_settle_8, K_settle_7, K_settle_6, K_settle_4, K_settle_2, K_settle_1, M_settle]
        rw [if_neg (by omega), if_neg (by decide), show M_changeRails (nI q) (M_railsThatMay held key (nI q) pt rs) tk dead pn rt rs ri ra rg ysz ya yb yc = _ from g1, a0, nI_1]
        dsimp only
        rw [if_neg (by omega), if_pos (by decide)]
      · simp only [K_m_settles_L2, K_m_settles_3, K_m_settles_5, K_m_settles_4, K_m_settles_2, K_m_settles_1, M_m_settles]
        rw [if_neg (by decide), f_round q8, show K_m_round_L3 (nI q) held tk Td D K Tb (nI (xgd q S key)) 100000 0 0 I U G H mh S = _ from g2, a0]
        dsimp only
        rw [if_pos (by decide)]
    · have := fall.2 a1
      omega
  | succ u ih =>
    intro rd kc km ysz mh rs ri ra rg ya yb yc I U G H S hrd hu h4 hh hy
    obtain ⟨any, ysz1, mh1, rs1, ri1, ra1, rg1, ya1, yb1, yc1, I1, U1, G1, H1, S1, g1, g2, g3, g4, g5, g6, g7, g8⟩ := b_rnd (may := M_railsThatMay held key (nI q) pt rs) (tk := tk) (dead := dead) (mhe := held) (good := xgd q S key) (ok := fun x => decide (held.toInt = 0) && hb pt x (xgd q S key)) hE q8 (xgd_lt q8) hd hrt (fun x hx => r_may q8 h4 hx) (fun x hx => rfl) q 0 (99999 - q) 0 ysz mh rs ri ra rg ya yb yc I U G H S (by omega) h4 hh hy
    rw [show 99999 - q + q + 1 = 100000 from by omega] at g1 g2
    have fall := xM_fall (tab := Tb) (on := key) (held := held) (st := S) (si := I) (st' := S1) (si' := I1) q8 (fun j hj => by rw [xBf_up hE q8 hj]; exact g7 j (by omega) hj)
    have pos := xM_pos S1 I1 Tb q key held
    have rr : (nI rd).toInt = (rd : Int) := nI_toInt (by omega)
    have rr1 : (nI (rd + 1)).toInt = ((rd + 1 : Nat) : Int) := nI_toInt (by omega)
    have cs : ∀ j, K_settle_L2 (nI q) tk dead pn rt held key pt (j + 1) (nI rd) 1 rs ri ra rg ysz ya yb yc = K_settle_L2 (nI q) tk dead pn rt held key pt j (nI (rd + 1)) any rs1 ri1 ra1 rg1 ysz1 ya1 yb1 yc1 := fun j => by
      simp only [K_settle_L2, K_settle_3, K_settle_5, K_settle_8, K_settle_7, K_settle_6, K_settle_4, K_settle_2, K_settle_1, M_settle]
      rw [if_neg (by omega), if_neg (by decide), show M_changeRails (nI q) (M_railsThatMay held key (nI q) pt rs) tk dead pn rt rs ri ra rg ysz ya yb yc = _ from g1, nI_1]
    have ms : ∀ j, K_m_settles_L2 key (nI q) held tk Td D K Tb (j + 1) 1 mh S I U G H = K_m_settles_L2 key (nI q) held tk Td D K Tb j any mh1 S1 I1 U1 G1 H1 := fun j => by
      simp only [K_m_settles_L2, K_m_settles_3, K_m_settles_5, K_m_settles_4, K_m_settles_2, K_m_settles_1, M_m_settles]
      rw [if_neg (by decide), f_round q8, show K_m_round_L3 (nI q) held tk Td D K Tb (nI (xgd q S key)) 100000 0 0 I U G H mh S = _ from g2]
    rw [show kc + (u + 1) + 2 = (kc + u + 2) + 1 from by omega, show km + (u + 1) + 2 = (km + u + 2) + 1 from by omega, cs, ms]
    rcases g8 with ⟨a0, a1⟩ | ⟨a0, a1⟩
    · refine ⟨ysz1, mh1, rs1, ri1, ra1, rg1, ya1, yb1, yc1, I1, U1, G1, H1, S1, ?_, ?_, g3, g4, g5⟩
      · rw [a0]
        show K_settle_L2 (nI q) tk dead pn rt held key pt ((kc + u + 1) + 1) (nI (rd + 1)) 0 rs1 ri1 ra1 rg1 ysz1 ya1 yb1 yc1 = _
        generalize kc + u + 1 = j
        simp only [K_settle_L2, K_settle_3, K_settle_5, K_settle_8, K_settle_7, K_settle_6, K_settle_4, K_settle_2, K_settle_1, M_settle]
        rw [if_neg (by omega), if_pos (by decide)]
      · rw [a0]
        show K_m_settles_L2 key (nI q) held tk Td D K Tb ((km + u + 1) + 1) 0 mh1 S1 I1 U1 G1 H1 = _
        generalize km + u + 1 = j
        simp only [K_m_settles_L2, K_m_settles_3, K_m_settles_5, K_m_settles_4, K_m_settles_2, K_m_settles_1, M_m_settles]
        rw [if_pos (by decide)]
    · have lt := fall.2 a1
      rw [a0]
      exact ih (rd + 1) kc km ysz1 mh1 rs1 ri1 ra1 rg1 ya1 yb1 yc1 I1 U1 G1 H1 S1 (by omega) (by omega) g3 g4 g5
theorem xM_cap2 {S I Tb : Nat → Int32} {q : Nat} {on held : Int32} (q8 : q ≤ 8) : xM S I Tb q on held ≤ 424 := by
  have a := (xSum_cap (f := fun j => xL (S j).toInt (I j).toInt) (c := 2) q (fun j _ => ⟨xL_rng _ _, by
    unfold xL
    split
    · omega
    · split <;> omega⟩)).2
  have b := (xSum_cap (f := fun j => xD (xBf Tb S q on held j) (S j).toInt) (c := 3) q (fun j _ => xD_rng _ _)).2
  unfold xM
  omega
/-- a tick is settled: one on both sides -/
theorem r_settle {tk dead held key ysz mh : Int32} {pn rt Td D K Tb Nm rs ri ra rg ya yb yc I U G H S : Nat → Int32} {pt : Nat → Int64} {q : Nat} (hE : xE true q pn pt Td Nm Tb) (q8 : q ≤ 8) (hd : xDd dead D) (hrt : ∀ j, j < q → rt j = K j ∧ 1 ≤ (K j).toInt) (h4 : xR4 q rs ri ra rg S I U G) (hh : xHi ysz ya yb yc mh H) (hy : 0 ≤ ysz.toInt ∧ ysz.toInt ≤ 64) :
    ∃ (ysz' mh' : Int32) (rs' ri' ra' rg' ya' yb' yc' I' U' G' H' S' : Nat → Int32), M_settle (nI q) tk dead pn rt held key pt rs ri ra rg ysz ya yb yc = (rs', ri', ra', rg', ysz', ya', yb', yc') ∧ M_m_settles key (nI q) held tk Td D K Tb mh S I U G H = (mh', S', I', U', G', H') ∧ xR4 q rs' ri' ra' rg' S' I' U' G' ∧ xHi ysz' ya' yb' yc' mh' H' ∧ (0 ≤ ysz'.toInt ∧ ysz'.toInt ≤ 64) := by
  have cap := xM_cap2 (S := S) (I := I) (Tb := Tb) (on := key) (held := held) q8
  exact b_set hE q8 hd hrt 424 0 99574 99574 ysz mh rs ri ra rg ya yb yc I U G H S (by omega) cap h4 hh hy
