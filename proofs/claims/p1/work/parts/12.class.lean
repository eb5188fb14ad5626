def sp_end (n : Int32) : Int32 := if n.toInt = 0 then 0 else -1
def sp_rule (w : Int32) : Int32 := if w.toInt = 0 then 999 else if w.toInt = 1 then 0 else if w.toInt = 2 then 5 else if w.toInt = 3 then 0 else -1
def sp_go (n : Int32) : Int32 := if 1 ≤ n.toInt ∧ n.toInt ≤ 999 then 0 else -1
def sp_now (w : Int32) : Int32 := if 0 ≤ w.toInt ∧ w.toInt ≤ 8 then 0 else -9
def sp_up (w : Int32) : Int32 := if 0 ≤ w.toInt ∧ w.toInt ≤ 2 then 0 else -1
def sp_drawn (t : Int32) : Int32 := if 0 ≤ t.toInt ∧ t.toInt ≤ 999 then 0 else -1
def sp_peak (w : Int32) : Int32 := if 0 ≤ w.toInt ∧ w.toInt ≤ 3 then -4 else -1
def sp_stagger (w : Int32) : Int32 := if w.toInt = 0 then -4 else -1
def sp_down (w : Int32) : Int32 := if w.toInt = 0 then 0 else -1
def sp_seen (w : Int32) : Int32 := if w.toInt = 0 then 256 else -1
def sp_sheet (k n m : Int32) : Int32 := if (0 ≤ k.toInt ∧ k.toInt ≤ 3) ∧ (0 ≤ n.toInt ∧ n.toInt ≤ 2) ∧ m.toInt ≤ 40 then (if m.toInt < 0 then -14 else 1) else -1
def sp_lay (k : Int32) : Int32 := if 0 ≤ k.toInt ∧ k.toInt ≤ 3 then -11 else -1
def sp_measured (k n m w : Int32) : Int32 := if (0 ≤ k.toInt ∧ k.toInt ≤ 3) ∧ (0 ≤ n.toInt ∧ n.toInt ≤ 2) ∧ (0 ≤ m.toInt ∧ m.toInt ≤ 40) ∧ (0 ≤ w.toInt ∧ w.toInt ≤ 2) then -11 else -1
def sp_count (w : Int32) : Int32 := if w.toInt = 3 then 1 else if w.toInt = 5 then -4 else if 0 ≤ w.toInt ∧ w.toInt ≤ 4 then 0 else -1
theorem in_X10_feed_X10 : ∀ w ∈ wsX100, w ∈ wsX10_feed := by decide +kernel
theorem in_X10_feed_X8 : ∀ w ∈ wsX80, w ∈ wsX10_feed := by decide +kernel
abbrev W_x_feed (cI cJ cZ cG cH : ClassId) (xo : Nat) (jv : Int64) (tp : Nat) (rd : Nat) (rn : Nat) (co : Nat) (wy : Nat) (sg : Nat) (sh : Nat) (pl : Nat) (sp : Nat) (tb : Nat) : va_W := [(xo, .inr (9, [.ref tp, .ref rd, .ref rn, .ref co, .ref wy, .ref sg, .ref sh, .ref pl, .ref sp, .int 0])), (tp, .inr (7, [.ref tb, .int 0])), (tb, .inl (cI, 400, .inl (fun _ => 0)))]
abbrev Q_x_feed (D : va_G) (cI cJ cZ cG cH : ClassId) (xo : Nat) (jv : Int64) (tp : Nat) (rd : Nat) (rn : Nat) (co : Nat) (wy : Nat) (sg : Nat) (sh : Nat) (pl : Nat) (sp : Nat) (tb : Nat) (A : Nat → Prop) : Array Value → State → Outcome → State → Prop := va_Qi (fun (r : Int32) (_ : Unit) => r = 8) (fun _ t => True) A
abbrev rm_x_feed : Room := { frames := 1, cells := 0, slots := 0, locals := 23 }
set_option maxRecDepth 100000 in
set_option maxHeartbeats 4000000 in
theorem c_x_feed (l : Launch) (D : va_G) (cI cJ cZ cG cH : ClassId) (sz : Nat) (xo : Nat) (jv : Int64) (tp : Nat) (rd : Nat) (rn : Nat) (co : Nat) (wy : Nat) (sg : Nat) (sh : Nat) (pl : Nat) (sp : Nat) (tb : Nat) : Met l yX10_feed wsX10_feed rm_x_feed (xPc [.ref xo, .long jv] D (tyL cI cJ cZ cG cH) (W_x_feed cI cJ cZ cG cH xo jv tp rd rn co wy sg sh pl sp tb) sz) (Q_x_feed D cI cJ cZ cG cH xo jv tp rd rn co wy sg sh pl sp tb (va_A (W_x_feed cI cJ cZ cG cH xo jv tp rd rn co wy sg sh pl sp tb) sz)) 0 0 (va_A (W_x_feed cI cJ cZ cG cH xo jv tp rd rn co wy sg sh pl sp tb) sz) := by
  refine xMet (cc := cX10_feed) (maxL := 3) (ret := (some .int)) (Qf := Q_x_feed D cI cJ cZ cG cH xo jv tp rd rn co wy sg sh pl sp tb) (by decide) rfl (Nat.le_of_ble_eq_true rfl) ?_
  intro p e s m below meth c ls A hx hb hr hml hts hown hlocks hnm hsz hP hK hD hA hS hl
  have hown : s.vm.findClass RX10 = some m.cls := hown
  have hP : va_P D vwCl [(xo, .inr (9, [.ref tp, .ref rd, .ref rn, .ref co, .ref wy, .ref sg, .ref sh, .ref pl, .ref sp, .int 0])), (tp, .inr (7, [.ref tb, .int 0])), (tb, .inl (cI, 400, .inl (fun _ => 0)))] s.heap := hP
  have hD : va_D A [(xo, .inr (9, [.ref tp, .ref rd, .ref rn, .ref co, .ref wy, .ref sg, .ref sh, .ref pl, .ref sp, .int 0])), (tp, .inr (7, [.ref tb, .int 0])), (tb, .inl (cI, 400, .inl (fun _ => 0)))] := hD
  have hl : lv_has ls 3 [(0, .ref xo), (1, .long jv)] := hl
  refine lv_aload_n hx hb dX10_feed_0 rfl (lv_at hl 0 rfl) ?_
  refine va_get (D := D) (ci := 9) (v := .ref tp) (C := RX10) (T := TX10) (N := 10) hx hb hts in_X10_feed_X10 hown hK hP 0 rfl rfl 0 (by decide) (hts (.fieldLink RX10 10 "PowerRails" "tape" "LPowerRails$Tape;") (by decide +kernel)) (fun _ h9 => h9) rfl dX10_feed_1 ?_
  refine lv_lload_n hx hb dX10_feed_4 rfl (lv_at hl 1 rfl) ?_
  have hPc := hP.sub (ws' := [(tp, .inr (7, [.ref tb, .int 0])), (tb, .inl (cI, 400, .inl (fun _ => 0)))]) [1, 2] rfl
  have hDc := hD.sub (ws' := [(tp, .inr (7, [.ref tb, .int 0])), (tb, .inl (cI, 400, .inl (fun _ => 0)))]) [1, 2] (by decide) rfl
  have hFc := va_free (wc := [(tp, .inr (7, [.ref tb, .int 0])), (tb, .inl (cI, 400, .inl (fun _ => 0)))]) hD hS hA [1, 2] rfl
  refine va_calli (va_runV (As := [.long jv]) (rest := []) ⟨hx, hb, hml, hown, hts⟩ (c_push l D cI cJ cZ cG cH s.heap.size tp jv tb) (cwV 1 hts gX10_feed_X8_push rfl rfl rfl (by decide +kernel) ⟨Nat.le_of_ble_eq_true rfl, Nat.le_of_ble_eq_true rfl⟩) ⟨xPc_blind, va_recv hK hPc (ci := 7) (q0 := 0) rfl rfl, xPc_pre hPc hK hDc⟩ rfl rfl hl.1 rfl (lv_room (Nat.le_of_ble_eq_true rfl)) dX10_feed_5 ⟨Nat.le_of_ble_eq_true rfl, Nat.le_of_ble_eq_true rfl⟩) hS (fun q _ h => hFc q h) hFc (fun r1 u t H1 locs ht hvm hw1 hB hz1 hk1 hS => ?_)
  obtain ⟨f_2, hP1, hK1, hD1⟩ := hB
  rw [ht] at hP1
  obtain ⟨hP, hD⟩ := va_join (wr := [(xo, .inr (9, [.ref tp, .ref rd, .ref rn, .ref co, .ref wy, .ref sg, .ref sh, .ref pl, .ref sp, .int 0]))]) (w1 := [(tp, .inr (7, [.ref tb, .int 8])), (tb, .inl (cI, 400, .inl f_2))]) hP hD [1, 2] [0] rfl rfl (by decide) (by decide) hk1 hFc hP1 hD1
  generalize H1 = H at hP hS ⊢
  have hP : va_P D vwCl [(xo, .inr (9, [.ref tp, .ref rd, .ref rn, .ref co, .ref wy, .ref sg, .ref sh, .ref pl, .ref sp, .int 0])), (tp, .inr (7, [.ref tb, .int 8])), (tb, .inl (cI, 400, .inl f_2))] H := hP
  have hD : va_D A [(xo, .inr (9, [.ref tp, .ref rd, .ref rn, .ref co, .ref wy, .ref sg, .ref sh, .ref pl, .ref sp, .int 0])), (tp, .inr (7, [.ref tb, .int 8])), (tb, .inl (cI, 400, .inl f_2))] := hD
  obtain rfl : r1 = 1 := hw1
  refine lv_if_eq (tgt := 21) hx hb dX10_feed_8 (by decide) (fun c9 => absurd c9 (by decide)) (fun _ => ?_)
  refine lv_aload_n hx hb dX10_feed_11 rfl (lv_at hl 0 rfl) ?_
  refine va_get (D := D) (ci := 9) (v := .ref tp) (C := RX10) (T := TX10) (N := 10) hx hb hts in_X10_feed_X10 hown hK hP 0 rfl rfl 0 (by decide) (hts (.fieldLink RX10 10 "PowerRails" "tape" "LPowerRails$Tape;") (by decide +kernel)) (fun _ h9 => h9) rfl dX10_feed_12 ?_
  refine va_get (D := D) (ci := 7) (v := .int 8) (C := RX8) (T := TX8) (N := 2) hx hb hts in_X10_feed_X8 hown hK hP 1 rfl rfl 1 (by decide) (hts (.fieldLink RX10 80 "PowerRails$Tape" "length" "I") (by decide +kernel)) (fun _ h9 => h9) rfl dX10_feed_15 ?_
  refine lv_goto (tgt := 23) hx hb dX10_feed_18 (by decide) ?_
  refine W.widen (k := 0) (n := 0) (by decide) (by decide) ?_
  exact W.iret (v := 8) hx hb hr (fun t ht hW => ⟨⟨8, (), rfl, rfl, trivial⟩, hS.F ht⟩) hS.2.2 dX10_feed_23
theorem in_X10_end_X10 : ∀ w ∈ wsX100, w ∈ wsX10_end := by decide +kernel
theorem in_X10_end_X8 : ∀ w ∈ wsX80, w ∈ wsX10_end := by decide +kernel
abbrev W_x_end (cI cJ cZ cG cH : ClassId) (xo : Nat) (p0 : Int32) (tp : Nat) (rd : Nat) (rn : Nat) (co : Nat) (wy : Nat) (sg : Nat) (sh : Nat) (pl : Nat) (sp : Nat) (tb : Nat) : va_W := [(xo, .inr (9, [.ref tp, .ref rd, .ref rn, .ref co, .ref wy, .ref sg, .ref sh, .ref pl, .ref sp, .int 0])), (tp, .inr (7, [.ref tb, .int 0]))]
abbrev Q_x_end (D : va_G) (cI cJ cZ cG cH : ClassId) (xo : Nat) (p0 : Int32) (tp : Nat) (rd : Nat) (rn : Nat) (co : Nat) (wy : Nat) (sg : Nat) (sh : Nat) (pl : Nat) (sp : Nat) (tb : Nat) (A : Nat → Prop) : Array Value → State → Outcome → State → Prop := va_Qi (fun (r : Int32) (_ : Unit) => r = sp_end p0) (fun _ t => True) A
abbrev rm_x_end : Room := { frames := 0, cells := 0, slots := 0, locals := 0 }
set_option maxRecDepth 100000 in
set_option maxHeartbeats 4000000 in
theorem c_x_end (l : Launch) (D : va_G) (cI cJ cZ cG cH : ClassId) (sz : Nat) (xo : Nat) (p0 : Int32) (tp : Nat) (rd : Nat) (rn : Nat) (co : Nat) (wy : Nat) (sg : Nat) (sh : Nat) (pl : Nat) (sp : Nat) (tb : Nat) : Met l yX10_end wsX10_end rm_x_end (xPc [.ref xo, .int p0] D (tyL cI cJ cZ cG cH) (W_x_end cI cJ cZ cG cH xo p0 tp rd rn co wy sg sh pl sp tb) sz) (Q_x_end D cI cJ cZ cG cH xo p0 tp rd rn co wy sg sh pl sp tb (va_A (W_x_end cI cJ cZ cG cH xo p0 tp rd rn co wy sg sh pl sp tb) sz)) 0 0 (va_A (W_x_end cI cJ cZ cG cH xo p0 tp rd rn co wy sg sh pl sp tb) sz) := by
  refine xMet (cc := cX10_end) (maxL := 3) (ret := (some .int)) (Qf := Q_x_end D cI cJ cZ cG cH xo p0 tp rd rn co wy sg sh pl sp tb) (by decide) rfl (Nat.le_of_ble_eq_true rfl) ?_
  intro p e s m below meth c ls A hx hb hr hml hts hown hlocks hnm hsz hP hK hD hA hS hl
  have hown : s.vm.findClass RX10 = some m.cls := hown
  have hP : va_P D vwCl [(xo, .inr (9, [.ref tp, .ref rd, .ref rn, .ref co, .ref wy, .ref sg, .ref sh, .ref pl, .ref sp, .int 0])), (tp, .inr (7, [.ref tb, .int 0]))] s.heap := hP
  have hD : va_D A [(xo, .inr (9, [.ref tp, .ref rd, .ref rn, .ref co, .ref wy, .ref sg, .ref sh, .ref pl, .ref sp, .int 0])), (tp, .inr (7, [.ref tb, .int 0]))] := hD
  have hl : lv_has ls 3 [(0, .ref xo), (1, .int p0)] := hl
  refine lv_iload_n hx hb dX10_end_0 rfl (lv_at hl 1 rfl) ?_
  refine lv_if_lt (tgt := 15) hx hb dX10_end_1 (by decide) (fun c_1 => ?_) (fun c_1 => ?_)
  · skip
    have i_1 : p0.toInt < 0 := (ilt rfl (by decide)).mp c_1
    refine lv_iconst (v := (-1)) hx hb dX10_end_15 (by decide) ?_
    refine W.widen (k := 0) (n := 0) (by decide) (by decide) ?_
    exact W.iret (v := (-1)) hx hb hr (fun t ht hW => ⟨⟨(-1), (), rfl, (by unfold sp_end; repeat (first | rw [if_pos (by omega)] | rw [if_neg (by omega)])), trivial⟩, hS.F ht⟩) hS.2.2 dX10_end_16
  · skip
    have i_1 : ¬ (p0.toInt < 0) := fun h9 => c_1 ((ilt rfl (by decide)).mpr h9)
    refine lv_iload_n hx hb dX10_end_4 rfl (lv_at hl 1 rfl) ?_
    refine lv_aload_n hx hb dX10_end_5 rfl (lv_at hl 0 rfl) ?_
    refine va_get (D := D) (ci := 9) (v := .ref tp) (C := RX10) (T := TX10) (N := 10) hx hb hts in_X10_end_X10 hown hK hP 0 rfl rfl 0 (by decide) (hts (.fieldLink RX10 10 "PowerRails" "tape" "LPowerRails$Tape;") (by decide +kernel)) (fun _ h9 => h9) rfl dX10_end_6 ?_
    refine va_get (D := D) (ci := 7) (v := .int 0) (C := RX8) (T := TX8) (N := 2) hx hb hts in_X10_end_X8 hown hK hP 1 rfl rfl 1 (by decide) (hts (.fieldLink RX10 80 "PowerRails$Tape" "length" "I") (by decide +kernel)) (fun _ h9 => h9) rfl dX10_end_9 ?_
    refine lv_icmp_le (tgt := 17) hx hb dX10_end_12 (by decide) (fun c_2 => ?_) (fun c_2 => ?_)
    · skip
      have i_2 : p0.toInt ≤ 0 := (ile rfl (by decide)).mp c_2
      refine lv_aload_n hx hb dX10_end_17 rfl (lv_at hl 0 rfl) ?_
      refine va_get (D := D) (ci := 9) (v := .ref tp) (C := RX10) (T := TX10) (N := 10) hx hb hts in_X10_end_X10 hown hK hP 0 rfl rfl 0 (by decide) (hts (.fieldLink RX10 10 "PowerRails" "tape" "LPowerRails$Tape;") (by decide +kernel)) (fun _ h9 => h9) rfl dX10_end_18 ?_
      refine va_get (D := D) (ci := 7) (v := .int 0) (C := RX8) (T := TX8) (N := 2) hx hb hts in_X10_end_X8 hown hK hP 1 rfl rfl 1 (by decide) (hts (.fieldLink RX10 80 "PowerRails$Tape" "length" "I") (by decide +kernel)) (fun _ h9 => h9) rfl dX10_end_21 ?_
      refine lv_istore_n (lv' := [(2, .int 0), (0, .ref xo), (1, .int p0)]) hx hb dX10_end_24 rfl hl (by decide) rfl (fun ls hl => ?_)
      refine lv_aload_n hx hb dX10_end_25 rfl (lv_at hl 1 rfl) ?_
      refine va_get (D := D) (ci := 9) (v := .ref tp) (C := RX10) (T := TX10) (N := 10) hx hb hts in_X10_end_X10 hown hK hP 0 rfl rfl 0 (by decide) (hts (.fieldLink RX10 10 "PowerRails" "tape" "LPowerRails$Tape;") (by decide +kernel)) (fun _ h9 => h9) rfl dX10_end_26 ?_
      refine lv_iload_n hx hb dX10_end_29 rfl (lv_at hl 2 rfl) ?_
      refine va_put (D := D) (ci := 7) (v := .int p0) (ty := .int) (C := RX8) (T := TX8) (N := 2) hx hb hts in_X10_end_X8 tyX8 tyX8_ok nmX8 hown hK hP hD hS 1 rfl rfl 1 (by decide) (hts (.fieldLink RX10 80 "PowerRails$Tape" "length" "I") (by decide +kernel)) (fun _ h9 => h9) rfl (by decide +kernel) rfl rfl (Nat.le_of_ble_eq_true rfl) dX10_end_30 (fun H locs hP hD hS => ?_)
      have hP : va_P D vwCl [(xo, .inr (9, [.ref tp, .ref rd, .ref rn, .ref co, .ref wy, .ref sg, .ref sh, .ref pl, .ref sp, .int 0])), (tp, .inr (7, [.ref tb, .int p0]))] H := hP
      have hD : va_D A [(xo, .inr (9, [.ref tp, .ref rd, .ref rn, .ref co, .ref wy, .ref sg, .ref sh, .ref pl, .ref sp, .int 0])), (tp, .inr (7, [.ref tb, .int p0]))] := hD
      refine lv_iload_n hx hb dX10_end_33 rfl (lv_at hl 0 rfl) ?_
      refine W.widen (k := 0) (n := 0) (by decide) (by decide) ?_
      exact W.iret (v := 0) hx hb hr (fun t ht hW => ⟨⟨0, (), rfl, (by unfold sp_end; repeat (first | rw [if_pos (by omega)] | rw [if_neg (by omega)])), trivial⟩, hS.F ht⟩) hS.2.2 dX10_end_34
    · skip
      have i_2 : ¬ (p0.toInt ≤ 0) := fun h9 => c_2 ((ile rfl (by decide)).mpr h9)
      refine lv_iconst (v := (-1)) hx hb dX10_end_15 (by decide) ?_
      refine W.widen (k := 0) (n := 0) (by decide) (by decide) ?_
      exact W.iret (v := (-1)) hx hb hr (fun t ht hW => ⟨⟨(-1), (), rfl, (by unfold sp_end; repeat (first | rw [if_pos (by omega)] | rw [if_neg (by omega)])), trivial⟩, hS.F ht⟩) hS.2.2 dX10_end_16
theorem in_X10_text_X10 : ∀ w ∈ wsX100, w ∈ wsX10_text := by decide +kernel
theorem in_X10_text_X8 : ∀ w ∈ wsX80, w ∈ wsX10_text := by decide +kernel
theorem in_X10_text_X4 : ∀ w ∈ wsX40, w ∈ wsX10_text := by decide +kernel
abbrev W_x_text (cI cJ cZ cG cH : ClassId) (xo : Nat) (tp : Nat) (rd : Nat) (rn : Nat) (co : Nat) (wy : Nat) (sg : Nat) (sh : Nat) (pl : Nat) (sp : Nat) (rf : Nat) (ry : Nat) (rl : Nat) (tb : Nat) (sn : Nat) (st : Nat) (hy : Nat) (rs : Nat) (ri : Nat) (ra : Nat) (rt : Nat) (rg : Nat) (ya : Nat) (yb : Nat) (yc : Nat) (wb : Nat) (wk : Nat) (sr : Nat) : va_W := [(xo, .inr (9, [.ref tp, .ref rd, .ref rn, .ref co, .ref wy, .ref sg, .ref sh, .ref pl, .ref sp, .int 0])), (rd, .inr (3, [.ref tp, .ref rf, .ref ry, .ref rl, .ref sp, .int 0, .int 0, .int 0, .int 0, .int 0, .int 0, .int 0, .int 0])), (rf, .inl (cI, 8, .inl (fun _ => 0))), (tp, .inr (7, [.ref tb, .int 0])), (sp, .inr (2, [.ref sn, .ref st, .int 0, .int 999, .int 0, .int 5])), (sn, .inl (cI, 64, .inl (fun _ => 0))), (rn, .inr (4, [.ref hy, .ref rs, .ref ri, .ref ra, .ref rt, .ref rg, .int 0, .int 0, .int 0, .int 0, .int 0, .int 0, .int 0, .int 0])), (rs, .inl (cI, 8, .inl (fun _ => 0))), (ri, .inl (cI, 8, .inl (fun _ => 0))), (ra, .inl (cI, 8, .inl (fun _ => 0))), (rt, .inl (cI, 8, .inl (fun _ => 0))), (rg, .inl (cI, 8, .inl (fun _ => 0))), (hy, .inr (1, [.ref ya, .ref yb, .ref yc, .int 0])), (wy, .inr (8, [.ref co, .ref wb, .ref wk, .int 0, .int 0, .int 0])), (wk, .inl (cZ, 64, .inl (fun _ => 0))), (sg, .inr (6, [.ref co, .ref sr, .int 0, .int (-4)]))]
abbrev Q_x_text (D : va_G) (cI cJ cZ cG cH : ClassId) (xo : Nat) (tp : Nat) (rd : Nat) (rn : Nat) (co : Nat) (wy : Nat) (sg : Nat) (sh : Nat) (pl : Nat) (sp : Nat) (rf : Nat) (ry : Nat) (rl : Nat) (tb : Nat) (sn : Nat) (st : Nat) (hy : Nat) (rs : Nat) (ri : Nat) (ra : Nat) (rt : Nat) (rg : Nat) (ya : Nat) (yb : Nat) (yc : Nat) (wb : Nat) (wk : Nat) (sr : Nat) (A : Nat → Prop) : Array Value → State → Outcome → State → Prop := va_Qi (fun (r : Int32) (_ : Unit) => r = 0) (fun _ t => True) A
abbrev rm_x_text : Room := { frames := 2, cells := 0, slots := 0, locals := 46 }
set_option maxRecDepth 100000 in
set_option maxHeartbeats 4000000 in
theorem c_x_text (l : Launch) (D : va_G) (cI cJ cZ cG cH : ClassId) (sz : Nat) (xo : Nat) (tp : Nat) (rd : Nat) (rn : Nat) (co : Nat) (wy : Nat) (sg : Nat) (sh : Nat) (pl : Nat) (sp : Nat) (rf : Nat) (ry : Nat) (rl : Nat) (tb : Nat) (sn : Nat) (st : Nat) (hy : Nat) (rs : Nat) (ri : Nat) (ra : Nat) (rt : Nat) (rg : Nat) (ya : Nat) (yb : Nat) (yc : Nat) (wb : Nat) (wk : Nat) (sr : Nat) : Met l yX10_text wsX10_text rm_x_text (xPc [.ref xo] D (tyL cI cJ cZ cG cH) (W_x_text cI cJ cZ cG cH xo tp rd rn co wy sg sh pl sp rf ry rl tb sn st hy rs ri ra rt rg ya yb yc wb wk sr) sz) (Q_x_text D cI cJ cZ cG cH xo tp rd rn co wy sg sh pl sp rf ry rl tb sn st hy rs ri ra rt rg ya yb yc wb wk sr (va_A (W_x_text cI cJ cZ cG cH xo tp rd rn co wy sg sh pl sp rf ry rl tb sn st hy rs ri ra rt rg ya yb yc wb wk sr) sz)) 0 0 (va_A (W_x_text cI cJ cZ cG cH xo tp rd rn co wy sg sh pl sp rf ry rl tb sn st hy rs ri ra rt rg ya yb yc wb wk sr) sz) := by
  refine xMet (cc := cX10_text) (maxL := 3) (ret := (some .int)) (Qf := Q_x_text D cI cJ cZ cG cH xo tp rd rn co wy sg sh pl sp rf ry rl tb sn st hy rs ri ra rt rg ya yb yc wb wk sr) (by decide) rfl (Nat.le_of_ble_eq_true rfl) ?_
  intro p e s m below meth c ls A hx hb hr hml hts hown hlocks hnm hsz hP hK hD hA hS hl
  have hown : s.vm.findClass RX10 = some m.cls := hown
  have hP : va_P D vwCl [(xo, .inr (9, [.ref tp, .ref rd, .ref rn, .ref co, .ref wy, .ref sg, .ref sh, .ref pl, .ref sp, .int 0])), (rd, .inr (3, [.ref tp, .ref rf, .ref ry, .ref rl, .ref sp, .int 0, .int 0, .int 0, .int 0, .int 0, .int 0, .int 0, .int 0])), (rf, .inl (cI, 8, .inl (fun _ => 0))), (tp, .inr (7, [.ref tb, .int 0])), (sp, .inr (2, [.ref sn, .ref st, .int 0, .int 999, .int 0, .int 5])), (sn, .inl (cI, 64, .inl (fun _ => 0))), (rn, .inr (4, [.ref hy, .ref rs, .ref ri, .ref ra, .ref rt, .ref rg, .int 0, .int 0, .int 0, .int 0, .int 0, .int 0, .int 0, .int 0])), (rs, .inl (cI, 8, .inl (fun _ => 0))), (ri, .inl (cI, 8, .inl (fun _ => 0))), (ra, .inl (cI, 8, .inl (fun _ => 0))), (rt, .inl (cI, 8, .inl (fun _ => 0))), (rg, .inl (cI, 8, .inl (fun _ => 0))), (hy, .inr (1, [.ref ya, .ref yb, .ref yc, .int 0])), (wy, .inr (8, [.ref co, .ref wb, .ref wk, .int 0, .int 0, .int 0])), (wk, .inl (cZ, 64, .inl (fun _ => 0))), (sg, .inr (6, [.ref co, .ref sr, .int 0, .int (-4)]))] s.heap := hP
  have hD : va_D A [(xo, .inr (9, [.ref tp, .ref rd, .ref rn, .ref co, .ref wy, .ref sg, .ref sh, .ref pl, .ref sp, .int 0])), (rd, .inr (3, [.ref tp, .ref rf, .ref ry, .ref rl, .ref sp, .int 0, .int 0, .int 0, .int 0, .int 0, .int 0, .int 0, .int 0])), (rf, .inl (cI, 8, .inl (fun _ => 0))), (tp, .inr (7, [.ref tb, .int 0])), (sp, .inr (2, [.ref sn, .ref st, .int 0, .int 999, .int 0, .int 5])), (sn, .inl (cI, 64, .inl (fun _ => 0))), (rn, .inr (4, [.ref hy, .ref rs, .ref ri, .ref ra, .ref rt, .ref rg, .int 0, .int 0, .int 0, .int 0, .int 0, .int 0, .int 0, .int 0])), (rs, .inl (cI, 8, .inl (fun _ => 0))), (ri, .inl (cI, 8, .inl (fun _ => 0))), (ra, .inl (cI, 8, .inl (fun _ => 0))), (rt, .inl (cI, 8, .inl (fun _ => 0))), (rg, .inl (cI, 8, .inl (fun _ => 0))), (hy, .inr (1, [.ref ya, .ref yb, .ref yc, .int 0])), (wy, .inr (8, [.ref co, .ref wb, .ref wk, .int 0, .int 0, .int 0])), (wk, .inl (cZ, 64, .inl (fun _ => 0))), (sg, .inr (6, [.ref co, .ref sr, .int 0, .int (-4)]))] := hD
  have hl : lv_has ls 3 [(0, .ref xo)] := hl
  refine lv_aload_n hx hb dX10_text_0 rfl (lv_at hl 0 rfl) ?_
  refine va_get (D := D) (ci := 9) (v := .ref rd) (C := RX10) (T := TX10) (N := 10) hx hb hts in_X10_text_X10 hown hK hP 0 rfl rfl 1 (by decide) (hts (.fieldLink RX10 68 "PowerRails" "reader" "LPowerRails$Reader;") (by decide +kernel)) (fun _ h9 => h9) rfl dX10_text_1 ?_
  refine lv_aload_n hx hb dX10_text_4 rfl (lv_at hl 0 rfl) ?_
  refine va_get (D := D) (ci := 9) (v := .ref sp) (C := RX10) (T := TX10) (N := 10) hx hb hts in_X10_text_X10 hown hK hP 0 rfl rfl 8 (by decide) (hts (.fieldLink RX10 60 "PowerRails" "spare" "LPowerRails$Plan;") (by decide +kernel)) (fun _ h9 => h9) rfl dX10_text_5 ?_
  have hPc := hP.sub (ws' := [(rd, .inr (3, [.ref tp, .ref rf, .ref ry, .ref rl, .ref sp, .int 0, .int 0, .int 0, .int 0, .int 0, .int 0, .int 0, .int 0])), (rf, .inl (cI, 8, .inl (fun _ => 0))), (tp, .inr (7, [.ref tb, .int 0])), (sp, .inr (2, [.ref sn, .ref st, .int 0, .int 999, .int 0, .int 5]))]) [1, 2, 3, 4] rfl
  have hDc := hD.sub (ws' := [(rd, .inr (3, [.ref tp, .ref rf, .ref ry, .ref rl, .ref sp, .int 0, .int 0, .int 0, .int 0, .int 0, .int 0, .int 0, .int 0])), (rf, .inl (cI, 8, .inl (fun _ => 0))), (tp, .inr (7, [.ref tb, .int 0])), (sp, .inr (2, [.ref sn, .ref st, .int 0, .int 999, .int 0, .int 5]))]) [1, 2, 3, 4] (by decide) rfl
  have hFc := va_free (wc := [(rd, .inr (3, [.ref tp, .ref rf, .ref ry, .ref rl, .ref sp, .int 0, .int 0, .int 0, .int 0, .int 0, .int 0, .int 0, .int 0])), (rf, .inl (cI, 8, .inl (fun _ => 0))), (tp, .inr (7, [.ref tb, .int 0])), (sp, .inr (2, [.ref sn, .ref st, .int 0, .int 999, .int 0, .int 5]))]) hD hS hA [1, 2, 3, 4] rfl
  refine va_calli (va_runV (As := [.ref sp]) (rest := []) ⟨hx, hb, hml, hown, hts⟩ (c_readText0 l D cI cJ cZ cG cH s.heap.size rd sp tp rf ry rl tb sn st) (cwV 1 hts gX10_text_X4_readText rfl rfl rfl (by decide +kernel) ⟨Nat.le_of_ble_eq_true rfl, Nat.le_of_ble_eq_true rfl⟩) ⟨xPc_blind, va_recv hK hPc (ci := 3) (q0 := 0) rfl rfl, xPc_pre hPc hK hDc⟩ rfl rfl hl.1 rfl (lv_room (Nat.le_of_ble_eq_true rfl)) dX10_text_8 ⟨Nat.le_of_ble_eq_true rfl, Nat.le_of_ble_eq_true rfl⟩) hS (fun q _ h => hFc q h) hFc (fun r1 u t H1 locs ht hvm hw1 hB hz1 hk1 hS => ?_)
  obtain ⟨hP1, hK1, hD1⟩ := hB
  rw [ht] at hP1
  obtain ⟨hP, hD⟩ := va_join (wr := [(xo, .inr (9, [.ref tp, .ref rd, .ref rn, .ref co, .ref wy, .ref sg, .ref sh, .ref pl, .ref sp, .int 0])), (sn, .inl (cI, 64, .inl (fun _ => 0))), (rn, .inr (4, [.ref hy, .ref rs, .ref ri, .ref ra, .ref rt, .ref rg, .int 0, .int 0, .int 0, .int 0, .int 0, .int 0, .int 0, .int 0])), (rs, .inl (cI, 8, .inl (fun _ => 0))), (ri, .inl (cI, 8, .inl (fun _ => 0))), (ra, .inl (cI, 8, .inl (fun _ => 0))), (rt, .inl (cI, 8, .inl (fun _ => 0))), (rg, .inl (cI, 8, .inl (fun _ => 0))), (hy, .inr (1, [.ref ya, .ref yb, .ref yc, .int 0])), (wy, .inr (8, [.ref co, .ref wb, .ref wk, .int 0, .int 0, .int 0])), (wk, .inl (cZ, 64, .inl (fun _ => 0))), (sg, .inr (6, [.ref co, .ref sr, .int 0, .int (-4)]))]) (w1 := [(rd, .inr (3, [.ref tp, .ref rf, .ref ry, .ref rl, .ref sp, .int 0, .int 0, .int 0, .int 0, .int 0, .int 0, .int 0, .int 0])), (sp, .inr (2, [.ref sn, .ref st, .int 0, .int 999, .int 0, .int 5])), (tp, .inr (7, [.ref tb, .int 0]))]) hP hD [1, 2, 3, 4] [0, 5, 6, 7, 8, 9, 10, 11, 12, 13, 14, 15] rfl rfl (by decide) (by decide) hk1 hFc hP1 hD1
  generalize H1 = H at hP hS ⊢
  have hP : va_P D vwCl [(xo, .inr (9, [.ref tp, .ref rd, .ref rn, .ref co, .ref wy, .ref sg, .ref sh, .ref pl, .ref sp, .int 0])), (sn, .inl (cI, 64, .inl (fun _ => 0))), (rn, .inr (4, [.ref hy, .ref rs, .ref ri, .ref ra, .ref rt, .ref rg, .int 0, .int 0, .int 0, .int 0, .int 0, .int 0, .int 0, .int 0])), (rs, .inl (cI, 8, .inl (fun _ => 0))), (ri, .inl (cI, 8, .inl (fun _ => 0))), (ra, .inl (cI, 8, .inl (fun _ => 0))), (rt, .inl (cI, 8, .inl (fun _ => 0))), (rg, .inl (cI, 8, .inl (fun _ => 0))), (hy, .inr (1, [.ref ya, .ref yb, .ref yc, .int 0])), (wy, .inr (8, [.ref co, .ref wb, .ref wk, .int 0, .int 0, .int 0])), (wk, .inl (cZ, 64, .inl (fun _ => 0))), (sg, .inr (6, [.ref co, .ref sr, .int 0, .int (-4)])), (rd, .inr (3, [.ref tp, .ref rf, .ref ry, .ref rl, .ref sp, .int 0, .int 0, .int 0, .int 0, .int 0, .int 0, .int 0, .int 0])), (sp, .inr (2, [.ref sn, .ref st, .int 0, .int 999, .int 0, .int 5])), (tp, .inr (7, [.ref tb, .int 0]))] H := hP
  have hD : va_D A [(xo, .inr (9, [.ref tp, .ref rd, .ref rn, .ref co, .ref wy, .ref sg, .ref sh, .ref pl, .ref sp, .int 0])), (sn, .inl (cI, 64, .inl (fun _ => 0))), (rn, .inr (4, [.ref hy, .ref rs, .ref ri, .ref ra, .ref rt, .ref rg, .int 0, .int 0, .int 0, .int 0, .int 0, .int 0, .int 0, .int 0])), (rs, .inl (cI, 8, .inl (fun _ => 0))), (ri, .inl (cI, 8, .inl (fun _ => 0))), (ra, .inl (cI, 8, .inl (fun _ => 0))), (rt, .inl (cI, 8, .inl (fun _ => 0))), (rg, .inl (cI, 8, .inl (fun _ => 0))), (hy, .inr (1, [.ref ya, .ref yb, .ref yc, .int 0])), (wy, .inr (8, [.ref co, .ref wb, .ref wk, .int 0, .int 0, .int 0])), (wk, .inl (cZ, 64, .inl (fun _ => 0))), (sg, .inr (6, [.ref co, .ref sr, .int 0, .int (-4)])), (rd, .inr (3, [.ref tp, .ref rf, .ref ry, .ref rl, .ref sp, .int 0, .int 0, .int 0, .int 0, .int 0, .int 0, .int 0, .int 0])), (sp, .inr (2, [.ref sn, .ref st, .int 0, .int 999, .int 0, .int 5])), (tp, .inr (7, [.ref tb, .int 0]))] := hD
  obtain rfl : r1 = 0 := hw1
  refine lv_istore_n (lv' := [(1, .int 0), (0, .ref xo)]) hx hb dX10_text_11 rfl hl (by decide) rfl (fun ls hl => ?_)
  refine lv_aload_n hx hb dX10_text_12 rfl (lv_at hl 1 rfl) ?_
  refine va_get (D := D) (ci := 9) (v := .ref tp) (C := RX10) (T := TX10) (N := 10) hx hb hts in_X10_text_X10 hown hK hP 0 rfl rfl 0 (by decide) (hts (.fieldLink RX10 10 "PowerRails" "tape" "LPowerRails$Tape;") (by decide +kernel)) (fun _ h9 => h9) rfl dX10_text_13 ?_
  refine lv_iconst (v := 0) hx hb dX10_text_16 (by decide) ?_
  refine va_put (D := D) (ci := 7) (v := .int 0) (ty := .int) (C := RX8) (T := TX8) (N := 2) hx hb hts in_X10_text_X8 tyX8 tyX8_ok nmX8 hown hK hP hD hS 14 rfl rfl 1 (by decide) (hts (.fieldLink RX10 80 "PowerRails$Tape" "length" "I") (by decide +kernel)) (fun _ h9 => h9) rfl (by decide +kernel) rfl rfl (Nat.le_of_ble_eq_true rfl) dX10_text_17 (fun H locs hP hD hS => ?_)
  have hP : va_P D vwCl [(xo, .inr (9, [.ref tp, .ref rd, .ref rn, .ref co, .ref wy, .ref sg, .ref sh, .ref pl, .ref sp, .int 0])), (sn, .inl (cI, 64, .inl (fun _ => 0))), (rn, .inr (4, [.ref hy, .ref rs, .ref ri, .ref ra, .ref rt, .ref rg, .int 0, .int 0, .int 0, .int 0, .int 0, .int 0, .int 0, .int 0])), (rs, .inl (cI, 8, .inl (fun _ => 0))), (ri, .inl (cI, 8, .inl (fun _ => 0))), (ra, .inl (cI, 8, .inl (fun _ => 0))), (rt, .inl (cI, 8, .inl (fun _ => 0))), (rg, .inl (cI, 8, .inl (fun _ => 0))), (hy, .inr (1, [.ref ya, .ref yb, .ref yc, .int 0])), (wy, .inr (8, [.ref co, .ref wb, .ref wk, .int 0, .int 0, .int 0])), (wk, .inl (cZ, 64, .inl (fun _ => 0))), (sg, .inr (6, [.ref co, .ref sr, .int 0, .int (-4)])), (rd, .inr (3, [.ref tp, .ref rf, .ref ry, .ref rl, .ref sp, .int 0, .int 0, .int 0, .int 0, .int 0, .int 0, .int 0, .int 0])), (sp, .inr (2, [.ref sn, .ref st, .int 0, .int 999, .int 0, .int 5])), (tp, .inr (7, [.ref tb, .int 0]))] H := hP
  have hD : va_D A [(xo, .inr (9, [.ref tp, .ref rd, .ref rn, .ref co, .ref wy, .ref sg, .ref sh, .ref pl, .ref sp, .int 0])), (sn, .inl (cI, 64, .inl (fun _ => 0))), (rn, .inr (4, [.ref hy, .ref rs, .ref ri, .ref ra, .ref rt, .ref rg, .int 0, .int 0, .int 0, .int 0, .int 0, .int 0, .int 0, .int 0])), (rs, .inl (cI, 8, .inl (fun _ => 0))), (ri, .inl (cI, 8, .inl (fun _ => 0))), (ra, .inl (cI, 8, .inl (fun _ => 0))), (rt, .inl (cI, 8, .inl (fun _ => 0))), (rg, .inl (cI, 8, .inl (fun _ => 0))), (hy, .inr (1, [.ref ya, .ref yb, .ref yc, .int 0])), (wy, .inr (8, [.ref co, .ref wb, .ref wk, .int 0, .int 0, .int 0])), (wk, .inl (cZ, 64, .inl (fun _ => 0))), (sg, .inr (6, [.ref co, .ref sr, .int 0, .int (-4)])), (rd, .inr (3, [.ref tp, .ref rf, .ref ry, .ref rl, .ref sp, .int 0, .int 0, .int 0, .int 0, .int 0, .int 0, .int 0, .int 0])), (sp, .inr (2, [.ref sn, .ref st, .int 0, .int 999, .int 0, .int 5])), (tp, .inr (7, [.ref tb, .int 0]))] := hD
  refine lv_aload_n hx hb dX10_text_20 rfl (lv_at hl 1 rfl) ?_
  refine lv_aload_n hx hb dX10_text_21 rfl (lv_at hl 1 rfl) ?_
  refine va_get (D := D) (ci := 9) (v := .ref rd) (C := RX10) (T := TX10) (N := 10) hx hb hts in_X10_text_X10 hown hK hP 0 rfl rfl 1 (by decide) (hts (.fieldLink RX10 68 "PowerRails" "reader" "LPowerRails$Reader;") (by decide +kernel)) (fun _ h9 => h9) rfl dX10_text_22 ?_
  refine va_get (D := D) (ci := 3) (v := .int 0) (C := RX4) (T := TX4) (N := 13) hx hb hts in_X10_text_X4 hown hK hP 12 rfl rfl 11 (by decide) (hts (.fieldLink RX10 87 "PowerRails$Reader" "fault" "I") (by decide +kernel)) (fun _ h9 => h9) rfl dX10_text_25 ?_
  refine va_put (D := D) (ci := 9) (v := .int 0) (ty := .int) (C := RX10) (T := TX10) (N := 10) hx hb hts in_X10_text_X10 tyX10 tyX10_ok nmX10 hown hK hP hD hS 0 rfl rfl 9 (by decide) (hts (.fieldLink RX10 72 "PowerRails" "latestFault" "I") (by decide +kernel)) (fun _ h9 => h9) rfl (by decide +kernel) rfl rfl (Nat.le_of_ble_eq_true rfl) dX10_text_28 (fun H locs hP hD hS => ?_)
  have hP : va_P D vwCl [(xo, .inr (9, [.ref tp, .ref rd, .ref rn, .ref co, .ref wy, .ref sg, .ref sh, .ref pl, .ref sp, .int 0])), (sn, .inl (cI, 64, .inl (fun _ => 0))), (rn, .inr (4, [.ref hy, .ref rs, .ref ri, .ref ra, .ref rt, .ref rg, .int 0, .int 0, .int 0, .int 0, .int 0, .int 0, .int 0, .int 0])), (rs, .inl (cI, 8, .inl (fun _ => 0))), (ri, .inl (cI, 8, .inl (fun _ => 0))), (ra, .inl (cI, 8, .inl (fun _ => 0))), (rt, .inl (cI, 8, .inl (fun _ => 0))), (rg, .inl (cI, 8, .inl (fun _ => 0))), (hy, .inr (1, [.ref ya, .ref yb, .ref yc, .int 0])), (wy, .inr (8, [.ref co, .ref wb, .ref wk, .int 0, .int 0, .int 0])), (wk, .inl (cZ, 64, .inl (fun _ => 0))), (sg, .inr (6, [.ref co, .ref sr, .int 0, .int (-4)])), (rd, .inr (3, [.ref tp, .ref rf, .ref ry, .ref rl, .ref sp, .int 0, .int 0, .int 0, .int 0, .int 0, .int 0, .int 0, .int 0])), (sp, .inr (2, [.ref sn, .ref st, .int 0, .int 999, .int 0, .int 5])), (tp, .inr (7, [.ref tb, .int 0]))] H := hP
  have hD : va_D A [(xo, .inr (9, [.ref tp, .ref rd, .ref rn, .ref co, .ref wy, .ref sg, .ref sh, .ref pl, .ref sp, .int 0])), (sn, .inl (cI, 64, .inl (fun _ => 0))), (rn, .inr (4, [.ref hy, .ref rs, .ref ri, .ref ra, .ref rt, .ref rg, .int 0, .int 0, .int 0, .int 0, .int 0, .int 0, .int 0, .int 0])), (rs, .inl (cI, 8, .inl (fun _ => 0))), (ri, .inl (cI, 8, .inl (fun _ => 0))), (ra, .inl (cI, 8, .inl (fun _ => 0))), (rt, .inl (cI, 8, .inl (fun _ => 0))), (rg, .inl (cI, 8, .inl (fun _ => 0))), (hy, .inr (1, [.ref ya, .ref yb, .ref yc, .int 0])), (wy, .inr (8, [.ref co, .ref wb, .ref wk, .int 0, .int 0, .int 0])), (wk, .inl (cZ, 64, .inl (fun _ => 0))), (sg, .inr (6, [.ref co, .ref sr, .int 0, .int (-4)])), (rd, .inr (3, [.ref tp, .ref rf, .ref ry, .ref rl, .ref sp, .int 0, .int 0, .int 0, .int 0, .int 0, .int 0, .int 0, .int 0])), (sp, .inr (2, [.ref sn, .ref st, .int 0, .int 999, .int 0, .int 5])), (tp, .inr (7, [.ref tb, .int 0]))] := hD
  refine lv_aload_n hx hb dX10_text_31 rfl (lv_at hl 1 rfl) ?_
  refine va_get (D := D) (ci := 9) (v := .ref rd) (C := RX10) (T := TX10) (N := 10) hx hb hts in_X10_text_X10 hown hK hP 0 rfl rfl 1 (by decide) (hts (.fieldLink RX10 68 "PowerRails" "reader" "LPowerRails$Reader;") (by decide +kernel)) (fun _ h9 => h9) rfl dX10_text_32 ?_
  refine va_get (D := D) (ci := 3) (v := .int 0) (C := RX4) (T := TX4) (N := 13) hx hb hts in_X10_text_X4 hown hK hP 12 rfl rfl 11 (by decide) (hts (.fieldLink RX10 87 "PowerRails$Reader" "fault" "I") (by decide +kernel)) (fun _ h9 => h9) rfl dX10_text_35 ?_
  refine lv_if_eq (tgt := 52) hx hb dX10_text_38 (by decide) (fun _ => ?_) (fun c9 => absurd c9 (by decide))
  refine lv_aload_n hx hb dX10_text_52 rfl (lv_at hl 1 rfl) ?_
  refine va_get (D := D) (ci := 9) (v := .ref pl) (C := RX10) (T := TX10) (N := 10) hx hb hts in_X10_text_X10 hown hK hP 0 rfl rfl 7 (by decide) (hts (.fieldLink RX10 56 "PowerRails" "plan" "LPowerRails$Plan;") (by decide +kernel)) (fun _ h9 => h9) rfl dX10_text_53 ?_
  refine lv_astore_n (lv' := [(2, .ref pl), (1, .int 0), (0, .ref xo)]) hx hb dX10_text_56 rfl hl (by decide) rfl (fun ls hl => ?_)
  refine lv_aload_n hx hb dX10_text_57 rfl (lv_at hl 2 rfl) ?_
  refine lv_aload_n hx hb dX10_text_58 rfl (lv_at hl 2 rfl) ?_
  refine va_get (D := D) (ci := 9) (v := .ref sp) (C := RX10) (T := TX10) (N := 10) hx hb hts in_X10_text_X10 hown hK hP 0 rfl rfl 8 (by decide) (hts (.fieldLink RX10 60 "PowerRails" "spare" "LPowerRails$Plan;") (by decide +kernel)) (fun _ h9 => h9) rfl dX10_text_59 ?_
  refine va_put (D := D) (ci := 9) (v := .ref sp) (ty := (.object "PowerRails$Plan")) (C := RX10) (T := TX10) (N := 10) hx hb hts in_X10_text_X10 tyX10 tyX10_ok nmX10 hown hK hP hD hS 0 rfl rfl 7 (by decide) (hts (.fieldLink RX10 56 "PowerRails" "plan" "LPowerRails$Plan;") (by decide +kernel)) (fun _ h9 => h9) rfl (by decide +kernel) rfl rfl (Nat.le_of_ble_eq_true rfl) dX10_text_62 (fun H locs hP hD hS => ?_)
  have hP : va_P D vwCl [(xo, .inr (9, [.ref tp, .ref rd, .ref rn, .ref co, .ref wy, .ref sg, .ref sh, .ref sp, .ref sp, .int 0])), (sn, .inl (cI, 64, .inl (fun _ => 0))), (rn, .inr (4, [.ref hy, .ref rs, .ref ri, .ref ra, .ref rt, .ref rg, .int 0, .int 0, .int 0, .int 0, .int 0, .int 0, .int 0, .int 0])), (rs, .inl (cI, 8, .inl (fun _ => 0))), (ri, .inl (cI, 8, .inl (fun _ => 0))), (ra, .inl (cI, 8, .inl (fun _ => 0))), (rt, .inl (cI, 8, .inl (fun _ => 0))), (rg, .inl (cI, 8, .inl (fun _ => 0))), (hy, .inr (1, [.ref ya, .ref yb, .ref yc, .int 0])), (wy, .inr (8, [.ref co, .ref wb, .ref wk, .int 0, .int 0, .int 0])), (wk, .inl (cZ, 64, .inl (fun _ => 0))), (sg, .inr (6, [.ref co, .ref sr, .int 0, .int (-4)])), (rd, .inr (3, [.ref tp, .ref rf, .ref ry, .ref rl, .ref sp, .int 0, .int 0, .int 0, .int 0, .int 0, .int 0, .int 0, .int 0])), (sp, .inr (2, [.ref sn, .ref st, .int 0, .int 999, .int 0, .int 5])), (tp, .inr (7, [.ref tb, .int 0]))] H := hP
  have hD : va_D A [(xo, .inr (9, [.ref tp, .ref rd, .ref rn, .ref co, .ref wy, .ref sg, .ref sh, .ref sp, .ref sp, .int 0])), (sn, .inl (cI, 64, .inl (fun _ => 0))), (rn, .inr (4, [.ref hy, .ref rs, .ref ri, .ref ra, .ref rt, .ref rg, .int 0, .int 0, .int 0, .int 0, .int 0, .int 0, .int 0, .int 0])), (rs, .inl (cI, 8, .inl (fun _ => 0))), (ri, .inl (cI, 8, .inl (fun _ => 0))), (ra, .inl (cI, 8, .inl (fun _ => 0))), (rt, .inl (cI, 8, .inl (fun _ => 0))), (rg, .inl (cI, 8, .inl (fun _ => 0))), (hy, .inr (1, [.ref ya, .ref yb, .ref yc, .int 0])), (wy, .inr (8, [.ref co, .ref wb, .ref wk, .int 0, .int 0, .int 0])), (wk, .inl (cZ, 64, .inl (fun _ => 0))), (sg, .inr (6, [.ref co, .ref sr, .int 0, .int (-4)])), (rd, .inr (3, [.ref tp, .ref rf, .ref ry, .ref rl, .ref sp, .int 0, .int 0, .int 0, .int 0, .int 0, .int 0, .int 0, .int 0])), (sp, .inr (2, [.ref sn, .ref st, .int 0, .int 999, .int 0, .int 5])), (tp, .inr (7, [.ref tb, .int 0]))] := hD
  refine lv_aload_n hx hb dX10_text_65 rfl (lv_at hl 2 rfl) ?_
  refine lv_aload_n hx hb dX10_text_66 rfl (lv_at hl 0 rfl) ?_
  refine va_put (D := D) (ci := 9) (v := .ref pl) (ty := (.object "PowerRails$Plan")) (C := RX10) (T := TX10) (N := 10) hx hb hts in_X10_text_X10 tyX10 tyX10_ok nmX10 hown hK hP hD hS 0 rfl rfl 8 (by decide) (hts (.fieldLink RX10 60 "PowerRails" "spare" "LPowerRails$Plan;") (by decide +kernel)) (fun _ h9 => h9) rfl (by decide +kernel) rfl rfl (Nat.le_of_ble_eq_true rfl) dX10_text_67 (fun H locs hP hD hS => ?_)
  have hP : va_P D vwCl [(xo, .inr (9, [.ref tp, .ref rd, .ref rn, .ref co, .ref wy, .ref sg, .ref sh, .ref sp, .ref pl, .int 0])), (sn, .inl (cI, 64, .inl (fun _ => 0))), (rn, .inr (4, [.ref hy, .ref rs, .ref ri, .ref ra, .ref rt, .ref rg, .int 0, .int 0, .int 0, .int 0, .int 0, .int 0, .int 0, .int 0])), (rs, .inl (cI, 8, .inl (fun _ => 0))), (ri, .inl (cI, 8, .inl (fun _ => 0))), (ra, .inl (cI, 8, .inl (fun _ => 0))), (rt, .inl (cI, 8, .inl (fun _ => 0))), (rg, .inl (cI, 8, .inl (fun _ => 0))), (hy, .inr (1, [.ref ya, .ref yb, .ref yc, .int 0])), (wy, .inr (8, [.ref co, .ref wb, .ref wk, .int 0, .int 0, .int 0])), (wk, .inl (cZ, 64, .inl (fun _ => 0))), (sg, .inr (6, [.ref co, .ref sr, .int 0, .int (-4)])), (rd, .inr (3, [.ref tp, .ref rf, .ref ry, .ref rl, .ref sp, .int 0, .int 0, .int 0, .int 0, .int 0, .int 0, .int 0, .int 0])), (sp, .inr (2, [.ref sn, .ref st, .int 0, .int 999, .int 0, .int 5])), (tp, .inr (7, [.ref tb, .int 0]))] H := hP
  have hD : va_D A [(xo, .inr (9, [.ref tp, .ref rd, .ref rn, .ref co, .ref wy, .ref sg, .ref sh, .ref sp, .ref pl, .int 0])), (sn, .inl (cI, 64, .inl (fun _ => 0))), (rn, .inr (4, [.ref hy, .ref rs, .ref ri, .ref ra, .ref rt, .ref rg, .int 0, .int 0, .int 0, .int 0, .int 0, .int 0, .int 0, .int 0])), (rs, .inl (cI, 8, .inl (fun _ => 0))), (ri, .inl (cI, 8, .inl (fun _ => 0))), (ra, .inl (cI, 8, .inl (fun _ => 0))), (rt, .inl (cI, 8, .inl (fun _ => 0))), (rg, .inl (cI, 8, .inl (fun _ => 0))), (hy, .inr (1, [.ref ya, .ref yb, .ref yc, .int 0])), (wy, .inr (8, [.ref co, .ref wb, .ref wk, .int 0, .int 0, .int 0])), (wk, .inl (cZ, 64, .inl (fun _ => 0))), (sg, .inr (6, [.ref co, .ref sr, .int 0, .int (-4)])), (rd, .inr (3, [.ref tp, .ref rf, .ref ry, .ref rl, .ref sp, .int 0, .int 0, .int 0, .int 0, .int 0, .int 0, .int 0, .int 0])), (sp, .inr (2, [.ref sn, .ref st, .int 0, .int 999, .int 0, .int 5])), (tp, .inr (7, [.ref tb, .int 0]))] := hD
  refine lv_aload_n hx hb dX10_text_70 rfl (lv_at hl 2 rfl) ?_
  refine va_get (D := D) (ci := 9) (v := .ref rn) (C := RX10) (T := TX10) (N := 10) hx hb hts in_X10_text_X10 hown hK hP 0 rfl rfl 2 (by decide) (hts (.fieldLink RX10 19 "PowerRails" "run" "LPowerRails$Run;") (by decide +kernel)) (fun _ h9 => h9) rfl dX10_text_71 ?_
  refine lv_aload_n hx hb dX10_text_74 rfl (lv_at hl 2 rfl) ?_
  refine va_get (D := D) (ci := 9) (v := .ref sp) (C := RX10) (T := TX10) (N := 10) hx hb hts in_X10_text_X10 hown hK hP 0 rfl rfl 7 (by decide) (hts (.fieldLink RX10 56 "PowerRails" "plan" "LPowerRails$Plan;") (by decide +kernel)) (fun _ h9 => h9) rfl dX10_text_75 ?_
  have hPc := hP.sub (ws' := [(rn, .inr (4, [.ref hy, .ref rs, .ref ri, .ref ra, .ref rt, .ref rg, .int 0, .int 0, .int 0, .int 0, .int 0, .int 0, .int 0, .int 0])), (rs, .inl (cI, 8, .inl (fun _ => 0))), (ri, .inl (cI, 8, .inl (fun _ => 0))), (ra, .inl (cI, 8, .inl (fun _ => 0))), (rt, .inl (cI, 8, .inl (fun _ => 0))), (rg, .inl (cI, 8, .inl (fun _ => 0))), (hy, .inr (1, [.ref ya, .ref yb, .ref yc, .int 0])), (sp, .inr (2, [.ref sn, .ref st, .int 0, .int 999, .int 0, .int 5])), (sn, .inl (cI, 64, .inl (fun _ => 0)))]) [2, 3, 4, 5, 6, 7, 8, 13, 1] rfl
  have hDc := hD.sub (ws' := [(rn, .inr (4, [.ref hy, .ref rs, .ref ri, .ref ra, .ref rt, .ref rg, .int 0, .int 0, .int 0, .int 0, .int 0, .int 0, .int 0, .int 0])), (rs, .inl (cI, 8, .inl (fun _ => 0))), (ri, .inl (cI, 8, .inl (fun _ => 0))), (ra, .inl (cI, 8, .inl (fun _ => 0))), (rt, .inl (cI, 8, .inl (fun _ => 0))), (rg, .inl (cI, 8, .inl (fun _ => 0))), (hy, .inr (1, [.ref ya, .ref yb, .ref yc, .int 0])), (sp, .inr (2, [.ref sn, .ref st, .int 0, .int 999, .int 0, .int 5])), (sn, .inl (cI, 64, .inl (fun _ => 0)))]) [2, 3, 4, 5, 6, 7, 8, 13, 1] (by decide) rfl
  have hFc := va_free (wc := [(rn, .inr (4, [.ref hy, .ref rs, .ref ri, .ref ra, .ref rt, .ref rg, .int 0, .int 0, .int 0, .int 0, .int 0, .int 0, .int 0, .int 0])), (rs, .inl (cI, 8, .inl (fun _ => 0))), (ri, .inl (cI, 8, .inl (fun _ => 0))), (ra, .inl (cI, 8, .inl (fun _ => 0))), (rt, .inl (cI, 8, .inl (fun _ => 0))), (rg, .inl (cI, 8, .inl (fun _ => 0))), (hy, .inr (1, [.ref ya, .ref yb, .ref yc, .int 0])), (sp, .inr (2, [.ref sn, .ref st, .int 0, .int 999, .int 0, .int 5])), (sn, .inl (cI, 64, .inl (fun _ => 0)))]) hD hS hA [2, 3, 4, 5, 6, 7, 8, 13, 1] rfl
  refine va_callv (va_runV (As := [.ref sp]) (rest := []) ⟨hx, hb, hml, hown, hts⟩ (c_Run_reset l D cI cJ cZ cG cH H.size rn sp hy rs ri ra rt rg ya yb yc sn st) (cwV 1 hts gX10_text_X5_reset rfl rfl rfl (by decide +kernel) ⟨Nat.le_of_ble_eq_true rfl, Nat.le_of_ble_eq_true rfl⟩) ⟨xPc_blind, va_recv hK hPc (ci := 4) (q0 := 0) rfl rfl, xPc_pre hPc hK hDc⟩ rfl rfl hl.1 rfl (lv_room (Nat.le_of_ble_eq_true rfl)) dX10_text_78 ⟨Nat.le_of_ble_eq_true rfl, Nat.le_of_ble_eq_true rfl⟩) hS (fun q _ h => hFc q h) hFc (fun u t H1 locs ht hvm hw2 hB hz1 hk1 hS => ?_)
  obtain ⟨hP, hD⟩ := va_join (wr := [(xo, .inr (9, [.ref tp, .ref rd, .ref rn, .ref co, .ref wy, .ref sg, .ref sh, .ref sp, .ref pl, .int 0])), (wy, .inr (8, [.ref co, .ref wb, .ref wk, .int 0, .int 0, .int 0])), (wk, .inl (cZ, 64, .inl (fun _ => 0))), (sg, .inr (6, [.ref co, .ref sr, .int 0, .int (-4)])), (rd, .inr (3, [.ref tp, .ref rf, .ref ry, .ref rl, .ref sp, .int 0, .int 0, .int 0, .int 0, .int 0, .int 0, .int 0, .int 0])), (tp, .inr (7, [.ref tb, .int 0]))]) (w1 := []) hP hD [2, 3, 4, 5, 6, 7, 8, 13, 1] [0, 9, 10, 11, 12, 14] rfl rfl (by decide) (by decide) hk1 hFc (xP0 D H1) (xD0 _)
  generalize H1 = H at hP hS ⊢
  have hP : va_P D vwCl [(xo, .inr (9, [.ref tp, .ref rd, .ref rn, .ref co, .ref wy, .ref sg, .ref sh, .ref sp, .ref pl, .int 0])), (wy, .inr (8, [.ref co, .ref wb, .ref wk, .int 0, .int 0, .int 0])), (wk, .inl (cZ, 64, .inl (fun _ => 0))), (sg, .inr (6, [.ref co, .ref sr, .int 0, .int (-4)])), (rd, .inr (3, [.ref tp, .ref rf, .ref ry, .ref rl, .ref sp, .int 0, .int 0, .int 0, .int 0, .int 0, .int 0, .int 0, .int 0])), (tp, .inr (7, [.ref tb, .int 0]))] H := hP
  have hD : va_D A [(xo, .inr (9, [.ref tp, .ref rd, .ref rn, .ref co, .ref wy, .ref sg, .ref sh, .ref sp, .ref pl, .int 0])), (wy, .inr (8, [.ref co, .ref wb, .ref wk, .int 0, .int 0, .int 0])), (wk, .inl (cZ, 64, .inl (fun _ => 0))), (sg, .inr (6, [.ref co, .ref sr, .int 0, .int (-4)])), (rd, .inr (3, [.ref tp, .ref rf, .ref ry, .ref rl, .ref sp, .int 0, .int 0, .int 0, .int 0, .int 0, .int 0, .int 0, .int 0])), (tp, .inr (7, [.ref tb, .int 0]))] := hD
  refine lv_aload_n hx hb dX10_text_81 rfl (lv_at hl 2 rfl) ?_
  have hPc := hP.sub (ws' := [(xo, .inr (9, [.ref tp, .ref rd, .ref rn, .ref co, .ref wy, .ref sg, .ref sh, .ref sp, .ref pl, .int 0])), (wy, .inr (8, [.ref co, .ref wb, .ref wk, .int 0, .int 0, .int 0])), (wk, .inl (cZ, 64, .inl (fun _ => 0))), (sg, .inr (6, [.ref co, .ref sr, .int 0, .int (-4)]))]) [0, 1, 2, 3] rfl
  have hDc := hD.sub (ws' := [(xo, .inr (9, [.ref tp, .ref rd, .ref rn, .ref co, .ref wy, .ref sg, .ref sh, .ref sp, .ref pl, .int 0])), (wy, .inr (8, [.ref co, .ref wb, .ref wk, .int 0, .int 0, .int 0])), (wk, .inl (cZ, 64, .inl (fun _ => 0))), (sg, .inr (6, [.ref co, .ref sr, .int 0, .int (-4)]))]) [0, 1, 2, 3] (by decide) rfl
  have hFc := va_free (wc := [(xo, .inr (9, [.ref tp, .ref rd, .ref rn, .ref co, .ref wy, .ref sg, .ref sh, .ref sp, .ref pl, .int 0])), (wy, .inr (8, [.ref co, .ref wb, .ref wk, .int 0, .int 0, .int 0])), (wk, .inl (cZ, 64, .inl (fun _ => 0))), (sg, .inr (6, [.ref co, .ref sr, .int 0, .int (-4)]))]) hD hS hA [0, 1, 2, 3] rfl
  refine va_callv (va_runV (As := []) (rest := []) ⟨hx, hb, hml, hown, hts⟩ (c_forgetReckoned0 l D cI cJ cZ cG cH H.size xo tp rd rn co wy sg sh sp pl wb wk sr) (cwV 0 hts gX10_text_X10_forgetReckoned rfl rfl rfl (by decide +kernel) ⟨Nat.le_of_ble_eq_true rfl, Nat.le_of_ble_eq_true rfl⟩) ⟨xPc_blind, va_recv hK hPc (ci := 9) (q0 := 0) rfl rfl, xPc_pre hPc hK hDc⟩ rfl rfl hl.1 rfl (lv_room (Nat.le_of_ble_eq_true rfl)) dX10_text_82 ⟨Nat.le_of_ble_eq_true rfl, Nat.le_of_ble_eq_true rfl⟩) hS (fun q _ h => hFc q h) hFc (fun u t H1 locs ht hvm hw3 hB hz1 hk1 hS => ?_)
  obtain ⟨hP, hD⟩ := va_join (wr := [(rd, .inr (3, [.ref tp, .ref rf, .ref ry, .ref rl, .ref sp, .int 0, .int 0, .int 0, .int 0, .int 0, .int 0, .int 0, .int 0])), (tp, .inr (7, [.ref tb, .int 0]))]) (w1 := []) hP hD [0, 1, 2, 3] [4, 5] rfl rfl (by decide) (by decide) hk1 hFc (xP0 D H1) (xD0 _)
  generalize H1 = H at hP hS ⊢
  have hP : va_P D vwCl [(rd, .inr (3, [.ref tp, .ref rf, .ref ry, .ref rl, .ref sp, .int 0, .int 0, .int 0, .int 0, .int 0, .int 0, .int 0, .int 0])), (tp, .inr (7, [.ref tb, .int 0]))] H := hP
  have hD : va_D A [(rd, .inr (3, [.ref tp, .ref rf, .ref ry, .ref rl, .ref sp, .int 0, .int 0, .int 0, .int 0, .int 0, .int 0, .int 0, .int 0])), (tp, .inr (7, [.ref tb, .int 0]))] := hD
  refine lv_iload_n hx hb dX10_text_85 rfl (lv_at hl 1 rfl) ?_
  refine W.widen (k := 0) (n := 0) (by decide) (by decide) ?_
  exact W.iret (v := 0) hx hb hr (fun t ht hW => ⟨⟨0, (), rfl, rfl, trivial⟩, hS.F ht⟩) hS.2.2 dX10_text_86
theorem in_X10_fault_X10 : ∀ w ∈ wsX100, w ∈ wsX10_fault := by decide +kernel
abbrev W_x_fault (cI cJ cZ cG cH : ClassId) (xo : Nat) (tp : Nat) (rd : Nat) (rn : Nat) (co : Nat) (wy : Nat) (sg : Nat) (sh : Nat) (pl : Nat) (sp : Nat) : va_W := [(xo, .inr (9, [.ref tp, .ref rd, .ref rn, .ref co, .ref wy, .ref sg, .ref sh, .ref pl, .ref sp, .int 0]))]
abbrev Q_x_fault (D : va_G) (cI cJ cZ cG cH : ClassId) (xo : Nat) (tp : Nat) (rd : Nat) (rn : Nat) (co : Nat) (wy : Nat) (sg : Nat) (sh : Nat) (pl : Nat) (sp : Nat) (A : Nat → Prop) : Array Value → State → Outcome → State → Prop := va_Qi (fun (r : Int32) (_ : Unit) => r = 0) (fun _ t => True) A
abbrev rm_x_fault : Room := { frames := 0, cells := 0, slots := 0, locals := 0 }
set_option maxRecDepth 100000 in
set_option maxHeartbeats 4000000 in
theorem c_x_fault (l : Launch) (D : va_G) (cI cJ cZ cG cH : ClassId) (sz : Nat) (xo : Nat) (tp : Nat) (rd : Nat) (rn : Nat) (co : Nat) (wy : Nat) (sg : Nat) (sh : Nat) (pl : Nat) (sp : Nat) : Met l yX10_fault wsX10_fault rm_x_fault (xPc [.ref xo] D (tyL cI cJ cZ cG cH) (W_x_fault cI cJ cZ cG cH xo tp rd rn co wy sg sh pl sp) sz) (Q_x_fault D cI cJ cZ cG cH xo tp rd rn co wy sg sh pl sp (va_A (W_x_fault cI cJ cZ cG cH xo tp rd rn co wy sg sh pl sp) sz)) 0 0 (va_A (W_x_fault cI cJ cZ cG cH xo tp rd rn co wy sg sh pl sp) sz) := by
  refine xMet (cc := cX10_fault) (maxL := 1) (ret := (some .int)) (Qf := Q_x_fault D cI cJ cZ cG cH xo tp rd rn co wy sg sh pl sp) (by decide) rfl (Nat.le_of_ble_eq_true rfl) ?_
  intro p e s m below meth c ls A hx hb hr hml hts hown hlocks hnm hsz hP hK hD hA hS hl
  have hown : s.vm.findClass RX10 = some m.cls := hown
  have hP : va_P D vwCl [(xo, .inr (9, [.ref tp, .ref rd, .ref rn, .ref co, .ref wy, .ref sg, .ref sh, .ref pl, .ref sp, .int 0]))] s.heap := hP
  have hD : va_D A [(xo, .inr (9, [.ref tp, .ref rd, .ref rn, .ref co, .ref wy, .ref sg, .ref sh, .ref pl, .ref sp, .int 0]))] := hD
  have hl : lv_has ls 1 [(0, .ref xo)] := hl
  refine lv_aload_n hx hb dX10_fault_0 rfl (lv_at hl 0 rfl) ?_
  refine va_get (D := D) (ci := 9) (v := .int 0) (C := RX10) (T := TX10) (N := 10) hx hb hts in_X10_fault_X10 hown hK hP 0 rfl rfl 9 (by decide) (hts (.fieldLink RX10 72 "PowerRails" "latestFault" "I") (by decide +kernel)) (fun _ h9 => h9) rfl dX10_fault_1 ?_
  refine W.widen (k := 0) (n := 0) (by decide) (by decide) ?_
  exact W.iret (v := 0) hx hb hr (fun t ht hW => ⟨⟨0, (), rfl, rfl, trivial⟩, hS.F ht⟩) hS.2.2 dX10_fault_4
theorem in_X10_rail_X10 : ∀ w ∈ wsX100, w ∈ wsX10_rail := by decide +kernel
abbrev W_x_rail (cI cJ cZ cG cH : ClassId) (xo : Nat) (p0 : Int32) (p1 : Int32) (tp : Nat) (rd : Nat) (rn : Nat) (co : Nat) (wy : Nat) (sg : Nat) (sh : Nat) (pl : Nat) (sp : Nat) (pn : Nat) (pt : Nat) : va_W := [(xo, .inr (9, [.ref tp, .ref rd, .ref rn, .ref co, .ref wy, .ref sg, .ref sh, .ref pl, .ref sp, .int 0])), (pl, .inr (2, [.ref pn, .ref pt, .int 0, .int 999, .int 0, .int 5]))]
abbrev Q_x_rail (D : va_G) (cI cJ cZ cG cH : ClassId) (xo : Nat) (p0 : Int32) (p1 : Int32) (tp : Nat) (rd : Nat) (rn : Nat) (co : Nat) (wy : Nat) (sg : Nat) (sh : Nat) (pl : Nat) (sp : Nat) (pn : Nat) (pt : Nat) (A : Nat → Prop) : Array Value → State → Outcome → State → Prop := va_Qi (fun (r : Int32) (_ : Unit) => r = (-1)) (fun _ t => True) A
abbrev rm_x_rail : Room := { frames := 1, cells := 0, slots := 0, locals := 21 }
set_option maxRecDepth 100000 in
set_option maxHeartbeats 4000000 in
theorem c_x_rail (l : Launch) (D : va_G) (cI cJ cZ cG cH : ClassId) (sz : Nat) (xo : Nat) (p0 : Int32) (p1 : Int32) (tp : Nat) (rd : Nat) (rn : Nat) (co : Nat) (wy : Nat) (sg : Nat) (sh : Nat) (pl : Nat) (sp : Nat) (pn : Nat) (pt : Nat) : Met l yX10_rail wsX10_rail rm_x_rail (xPc [.ref xo, .int p0, .int p1] D (tyL cI cJ cZ cG cH) (W_x_rail cI cJ cZ cG cH xo p0 p1 tp rd rn co wy sg sh pl sp pn pt) sz) (Q_x_rail D cI cJ cZ cG cH xo p0 p1 tp rd rn co wy sg sh pl sp pn pt (va_A (W_x_rail cI cJ cZ cG cH xo p0 p1 tp rd rn co wy sg sh pl sp pn pt) sz)) 0 0 (va_A (W_x_rail cI cJ cZ cG cH xo p0 p1 tp rd rn co wy sg sh pl sp pn pt) sz) := by
  refine xMet (cc := cX10_rail) (maxL := 3) (ret := (some .int)) (Qf := Q_x_rail D cI cJ cZ cG cH xo p0 p1 tp rd rn co wy sg sh pl sp pn pt) (by decide) rfl (Nat.le_of_ble_eq_true rfl) ?_
  intro p e s m below meth c ls A hx hb hr hml hts hown hlocks hnm hsz hP hK hD hA hS hl
  have hown : s.vm.findClass RX10 = some m.cls := hown
  have hP : va_P D vwCl [(xo, .inr (9, [.ref tp, .ref rd, .ref rn, .ref co, .ref wy, .ref sg, .ref sh, .ref pl, .ref sp, .int 0])), (pl, .inr (2, [.ref pn, .ref pt, .int 0, .int 999, .int 0, .int 5]))] s.heap := hP
  have hD : va_D A [(xo, .inr (9, [.ref tp, .ref rd, .ref rn, .ref co, .ref wy, .ref sg, .ref sh, .ref pl, .ref sp, .int 0])), (pl, .inr (2, [.ref pn, .ref pt, .int 0, .int 999, .int 0, .int 5]))] := hD
  have hl : lv_has ls 3 [(0, .ref xo), (1, .int p0), (2, .int p1)] := hl
  refine lv_aload_n hx hb dX10_rail_0 rfl (lv_at hl 0 rfl) ?_
  refine va_get (D := D) (ci := 9) (v := .ref pl) (C := RX10) (T := TX10) (N := 10) hx hb hts in_X10_rail_X10 hown hK hP 0 rfl rfl 7 (by decide) (hts (.fieldLink RX10 56 "PowerRails" "plan" "LPowerRails$Plan;") (by decide +kernel)) (fun _ h9 => h9) rfl dX10_rail_1 ?_
  refine lv_iload_n hx hb dX10_rail_4 rfl (lv_at hl 1 rfl) ?_
  have hPc := hP.sub (ws' := [(pl, .inr (2, [.ref pn, .ref pt, .int 0, .int 999, .int 0, .int 5]))]) [1] rfl
  have hDc := hD.sub (ws' := [(pl, .inr (2, [.ref pn, .ref pt, .int 0, .int 999, .int 0, .int 5]))]) [1] (by decide) rfl
  have hFc := va_free (wc := [(pl, .inr (2, [.ref pn, .ref pt, .int 0, .int 999, .int 0, .int 5]))]) hD hS hA [1] rfl
  refine va_calli (va_runV (As := [.int p0]) (rest := []) ⟨hx, hb, hml, hown, hts⟩ (c_hasRail0 l D cI cJ cZ cG cH s.heap.size pl p0 pn pt) (cwV 1 hts gX10_rail_X3_hasRail rfl rfl rfl (by decide +kernel) ⟨Nat.le_of_ble_eq_true rfl, Nat.le_of_ble_eq_true rfl⟩) ⟨xPc_blind, va_recv hK hPc (ci := 2) (q0 := 0) rfl rfl, xPc_pre hPc hK hDc⟩ rfl rfl hl.1 rfl (lv_room (Nat.le_of_ble_eq_true rfl)) dX10_rail_5 ⟨Nat.le_of_ble_eq_true rfl, Nat.le_of_ble_eq_true rfl⟩) hS (fun q _ h => hFc q h) hFc (fun r1 u t H1 locs ht hvm hw1 hB hz1 hk1 hS => ?_)
  obtain ⟨hP1, hK1, hD1⟩ := hB
  rw [ht] at hP1
  obtain ⟨hP, hD⟩ := va_join (wr := [(xo, .inr (9, [.ref tp, .ref rd, .ref rn, .ref co, .ref wy, .ref sg, .ref sh, .ref pl, .ref sp, .int 0]))]) (w1 := [(pl, .inr (2, [.ref pn, .ref pt, .int 0, .int 999, .int 0, .int 5]))]) hP hD [1] [0] rfl rfl (by decide) (by decide) hk1 hFc hP1 hD1
  generalize H1 = H at hP hS ⊢
  have hP : va_P D vwCl [(xo, .inr (9, [.ref tp, .ref rd, .ref rn, .ref co, .ref wy, .ref sg, .ref sh, .ref pl, .ref sp, .int 0])), (pl, .inr (2, [.ref pn, .ref pt, .int 0, .int 999, .int 0, .int 5]))] H := hP
  have hD : va_D A [(xo, .inr (9, [.ref tp, .ref rd, .ref rn, .ref co, .ref wy, .ref sg, .ref sh, .ref pl, .ref sp, .int 0])), (pl, .inr (2, [.ref pn, .ref pt, .int 0, .int 999, .int 0, .int 5]))] := hD
  obtain rfl : r1 = 0 := hw1
  refine lv_if_eq (tgt := 21) hx hb dX10_rail_8 (by decide) (fun _ => ?_) (fun c9 => absurd c9 (by decide))
  refine lv_iconst (v := (-1)) hx hb dX10_rail_21 (by decide) ?_
  refine W.widen (k := 0) (n := 0) (by decide) (by decide) ?_
  exact W.iret (v := (-1)) hx hb hr (fun t ht hW => ⟨⟨(-1), (), rfl, rfl, trivial⟩, hS.F ht⟩) hS.2.2 dX10_rail_22
theorem in_X10_rule_X10 : ∀ w ∈ wsX100, w ∈ wsX10_rule := by decide +kernel
theorem in_X10_rule_X3 : ∀ w ∈ wsX30, w ∈ wsX10_rule := by decide +kernel
abbrev W_x_rule (cI cJ cZ cG cH : ClassId) (xo : Nat) (p0 : Int32) (tp : Nat) (rd : Nat) (rn : Nat) (co : Nat) (wy : Nat) (sg : Nat) (sh : Nat) (pl : Nat) (sp : Nat) (pn : Nat) (pt : Nat) : va_W := [(xo, .inr (9, [.ref tp, .ref rd, .ref rn, .ref co, .ref wy, .ref sg, .ref sh, .ref pl, .ref sp, .int 0])), (pl, .inr (2, [.ref pn, .ref pt, .int 0, .int 999, .int 0, .int 5]))]
abbrev Q_x_rule (D : va_G) (cI cJ cZ cG cH : ClassId) (xo : Nat) (p0 : Int32) (tp : Nat) (rd : Nat) (rn : Nat) (co : Nat) (wy : Nat) (sg : Nat) (sh : Nat) (pl : Nat) (sp : Nat) (pn : Nat) (pt : Nat) (A : Nat → Prop) : Array Value → State → Outcome → State → Prop := va_Qi (fun (r : Int32) (_ : Unit) => r = sp_rule p0) (fun _ t => True) A
abbrev rm_x_rule : Room := { frames := 0, cells := 0, slots := 0, locals := 0 }
set_option maxRecDepth 100000 in
set_option maxHeartbeats 4000000 in
theorem c_x_rule (l : Launch) (D : va_G) (cI cJ cZ cG cH : ClassId) (sz : Nat) (xo : Nat) (p0 : Int32) (tp : Nat) (rd : Nat) (rn : Nat) (co : Nat) (wy : Nat) (sg : Nat) (sh : Nat) (pl : Nat) (sp : Nat) (pn : Nat) (pt : Nat) : Met l yX10_rule wsX10_rule rm_x_rule (xPc [.ref xo, .int p0] D (tyL cI cJ cZ cG cH) (W_x_rule cI cJ cZ cG cH xo p0 tp rd rn co wy sg sh pl sp pn pt) sz) (Q_x_rule D cI cJ cZ cG cH xo p0 tp rd rn co wy sg sh pl sp pn pt (va_A (W_x_rule cI cJ cZ cG cH xo p0 tp rd rn co wy sg sh pl sp pn pt) sz)) 0 0 (va_A (W_x_rule cI cJ cZ cG cH xo p0 tp rd rn co wy sg sh pl sp pn pt) sz) := by
  refine xMet (cc := cX10_rule) (maxL := 2) (ret := (some .int)) (Qf := Q_x_rule D cI cJ cZ cG cH xo p0 tp rd rn co wy sg sh pl sp pn pt) (by decide) rfl (Nat.le_of_ble_eq_true rfl) ?_
  intro p e s m below meth c ls A hx hb hr hml hts hown hlocks hnm hsz hP hK hD hA hS hl
  have hown : s.vm.findClass RX10 = some m.cls := hown
  have hP : va_P D vwCl [(xo, .inr (9, [.ref tp, .ref rd, .ref rn, .ref co, .ref wy, .ref sg, .ref sh, .ref pl, .ref sp, .int 0])), (pl, .inr (2, [.ref pn, .ref pt, .int 0, .int 999, .int 0, .int 5]))] s.heap := hP
  have hD : va_D A [(xo, .inr (9, [.ref tp, .ref rd, .ref rn, .ref co, .ref wy, .ref sg, .ref sh, .ref pl, .ref sp, .int 0])), (pl, .inr (2, [.ref pn, .ref pt, .int 0, .int 999, .int 0, .int 5]))] := hD
  have hl : lv_has ls 2 [(0, .ref xo), (1, .int p0)] := hl
  refine lv_iload_n hx hb dX10_rule_0 rfl (lv_at hl 1 rfl) ?_
  by_cases i_1_0 : p0.toInt = 0
  · refine lv_tableIn (off := 31) (tgt := 32) hx hb dX10_rule_1 (by omega) (by omega) (by rw [i_1_0]; rfl) (by decide) ?_
    refine lv_aload_n hx hb dX10_rule_32 rfl (lv_at hl 0 rfl) ?_
    refine va_get (D := D) (ci := 9) (v := .ref pl) (C := RX10) (T := TX10) (N := 10) hx hb hts in_X10_rule_X10 hown hK hP 0 rfl rfl 7 (by decide) (hts (.fieldLink RX10 56 "PowerRails" "plan" "LPowerRails$Plan;") (by decide +kernel)) (fun _ h9 => h9) rfl dX10_rule_33 ?_
    refine va_get (D := D) (ci := 2) (v := .int 999) (C := RX3) (T := TX3) (N := 6) hx hb hts in_X10_rule_X3 hown hK hP 1 rfl rfl 3 (by decide) (hts (.fieldLink RX10 108 "PowerRails$Plan" "limit" "I") (by decide +kernel)) (fun _ h9 => h9) rfl dX10_rule_36 ?_
    refine W.widen (k := 0) (n := 0) (by decide) (by decide) ?_
    exact W.iret (v := 999) hx hb hr (fun t ht hW => ⟨⟨999, (), rfl, (by unfold sp_rule; repeat (first | rw [if_pos (by omega)] | rw [if_neg (by omega)])), trivial⟩, hS.F ht⟩) hS.2.2 dX10_rule_39
  by_cases i_1_1 : p0.toInt = 1
  · refine lv_tableIn (off := 39) (tgt := 40) hx hb dX10_rule_1 (by omega) (by omega) (by rw [i_1_1]; rfl) (by decide) ?_
    refine lv_aload_n hx hb dX10_rule_40 rfl (lv_at hl 0 rfl) ?_
    refine va_get (D := D) (ci := 9) (v := .ref pl) (C := RX10) (T := TX10) (N := 10) hx hb hts in_X10_rule_X10 hown hK hP 0 rfl rfl 7 (by decide) (hts (.fieldLink RX10 56 "PowerRails" "plan" "LPowerRails$Plan;") (by decide +kernel)) (fun _ h9 => h9) rfl dX10_rule_41 ?_
    refine va_get (D := D) (ci := 2) (v := .int 0) (C := RX3) (T := TX3) (N := 6) hx hb hts in_X10_rule_X3 hown hK hP 1 rfl rfl 4 (by decide) (hts (.fieldLink RX10 111 "PowerRails$Plan" "retry" "I") (by decide +kernel)) (fun _ h9 => h9) rfl dX10_rule_44 ?_
    refine W.widen (k := 0) (n := 0) (by decide) (by decide) ?_
    exact W.iret (v := 0) hx hb hr (fun t ht hW => ⟨⟨0, (), rfl, (by unfold sp_rule; repeat (first | rw [if_pos (by omega)] | rw [if_neg (by omega)])), trivial⟩, hS.F ht⟩) hS.2.2 dX10_rule_47
  by_cases i_1_2 : p0.toInt = 2
  · refine lv_tableIn (off := 47) (tgt := 48) hx hb dX10_rule_1 (by omega) (by omega) (by rw [i_1_2]; rfl) (by decide) ?_
    refine lv_aload_n hx hb dX10_rule_48 rfl (lv_at hl 0 rfl) ?_
    refine va_get (D := D) (ci := 9) (v := .ref pl) (C := RX10) (T := TX10) (N := 10) hx hb hts in_X10_rule_X10 hown hK hP 0 rfl rfl 7 (by decide) (hts (.fieldLink RX10 56 "PowerRails" "plan" "LPowerRails$Plan;") (by decide +kernel)) (fun _ h9 => h9) rfl dX10_rule_49 ?_
    refine va_get (D := D) (ci := 2) (v := .int 5) (C := RX3) (T := TX3) (N := 6) hx hb hts in_X10_rule_X3 hown hK hP 1 rfl rfl 5 (by decide) (hts (.fieldLink RX10 114 "PowerRails$Plan" "behind" "I") (by decide +kernel)) (fun _ h9 => h9) rfl dX10_rule_52 ?_
    refine W.widen (k := 0) (n := 0) (by decide) (by decide) ?_
    exact W.iret (v := 5) hx hb hr (fun t ht hW => ⟨⟨5, (), rfl, (by unfold sp_rule; repeat (first | rw [if_pos (by omega)] | rw [if_neg (by omega)])), trivial⟩, hS.F ht⟩) hS.2.2 dX10_rule_55
  by_cases i_1_3 : p0.toInt = 3
  · refine lv_tableIn (off := 55) (tgt := 56) hx hb dX10_rule_1 (by omega) (by omega) (by rw [i_1_3]; rfl) (by decide) ?_
    refine lv_aload_n hx hb dX10_rule_56 rfl (lv_at hl 0 rfl) ?_
    refine va_get (D := D) (ci := 9) (v := .ref pl) (C := RX10) (T := TX10) (N := 10) hx hb hts in_X10_rule_X10 hown hK hP 0 rfl rfl 7 (by decide) (hts (.fieldLink RX10 56 "PowerRails" "plan" "LPowerRails$Plan;") (by decide +kernel)) (fun _ h9 => h9) rfl dX10_rule_57 ?_
    refine va_get (D := D) (ci := 2) (v := .int 0) (C := RX3) (T := TX3) (N := 6) hx hb hts in_X10_rule_X3 hown hK hP 1 rfl rfl 2 (by decide) (hts (.fieldLink RX10 117 "PowerRails$Plan" "rails" "I") (by decide +kernel)) (fun _ h9 => h9) rfl dX10_rule_60 ?_
    refine W.widen (k := 0) (n := 0) (by decide) (by decide) ?_
    exact W.iret (v := 0) hx hb hr (fun t ht hW => ⟨⟨0, (), rfl, (by unfold sp_rule; repeat (first | rw [if_pos (by omega)] | rw [if_neg (by omega)])), trivial⟩, hS.F ht⟩) hS.2.2 dX10_rule_63
  refine lv_tableOut (tgt := 64) hx hb dX10_rule_1 (by omega) (by decide) ?_
  refine lv_iconst (v := (-1)) hx hb dX10_rule_64 (by decide) ?_
  refine W.widen (k := 0) (n := 0) (by decide) (by decide) ?_
  exact W.iret (v := (-1)) hx hb hr (fun t ht hW => ⟨⟨(-1), (), rfl, (by unfold sp_rule; repeat (first | rw [if_pos (by omega)] | rw [if_neg (by omega)])), trivial⟩, hS.F ht⟩) hS.2.2 dX10_rule_65
theorem in_X10_holds_X10 : ∀ w ∈ wsX100, w ∈ wsX10_holds := by decide +kernel
abbrev W_x_holds (cI cJ cZ cG cH : ClassId) (xo : Nat) (p0 : Int32) (p1 : Int32) (tp : Nat) (rd : Nat) (rn : Nat) (co : Nat) (wy : Nat) (sg : Nat) (sh : Nat) (pl : Nat) (sp : Nat) (pn : Nat) (pt : Nat) : va_W := [(xo, .inr (9, [.ref tp, .ref rd, .ref rn, .ref co, .ref wy, .ref sg, .ref sh, .ref pl, .ref sp, .int 0])), (pl, .inr (2, [.ref pn, .ref pt, .int 0, .int 999, .int 0, .int 5]))]
abbrev Q_x_holds (D : va_G) (cI cJ cZ cG cH : ClassId) (xo : Nat) (p0 : Int32) (p1 : Int32) (tp : Nat) (rd : Nat) (rn : Nat) (co : Nat) (wy : Nat) (sg : Nat) (sh : Nat) (pl : Nat) (sp : Nat) (pn : Nat) (pt : Nat) (A : Nat → Prop) : Array Value → State → Outcome → State → Prop := va_Qi (fun (r : Int32) (_ : Unit) => r = (-1)) (fun _ t => True) A
abbrev rm_x_holds : Room := { frames := 1, cells := 0, slots := 0, locals := 21 }
set_option maxRecDepth 100000 in
set_option maxHeartbeats 4000000 in
theorem c_x_holds (l : Launch) (D : va_G) (cI cJ cZ cG cH : ClassId) (sz : Nat) (xo : Nat) (p0 : Int32) (p1 : Int32) (tp : Nat) (rd : Nat) (rn : Nat) (co : Nat) (wy : Nat) (sg : Nat) (sh : Nat) (pl : Nat) (sp : Nat) (pn : Nat) (pt : Nat) : Met l yX10_holds wsX10_holds rm_x_holds (xPc [.ref xo, .int p0, .int p1] D (tyL cI cJ cZ cG cH) (W_x_holds cI cJ cZ cG cH xo p0 p1 tp rd rn co wy sg sh pl sp pn pt) sz) (Q_x_holds D cI cJ cZ cG cH xo p0 p1 tp rd rn co wy sg sh pl sp pn pt (va_A (W_x_holds cI cJ cZ cG cH xo p0 p1 tp rd rn co wy sg sh pl sp pn pt) sz)) 0 0 (va_A (W_x_holds cI cJ cZ cG cH xo p0 p1 tp rd rn co wy sg sh pl sp pn pt) sz) := by
  refine xMet (cc := cX10_holds) (maxL := 3) (ret := (some .int)) (Qf := Q_x_holds D cI cJ cZ cG cH xo p0 p1 tp rd rn co wy sg sh pl sp pn pt) (by decide) rfl (Nat.le_of_ble_eq_true rfl) ?_
  intro p e s m below meth c ls A hx hb hr hml hts hown hlocks hnm hsz hP hK hD hA hS hl
  have hown : s.vm.findClass RX10 = some m.cls := hown
  have hP : va_P D vwCl [(xo, .inr (9, [.ref tp, .ref rd, .ref rn, .ref co, .ref wy, .ref sg, .ref sh, .ref pl, .ref sp, .int 0])), (pl, .inr (2, [.ref pn, .ref pt, .int 0, .int 999, .int 0, .int 5]))] s.heap := hP
  have hD : va_D A [(xo, .inr (9, [.ref tp, .ref rd, .ref rn, .ref co, .ref wy, .ref sg, .ref sh, .ref pl, .ref sp, .int 0])), (pl, .inr (2, [.ref pn, .ref pt, .int 0, .int 999, .int 0, .int 5]))] := hD
  have hl : lv_has ls 3 [(0, .ref xo), (1, .int p0), (2, .int p1)] := hl
  refine lv_aload_n hx hb dX10_holds_0 rfl (lv_at hl 0 rfl) ?_
  refine va_get (D := D) (ci := 9) (v := .ref pl) (C := RX10) (T := TX10) (N := 10) hx hb hts in_X10_holds_X10 hown hK hP 0 rfl rfl 7 (by decide) (hts (.fieldLink RX10 56 "PowerRails" "plan" "LPowerRails$Plan;") (by decide +kernel)) (fun _ h9 => h9) rfl dX10_holds_1 ?_
  refine lv_iload_n hx hb dX10_holds_4 rfl (lv_at hl 1 rfl) ?_
  have hPc := hP.sub (ws' := [(pl, .inr (2, [.ref pn, .ref pt, .int 0, .int 999, .int 0, .int 5]))]) [1] rfl
  have hDc := hD.sub (ws' := [(pl, .inr (2, [.ref pn, .ref pt, .int 0, .int 999, .int 0, .int 5]))]) [1] (by decide) rfl
  have hFc := va_free (wc := [(pl, .inr (2, [.ref pn, .ref pt, .int 0, .int 999, .int 0, .int 5]))]) hD hS hA [1] rfl
  refine va_calli (va_runV (As := [.int p0]) (rest := []) ⟨hx, hb, hml, hown, hts⟩ (c_hasRail0 l D cI cJ cZ cG cH s.heap.size pl p0 pn pt) (cwV 1 hts gX10_holds_X3_hasRail rfl rfl rfl (by decide +kernel) ⟨Nat.le_of_ble_eq_true rfl, Nat.le_of_ble_eq_true rfl⟩) ⟨xPc_blind, va_recv hK hPc (ci := 2) (q0 := 0) rfl rfl, xPc_pre hPc hK hDc⟩ rfl rfl hl.1 rfl (lv_room (Nat.le_of_ble_eq_true rfl)) dX10_holds_5 ⟨Nat.le_of_ble_eq_true rfl, Nat.le_of_ble_eq_true rfl⟩) hS (fun q _ h => hFc q h) hFc (fun r1 u t H1 locs ht hvm hw1 hB hz1 hk1 hS => ?_)
  obtain ⟨hP1, hK1, hD1⟩ := hB
  rw [ht] at hP1
  obtain ⟨hP, hD⟩ := va_join (wr := [(xo, .inr (9, [.ref tp, .ref rd, .ref rn, .ref co, .ref wy, .ref sg, .ref sh, .ref pl, .ref sp, .int 0]))]) (w1 := [(pl, .inr (2, [.ref pn, .ref pt, .int 0, .int 999, .int 0, .int 5]))]) hP hD [1] [0] rfl rfl (by decide) (by decide) hk1 hFc hP1 hD1
  generalize H1 = H at hP hS ⊢
  have hP : va_P D vwCl [(xo, .inr (9, [.ref tp, .ref rd, .ref rn, .ref co, .ref wy, .ref sg, .ref sh, .ref pl, .ref sp, .int 0])), (pl, .inr (2, [.ref pn, .ref pt, .int 0, .int 999, .int 0, .int 5]))] H := hP
  have hD : va_D A [(xo, .inr (9, [.ref tp, .ref rd, .ref rn, .ref co, .ref wy, .ref sg, .ref sh, .ref pl, .ref sp, .int 0])), (pl, .inr (2, [.ref pn, .ref pt, .int 0, .int 999, .int 0, .int 5]))] := hD
  obtain rfl : r1 = 0 := hw1
  refine lv_if_eq (tgt := 29) hx hb dX10_holds_8 (by decide) (fun _ => ?_) (fun c9 => absurd c9 (by decide))
  refine lv_iconst (v := (-1)) hx hb dX10_holds_29 (by decide) ?_
  refine W.widen (k := 0) (n := 0) (by decide) (by decide) ?_
  exact W.iret (v := (-1)) hx hb hr (fun t ht hW => ⟨⟨(-1), (), rfl, rfl, trivial⟩, hS.F ht⟩) hS.2.2 dX10_holds_30
theorem in_X10_words_X10 : ∀ w ∈ wsX100, w ∈ wsX10_words := by decide +kernel
abbrev W_x_words (cI cJ cZ cG cH : ClassId) (xo : Nat) (p0 : Int32) (p1 : Int32) (tp : Nat) (rd : Nat) (rn : Nat) (co : Nat) (wy : Nat) (sg : Nat) (sh : Nat) (pl : Nat) (sp : Nat) (pn : Nat) (pt : Nat) : va_W := [(xo, .inr (9, [.ref tp, .ref rd, .ref rn, .ref co, .ref wy, .ref sg, .ref sh, .ref pl, .ref sp, .int 0])), (pl, .inr (2, [.ref pn, .ref pt, .int 0, .int 999, .int 0, .int 5]))]
abbrev Q_x_words (D : va_G) (cI cJ cZ cG cH : ClassId) (xo : Nat) (p0 : Int32) (p1 : Int32) (tp : Nat) (rd : Nat) (rn : Nat) (co : Nat) (wy : Nat) (sg : Nat) (sh : Nat) (pl : Nat) (sp : Nat) (pn : Nat) (pt : Nat) (A : Nat → Prop) : Array Value → State → Outcome → State → Prop := va_Qi (fun (r : Int32) (_ : Unit) => r = (-1)) (fun _ t => True) A
abbrev rm_x_words : Room := { frames := 1, cells := 0, slots := 0, locals := 21 }
set_option maxRecDepth 100000 in
set_option maxHeartbeats 4000000 in
theorem c_x_words (l : Launch) (D : va_G) (cI cJ cZ cG cH : ClassId) (sz : Nat) (xo : Nat) (p0 : Int32) (p1 : Int32) (tp : Nat) (rd : Nat) (rn : Nat) (co : Nat) (wy : Nat) (sg : Nat) (sh : Nat) (pl : Nat) (sp : Nat) (pn : Nat) (pt : Nat) : Met l yX10_words wsX10_words rm_x_words (xPc [.ref xo, .int p0, .int p1] D (tyL cI cJ cZ cG cH) (W_x_words cI cJ cZ cG cH xo p0 p1 tp rd rn co wy sg sh pl sp pn pt) sz) (Q_x_words D cI cJ cZ cG cH xo p0 p1 tp rd rn co wy sg sh pl sp pn pt (va_A (W_x_words cI cJ cZ cG cH xo p0 p1 tp rd rn co wy sg sh pl sp pn pt) sz)) 0 0 (va_A (W_x_words cI cJ cZ cG cH xo p0 p1 tp rd rn co wy sg sh pl sp pn pt) sz) := by
  refine xMet (cc := cX10_words) (maxL := 3) (ret := (some .int)) (Qf := Q_x_words D cI cJ cZ cG cH xo p0 p1 tp rd rn co wy sg sh pl sp pn pt) (by decide) rfl (Nat.le_of_ble_eq_true rfl) ?_
  intro p e s m below meth c ls A hx hb hr hml hts hown hlocks hnm hsz hP hK hD hA hS hl
  have hown : s.vm.findClass RX10 = some m.cls := hown
  have hP : va_P D vwCl [(xo, .inr (9, [.ref tp, .ref rd, .ref rn, .ref co, .ref wy, .ref sg, .ref sh, .ref pl, .ref sp, .int 0])), (pl, .inr (2, [.ref pn, .ref pt, .int 0, .int 999, .int 0, .int 5]))] s.heap := hP
  have hD : va_D A [(xo, .inr (9, [.ref tp, .ref rd, .ref rn, .ref co, .ref wy, .ref sg, .ref sh, .ref pl, .ref sp, .int 0])), (pl, .inr (2, [.ref pn, .ref pt, .int 0, .int 999, .int 0, .int 5]))] := hD
  have hl : lv_has ls 3 [(0, .ref xo), (1, .int p0), (2, .int p1)] := hl
  refine lv_aload_n hx hb dX10_words_0 rfl (lv_at hl 0 rfl) ?_
  refine va_get (D := D) (ci := 9) (v := .ref pl) (C := RX10) (T := TX10) (N := 10) hx hb hts in_X10_words_X10 hown hK hP 0 rfl rfl 7 (by decide) (hts (.fieldLink RX10 56 "PowerRails" "plan" "LPowerRails$Plan;") (by decide +kernel)) (fun _ h9 => h9) rfl dX10_words_1 ?_
  refine lv_iload_n hx hb dX10_words_4 rfl (lv_at hl 1 rfl) ?_
  have hPc := hP.sub (ws' := [(pl, .inr (2, [.ref pn, .ref pt, .int 0, .int 999, .int 0, .int 5]))]) [1] rfl
  have hDc := hD.sub (ws' := [(pl, .inr (2, [.ref pn, .ref pt, .int 0, .int 999, .int 0, .int 5]))]) [1] (by decide) rfl
  have hFc := va_free (wc := [(pl, .inr (2, [.ref pn, .ref pt, .int 0, .int 999, .int 0, .int 5]))]) hD hS hA [1] rfl
  refine va_calli (va_runV (As := [.int p0]) (rest := []) ⟨hx, hb, hml, hown, hts⟩ (c_hasRail0 l D cI cJ cZ cG cH s.heap.size pl p0 pn pt) (cwV 1 hts gX10_words_X3_hasRail rfl rfl rfl (by decide +kernel) ⟨Nat.le_of_ble_eq_true rfl, Nat.le_of_ble_eq_true rfl⟩) ⟨xPc_blind, va_recv hK hPc (ci := 2) (q0 := 0) rfl rfl, xPc_pre hPc hK hDc⟩ rfl rfl hl.1 rfl (lv_room (Nat.le_of_ble_eq_true rfl)) dX10_words_5 ⟨Nat.le_of_ble_eq_true rfl, Nat.le_of_ble_eq_true rfl⟩) hS (fun q _ h => hFc q h) hFc (fun r1 u t H1 locs ht hvm hw1 hB hz1 hk1 hS => ?_)
  obtain ⟨hP1, hK1, hD1⟩ := hB
  rw [ht] at hP1
  obtain ⟨hP, hD⟩ := va_join (wr := [(xo, .inr (9, [.ref tp, .ref rd, .ref rn, .ref co, .ref wy, .ref sg, .ref sh, .ref pl, .ref sp, .int 0]))]) (w1 := [(pl, .inr (2, [.ref pn, .ref pt, .int 0, .int 999, .int 0, .int 5]))]) hP hD [1] [0] rfl rfl (by decide) (by decide) hk1 hFc hP1 hD1
  generalize H1 = H at hP hS ⊢
  have hP : va_P D vwCl [(xo, .inr (9, [.ref tp, .ref rd, .ref rn, .ref co, .ref wy, .ref sg, .ref sh, .ref pl, .ref sp, .int 0])), (pl, .inr (2, [.ref pn, .ref pt, .int 0, .int 999, .int 0, .int 5]))] H := hP
  have hD : va_D A [(xo, .inr (9, [.ref tp, .ref rd, .ref rn, .ref co, .ref wy, .ref sg, .ref sh, .ref pl, .ref sp, .int 0])), (pl, .inr (2, [.ref pn, .ref pt, .int 0, .int 999, .int 0, .int 5]))] := hD
  obtain rfl : r1 = 0 := hw1
  refine lv_if_eq (tgt := 21) hx hb dX10_words_8 (by decide) (fun _ => ?_) (fun c9 => absurd c9 (by decide))
  refine lv_iconst (v := (-1)) hx hb dX10_words_21 (by decide) ?_
  refine W.widen (k := 0) (n := 0) (by decide) (by decide) ?_
  exact W.iret (v := (-1)) hx hb hr (fun t ht hW => ⟨⟨(-1), (), rfl, rfl, trivial⟩, hS.F ht⟩) hS.2.2 dX10_words_22
theorem in_X10_key_X10 : ∀ w ∈ wsX100, w ∈ wsX10_key := by decide +kernel
theorem in_X10_key_X5 : ∀ w ∈ wsX50, w ∈ wsX10_key := by decide +kernel
abbrev W_x_key (cI cJ cZ cG cH : ClassId) (xo : Nat) (p0 : Int32) (tp : Nat) (rd : Nat) (rn : Nat) (co : Nat) (wy : Nat) (sg : Nat) (sh : Nat) (pl : Nat) (sp : Nat) (hy : Nat) (rs : Nat) (ri : Nat) (ra : Nat) (rt : Nat) (rg : Nat) (pn : Nat) (pt : Nat) : va_W := [(xo, .inr (9, [.ref tp, .ref rd, .ref rn, .ref co, .ref wy, .ref sg, .ref sh, .ref pl, .ref sp, .int 0])), (rn, .inr (4, [.ref hy, .ref rs, .ref ri, .ref ra, .ref rt, .ref rg, .int 0, .int 0, .int 0, .int 0, .int 0, .int 0, .int 0, .int 0])), (pl, .inr (2, [.ref pn, .ref pt, .int 0, .int 999, .int 0, .int 5]))]
abbrev Q_x_key (D : va_G) (cI cJ cZ cG cH : ClassId) (xo : Nat) (p0 : Int32) (tp : Nat) (rd : Nat) (rn : Nat) (co : Nat) (wy : Nat) (sg : Nat) (sh : Nat) (pl : Nat) (sp : Nat) (hy : Nat) (rs : Nat) (ri : Nat) (ra : Nat) (rt : Nat) (rg : Nat) (pn : Nat) (pt : Nat) (A : Nat → Prop) : Array Value → State → Outcome → State → Prop := va_Qi (fun (r : Int32) (_ : Unit) => r = 0) (fun _ t => True) A
abbrev rm_x_key : Room := { frames := 1, cells := 0, slots := 0, locals := 22 }
set_option maxRecDepth 100000 in
set_option maxHeartbeats 4000000 in
theorem c_x_key (l : Launch) (D : va_G) (cI cJ cZ cG cH : ClassId) (sz : Nat) (xo : Nat) (p0 : Int32) (tp : Nat) (rd : Nat) (rn : Nat) (co : Nat) (wy : Nat) (sg : Nat) (sh : Nat) (pl : Nat) (sp : Nat) (hy : Nat) (rs : Nat) (ri : Nat) (ra : Nat) (rt : Nat) (rg : Nat) (pn : Nat) (pt : Nat) (hbz0 : narrow .boolean (.int p0) = .int p0) (hbz1 : fits .boolean (.int p0) = true) : Met l yX10_key wsX10_key rm_x_key (xPc [.ref xo, .int p0] D (tyL cI cJ cZ cG cH) (W_x_key cI cJ cZ cG cH xo p0 tp rd rn co wy sg sh pl sp hy rs ri ra rt rg pn pt) sz) (Q_x_key D cI cJ cZ cG cH xo p0 tp rd rn co wy sg sh pl sp hy rs ri ra rt rg pn pt (va_A (W_x_key cI cJ cZ cG cH xo p0 tp rd rn co wy sg sh pl sp hy rs ri ra rt rg pn pt) sz)) 0 0 (va_A (W_x_key cI cJ cZ cG cH xo p0 tp rd rn co wy sg sh pl sp hy rs ri ra rt rg pn pt) sz) := by
  refine xMet (cc := cX10_key) (maxL := 3) (ret := (some .int)) (Qf := Q_x_key D cI cJ cZ cG cH xo p0 tp rd rn co wy sg sh pl sp hy rs ri ra rt rg pn pt) (by decide) rfl (Nat.le_of_ble_eq_true rfl) ?_
  intro p e s m below meth c ls A hx hb hr hml hts hown hlocks hnm hsz hP hK hD hA hS hl
  have hown : s.vm.findClass RX10 = some m.cls := hown
  have hP : va_P D vwCl [(xo, .inr (9, [.ref tp, .ref rd, .ref rn, .ref co, .ref wy, .ref sg, .ref sh, .ref pl, .ref sp, .int 0])), (rn, .inr (4, [.ref hy, .ref rs, .ref ri, .ref ra, .ref rt, .ref rg, .int 0, .int 0, .int 0, .int 0, .int 0, .int 0, .int 0, .int 0])), (pl, .inr (2, [.ref pn, .ref pt, .int 0, .int 999, .int 0, .int 5]))] s.heap := hP
  have hD : va_D A [(xo, .inr (9, [.ref tp, .ref rd, .ref rn, .ref co, .ref wy, .ref sg, .ref sh, .ref pl, .ref sp, .int 0])), (rn, .inr (4, [.ref hy, .ref rs, .ref ri, .ref ra, .ref rt, .ref rg, .int 0, .int 0, .int 0, .int 0, .int 0, .int 0, .int 0, .int 0])), (pl, .inr (2, [.ref pn, .ref pt, .int 0, .int 999, .int 0, .int 5]))] := hD
  have hl : lv_has ls 3 [(0, .ref xo), (1, .int p0)] := hl
  refine lv_aload_n hx hb dX10_key_0 rfl (lv_at hl 0 rfl) ?_
  refine va_get (D := D) (ci := 9) (v := .ref rn) (C := RX10) (T := TX10) (N := 10) hx hb hts in_X10_key_X10 hown hK hP 0 rfl rfl 2 (by decide) (hts (.fieldLink RX10 19 "PowerRails" "run" "LPowerRails$Run;") (by decide +kernel)) (fun _ h9 => h9) rfl dX10_key_1 ?_
  refine va_get (D := D) (ci := 4) (v := .int 0) (C := RX5) (T := TX5) (N := 14) hx hb hts in_X10_key_X5 hown hK hP 1 rfl rfl 7 (by decide) (hts (.fieldLink RX10 139 "PowerRails$Run" "key" "Z") (by decide +kernel)) (fun _ h9 => h9) rfl dX10_key_4 ?_
  have hPc := hP.sub (ws' := []) [] rfl
  have hDc := hD.sub (ws' := []) [] (by decide) rfl
  have hFc := va_free (wc := []) hD hS hA [] rfl
  refine va_calli (va_runS (As := [.int 0]) (rest := []) ⟨hx, hb, hml, hown, hts⟩ (c_asNumber0 l D cI cJ cZ cG cH s.heap.size ) (va_cwS 1 hts gX10_key_X10_asNumber rfl rfl rfl (by decide +kernel) ⟨Nat.le_of_ble_eq_true rfl, Nat.le_of_ble_eq_true rfl⟩) ⟨xPc_blind, xPc_pre hPc hK hDc⟩ rfl rfl hl.1 rfl (lv_room (Nat.le_of_ble_eq_true rfl)) dX10_key_7 ⟨Nat.le_of_ble_eq_true rfl, Nat.le_of_ble_eq_true rfl⟩) hS (fun q _ h => hFc q h) hFc (fun r1 u t H1 locs ht hvm hw1 hB hz1 hk1 hS => ?_)
  obtain ⟨hP1, hK1, hD1⟩ := hB
  rw [ht] at hP1
  obtain ⟨hP, hD⟩ := va_join (wr := [(xo, .inr (9, [.ref tp, .ref rd, .ref rn, .ref co, .ref wy, .ref sg, .ref sh, .ref pl, .ref sp, .int 0])), (rn, .inr (4, [.ref hy, .ref rs, .ref ri, .ref ra, .ref rt, .ref rg, .int 0, .int 0, .int 0, .int 0, .int 0, .int 0, .int 0, .int 0])), (pl, .inr (2, [.ref pn, .ref pt, .int 0, .int 999, .int 0, .int 5]))]) (w1 := []) hP hD [] [0, 1, 2] rfl rfl (by decide) (by decide) hk1 hFc hP1 hD1
  generalize H1 = H at hP hS ⊢
  have hP : va_P D vwCl [(xo, .inr (9, [.ref tp, .ref rd, .ref rn, .ref co, .ref wy, .ref sg, .ref sh, .ref pl, .ref sp, .int 0])), (rn, .inr (4, [.ref hy, .ref rs, .ref ri, .ref ra, .ref rt, .ref rg, .int 0, .int 0, .int 0, .int 0, .int 0, .int 0, .int 0, .int 0])), (pl, .inr (2, [.ref pn, .ref pt, .int 0, .int 999, .int 0, .int 5]))] H := hP
  have hD : va_D A [(xo, .inr (9, [.ref tp, .ref rd, .ref rn, .ref co, .ref wy, .ref sg, .ref sh, .ref pl, .ref sp, .int 0])), (rn, .inr (4, [.ref hy, .ref rs, .ref ri, .ref ra, .ref rt, .ref rg, .int 0, .int 0, .int 0, .int 0, .int 0, .int 0, .int 0, .int 0])), (pl, .inr (2, [.ref pn, .ref pt, .int 0, .int 999, .int 0, .int 5]))] := hD
  obtain rfl : r1 = 0 := hw1
  refine lv_istore_n (lv' := [(2, .int 0), (0, .ref xo), (1, .int p0)]) hx hb dX10_key_10 rfl hl (by decide) rfl (fun ls hl => ?_)
  refine lv_aload_n hx hb dX10_key_11 rfl (lv_at hl 1 rfl) ?_
  refine va_get (D := D) (ci := 9) (v := .ref rn) (C := RX10) (T := TX10) (N := 10) hx hb hts in_X10_key_X10 hown hK hP 0 rfl rfl 2 (by decide) (hts (.fieldLink RX10 19 "PowerRails" "run" "LPowerRails$Run;") (by decide +kernel)) (fun _ h9 => h9) rfl dX10_key_12 ?_
  refine lv_aload_n hx hb dX10_key_15 rfl (lv_at hl 1 rfl) ?_
  refine va_get (D := D) (ci := 9) (v := .ref pl) (C := RX10) (T := TX10) (N := 10) hx hb hts in_X10_key_X10 hown hK hP 0 rfl rfl 7 (by decide) (hts (.fieldLink RX10 56 "PowerRails" "plan" "LPowerRails$Plan;") (by decide +kernel)) (fun _ h9 => h9) rfl dX10_key_16 ?_
  refine lv_iload_n hx hb dX10_key_19 rfl (lv_at hl 2 rfl) ?_
  have hPc := hP.sub (ws' := [(rn, .inr (4, [.ref hy, .ref rs, .ref ri, .ref ra, .ref rt, .ref rg, .int 0, .int 0, .int 0, .int 0, .int 0, .int 0, .int 0, .int 0])), (pl, .inr (2, [.ref pn, .ref pt, .int 0, .int 999, .int 0, .int 5]))]) [1, 2] rfl
  have hDc := hD.sub (ws' := [(rn, .inr (4, [.ref hy, .ref rs, .ref ri, .ref ra, .ref rt, .ref rg, .int 0, .int 0, .int 0, .int 0, .int 0, .int 0, .int 0, .int 0])), (pl, .inr (2, [.ref pn, .ref pt, .int 0, .int 999, .int 0, .int 5]))]) [1, 2] (by decide) rfl
  have hFc := va_free (wc := [(rn, .inr (4, [.ref hy, .ref rs, .ref ri, .ref ra, .ref rt, .ref rg, .int 0, .int 0, .int 0, .int 0, .int 0, .int 0, .int 0, .int 0])), (pl, .inr (2, [.ref pn, .ref pt, .int 0, .int 999, .int 0, .int 5]))]) hD hS hA [1, 2] rfl
  refine va_callv (va_runV (As := [.ref pl, .int p0]) (rest := []) ⟨hx, hb, hml, hown, hts⟩ (c_turnKey0 l D cI cJ cZ cG cH H.size rn pl p0 hy rs ri ra rt rg pn pt hbz0 hbz1) (cwV 2 hts gX10_key_X5_turnKey rfl rfl rfl (by decide +kernel) ⟨Nat.le_of_ble_eq_true rfl, Nat.le_of_ble_eq_true rfl⟩) ⟨xPc_blind, va_recv hK hPc (ci := 4) (q0 := 0) rfl rfl, xPc_pre hPc hK hDc⟩ rfl rfl hl.1 rfl (lv_room (Nat.le_of_ble_eq_true rfl)) dX10_key_20 ⟨Nat.le_of_ble_eq_true rfl, Nat.le_of_ble_eq_true rfl⟩) hS (fun q _ h => hFc q h) hFc (fun u t H1 locs ht hvm hw2 hB hz1 hk1 hS => ?_)
  obtain ⟨hP, hD⟩ := va_join (wr := [(xo, .inr (9, [.ref tp, .ref rd, .ref rn, .ref co, .ref wy, .ref sg, .ref sh, .ref pl, .ref sp, .int 0]))]) (w1 := []) hP hD [1, 2] [0] rfl rfl (by decide) (by decide) hk1 hFc (xP0 D H1) (xD0 _)
  generalize H1 = H at hP hS ⊢
  have hP : va_P D vwCl [(xo, .inr (9, [.ref tp, .ref rd, .ref rn, .ref co, .ref wy, .ref sg, .ref sh, .ref pl, .ref sp, .int 0]))] H := hP
  have hD : va_D A [(xo, .inr (9, [.ref tp, .ref rd, .ref rn, .ref co, .ref wy, .ref sg, .ref sh, .ref pl, .ref sp, .int 0]))] := hD
  refine lv_iload_n hx hb dX10_key_23 rfl (lv_at hl 0 rfl) ?_
  refine W.widen (k := 0) (n := 0) (by decide) (by decide) ?_
  exact W.iret (v := 0) hx hb hr (fun t ht hW => ⟨⟨0, (), rfl, rfl, trivial⟩, hS.F ht⟩) hS.2.2 dX10_key_24
theorem in_X10_dead_X10 : ∀ w ∈ wsX100, w ∈ wsX10_dead := by decide +kernel
abbrev W_x_dead (cI cJ cZ cG cH : ClassId) (xo : Nat) (p0 : Int32) (p1 : Int32) (tp : Nat) (rd : Nat) (rn : Nat) (co : Nat) (wy : Nat) (sg : Nat) (sh : Nat) (pl : Nat) (sp : Nat) (pn : Nat) (pt : Nat) : va_W := [(xo, .inr (9, [.ref tp, .ref rd, .ref rn, .ref co, .ref wy, .ref sg, .ref sh, .ref pl, .ref sp, .int 0])), (pl, .inr (2, [.ref pn, .ref pt, .int 0, .int 999, .int 0, .int 5]))]
abbrev Q_x_dead (D : va_G) (cI cJ cZ cG cH : ClassId) (xo : Nat) (p0 : Int32) (p1 : Int32) (tp : Nat) (rd : Nat) (rn : Nat) (co : Nat) (wy : Nat) (sg : Nat) (sh : Nat) (pl : Nat) (sp : Nat) (pn : Nat) (pt : Nat) (A : Nat → Prop) : Array Value → State → Outcome → State → Prop := va_Qi (fun (r : Int32) (_ : Unit) => r = (-1)) (fun _ t => True) A
abbrev rm_x_dead : Room := { frames := 1, cells := 0, slots := 0, locals := 21 }
set_option maxRecDepth 100000 in
set_option maxHeartbeats 4000000 in
theorem c_x_dead (l : Launch) (D : va_G) (cI cJ cZ cG cH : ClassId) (sz : Nat) (xo : Nat) (p0 : Int32) (p1 : Int32) (tp : Nat) (rd : Nat) (rn : Nat) (co : Nat) (wy : Nat) (sg : Nat) (sh : Nat) (pl : Nat) (sp : Nat) (pn : Nat) (pt : Nat) : Met l yX10_dead wsX10_dead rm_x_dead (xPc [.ref xo, .int p0, .int p1] D (tyL cI cJ cZ cG cH) (W_x_dead cI cJ cZ cG cH xo p0 p1 tp rd rn co wy sg sh pl sp pn pt) sz) (Q_x_dead D cI cJ cZ cG cH xo p0 p1 tp rd rn co wy sg sh pl sp pn pt (va_A (W_x_dead cI cJ cZ cG cH xo p0 p1 tp rd rn co wy sg sh pl sp pn pt) sz)) 0 0 (va_A (W_x_dead cI cJ cZ cG cH xo p0 p1 tp rd rn co wy sg sh pl sp pn pt) sz) := by
  refine xMet (cc := cX10_dead) (maxL := 5) (ret := (some .int)) (Qf := Q_x_dead D cI cJ cZ cG cH xo p0 p1 tp rd rn co wy sg sh pl sp pn pt) (by decide) rfl (Nat.le_of_ble_eq_true rfl) ?_
  intro p e s m below meth c ls A hx hb hr hml hts hown hlocks hnm hsz hP hK hD hA hS hl
  have hown : s.vm.findClass RX10 = some m.cls := hown
  have hP : va_P D vwCl [(xo, .inr (9, [.ref tp, .ref rd, .ref rn, .ref co, .ref wy, .ref sg, .ref sh, .ref pl, .ref sp, .int 0])), (pl, .inr (2, [.ref pn, .ref pt, .int 0, .int 999, .int 0, .int 5]))] s.heap := hP
  have hD : va_D A [(xo, .inr (9, [.ref tp, .ref rd, .ref rn, .ref co, .ref wy, .ref sg, .ref sh, .ref pl, .ref sp, .int 0])), (pl, .inr (2, [.ref pn, .ref pt, .int 0, .int 999, .int 0, .int 5]))] := hD
  have hl : lv_has ls 5 [(0, .ref xo), (1, .int p0), (2, .int p1)] := hl
  refine lv_aload_n hx hb dX10_dead_0 rfl (lv_at hl 0 rfl) ?_
  refine va_get (D := D) (ci := 9) (v := .ref pl) (C := RX10) (T := TX10) (N := 10) hx hb hts in_X10_dead_X10 hown hK hP 0 rfl rfl 7 (by decide) (hts (.fieldLink RX10 56 "PowerRails" "plan" "LPowerRails$Plan;") (by decide +kernel)) (fun _ h9 => h9) rfl dX10_dead_1 ?_
  refine lv_iload_n hx hb dX10_dead_4 rfl (lv_at hl 1 rfl) ?_
  have hPc := hP.sub (ws' := [(pl, .inr (2, [.ref pn, .ref pt, .int 0, .int 999, .int 0, .int 5]))]) [1] rfl
  have hDc := hD.sub (ws' := [(pl, .inr (2, [.ref pn, .ref pt, .int 0, .int 999, .int 0, .int 5]))]) [1] (by decide) rfl
  have hFc := va_free (wc := [(pl, .inr (2, [.ref pn, .ref pt, .int 0, .int 999, .int 0, .int 5]))]) hD hS hA [1] rfl
  refine va_calli (va_runV (As := [.int p0]) (rest := []) ⟨hx, hb, hml, hown, hts⟩ (c_hasRail0 l D cI cJ cZ cG cH s.heap.size pl p0 pn pt) (cwV 1 hts gX10_dead_X3_hasRail rfl rfl rfl (by decide +kernel) ⟨Nat.le_of_ble_eq_true rfl, Nat.le_of_ble_eq_true rfl⟩) ⟨xPc_blind, va_recv hK hPc (ci := 2) (q0 := 0) rfl rfl, xPc_pre hPc hK hDc⟩ rfl rfl hl.1 rfl (lv_room (Nat.le_of_ble_eq_true rfl)) dX10_dead_5 ⟨Nat.le_of_ble_eq_true rfl, Nat.le_of_ble_eq_true rfl⟩) hS (fun q _ h => hFc q h) hFc (fun r1 u t H1 locs ht hvm hw1 hB hz1 hk1 hS => ?_)
  obtain ⟨hP1, hK1, hD1⟩ := hB
  rw [ht] at hP1
  obtain ⟨hP, hD⟩ := va_join (wr := [(xo, .inr (9, [.ref tp, .ref rd, .ref rn, .ref co, .ref wy, .ref sg, .ref sh, .ref pl, .ref sp, .int 0]))]) (w1 := [(pl, .inr (2, [.ref pn, .ref pt, .int 0, .int 999, .int 0, .int 5]))]) hP hD [1] [0] rfl rfl (by decide) (by decide) hk1 hFc hP1 hD1
  generalize H1 = H at hP hS ⊢
  have hP : va_P D vwCl [(xo, .inr (9, [.ref tp, .ref rd, .ref rn, .ref co, .ref wy, .ref sg, .ref sh, .ref pl, .ref sp, .int 0])), (pl, .inr (2, [.ref pn, .ref pt, .int 0, .int 999, .int 0, .int 5]))] H := hP
  have hD : va_D A [(xo, .inr (9, [.ref tp, .ref rd, .ref rn, .ref co, .ref wy, .ref sg, .ref sh, .ref pl, .ref sp, .int 0])), (pl, .inr (2, [.ref pn, .ref pt, .int 0, .int 999, .int 0, .int 5]))] := hD
  obtain rfl : r1 = 0 := hw1
  refine lv_if_ne (tgt := 13) hx hb dX10_dead_8 (by decide) (fun c9 => absurd c9 (by decide)) (fun _ => ?_)
  refine lv_iconst (v := (-1)) hx hb dX10_dead_11 (by decide) ?_
  refine W.widen (k := 0) (n := 0) (by decide) (by decide) ?_
  exact W.iret (v := (-1)) hx hb hr (fun t ht hW => ⟨⟨(-1), (), rfl, rfl, trivial⟩, hS.F ht⟩) hS.2.2 dX10_dead_12
theorem in_X10_time_X10 : ∀ w ∈ wsX100, w ∈ wsX10_time := by decide +kernel
abbrev W_x_time (cI cJ cZ cG cH : ClassId) (xo : Nat) (p0 : Int32) (p1 : Int32) (tp : Nat) (rd : Nat) (rn : Nat) (co : Nat) (wy : Nat) (sg : Nat) (sh : Nat) (pl : Nat) (sp : Nat) (pn : Nat) (pt : Nat) : va_W := [(xo, .inr (9, [.ref tp, .ref rd, .ref rn, .ref co, .ref wy, .ref sg, .ref sh, .ref pl, .ref sp, .int 0])), (pl, .inr (2, [.ref pn, .ref pt, .int 0, .int 999, .int 0, .int 5]))]
abbrev Q_x_time (D : va_G) (cI cJ cZ cG cH : ClassId) (xo : Nat) (p0 : Int32) (p1 : Int32) (tp : Nat) (rd : Nat) (rn : Nat) (co : Nat) (wy : Nat) (sg : Nat) (sh : Nat) (pl : Nat) (sp : Nat) (pn : Nat) (pt : Nat) (A : Nat → Prop) : Array Value → State → Outcome → State → Prop := va_Qi (fun (r : Int32) (_ : Unit) => r = (-1)) (fun _ t => True) A
abbrev rm_x_time : Room := { frames := 1, cells := 0, slots := 0, locals := 21 }
set_option maxRecDepth 100000 in
set_option maxHeartbeats 4000000 in
theorem c_x_time (l : Launch) (D : va_G) (cI cJ cZ cG cH : ClassId) (sz : Nat) (xo : Nat) (p0 : Int32) (p1 : Int32) (tp : Nat) (rd : Nat) (rn : Nat) (co : Nat) (wy : Nat) (sg : Nat) (sh : Nat) (pl : Nat) (sp : Nat) (pn : Nat) (pt : Nat) : Met l yX10_time wsX10_time rm_x_time (xPc [.ref xo, .int p0, .int p1] D (tyL cI cJ cZ cG cH) (W_x_time cI cJ cZ cG cH xo p0 p1 tp rd rn co wy sg sh pl sp pn pt) sz) (Q_x_time D cI cJ cZ cG cH xo p0 p1 tp rd rn co wy sg sh pl sp pn pt (va_A (W_x_time cI cJ cZ cG cH xo p0 p1 tp rd rn co wy sg sh pl sp pn pt) sz)) 0 0 (va_A (W_x_time cI cJ cZ cG cH xo p0 p1 tp rd rn co wy sg sh pl sp pn pt) sz) := by
  refine xMet (cc := cX10_time) (maxL := 4) (ret := (some .int)) (Qf := Q_x_time D cI cJ cZ cG cH xo p0 p1 tp rd rn co wy sg sh pl sp pn pt) (by decide) rfl (Nat.le_of_ble_eq_true rfl) ?_
  intro p e s m below meth c ls A hx hb hr hml hts hown hlocks hnm hsz hP hK hD hA hS hl
  have hown : s.vm.findClass RX10 = some m.cls := hown
  have hP : va_P D vwCl [(xo, .inr (9, [.ref tp, .ref rd, .ref rn, .ref co, .ref wy, .ref sg, .ref sh, .ref pl, .ref sp, .int 0])), (pl, .inr (2, [.ref pn, .ref pt, .int 0, .int 999, .int 0, .int 5]))] s.heap := hP
  have hD : va_D A [(xo, .inr (9, [.ref tp, .ref rd, .ref rn, .ref co, .ref wy, .ref sg, .ref sh, .ref pl, .ref sp, .int 0])), (pl, .inr (2, [.ref pn, .ref pt, .int 0, .int 999, .int 0, .int 5]))] := hD
  have hl : lv_has ls 4 [(0, .ref xo), (1, .int p0), (2, .int p1)] := hl
  refine lv_aload_n hx hb dX10_time_0 rfl (lv_at hl 0 rfl) ?_
  refine va_get (D := D) (ci := 9) (v := .ref pl) (C := RX10) (T := TX10) (N := 10) hx hb hts in_X10_time_X10 hown hK hP 0 rfl rfl 7 (by decide) (hts (.fieldLink RX10 56 "PowerRails" "plan" "LPowerRails$Plan;") (by decide +kernel)) (fun _ h9 => h9) rfl dX10_time_1 ?_
  refine lv_iload_n hx hb dX10_time_4 rfl (lv_at hl 1 rfl) ?_
  have hPc := hP.sub (ws' := [(pl, .inr (2, [.ref pn, .ref pt, .int 0, .int 999, .int 0, .int 5]))]) [1] rfl
  have hDc := hD.sub (ws' := [(pl, .inr (2, [.ref pn, .ref pt, .int 0, .int 999, .int 0, .int 5]))]) [1] (by decide) rfl
  have hFc := va_free (wc := [(pl, .inr (2, [.ref pn, .ref pt, .int 0, .int 999, .int 0, .int 5]))]) hD hS hA [1] rfl
  refine va_calli (va_runV (As := [.int p0]) (rest := []) ⟨hx, hb, hml, hown, hts⟩ (c_hasRail0 l D cI cJ cZ cG cH s.heap.size pl p0 pn pt) (cwV 1 hts gX10_time_X3_hasRail rfl rfl rfl (by decide +kernel) ⟨Nat.le_of_ble_eq_true rfl, Nat.le_of_ble_eq_true rfl⟩) ⟨xPc_blind, va_recv hK hPc (ci := 2) (q0 := 0) rfl rfl, xPc_pre hPc hK hDc⟩ rfl rfl hl.1 rfl (lv_room (Nat.le_of_ble_eq_true rfl)) dX10_time_5 ⟨Nat.le_of_ble_eq_true rfl, Nat.le_of_ble_eq_true rfl⟩) hS (fun q _ h => hFc q h) hFc (fun r1 u t H1 locs ht hvm hw1 hB hz1 hk1 hS => ?_)
  obtain ⟨hP1, hK1, hD1⟩ := hB
  rw [ht] at hP1
  obtain ⟨hP, hD⟩ := va_join (wr := [(xo, .inr (9, [.ref tp, .ref rd, .ref rn, .ref co, .ref wy, .ref sg, .ref sh, .ref pl, .ref sp, .int 0]))]) (w1 := [(pl, .inr (2, [.ref pn, .ref pt, .int 0, .int 999, .int 0, .int 5]))]) hP hD [1] [0] rfl rfl (by decide) (by decide) hk1 hFc hP1 hD1
  generalize H1 = H at hP hS ⊢
  have hP : va_P D vwCl [(xo, .inr (9, [.ref tp, .ref rd, .ref rn, .ref co, .ref wy, .ref sg, .ref sh, .ref pl, .ref sp, .int 0])), (pl, .inr (2, [.ref pn, .ref pt, .int 0, .int 999, .int 0, .int 5]))] H := hP
  have hD : va_D A [(xo, .inr (9, [.ref tp, .ref rd, .ref rn, .ref co, .ref wy, .ref sg, .ref sh, .ref pl, .ref sp, .int 0])), (pl, .inr (2, [.ref pn, .ref pt, .int 0, .int 999, .int 0, .int 5]))] := hD
  obtain rfl : r1 = 0 := hw1
  refine lv_if_eq (tgt := 37) hx hb dX10_time_8 (by decide) (fun _ => ?_) (fun c9 => absurd c9 (by decide))
  refine lv_iconst (v := (-1)) hx hb dX10_time_37 (by decide) ?_
  refine W.widen (k := 0) (n := 0) (by decide) (by decide) ?_
  exact W.iret (v := (-1)) hx hb hr (fun t ht hW => ⟨⟨(-1), (), rfl, rfl, trivial⟩, hS.F ht⟩) hS.2.2 dX10_time_38
theorem in_X10_go_X10 : ∀ w ∈ wsX100, w ∈ wsX10_go := by decide +kernel
theorem in_X10_go_X5 : ∀ w ∈ wsX50, w ∈ wsX10_go := by decide +kernel
abbrev W_x_go (cI cJ cZ cG cH : ClassId) (xo : Nat) (p0 : Int32) (tp : Nat) (rd : Nat) (rn : Nat) (co : Nat) (wy : Nat) (sg : Nat) (sh : Nat) (pl : Nat) (sp : Nat) (hy : Nat) (rs : Nat) (ri : Nat) (ra : Nat) (rt : Nat) (rg : Nat) (pn : Nat) (pt : Nat) : va_W := [(xo, .inr (9, [.ref tp, .ref rd, .ref rn, .ref co, .ref wy, .ref sg, .ref sh, .ref pl, .ref sp, .int 0])), (rn, .inr (4, [.ref hy, .ref rs, .ref ri, .ref ra, .ref rt, .ref rg, .int 0, .int 0, .int 0, .int 0, .int 0, .int 0, .int 0, .int 0])), (rs, .inl (cI, 8, .inl (fun _ => 0))), (pl, .inr (2, [.ref pn, .ref pt, .int 0, .int 999, .int 0, .int 5]))]
abbrev Q_x_go (D : va_G) (cI cJ cZ cG cH : ClassId) (xo : Nat) (p0 : Int32) (tp : Nat) (rd : Nat) (rn : Nat) (co : Nat) (wy : Nat) (sg : Nat) (sh : Nat) (pl : Nat) (sp : Nat) (hy : Nat) (rs : Nat) (ri : Nat) (ra : Nat) (rt : Nat) (rg : Nat) (pn : Nat) (pt : Nat) (A : Nat → Prop) : Array Value → State → Outcome → State → Prop := va_Qi (fun (r : Int32) (_ : Unit) => r = sp_go p0) (fun _ t => True) A
abbrev rm_x_go : Room := { frames := 4, cells := 0, slots := 0, locals := 92 }
set_option maxRecDepth 100000 in
set_option maxHeartbeats 4000000 in
theorem c_x_go (l : Launch) (D : va_G) (cI cJ cZ cG cH : ClassId) (sz : Nat) (xo : Nat) (p0 : Int32) (tp : Nat) (rd : Nat) (rn : Nat) (co : Nat) (wy : Nat) (sg : Nat) (sh : Nat) (pl : Nat) (sp : Nat) (hy : Nat) (rs : Nat) (ri : Nat) (ra : Nat) (rt : Nat) (rg : Nat) (pn : Nat) (pt : Nat) : Met l yX10_go wsX10_go rm_x_go (xPc [.ref xo, .int p0] D (tyL cI cJ cZ cG cH) (W_x_go cI cJ cZ cG cH xo p0 tp rd rn co wy sg sh pl sp hy rs ri ra rt rg pn pt) sz) (Q_x_go D cI cJ cZ cG cH xo p0 tp rd rn co wy sg sh pl sp hy rs ri ra rt rg pn pt (va_A (W_x_go cI cJ cZ cG cH xo p0 tp rd rn co wy sg sh pl sp hy rs ri ra rt rg pn pt) sz)) 0 0 (va_A (W_x_go cI cJ cZ cG cH xo p0 tp rd rn co wy sg sh pl sp hy rs ri ra rt rg pn pt) sz) := by
  refine xMet (cc := cX10_go) (maxL := 4) (ret := (some .int)) (Qf := Q_x_go D cI cJ cZ cG cH xo p0 tp rd rn co wy sg sh pl sp hy rs ri ra rt rg pn pt) (by decide) rfl (Nat.le_of_ble_eq_true rfl) ?_
  intro p e s m below meth c ls A hx hb hr hml hts hown hlocks hnm hsz hP hK hD hA hS hl
  have hown : s.vm.findClass RX10 = some m.cls := hown
  have hP : va_P D vwCl [(xo, .inr (9, [.ref tp, .ref rd, .ref rn, .ref co, .ref wy, .ref sg, .ref sh, .ref pl, .ref sp, .int 0])), (rn, .inr (4, [.ref hy, .ref rs, .ref ri, .ref ra, .ref rt, .ref rg, .int 0, .int 0, .int 0, .int 0, .int 0, .int 0, .int 0, .int 0])), (rs, .inl (cI, 8, .inl (fun _ => 0))), (pl, .inr (2, [.ref pn, .ref pt, .int 0, .int 999, .int 0, .int 5]))] s.heap := hP
  have hD : va_D A [(xo, .inr (9, [.ref tp, .ref rd, .ref rn, .ref co, .ref wy, .ref sg, .ref sh, .ref pl, .ref sp, .int 0])), (rn, .inr (4, [.ref hy, .ref rs, .ref ri, .ref ra, .ref rt, .ref rg, .int 0, .int 0, .int 0, .int 0, .int 0, .int 0, .int 0, .int 0])), (rs, .inl (cI, 8, .inl (fun _ => 0))), (pl, .inr (2, [.ref pn, .ref pt, .int 0, .int 999, .int 0, .int 5]))] := hD
  have hl : lv_has ls 4 [(0, .ref xo), (1, .int p0)] := hl
  refine lv_iload_n hx hb dX10_go_0 rfl (lv_at hl 1 rfl) ?_
  refine lv_iconst (v := 1) hx hb dX10_go_1 (by decide) ?_
  refine lv_icmp_lt (tgt := 12) hx hb dX10_go_2 (by decide) (fun c_1 => ?_) (fun c_1 => ?_)
  · skip
    have i_1 : p0.toInt < 1 := (ilt rfl (by decide)).mp c_1
    refine lv_iconst (v := (-1)) hx hb dX10_go_12 (by decide) ?_
    refine W.widen (k := 0) (n := 0) (by decide) (by decide) ?_
    exact W.iret (v := (-1)) hx hb hr (fun t ht hW => ⟨⟨(-1), (), rfl, (by unfold sp_go; repeat (first | rw [if_pos (by omega)] | rw [if_neg (by omega)])), trivial⟩, hS.F ht⟩) hS.2.2 dX10_go_13
  · skip
    have i_1 : ¬ (p0.toInt < 1) := fun h9 => c_1 ((ilt rfl (by decide)).mpr h9)
    refine lv_iload_n hx hb dX10_go_5 rfl (lv_at hl 1 rfl) ?_
    refine lv_sipush (v := 999) hx hb dX10_go_6 (by decide) ?_
    refine lv_icmp_le (tgt := 14) hx hb dX10_go_9 (by decide) (fun c_2 => ?_) (fun c_2 => ?_)
    · skip
      have i_2 : p0.toInt ≤ 999 := (ile rfl (by decide)).mp c_2
      refine lv_aload_n hx hb dX10_go_14 rfl (lv_at hl 0 rfl) ?_
      refine va_get (D := D) (ci := 9) (v := .ref rn) (C := RX10) (T := TX10) (N := 10) hx hb hts in_X10_go_X10 hown hK hP 0 rfl rfl 2 (by decide) (hts (.fieldLink RX10 19 "PowerRails" "run" "LPowerRails$Run;") (by decide +kernel)) (fun _ h9 => h9) rfl dX10_go_15 ?_
      refine va_get (D := D) (ci := 4) (v := .int 0) (C := RX5) (T := TX5) (N := 14) hx hb hts in_X10_go_X5 hown hK hP 1 rfl rfl 11 (by decide) (hts (.fieldLink RX10 154 "PowerRails$Run" "trips" "I") (by decide +kernel)) (fun _ h9 => h9) rfl dX10_go_18 ?_
      refine lv_istore_n (lv' := [(2, .int 0), (0, .ref xo), (1, .int p0)]) hx hb dX10_go_21 rfl hl (by decide) rfl (fun ls hl => ?_)
      refine lv_iconst (v := 0) hx hb dX10_go_22 (by decide) ?_
      refine lv_istore_n (lv' := [(3, .int 0), (2, .int 0), (0, .ref xo), (1, .int p0)]) hx hb dX10_go_23 rfl hl (by decide) rfl (fun ls hl => ?_)
      have hl24 : ∀ (n24 : Nat) (i : Nat) (tk : Int32), (p0.toInt.toNat - i < n24) → (hi : (i : Int) ≤ p0.toInt) → ∀ (H : Heap) (locs : List Loc), va_P D vwCl [(xo, .inr (9, [.ref tp, .ref rd, .ref rn, .ref co, .ref wy, .ref sg, .ref sh, .ref pl, .ref sp, .int 0])), (rn, .inr (4, [.ref hy, .ref rs, .ref ri, .ref ra, .ref rt, .ref rg, .int 0, .int 0, .int tk, .int 0, .int 0, .int 0, .int 0, .int 0])), (rs, .inl (cI, 8, .inl (fun _ => 0))), (pl, .inr (2, [.ref pn, .ref pt, .int 0, .int 999, .int 0, .int 5]))] H → va_D A [(xo, .inr (9, [.ref tp, .ref rd, .ref rn, .ref co, .ref wy, .ref sg, .ref sh, .ref pl, .ref sp, .int 0])), (rn, .inr (4, [.ref hy, .ref rs, .ref ri, .ref ra, .ref rt, .ref rg, .int 0, .int 0, .int tk, .int 0, .int 0, .int 0, .int 0, .int 0])), (rs, .inl (cI, 8, .inl (fun _ => 0))), (pl, .inr (2, [.ref pn, .ref pt, .int 0, .int 999, .int 0, .int 5]))] → va_S A s.heap H locs → ∀ (ls : Array Slot), lv_has ls 4 [(3, .int (nI i)), (2, .int 0), (0, .ref xo), (1, .int p0)] → W p l e rm_x_go s m [Value.ref xo, Value.int p0].toArray below meth c H locs 0 0 (MQ below ((Q_x_go D cI cJ cZ cG cH xo p0 tp rd rn co wy sg sh pl sp hy rs ri ra rt rg pn pt) A) [Value.ref xo, Value.int p0].toArray s 0 0 A) (F0 m 24 ls []) := by
        intro n24
        induction n24 with
        | zero =>
          intro i tk hm24
          exact absurd hm24 (Nat.not_lt_zero _)
        | succ n24 ih24 =>
          intro i tk hm24 hi H locs hP hD hS ls hl
          refine lv_iload_n hx hb dX10_go_24 rfl (lv_at hl 0 rfl) ?_
          refine lv_iload_n hx hb dX10_go_25 rfl (lv_at hl 3 rfl) ?_
          refine lv_icmp_ge (tgt := 46) hx hb dX10_go_26 (by decide) (fun c_3 => ?_) (fun c_3 => ?_)
          · skip
            have i_3 : p0.toInt ≤ ((i : Nat) : Int) := (ile rfl (nI_toInt (by omega))).mp c_3
            refine lv_aload_n hx hb dX10_go_46 rfl (lv_at hl 2 rfl) ?_
            refine va_get (D := D) (ci := 9) (v := .ref rn) (C := RX10) (T := TX10) (N := 10) hx hb hts in_X10_go_X10 hown hK hP 0 rfl rfl 2 (by decide) (hts (.fieldLink RX10 19 "PowerRails" "run" "LPowerRails$Run;") (by decide +kernel)) (fun _ h9 => h9) rfl dX10_go_47 ?_
            refine va_get (D := D) (ci := 4) (v := .int 0) (C := RX5) (T := TX5) (N := 14) hx hb hts in_X10_go_X5 hown hK hP 1 rfl rfl 11 (by decide) (hts (.fieldLink RX10 154 "PowerRails$Run" "trips" "I") (by decide +kernel)) (fun _ h9 => h9) rfl dX10_go_50 ?_
            refine lv_iload_n hx hb dX10_go_53 rfl (lv_at hl 1 rfl) ?_
            refine lv_isub hx hb dX10_go_54 ?_
            refine lv_topi (fun v4 ev4 => ?_)
            obtain rfl : v4 = 0 := ev4.trans (by decide)
            refine W.widen (k := 0) (n := 0) (by decide) (by decide) ?_
            exact W.iret (v := 0) hx hb hr (fun t ht hW => ⟨⟨0, (), rfl, (by unfold sp_go; repeat (first | rw [if_pos (by omega)] | rw [if_neg (by omega)])), trivial⟩, hS.F ht⟩) hS.2.2 dX10_go_55
          · skip
            have i_3 : ¬ (p0.toInt ≤ ((i : Nat) : Int)) := fun h9 => c_3 ((ile rfl (nI_toInt (by omega))).mpr h9)
            refine lv_aload_n hx hb dX10_go_29 rfl (lv_at hl 2 rfl) ?_
            refine va_get (D := D) (ci := 9) (v := .ref rn) (C := RX10) (T := TX10) (N := 10) hx hb hts in_X10_go_X10 hown hK hP 0 rfl rfl 2 (by decide) (hts (.fieldLink RX10 19 "PowerRails" "run" "LPowerRails$Run;") (by decide +kernel)) (fun _ h9 => h9) rfl dX10_go_30 ?_
            refine lv_aload_n hx hb dX10_go_33 rfl (lv_at hl 2 rfl) ?_
            refine va_get (D := D) (ci := 9) (v := .ref pl) (C := RX10) (T := TX10) (N := 10) hx hb hts in_X10_go_X10 hown hK hP 0 rfl rfl 7 (by decide) (hts (.fieldLink RX10 56 "PowerRails" "plan" "LPowerRails$Plan;") (by decide +kernel)) (fun _ h9 => h9) rfl dX10_go_34 ?_
            have hPc := hP.sub (ws' := [(rn, .inr (4, [.ref hy, .ref rs, .ref ri, .ref ra, .ref rt, .ref rg, .int 0, .int 0, .int tk, .int 0, .int 0, .int 0, .int 0, .int 0])), (rs, .inl (cI, 8, .inl (fun _ => 0))), (pl, .inr (2, [.ref pn, .ref pt, .int 0, .int 999, .int 0, .int 5]))]) [1, 2, 3] rfl
            have hDc := hD.sub (ws' := [(rn, .inr (4, [.ref hy, .ref rs, .ref ri, .ref ra, .ref rt, .ref rg, .int 0, .int 0, .int tk, .int 0, .int 0, .int 0, .int 0, .int 0])), (rs, .inl (cI, 8, .inl (fun _ => 0))), (pl, .inr (2, [.ref pn, .ref pt, .int 0, .int 999, .int 0, .int 5]))]) [1, 2, 3] (by decide) rfl
            have hFc := va_free (wc := [(rn, .inr (4, [.ref hy, .ref rs, .ref ri, .ref ra, .ref rt, .ref rg, .int 0, .int 0, .int tk, .int 0, .int 0, .int 0, .int 0, .int 0])), (rs, .inl (cI, 8, .inl (fun _ => 0))), (pl, .inr (2, [.ref pn, .ref pt, .int 0, .int 999, .int 0, .int 5]))]) hD hS hA [1, 2, 3] rfl
            refine va_callv (va_runV (As := [.ref pl]) (rest := []) ⟨hx, hb, hml, hown, hts⟩ (c_passTick0 l D cI cJ cZ cG cH H.size rn pl hy rs ri ra rt rg tk pn pt) (cwV 1 hts gX10_go_X5_passTick rfl rfl rfl (by decide +kernel) ⟨Nat.le_of_ble_eq_true rfl, Nat.le_of_ble_eq_true rfl⟩) ⟨xPc_blind, va_recv hK hPc (ci := 4) (q0 := 0) rfl rfl, xPc_pre hPc hK hDc⟩ rfl rfl hl.1 rfl (lv_room (Nat.le_of_ble_eq_true rfl)) dX10_go_37 ⟨Nat.le_of_ble_eq_true rfl, Nat.le_of_ble_eq_true rfl⟩) hS (fun q _ h => hFc q h) hFc (fun u t H1 locs ht hvm hw5 hB hz1 hk1 hS => ?_)
            obtain ⟨t_6, hP1, hK1, hD1⟩ := hB
            rw [ht] at hP1
            obtain ⟨hP, hD⟩ := va_join (wr := [(xo, .inr (9, [.ref tp, .ref rd, .ref rn, .ref co, .ref wy, .ref sg, .ref sh, .ref pl, .ref sp, .int 0]))]) (w1 := [(rn, .inr (4, [.ref hy, .ref rs, .ref ri, .ref ra, .ref rt, .ref rg, .int 0, .int 0, .int t_6, .int 0, .int 0, .int 0, .int 0, .int 0])), (rs, .inl (cI, 8, .inl (fun _ => 0))), (pl, .inr (2, [.ref pn, .ref pt, .int 0, .int 999, .int 0, .int 5]))]) hP hD [1, 2, 3] [0] rfl rfl (by decide) (by decide) hk1 hFc hP1 hD1
            generalize H1 = H at hP hS ⊢
            have hP : va_P D vwCl [(xo, .inr (9, [.ref tp, .ref rd, .ref rn, .ref co, .ref wy, .ref sg, .ref sh, .ref pl, .ref sp, .int 0])), (rn, .inr (4, [.ref hy, .ref rs, .ref ri, .ref ra, .ref rt, .ref rg, .int 0, .int 0, .int t_6, .int 0, .int 0, .int 0, .int 0, .int 0])), (rs, .inl (cI, 8, .inl (fun _ => 0))), (pl, .inr (2, [.ref pn, .ref pt, .int 0, .int 999, .int 0, .int 5]))] H := hP
            have hD : va_D A [(xo, .inr (9, [.ref tp, .ref rd, .ref rn, .ref co, .ref wy, .ref sg, .ref sh, .ref pl, .ref sp, .int 0])), (rn, .inr (4, [.ref hy, .ref rs, .ref ri, .ref ra, .ref rt, .ref rg, .int 0, .int 0, .int t_6, .int 0, .int 0, .int 0, .int 0, .int 0])), (rs, .inl (cI, 8, .inl (fun _ => 0))), (pl, .inr (2, [.ref pn, .ref pt, .int 0, .int 999, .int 0, .int 5]))] := hD
            refine lv_iinc (v := (nI (i + 1))) (lv' := [(3, .int (nI (i + 1))), (2, .int 0), (0, .ref xo), (1, .int p0)]) hx hb dX10_go_40 hl (k := 0) rfl ((show (nI i) + Int32.ofInt 1 = (nI i) + 1 from rfl).trans (nI_1 _)) (by decide) rfl (fun ls hl => ?_)
            refine lv_goto (tgt := 24) hx hb dX10_go_43 (by decide) ?_
            exact ih24 (i + 1) t_6 (by omega) (by omega) _ _ hP hD hS ls (lv_sub hl [0, 1, 2, 3] rfl)
      exact hl24 _ 0 0 (Nat.lt_succ_self _) (by omega) _ _ hP hD hS ls (lv_sub hl [0, 1, 2, 3] rfl)
    · skip
      have i_2 : ¬ (p0.toInt ≤ 999) := fun h9 => c_2 ((ile rfl (by decide)).mpr h9)
      refine lv_iconst (v := (-1)) hx hb dX10_go_12 (by decide) ?_
      refine W.widen (k := 0) (n := 0) (by decide) (by decide) ?_
      exact W.iret (v := (-1)) hx hb hr (fun t ht hW => ⟨⟨(-1), (), rfl, (by unfold sp_go; repeat (first | rw [if_pos (by omega)] | rw [if_neg (by omega)])), trivial⟩, hS.F ht⟩) hS.2.2 dX10_go_13
theorem in_X10_now_X10 : ∀ w ∈ wsX100, w ∈ wsX10_now := by decide +kernel
theorem in_X10_now_X5 : ∀ w ∈ wsX50, w ∈ wsX10_now := by decide +kernel
abbrev W_x_now (cI cJ cZ cG cH : ClassId) (xo : Nat) (p0 : Int32) (tp : Nat) (rd : Nat) (rn : Nat) (co : Nat) (wy : Nat) (sg : Nat) (sh : Nat) (pl : Nat) (sp : Nat) (hy : Nat) (rs : Nat) (ri : Nat) (ra : Nat) (rt : Nat) (rg : Nat) : va_W := [(xo, .inr (9, [.ref tp, .ref rd, .ref rn, .ref co, .ref wy, .ref sg, .ref sh, .ref pl, .ref sp, .int 0])), (rn, .inr (4, [.ref hy, .ref rs, .ref ri, .ref ra, .ref rt, .ref rg, .int 0, .int 0, .int 0, .int 0, .int 0, .int 0, .int 0, .int 0])), (rs, .inl (cI, 8, .inl (fun _ => 0)))]
abbrev Q_x_now (D : va_G) (cI cJ cZ cG cH : ClassId) (xo : Nat) (p0 : Int32) (tp : Nat) (rd : Nat) (rn : Nat) (co : Nat) (wy : Nat) (sg : Nat) (sh : Nat) (pl : Nat) (sp : Nat) (hy : Nat) (rs : Nat) (ri : Nat) (ra : Nat) (rt : Nat) (rg : Nat) (A : Nat → Prop) : Array Value → State → Outcome → State → Prop := va_Qi (fun (r : Int32) (_ : Unit) => r = sp_now p0) (fun _ t => True) A
abbrev rm_x_now : Room := { frames := 1, cells := 0, slots := 0, locals := 23 }
set_option maxRecDepth 100000 in
set_option maxHeartbeats 4000000 in
theorem c_x_now (l : Launch) (D : va_G) (cI cJ cZ cG cH : ClassId) (sz : Nat) (xo : Nat) (p0 : Int32) (tp : Nat) (rd : Nat) (rn : Nat) (co : Nat) (wy : Nat) (sg : Nat) (sh : Nat) (pl : Nat) (sp : Nat) (hy : Nat) (rs : Nat) (ri : Nat) (ra : Nat) (rt : Nat) (rg : Nat) : Met l yX10_now wsX10_now rm_x_now (xPc [.ref xo, .int p0] D (tyL cI cJ cZ cG cH) (W_x_now cI cJ cZ cG cH xo p0 tp rd rn co wy sg sh pl sp hy rs ri ra rt rg) sz) (Q_x_now D cI cJ cZ cG cH xo p0 tp rd rn co wy sg sh pl sp hy rs ri ra rt rg (va_A (W_x_now cI cJ cZ cG cH xo p0 tp rd rn co wy sg sh pl sp hy rs ri ra rt rg) sz)) 0 0 (va_A (W_x_now cI cJ cZ cG cH xo p0 tp rd rn co wy sg sh pl sp hy rs ri ra rt rg) sz) := by
  refine xMet (cc := cX10_now) (maxL := 2) (ret := (some .int)) (Qf := Q_x_now D cI cJ cZ cG cH xo p0 tp rd rn co wy sg sh pl sp hy rs ri ra rt rg) (by decide) rfl (Nat.le_of_ble_eq_true rfl) ?_
  intro p e s m below meth c ls A hx hb hr hml hts hown hlocks hnm hsz hP hK hD hA hS hl
  have hown : s.vm.findClass RX10 = some m.cls := hown
  have hP : va_P D vwCl [(xo, .inr (9, [.ref tp, .ref rd, .ref rn, .ref co, .ref wy, .ref sg, .ref sh, .ref pl, .ref sp, .int 0])), (rn, .inr (4, [.ref hy, .ref rs, .ref ri, .ref ra, .ref rt, .ref rg, .int 0, .int 0, .int 0, .int 0, .int 0, .int 0, .int 0, .int 0])), (rs, .inl (cI, 8, .inl (fun _ => 0)))] s.heap := hP
  have hD : va_D A [(xo, .inr (9, [.ref tp, .ref rd, .ref rn, .ref co, .ref wy, .ref sg, .ref sh, .ref pl, .ref sp, .int 0])), (rn, .inr (4, [.ref hy, .ref rs, .ref ri, .ref ra, .ref rt, .ref rg, .int 0, .int 0, .int 0, .int 0, .int 0, .int 0, .int 0, .int 0])), (rs, .inl (cI, 8, .inl (fun _ => 0)))] := hD
  have hl : lv_has ls 2 [(0, .ref xo), (1, .int p0)] := hl
  refine lv_iload_n hx hb dX10_now_0 rfl (lv_at hl 1 rfl) ?_
  by_cases i_1_0 : p0.toInt = 0
  · refine lv_tableIn (off := 51) (tgt := 52) hx hb dX10_now_1 (by omega) (by omega) (by rw [i_1_0]; rfl) (by decide) ?_
    refine lv_aload_n hx hb dX10_now_52 rfl (lv_at hl 0 rfl) ?_
    refine va_get (D := D) (ci := 9) (v := .ref rn) (C := RX10) (T := TX10) (N := 10) hx hb hts in_X10_now_X10 hown hK hP 0 rfl rfl 2 (by decide) (hts (.fieldLink RX10 19 "PowerRails" "run" "LPowerRails$Run;") (by decide +kernel)) (fun _ h9 => h9) rfl dX10_now_53 ?_
    refine va_get (D := D) (ci := 4) (v := .int 0) (C := RX5) (T := TX5) (N := 14) hx hb hts in_X10_now_X5 hown hK hP 1 rfl rfl 8 (by decide) (hts (.fieldLink RX10 160 "PowerRails$Run" "tick" "I") (by decide +kernel)) (fun _ h9 => h9) rfl dX10_now_56 ?_
    refine W.widen (k := 0) (n := 0) (by decide) (by decide) ?_
    exact W.iret (v := 0) hx hb hr (fun t ht hW => ⟨⟨0, (), rfl, (by unfold sp_now; repeat (first | rw [if_pos (by omega)] | rw [if_neg (by omega)])), trivial⟩, hS.F ht⟩) hS.2.2 dX10_now_59
  by_cases i_1_1 : p0.toInt = 1
  · refine lv_tableIn (off := 59) (tgt := 60) hx hb dX10_now_1 (by omega) (by omega) (by rw [i_1_1]; rfl) (by decide) ?_
    refine lv_aload_n hx hb dX10_now_60 rfl (lv_at hl 0 rfl) ?_
    refine va_get (D := D) (ci := 9) (v := .ref rn) (C := RX10) (T := TX10) (N := 10) hx hb hts in_X10_now_X10 hown hK hP 0 rfl rfl 2 (by decide) (hts (.fieldLink RX10 19 "PowerRails" "run" "LPowerRails$Run;") (by decide +kernel)) (fun _ h9 => h9) rfl dX10_now_61 ?_
    refine lv_iconst (v := 3) hx hb dX10_now_64 (by decide) ?_
    have hPc := hP.sub (ws' := [(rn, .inr (4, [.ref hy, .ref rs, .ref ri, .ref ra, .ref rt, .ref rg, .int 0, .int 0, .int 0, .int 0, .int 0, .int 0, .int 0, .int 0])), (rs, .inl (cI, 8, .inl (fun _ => 0)))]) [1, 2] rfl
    have hDc := hD.sub (ws' := [(rn, .inr (4, [.ref hy, .ref rs, .ref ri, .ref ra, .ref rt, .ref rg, .int 0, .int 0, .int 0, .int 0, .int 0, .int 0, .int 0, .int 0])), (rs, .inl (cI, 8, .inl (fun _ => 0)))]) [1, 2] (by decide) rfl
    have hFc := va_free (wc := [(rn, .inr (4, [.ref hy, .ref rs, .ref ri, .ref ra, .ref rt, .ref rg, .int 0, .int 0, .int 0, .int 0, .int 0, .int 0, .int 0, .int 0])), (rs, .inl (cI, 8, .inl (fun _ => 0)))]) hD hS hA [1, 2] rfl
    refine va_calli (va_runV (As := [.int 3]) (rest := []) ⟨hx, hb, hml, hown, hts⟩ (c_railsThatAre0 l D cI cJ cZ cG cH s.heap.size rn (3 : Int32) hy rs ri ra rt rg (0 : Int32) (by first | assumption | decide | omega)) (cwV 1 hts gX10_now_X5_railsThatAre rfl rfl rfl (by decide +kernel) ⟨Nat.le_of_ble_eq_true rfl, Nat.le_of_ble_eq_true rfl⟩) ⟨xPc_blind, va_recv hK hPc (ci := 4) (q0 := 0) rfl rfl, xPc_pre hPc hK hDc⟩ rfl rfl hl.1 rfl (lv_room (Nat.le_of_ble_eq_true rfl)) dX10_now_65 ⟨Nat.le_of_ble_eq_true rfl, Nat.le_of_ble_eq_true rfl⟩) hS (fun q _ h => hFc q h) hFc (fun r2 u t H1 locs ht hvm hw2 hB hz1 hk1 hS => ?_)
    obtain ⟨hP1, hK1, hD1⟩ := hB
    rw [ht] at hP1
    obtain ⟨hP, hD⟩ := va_join (wr := [(xo, .inr (9, [.ref tp, .ref rd, .ref rn, .ref co, .ref wy, .ref sg, .ref sh, .ref pl, .ref sp, .int 0]))]) (w1 := [(rn, .inr (4, [.ref hy, .ref rs, .ref ri, .ref ra, .ref rt, .ref rg, .int 0, .int 0, .int 0, .int 0, .int 0, .int 0, .int 0, .int 0])), (rs, .inl (cI, 8, .inl (fun _ => 0)))]) hP hD [1, 2] [0] rfl rfl (by decide) (by decide) hk1 hFc hP1 hD1
    generalize H1 = H at hP hS ⊢
    have hP : va_P D vwCl [(xo, .inr (9, [.ref tp, .ref rd, .ref rn, .ref co, .ref wy, .ref sg, .ref sh, .ref pl, .ref sp, .int 0])), (rn, .inr (4, [.ref hy, .ref rs, .ref ri, .ref ra, .ref rt, .ref rg, .int 0, .int 0, .int 0, .int 0, .int 0, .int 0, .int 0, .int 0])), (rs, .inl (cI, 8, .inl (fun _ => 0)))] H := hP
    have hD : va_D A [(xo, .inr (9, [.ref tp, .ref rd, .ref rn, .ref co, .ref wy, .ref sg, .ref sh, .ref pl, .ref sp, .int 0])), (rn, .inr (4, [.ref hy, .ref rs, .ref ri, .ref ra, .ref rt, .ref rg, .int 0, .int 0, .int 0, .int 0, .int 0, .int 0, .int 0, .int 0])), (rs, .inl (cI, 8, .inl (fun _ => 0)))] := hD
    obtain rfl : r2 = 0 := hw2
    refine W.widen (k := 0) (n := 0) (by decide) (by decide) ?_
    exact W.iret (v := 0) hx hb hr (fun t ht hW => ⟨⟨0, (), rfl, (by unfold sp_now; repeat (first | rw [if_pos (by omega)] | rw [if_neg (by omega)])), trivial⟩, hS.F ht⟩) hS.2.2 dX10_now_68
  by_cases i_1_2 : p0.toInt = 2
  · refine lv_tableIn (off := 68) (tgt := 69) hx hb dX10_now_1 (by omega) (by omega) (by rw [i_1_2]; rfl) (by decide) ?_
    refine lv_aload_n hx hb dX10_now_69 rfl (lv_at hl 0 rfl) ?_
    refine va_get (D := D) (ci := 9) (v := .ref rn) (C := RX10) (T := TX10) (N := 10) hx hb hts in_X10_now_X10 hown hK hP 0 rfl rfl 2 (by decide) (hts (.fieldLink RX10 19 "PowerRails" "run" "LPowerRails$Run;") (by decide +kernel)) (fun _ h9 => h9) rfl dX10_now_70 ?_
    refine lv_iconst (v := 2) hx hb dX10_now_73 (by decide) ?_
    have hPc := hP.sub (ws' := [(rn, .inr (4, [.ref hy, .ref rs, .ref ri, .ref ra, .ref rt, .ref rg, .int 0, .int 0, .int 0, .int 0, .int 0, .int 0, .int 0, .int 0])), (rs, .inl (cI, 8, .inl (fun _ => 0)))]) [1, 2] rfl
    have hDc := hD.sub (ws' := [(rn, .inr (4, [.ref hy, .ref rs, .ref ri, .ref ra, .ref rt, .ref rg, .int 0, .int 0, .int 0, .int 0, .int 0, .int 0, .int 0, .int 0])), (rs, .inl (cI, 8, .inl (fun _ => 0)))]) [1, 2] (by decide) rfl
    have hFc := va_free (wc := [(rn, .inr (4, [.ref hy, .ref rs, .ref ri, .ref ra, .ref rt, .ref rg, .int 0, .int 0, .int 0, .int 0, .int 0, .int 0, .int 0, .int 0])), (rs, .inl (cI, 8, .inl (fun _ => 0)))]) hD hS hA [1, 2] rfl
    refine va_calli (va_runV (As := [.int 2]) (rest := []) ⟨hx, hb, hml, hown, hts⟩ (c_railsThatAre0 l D cI cJ cZ cG cH s.heap.size rn (2 : Int32) hy rs ri ra rt rg (0 : Int32) (by first | assumption | decide | omega)) (cwV 1 hts gX10_now_X5_railsThatAre rfl rfl rfl (by decide +kernel) ⟨Nat.le_of_ble_eq_true rfl, Nat.le_of_ble_eq_true rfl⟩) ⟨xPc_blind, va_recv hK hPc (ci := 4) (q0 := 0) rfl rfl, xPc_pre hPc hK hDc⟩ rfl rfl hl.1 rfl (lv_room (Nat.le_of_ble_eq_true rfl)) dX10_now_74 ⟨Nat.le_of_ble_eq_true rfl, Nat.le_of_ble_eq_true rfl⟩) hS (fun q _ h => hFc q h) hFc (fun r3 u t H1 locs ht hvm hw3 hB hz1 hk1 hS => ?_)
    obtain ⟨hP1, hK1, hD1⟩ := hB
    rw [ht] at hP1
    obtain ⟨hP, hD⟩ := va_join (wr := [(xo, .inr (9, [.ref tp, .ref rd, .ref rn, .ref co, .ref wy, .ref sg, .ref sh, .ref pl, .ref sp, .int 0]))]) (w1 := [(rn, .inr (4, [.ref hy, .ref rs, .ref ri, .ref ra, .ref rt, .ref rg, .int 0, .int 0, .int 0, .int 0, .int 0, .int 0, .int 0, .int 0])), (rs, .inl (cI, 8, .inl (fun _ => 0)))]) hP hD [1, 2] [0] rfl rfl (by decide) (by decide) hk1 hFc hP1 hD1
    generalize H1 = H at hP hS ⊢
    have hP : va_P D vwCl [(xo, .inr (9, [.ref tp, .ref rd, .ref rn, .ref co, .ref wy, .ref sg, .ref sh, .ref pl, .ref sp, .int 0])), (rn, .inr (4, [.ref hy, .ref rs, .ref ri, .ref ra, .ref rt, .ref rg, .int 0, .int 0, .int 0, .int 0, .int 0, .int 0, .int 0, .int 0])), (rs, .inl (cI, 8, .inl (fun _ => 0)))] H := hP
    have hD : va_D A [(xo, .inr (9, [.ref tp, .ref rd, .ref rn, .ref co, .ref wy, .ref sg, .ref sh, .ref pl, .ref sp, .int 0])), (rn, .inr (4, [.ref hy, .ref rs, .ref ri, .ref ra, .ref rt, .ref rg, .int 0, .int 0, .int 0, .int 0, .int 0, .int 0, .int 0, .int 0])), (rs, .inl (cI, 8, .inl (fun _ => 0)))] := hD
    obtain rfl : r3 = 0 := hw3
    refine W.widen (k := 0) (n := 0) (by decide) (by decide) ?_
    exact W.iret (v := 0) hx hb hr (fun t ht hW => ⟨⟨0, (), rfl, (by unfold sp_now; repeat (first | rw [if_pos (by omega)] | rw [if_neg (by omega)])), trivial⟩, hS.F ht⟩) hS.2.2 dX10_now_77
  by_cases i_1_3 : p0.toInt = 3
  · refine lv_tableIn (off := 77) (tgt := 78) hx hb dX10_now_1 (by omega) (by omega) (by rw [i_1_3]; rfl) (by decide) ?_
    refine lv_aload_n hx hb dX10_now_78 rfl (lv_at hl 0 rfl) ?_
    refine va_get (D := D) (ci := 9) (v := .ref rn) (C := RX10) (T := TX10) (N := 10) hx hb hts in_X10_now_X10 hown hK hP 0 rfl rfl 2 (by decide) (hts (.fieldLink RX10 19 "PowerRails" "run" "LPowerRails$Run;") (by decide +kernel)) (fun _ h9 => h9) rfl dX10_now_79 ?_
    refine va_get (D := D) (ci := 4) (v := .int 0) (C := RX5) (T := TX5) (N := 14) hx hb hts in_X10_now_X5 hown hK hP 1 rfl rfl 12 (by decide) (hts (.fieldLink RX10 166 "PowerRails$Run" "latestDraw" "I") (by decide +kernel)) (fun _ h9 => h9) rfl dX10_now_82 ?_
    refine W.widen (k := 0) (n := 0) (by decide) (by decide) ?_
    exact W.iret (v := 0) hx hb hr (fun t ht hW => ⟨⟨0, (), rfl, (by unfold sp_now; repeat (first | rw [if_pos (by omega)] | rw [if_neg (by omega)])), trivial⟩, hS.F ht⟩) hS.2.2 dX10_now_85
  by_cases i_1_4 : p0.toInt = 4
  · refine lv_tableIn (off := 85) (tgt := 86) hx hb dX10_now_1 (by omega) (by omega) (by rw [i_1_4]; rfl) (by decide) ?_
    refine lv_aload_n hx hb dX10_now_86 rfl (lv_at hl 0 rfl) ?_
    refine va_get (D := D) (ci := 9) (v := .ref rn) (C := RX10) (T := TX10) (N := 10) hx hb hts in_X10_now_X10 hown hK hP 0 rfl rfl 2 (by decide) (hts (.fieldLink RX10 19 "PowerRails" "run" "LPowerRails$Run;") (by decide +kernel)) (fun _ h9 => h9) rfl dX10_now_87 ?_
    refine va_get (D := D) (ci := 4) (v := .int 0) (C := RX5) (T := TX5) (N := 14) hx hb hts in_X10_now_X5 hown hK hP 1 rfl rfl 9 (by decide) (hts (.fieldLink RX10 169 "PowerRails$Run" "held" "I") (by decide +kernel)) (fun _ h9 => h9) rfl dX10_now_90 ?_
    refine W.widen (k := 0) (n := 0) (by decide) (by decide) ?_
    exact W.iret (v := 0) hx hb hr (fun t ht hW => ⟨⟨0, (), rfl, (by unfold sp_now; repeat (first | rw [if_pos (by omega)] | rw [if_neg (by omega)])), trivial⟩, hS.F ht⟩) hS.2.2 dX10_now_93
  by_cases i_1_5 : p0.toInt = 5
  · refine lv_tableIn (off := 93) (tgt := 94) hx hb dX10_now_1 (by omega) (by omega) (by rw [i_1_5]; rfl) (by decide) ?_
    refine lv_aload_n hx hb dX10_now_94 rfl (lv_at hl 0 rfl) ?_
    refine va_get (D := D) (ci := 9) (v := .ref rn) (C := RX10) (T := TX10) (N := 10) hx hb hts in_X10_now_X10 hown hK hP 0 rfl rfl 2 (by decide) (hts (.fieldLink RX10 19 "PowerRails" "run" "LPowerRails$Run;") (by decide +kernel)) (fun _ h9 => h9) rfl dX10_now_95 ?_
    refine va_get (D := D) (ci := 4) (v := .int 0) (C := RX5) (T := TX5) (N := 14) hx hb hts in_X10_now_X5 hown hK hP 1 rfl rfl 10 (by decide) (hts (.fieldLink RX10 172 "PowerRails$Run" "tries" "I") (by decide +kernel)) (fun _ h9 => h9) rfl dX10_now_98 ?_
    refine W.widen (k := 0) (n := 0) (by decide) (by decide) ?_
    exact W.iret (v := 0) hx hb hr (fun t ht hW => ⟨⟨0, (), rfl, (by unfold sp_now; repeat (first | rw [if_pos (by omega)] | rw [if_neg (by omega)])), trivial⟩, hS.F ht⟩) hS.2.2 dX10_now_101
  by_cases i_1_6 : p0.toInt = 6
  · refine lv_tableIn (off := 101) (tgt := 102) hx hb dX10_now_1 (by omega) (by omega) (by rw [i_1_6]; rfl) (by decide) ?_
    refine lv_aload_n hx hb dX10_now_102 rfl (lv_at hl 0 rfl) ?_
    refine va_get (D := D) (ci := 9) (v := .ref rn) (C := RX10) (T := TX10) (N := 10) hx hb hts in_X10_now_X10 hown hK hP 0 rfl rfl 2 (by decide) (hts (.fieldLink RX10 19 "PowerRails" "run" "LPowerRails$Run;") (by decide +kernel)) (fun _ h9 => h9) rfl dX10_now_103 ?_
    refine va_get (D := D) (ci := 4) (v := .int 0) (C := RX5) (T := TX5) (N := 14) hx hb hts in_X10_now_X5 hown hK hP 1 rfl rfl 13 (by decide) (hts (.fieldLink RX10 175 "PowerRails$Run" "greatestDraw" "I") (by decide +kernel)) (fun _ h9 => h9) rfl dX10_now_106 ?_
    refine W.widen (k := 0) (n := 0) (by decide) (by decide) ?_
    exact W.iret (v := 0) hx hb hr (fun t ht hW => ⟨⟨0, (), rfl, (by unfold sp_now; repeat (first | rw [if_pos (by omega)] | rw [if_neg (by omega)])), trivial⟩, hS.F ht⟩) hS.2.2 dX10_now_109
  by_cases i_1_7 : p0.toInt = 7
  · refine lv_tableIn (off := 109) (tgt := 110) hx hb dX10_now_1 (by omega) (by omega) (by rw [i_1_7]; rfl) (by decide) ?_
    refine lv_aload_n hx hb dX10_now_110 rfl (lv_at hl 0 rfl) ?_
    refine va_get (D := D) (ci := 9) (v := .ref rn) (C := RX10) (T := TX10) (N := 10) hx hb hts in_X10_now_X10 hown hK hP 0 rfl rfl 2 (by decide) (hts (.fieldLink RX10 19 "PowerRails" "run" "LPowerRails$Run;") (by decide +kernel)) (fun _ h9 => h9) rfl dX10_now_111 ?_
    refine va_get (D := D) (ci := 4) (v := .int 0) (C := RX5) (T := TX5) (N := 14) hx hb hts in_X10_now_X5 hown hK hP 1 rfl rfl 7 (by decide) (hts (.fieldLink RX10 139 "PowerRails$Run" "key" "Z") (by decide +kernel)) (fun _ h9 => h9) rfl dX10_now_114 ?_
    have hPc := hP.sub (ws' := []) [] rfl
    have hDc := hD.sub (ws' := []) [] (by decide) rfl
    have hFc := va_free (wc := []) hD hS hA [] rfl
    refine va_calli (va_runS (As := [.int 0]) (rest := []) ⟨hx, hb, hml, hown, hts⟩ (c_asNumber0 l D cI cJ cZ cG cH s.heap.size ) (va_cwS 1 hts gX10_now_X10_asNumber rfl rfl rfl (by decide +kernel) ⟨Nat.le_of_ble_eq_true rfl, Nat.le_of_ble_eq_true rfl⟩) ⟨xPc_blind, xPc_pre hPc hK hDc⟩ rfl rfl hl.1 rfl (lv_room (Nat.le_of_ble_eq_true rfl)) dX10_now_117 ⟨Nat.le_of_ble_eq_true rfl, Nat.le_of_ble_eq_true rfl⟩) hS (fun q _ h => hFc q h) hFc (fun r4 u t H1 locs ht hvm hw4 hB hz1 hk1 hS => ?_)
    obtain ⟨hP1, hK1, hD1⟩ := hB
    rw [ht] at hP1
    obtain ⟨hP, hD⟩ := va_join (wr := [(xo, .inr (9, [.ref tp, .ref rd, .ref rn, .ref co, .ref wy, .ref sg, .ref sh, .ref pl, .ref sp, .int 0])), (rn, .inr (4, [.ref hy, .ref rs, .ref ri, .ref ra, .ref rt, .ref rg, .int 0, .int 0, .int 0, .int 0, .int 0, .int 0, .int 0, .int 0])), (rs, .inl (cI, 8, .inl (fun _ => 0)))]) (w1 := []) hP hD [] [0, 1, 2] rfl rfl (by decide) (by decide) hk1 hFc hP1 hD1
    generalize H1 = H at hP hS ⊢
    have hP : va_P D vwCl [(xo, .inr (9, [.ref tp, .ref rd, .ref rn, .ref co, .ref wy, .ref sg, .ref sh, .ref pl, .ref sp, .int 0])), (rn, .inr (4, [.ref hy, .ref rs, .ref ri, .ref ra, .ref rt, .ref rg, .int 0, .int 0, .int 0, .int 0, .int 0, .int 0, .int 0, .int 0])), (rs, .inl (cI, 8, .inl (fun _ => 0)))] H := hP
    have hD : va_D A [(xo, .inr (9, [.ref tp, .ref rd, .ref rn, .ref co, .ref wy, .ref sg, .ref sh, .ref pl, .ref sp, .int 0])), (rn, .inr (4, [.ref hy, .ref rs, .ref ri, .ref ra, .ref rt, .ref rg, .int 0, .int 0, .int 0, .int 0, .int 0, .int 0, .int 0, .int 0])), (rs, .inl (cI, 8, .inl (fun _ => 0)))] := hD
    obtain rfl : r4 = 0 := hw4
    refine W.widen (k := 0) (n := 0) (by decide) (by decide) ?_
    exact W.iret (v := 0) hx hb hr (fun t ht hW => ⟨⟨0, (), rfl, (by unfold sp_now; repeat (first | rw [if_pos (by omega)] | rw [if_neg (by omega)])), trivial⟩, hS.F ht⟩) hS.2.2 dX10_now_120
  by_cases i_1_8 : p0.toInt = 8
  · refine lv_tableIn (off := 120) (tgt := 121) hx hb dX10_now_1 (by omega) (by omega) (by rw [i_1_8]; rfl) (by decide) ?_
    refine lv_aload_n hx hb dX10_now_121 rfl (lv_at hl 0 rfl) ?_
    refine va_get (D := D) (ci := 9) (v := .ref rn) (C := RX10) (T := TX10) (N := 10) hx hb hts in_X10_now_X10 hown hK hP 0 rfl rfl 2 (by decide) (hts (.fieldLink RX10 19 "PowerRails" "run" "LPowerRails$Run;") (by decide +kernel)) (fun _ h9 => h9) rfl dX10_now_122 ?_
    refine va_get (D := D) (ci := 4) (v := .int 0) (C := RX5) (T := TX5) (N := 14) hx hb hts in_X10_now_X5 hown hK hP 1 rfl rfl 11 (by decide) (hts (.fieldLink RX10 154 "PowerRails$Run" "trips" "I") (by decide +kernel)) (fun _ h9 => h9) rfl dX10_now_125 ?_
    refine W.widen (k := 0) (n := 0) (by decide) (by decide) ?_
    exact W.iret (v := 0) hx hb hr (fun t ht hW => ⟨⟨0, (), rfl, (by unfold sp_now; repeat (first | rw [if_pos (by omega)] | rw [if_neg (by omega)])), trivial⟩, hS.F ht⟩) hS.2.2 dX10_now_128
  refine lv_tableOut (tgt := 129) hx hb dX10_now_1 (by omega) (by decide) ?_
  refine lv_bipush (v := (-9)) hx hb dX10_now_129 (by decide) ?_
  refine W.widen (k := 0) (n := 0) (by decide) (by decide) ?_
  exact W.iret (v := (-9)) hx hb hr (fun t ht hW => ⟨⟨(-9), (), rfl, (by unfold sp_now; repeat (first | rw [if_pos (by omega)] | rw [if_neg (by omega)])), trivial⟩, hS.F ht⟩) hS.2.2 dX10_now_131
theorem in_X10_is_X10 : ∀ w ∈ wsX100, w ∈ wsX10_is := by decide +kernel
abbrev W_x_is (cI cJ cZ cG cH : ClassId) (xo : Nat) (p0 : Int32) (p1 : Int32) (tp : Nat) (rd : Nat) (rn : Nat) (co : Nat) (wy : Nat) (sg : Nat) (sh : Nat) (pl : Nat) (sp : Nat) (pn : Nat) (pt : Nat) : va_W := [(xo, .inr (9, [.ref tp, .ref rd, .ref rn, .ref co, .ref wy, .ref sg, .ref sh, .ref pl, .ref sp, .int 0])), (pl, .inr (2, [.ref pn, .ref pt, .int 0, .int 999, .int 0, .int 5]))]
abbrev Q_x_is (D : va_G) (cI cJ cZ cG cH : ClassId) (xo : Nat) (p0 : Int32) (p1 : Int32) (tp : Nat) (rd : Nat) (rn : Nat) (co : Nat) (wy : Nat) (sg : Nat) (sh : Nat) (pl : Nat) (sp : Nat) (pn : Nat) (pt : Nat) (A : Nat → Prop) : Array Value → State → Outcome → State → Prop := va_Qi (fun (r : Int32) (_ : Unit) => r = (-1)) (fun _ t => True) A
abbrev rm_x_is : Room := { frames := 1, cells := 0, slots := 0, locals := 21 }
set_option maxRecDepth 100000 in
set_option maxHeartbeats 4000000 in
theorem c_x_is (l : Launch) (D : va_G) (cI cJ cZ cG cH : ClassId) (sz : Nat) (xo : Nat) (p0 : Int32) (p1 : Int32) (tp : Nat) (rd : Nat) (rn : Nat) (co : Nat) (wy : Nat) (sg : Nat) (sh : Nat) (pl : Nat) (sp : Nat) (pn : Nat) (pt : Nat) : Met l yX10_is wsX10_is rm_x_is (xPc [.ref xo, .int p0, .int p1] D (tyL cI cJ cZ cG cH) (W_x_is cI cJ cZ cG cH xo p0 p1 tp rd rn co wy sg sh pl sp pn pt) sz) (Q_x_is D cI cJ cZ cG cH xo p0 p1 tp rd rn co wy sg sh pl sp pn pt (va_A (W_x_is cI cJ cZ cG cH xo p0 p1 tp rd rn co wy sg sh pl sp pn pt) sz)) 0 0 (va_A (W_x_is cI cJ cZ cG cH xo p0 p1 tp rd rn co wy sg sh pl sp pn pt) sz) := by
  refine xMet (cc := cX10_is) (maxL := 3) (ret := (some .int)) (Qf := Q_x_is D cI cJ cZ cG cH xo p0 p1 tp rd rn co wy sg sh pl sp pn pt) (by decide) rfl (Nat.le_of_ble_eq_true rfl) ?_
  intro p e s m below meth c ls A hx hb hr hml hts hown hlocks hnm hsz hP hK hD hA hS hl
  have hown : s.vm.findClass RX10 = some m.cls := hown
  have hP : va_P D vwCl [(xo, .inr (9, [.ref tp, .ref rd, .ref rn, .ref co, .ref wy, .ref sg, .ref sh, .ref pl, .ref sp, .int 0])), (pl, .inr (2, [.ref pn, .ref pt, .int 0, .int 999, .int 0, .int 5]))] s.heap := hP
  have hD : va_D A [(xo, .inr (9, [.ref tp, .ref rd, .ref rn, .ref co, .ref wy, .ref sg, .ref sh, .ref pl, .ref sp, .int 0])), (pl, .inr (2, [.ref pn, .ref pt, .int 0, .int 999, .int 0, .int 5]))] := hD
  have hl : lv_has ls 3 [(0, .ref xo), (1, .int p0), (2, .int p1)] := hl
  refine lv_aload_n hx hb dX10_is_0 rfl (lv_at hl 0 rfl) ?_
  refine va_get (D := D) (ci := 9) (v := .ref pl) (C := RX10) (T := TX10) (N := 10) hx hb hts in_X10_is_X10 hown hK hP 0 rfl rfl 7 (by decide) (hts (.fieldLink RX10 56 "PowerRails" "plan" "LPowerRails$Plan;") (by decide +kernel)) (fun _ h9 => h9) rfl dX10_is_1 ?_
  refine lv_iload_n hx hb dX10_is_4 rfl (lv_at hl 1 rfl) ?_
  have hPc := hP.sub (ws' := [(pl, .inr (2, [.ref pn, .ref pt, .int 0, .int 999, .int 0, .int 5]))]) [1] rfl
  have hDc := hD.sub (ws' := [(pl, .inr (2, [.ref pn, .ref pt, .int 0, .int 999, .int 0, .int 5]))]) [1] (by decide) rfl
  have hFc := va_free (wc := [(pl, .inr (2, [.ref pn, .ref pt, .int 0, .int 999, .int 0, .int 5]))]) hD hS hA [1] rfl
  refine va_calli (va_runV (As := [.int p0]) (rest := []) ⟨hx, hb, hml, hown, hts⟩ (c_hasRail0 l D cI cJ cZ cG cH s.heap.size pl p0 pn pt) (cwV 1 hts gX10_is_X3_hasRail rfl rfl rfl (by decide +kernel) ⟨Nat.le_of_ble_eq_true rfl, Nat.le_of_ble_eq_true rfl⟩) ⟨xPc_blind, va_recv hK hPc (ci := 2) (q0 := 0) rfl rfl, xPc_pre hPc hK hDc⟩ rfl rfl hl.1 rfl (lv_room (Nat.le_of_ble_eq_true rfl)) dX10_is_5 ⟨Nat.le_of_ble_eq_true rfl, Nat.le_of_ble_eq_true rfl⟩) hS (fun q _ h => hFc q h) hFc (fun r1 u t H1 locs ht hvm hw1 hB hz1 hk1 hS => ?_)
  obtain ⟨hP1, hK1, hD1⟩ := hB
  rw [ht] at hP1
  obtain ⟨hP, hD⟩ := va_join (wr := [(xo, .inr (9, [.ref tp, .ref rd, .ref rn, .ref co, .ref wy, .ref sg, .ref sh, .ref pl, .ref sp, .int 0]))]) (w1 := [(pl, .inr (2, [.ref pn, .ref pt, .int 0, .int 999, .int 0, .int 5]))]) hP hD [1] [0] rfl rfl (by decide) (by decide) hk1 hFc hP1 hD1
  generalize H1 = H at hP hS ⊢
  have hP : va_P D vwCl [(xo, .inr (9, [.ref tp, .ref rd, .ref rn, .ref co, .ref wy, .ref sg, .ref sh, .ref pl, .ref sp, .int 0])), (pl, .inr (2, [.ref pn, .ref pt, .int 0, .int 999, .int 0, .int 5]))] H := hP
  have hD : va_D A [(xo, .inr (9, [.ref tp, .ref rd, .ref rn, .ref co, .ref wy, .ref sg, .ref sh, .ref pl, .ref sp, .int 0])), (pl, .inr (2, [.ref pn, .ref pt, .int 0, .int 999, .int 0, .int 5]))] := hD
  obtain rfl : r1 = 0 := hw1
  refine lv_if_ne (tgt := 13) hx hb dX10_is_8 (by decide) (fun c9 => absurd c9 (by decide)) (fun _ => ?_)
  refine lv_iconst (v := (-1)) hx hb dX10_is_11 (by decide) ?_
  refine W.widen (k := 0) (n := 0) (by decide) (by decide) ?_
  exact W.iret (v := (-1)) hx hb hr (fun t ht hW => ⟨⟨(-1), (), rfl, rfl, trivial⟩, hS.F ht⟩) hS.2.2 dX10_is_12
theorem in_X10_happened_X10 : ∀ w ∈ wsX100, w ∈ wsX10_happened := by decide +kernel
theorem in_X10_happened_X5 : ∀ w ∈ wsX50, w ∈ wsX10_happened := by decide +kernel
theorem in_X10_happened_X2 : ∀ w ∈ wsX20, w ∈ wsX10_happened := by decide +kernel
abbrev W_x_happened (cI cJ cZ cG cH : ClassId) (xo : Nat) (p0 : Int32) (p1 : Int32) (tp : Nat) (rd : Nat) (rn : Nat) (co : Nat) (wy : Nat) (sg : Nat) (sh : Nat) (pl : Nat) (sp : Nat) (hy : Nat) (rs : Nat) (ri : Nat) (ra : Nat) (rt : Nat) (rg : Nat) (ya : Nat) (yb : Nat) (yc : Nat) : va_W := [(xo, .inr (9, [.ref tp, .ref rd, .ref rn, .ref co, .ref wy, .ref sg, .ref sh, .ref pl, .ref sp, .int 0])), (rn, .inr (4, [.ref hy, .ref rs, .ref ri, .ref ra, .ref rt, .ref rg, .int 0, .int 0, .int 0, .int 0, .int 0, .int 0, .int 0, .int 0])), (hy, .inr (1, [.ref ya, .ref yb, .ref yc, .int 0]))]
abbrev Q_x_happened (D : va_G) (cI cJ cZ cG cH : ClassId) (xo : Nat) (p0 : Int32) (p1 : Int32) (tp : Nat) (rd : Nat) (rn : Nat) (co : Nat) (wy : Nat) (sg : Nat) (sh : Nat) (pl : Nat) (sp : Nat) (hy : Nat) (rs : Nat) (ri : Nat) (ra : Nat) (rt : Nat) (rg : Nat) (ya : Nat) (yb : Nat) (yc : Nat) (A : Nat → Prop) : Array Value → State → Outcome → State → Prop := va_Qi (fun (r : Int32) (_ : Unit) => r = (-1)) (fun _ t => True) A
abbrev rm_x_happened : Room := { frames := 0, cells := 0, slots := 0, locals := 0 }
set_option maxRecDepth 100000 in
set_option maxHeartbeats 4000000 in
theorem c_x_happened (l : Launch) (D : va_G) (cI cJ cZ cG cH : ClassId) (sz : Nat) (xo : Nat) (p0 : Int32) (p1 : Int32) (tp : Nat) (rd : Nat) (rn : Nat) (co : Nat) (wy : Nat) (sg : Nat) (sh : Nat) (pl : Nat) (sp : Nat) (hy : Nat) (rs : Nat) (ri : Nat) (ra : Nat) (rt : Nat) (rg : Nat) (ya : Nat) (yb : Nat) (yc : Nat) : Met l yX10_happened wsX10_happened rm_x_happened (xPc [.ref xo, .int p0, .int p1] D (tyL cI cJ cZ cG cH) (W_x_happened cI cJ cZ cG cH xo p0 p1 tp rd rn co wy sg sh pl sp hy rs ri ra rt rg ya yb yc) sz) (Q_x_happened D cI cJ cZ cG cH xo p0 p1 tp rd rn co wy sg sh pl sp hy rs ri ra rt rg ya yb yc (va_A (W_x_happened cI cJ cZ cG cH xo p0 p1 tp rd rn co wy sg sh pl sp hy rs ri ra rt rg ya yb yc) sz)) 0 0 (va_A (W_x_happened cI cJ cZ cG cH xo p0 p1 tp rd rn co wy sg sh pl sp hy rs ri ra rt rg ya yb yc) sz) := by
  refine xMet (cc := cX10_happened) (maxL := 3) (ret := (some .int)) (Qf := Q_x_happened D cI cJ cZ cG cH xo p0 p1 tp rd rn co wy sg sh pl sp hy rs ri ra rt rg ya yb yc) (by decide) rfl (Nat.le_of_ble_eq_true rfl) ?_
  intro p e s m below meth c ls A hx hb hr hml hts hown hlocks hnm hsz hP hK hD hA hS hl
  have hown : s.vm.findClass RX10 = some m.cls := hown
  have hP : va_P D vwCl [(xo, .inr (9, [.ref tp, .ref rd, .ref rn, .ref co, .ref wy, .ref sg, .ref sh, .ref pl, .ref sp, .int 0])), (rn, .inr (4, [.ref hy, .ref rs, .ref ri, .ref ra, .ref rt, .ref rg, .int 0, .int 0, .int 0, .int 0, .int 0, .int 0, .int 0, .int 0])), (hy, .inr (1, [.ref ya, .ref yb, .ref yc, .int 0]))] s.heap := hP
  have hD : va_D A [(xo, .inr (9, [.ref tp, .ref rd, .ref rn, .ref co, .ref wy, .ref sg, .ref sh, .ref pl, .ref sp, .int 0])), (rn, .inr (4, [.ref hy, .ref rs, .ref ri, .ref ra, .ref rt, .ref rg, .int 0, .int 0, .int 0, .int 0, .int 0, .int 0, .int 0, .int 0])), (hy, .inr (1, [.ref ya, .ref yb, .ref yc, .int 0]))] := hD
  have hl : lv_has ls 3 [(0, .ref xo), (1, .int p0), (2, .int p1)] := hl
  refine lv_iload_n hx hb dX10_happened_0 rfl (lv_at hl 1 rfl) ?_
  refine lv_if_lt (tgt := 18) hx hb dX10_happened_1 (by decide) (fun c_1 => ?_) (fun c_1 => ?_)
  · skip
    have i_1 : p0.toInt < 0 := (ilt rfl (by decide)).mp c_1
    refine lv_iconst (v := (-1)) hx hb dX10_happened_18 (by decide) ?_
    refine W.widen (k := 0) (n := 0) (by decide) (by decide) ?_
    exact W.iret (v := (-1)) hx hb hr (fun t ht hW => ⟨⟨(-1), (), rfl, rfl, trivial⟩, hS.F ht⟩) hS.2.2 dX10_happened_19
  · skip
    have i_1 : ¬ (p0.toInt < 0) := fun h9 => c_1 ((ilt rfl (by decide)).mpr h9)
    refine lv_iload_n hx hb dX10_happened_4 rfl (lv_at hl 1 rfl) ?_
    refine lv_aload_n hx hb dX10_happened_5 rfl (lv_at hl 0 rfl) ?_
    refine va_get (D := D) (ci := 9) (v := .ref rn) (C := RX10) (T := TX10) (N := 10) hx hb hts in_X10_happened_X10 hown hK hP 0 rfl rfl 2 (by decide) (hts (.fieldLink RX10 19 "PowerRails" "run" "LPowerRails$Run;") (by decide +kernel)) (fun _ h9 => h9) rfl dX10_happened_6 ?_
    refine va_get (D := D) (ci := 4) (v := .ref hy) (C := RX5) (T := TX5) (N := 14) hx hb hts in_X10_happened_X5 hown hK hP 1 rfl rfl 0 (by decide) (hts (.fieldLink RX10 187 "PowerRails$Run" "history" "LPowerRails$History;") (by decide +kernel)) (fun _ h9 => h9) rfl dX10_happened_9 ?_
    refine va_get (D := D) (ci := 1) (v := .int 0) (C := RX2) (T := TX2) (N := 4) hx hb hts in_X10_happened_X2 hown hK hP 2 rfl rfl 3 (by decide) (hts (.fieldLink RX10 191 "PowerRails$History" "size" "I") (by decide +kernel)) (fun _ h9 => h9) rfl dX10_happened_12 ?_
    refine lv_icmp_lt (tgt := 20) hx hb dX10_happened_15 (by decide) (fun c_2 => ?_) (fun c_2 => ?_)
    · skip
      have i_2 : p0.toInt < 0 := (ilt rfl (by decide)).mp c_2
      exfalso
      omega
    · skip
      have i_2 : ¬ (p0.toInt < 0) := fun h9 => c_2 ((ilt rfl (by decide)).mpr h9)
      refine lv_iconst (v := (-1)) hx hb dX10_happened_18 (by decide) ?_
      refine W.widen (k := 0) (n := 0) (by decide) (by decide) ?_
      exact W.iret (v := (-1)) hx hb hr (fun t ht hW => ⟨⟨(-1), (), rfl, rfl, trivial⟩, hS.F ht⟩) hS.2.2 dX10_happened_19
theorem in_X10_up_X10 : ∀ w ∈ wsX100, w ∈ wsX10_up := by decide +kernel
theorem in_X10_up_X5 : ∀ w ∈ wsX50, w ∈ wsX10_up := by decide +kernel
abbrev W_x_up (cI cJ cZ cG cH : ClassId) (xo : Nat) (p0 : Int32) (tp : Nat) (rd : Nat) (rn : Nat) (co : Nat) (wy : Nat) (sg : Nat) (sh : Nat) (pl : Nat) (sp : Nat) (pn : Nat) (pt : Nat) (hy : Nat) (rs : Nat) (ri : Nat) (ra : Nat) (rt : Nat) (rg : Nat) : va_W := [(xo, .inr (9, [.ref tp, .ref rd, .ref rn, .ref co, .ref wy, .ref sg, .ref sh, .ref pl, .ref sp, .int 0])), (pl, .inr (2, [.ref pn, .ref pt, .int 0, .int 999, .int 0, .int 5])), (rn, .inr (4, [.ref hy, .ref rs, .ref ri, .ref ra, .ref rt, .ref rg, .int 0, .int 0, .int 0, .int 0, .int 0, .int 0, .int 0, .int 0]))]
abbrev Q_x_up (D : va_G) (cI cJ cZ cG cH : ClassId) (xo : Nat) (p0 : Int32) (tp : Nat) (rd : Nat) (rn : Nat) (co : Nat) (wy : Nat) (sg : Nat) (sh : Nat) (pl : Nat) (sp : Nat) (pn : Nat) (pt : Nat) (hy : Nat) (rs : Nat) (ri : Nat) (ra : Nat) (rt : Nat) (rg : Nat) (A : Nat → Prop) : Array Value → State → Outcome → State → Prop := va_Qi (fun (r : Int32) (_ : Unit) => r = sp_up p0) (fun _ t => True) A
abbrev rm_x_up : Room := { frames := 1, cells := 0, slots := 0, locals := 25 }
set_option maxRecDepth 100000 in
set_option maxHeartbeats 4000000 in
theorem c_x_up (l : Launch) (D : va_G) (cI cJ cZ cG cH : ClassId) (sz : Nat) (xo : Nat) (p0 : Int32) (tp : Nat) (rd : Nat) (rn : Nat) (co : Nat) (wy : Nat) (sg : Nat) (sh : Nat) (pl : Nat) (sp : Nat) (pn : Nat) (pt : Nat) (hy : Nat) (rs : Nat) (ri : Nat) (ra : Nat) (rt : Nat) (rg : Nat) : Met l yX10_up wsX10_up rm_x_up (xPc [.ref xo, .int p0] D (tyL cI cJ cZ cG cH) (W_x_up cI cJ cZ cG cH xo p0 tp rd rn co wy sg sh pl sp pn pt hy rs ri ra rt rg) sz) (Q_x_up D cI cJ cZ cG cH xo p0 tp rd rn co wy sg sh pl sp pn pt hy rs ri ra rt rg (va_A (W_x_up cI cJ cZ cG cH xo p0 tp rd rn co wy sg sh pl sp pn pt hy rs ri ra rt rg) sz)) 0 0 (va_A (W_x_up cI cJ cZ cG cH xo p0 tp rd rn co wy sg sh pl sp pn pt hy rs ri ra rt rg) sz) := by
  refine xMet (cc := cX10_up) (maxL := 4) (ret := (some .int)) (Qf := Q_x_up D cI cJ cZ cG cH xo p0 tp rd rn co wy sg sh pl sp pn pt hy rs ri ra rt rg) (by decide) rfl (Nat.le_of_ble_eq_true rfl) ?_
  intro p e s m below meth c ls A hx hb hr hml hts hown hlocks hnm hsz hP hK hD hA hS hl
  have hown : s.vm.findClass RX10 = some m.cls := hown
  have hP : va_P D vwCl [(xo, .inr (9, [.ref tp, .ref rd, .ref rn, .ref co, .ref wy, .ref sg, .ref sh, .ref pl, .ref sp, .int 0])), (pl, .inr (2, [.ref pn, .ref pt, .int 0, .int 999, .int 0, .int 5])), (rn, .inr (4, [.ref hy, .ref rs, .ref ri, .ref ra, .ref rt, .ref rg, .int 0, .int 0, .int 0, .int 0, .int 0, .int 0, .int 0, .int 0]))] s.heap := hP
  have hD : va_D A [(xo, .inr (9, [.ref tp, .ref rd, .ref rn, .ref co, .ref wy, .ref sg, .ref sh, .ref pl, .ref sp, .int 0])), (pl, .inr (2, [.ref pn, .ref pt, .int 0, .int 999, .int 0, .int 5])), (rn, .inr (4, [.ref hy, .ref rs, .ref ri, .ref ra, .ref rt, .ref rg, .int 0, .int 0, .int 0, .int 0, .int 0, .int 0, .int 0, .int 0]))] := hD
  have hl : lv_has ls 4 [(0, .ref xo), (1, .int p0)] := hl
  refine lv_aload_n hx hb dX10_up_0 rfl (lv_at hl 0 rfl) ?_
  refine va_get (D := D) (ci := 9) (v := .ref pl) (C := RX10) (T := TX10) (N := 10) hx hb hts in_X10_up_X10 hown hK hP 0 rfl rfl 7 (by decide) (hts (.fieldLink RX10 56 "PowerRails" "plan" "LPowerRails$Plan;") (by decide +kernel)) (fun _ h9 => h9) rfl dX10_up_1 ?_
  have hPc := hP.sub (ws' := [(pl, .inr (2, [.ref pn, .ref pt, .int 0, .int 999, .int 0, .int 5]))]) [1] rfl
  have hDc := hD.sub (ws' := [(pl, .inr (2, [.ref pn, .ref pt, .int 0, .int 999, .int 0, .int 5]))]) [1] (by decide) rfl
  have hFc := va_free (wc := [(pl, .inr (2, [.ref pn, .ref pt, .int 0, .int 999, .int 0, .int 5]))]) hD hS hA [1] rfl
  refine va_calli (va_runV (As := []) (rest := []) ⟨hx, hb, hml, hown, hts⟩ (c_allRails0 l D cI cJ cZ cG cH s.heap.size pl pn pt) (cwV 0 hts gX10_up_X3_allRails rfl rfl rfl (by decide +kernel) ⟨Nat.le_of_ble_eq_true rfl, Nat.le_of_ble_eq_true rfl⟩) ⟨xPc_blind, va_recv hK hPc (ci := 2) (q0 := 0) rfl rfl, xPc_pre hPc hK hDc⟩ rfl rfl hl.1 rfl (lv_room (Nat.le_of_ble_eq_true rfl)) dX10_up_4 ⟨Nat.le_of_ble_eq_true rfl, Nat.le_of_ble_eq_true rfl⟩) hS (fun q _ h => hFc q h) hFc (fun r1 u t H1 locs ht hvm hw1 hB hz1 hk1 hS => ?_)
  obtain ⟨hP1, hK1, hD1⟩ := hB
  rw [ht] at hP1
  obtain ⟨hP, hD⟩ := va_join (wr := [(xo, .inr (9, [.ref tp, .ref rd, .ref rn, .ref co, .ref wy, .ref sg, .ref sh, .ref pl, .ref sp, .int 0])), (rn, .inr (4, [.ref hy, .ref rs, .ref ri, .ref ra, .ref rt, .ref rg, .int 0, .int 0, .int 0, .int 0, .int 0, .int 0, .int 0, .int 0]))]) (w1 := [(pl, .inr (2, [.ref pn, .ref pt, .int 0, .int 999, .int 0, .int 5]))]) hP hD [1] [0, 2] rfl rfl (by decide) (by decide) hk1 hFc hP1 hD1
  generalize H1 = H at hP hS ⊢
  have hP : va_P D vwCl [(xo, .inr (9, [.ref tp, .ref rd, .ref rn, .ref co, .ref wy, .ref sg, .ref sh, .ref pl, .ref sp, .int 0])), (rn, .inr (4, [.ref hy, .ref rs, .ref ri, .ref ra, .ref rt, .ref rg, .int 0, .int 0, .int 0, .int 0, .int 0, .int 0, .int 0, .int 0])), (pl, .inr (2, [.ref pn, .ref pt, .int 0, .int 999, .int 0, .int 5]))] H := hP
  have hD : va_D A [(xo, .inr (9, [.ref tp, .ref rd, .ref rn, .ref co, .ref wy, .ref sg, .ref sh, .ref pl, .ref sp, .int 0])), (rn, .inr (4, [.ref hy, .ref rs, .ref ri, .ref ra, .ref rt, .ref rg, .int 0, .int 0, .int 0, .int 0, .int 0, .int 0, .int 0, .int 0])), (pl, .inr (2, [.ref pn, .ref pt, .int 0, .int 999, .int 0, .int 5]))] := hD
  obtain rfl : r1 = 0 := hw1
  refine lv_istore_n (lv' := [(2, .int 0), (0, .ref xo), (1, .int p0)]) hx hb dX10_up_7 rfl hl (by decide) rfl (fun ls hl => ?_)
  refine lv_iload_n hx hb dX10_up_8 rfl (lv_at hl 0 rfl) ?_
  refine lv_aload_n hx hb dX10_up_9 rfl (lv_at hl 1 rfl) ?_
  refine va_get (D := D) (ci := 9) (v := .ref rn) (C := RX10) (T := TX10) (N := 10) hx hb hts in_X10_up_X10 hown hK hP 0 rfl rfl 2 (by decide) (hts (.fieldLink RX10 19 "PowerRails" "run" "LPowerRails$Run;") (by decide +kernel)) (fun _ h9 => h9) rfl dX10_up_10 ?_
  refine va_get (D := D) (ci := 4) (v := .int 0) (C := RX5) (T := TX5) (N := 14) hx hb hts in_X10_up_X5 hown hK hP 1 rfl rfl 6 (by decide) (hts (.fieldLink RX10 147 "PowerRails$Run" "dead" "I") (by decide +kernel)) (fun _ h9 => h9) rfl dX10_up_13 ?_
  refine lv_iconst (v := (-1)) hx hb dX10_up_16 (by decide) ?_
  refine lv_ixor hx hb dX10_up_17 ?_
  refine lv_topi (fun v2 ev2 => ?_)
  obtain rfl : v2 = (-1) := ev2.trans (by decide)
  refine lv_iand hx hb dX10_up_18 ?_
  refine lv_topi (fun v3 ev3 => ?_)
  obtain rfl : v3 = 0 := ev3.trans (by decide)
  refine lv_istore_n (lv' := [(3, .int 0), (2, .int 0), (0, .ref xo), (1, .int p0)]) hx hb dX10_up_19 rfl hl (by decide) rfl (fun ls hl => ?_)
  refine lv_iload_n hx hb dX10_up_20 rfl (lv_at hl 3 rfl) ?_
  by_cases i_4_0 : p0.toInt = 0
  · refine lv_tableIn (off := 27) (tgt := 48) hx hb dX10_up_21 (by omega) (by omega) (by rw [i_4_0]; rfl) (by decide) ?_
    refine lv_aload_n hx hb dX10_up_48 rfl (lv_at hl 2 rfl) ?_
    refine va_get (D := D) (ci := 9) (v := .ref pl) (C := RX10) (T := TX10) (N := 10) hx hb hts in_X10_up_X10 hown hK hP 0 rfl rfl 7 (by decide) (hts (.fieldLink RX10 56 "PowerRails" "plan" "LPowerRails$Plan;") (by decide +kernel)) (fun _ h9 => h9) rfl dX10_up_49 ?_
    refine lv_iload_n hx hb dX10_up_52 rfl (lv_at hl 0 rfl) ?_
    have hPc := hP.sub (ws' := [(pl, .inr (2, [.ref pn, .ref pt, .int 0, .int 999, .int 0, .int 5]))]) [2] rfl
    have hDc := hD.sub (ws' := [(pl, .inr (2, [.ref pn, .ref pt, .int 0, .int 999, .int 0, .int 5]))]) [2] (by decide) rfl
    have hFc := va_free (wc := [(pl, .inr (2, [.ref pn, .ref pt, .int 0, .int 999, .int 0, .int 5]))]) hD hS hA [2] rfl
    refine va_calli (va_runV (As := [.int 0]) (rest := []) ⟨hx, hb, hml, hown, hts⟩ (c_upAmong0 l D cI cJ cZ cG cH H.size pl (0 : Int32) pn pt) (cwV 1 hts gX10_up_X3_upAmong rfl rfl rfl (by decide +kernel) ⟨Nat.le_of_ble_eq_true rfl, Nat.le_of_ble_eq_true rfl⟩) ⟨xPc_blind, va_recv hK hPc (ci := 2) (q0 := 0) rfl rfl, xPc_pre hPc hK hDc⟩ rfl rfl hl.1 rfl (lv_room (Nat.le_of_ble_eq_true rfl)) dX10_up_53 ⟨Nat.le_of_ble_eq_true rfl, Nat.le_of_ble_eq_true rfl⟩) hS (fun q _ h => hFc q h) hFc (fun r5 u t H1 locs ht hvm hw5 hB hz1 hk1 hS => ?_)
    obtain ⟨hP1, hK1, hD1⟩ := hB
    rw [ht] at hP1
    obtain ⟨hP, hD⟩ := va_join (wr := [(xo, .inr (9, [.ref tp, .ref rd, .ref rn, .ref co, .ref wy, .ref sg, .ref sh, .ref pl, .ref sp, .int 0])), (rn, .inr (4, [.ref hy, .ref rs, .ref ri, .ref ra, .ref rt, .ref rg, .int 0, .int 0, .int 0, .int 0, .int 0, .int 0, .int 0, .int 0]))]) (w1 := [(pl, .inr (2, [.ref pn, .ref pt, .int 0, .int 999, .int 0, .int 5]))]) hP hD [2] [0, 1] rfl rfl (by decide) (by decide) hk1 hFc hP1 hD1
    generalize H1 = H at hP hS ⊢
    have hP : va_P D vwCl [(xo, .inr (9, [.ref tp, .ref rd, .ref rn, .ref co, .ref wy, .ref sg, .ref sh, .ref pl, .ref sp, .int 0])), (rn, .inr (4, [.ref hy, .ref rs, .ref ri, .ref ra, .ref rt, .ref rg, .int 0, .int 0, .int 0, .int 0, .int 0, .int 0, .int 0, .int 0])), (pl, .inr (2, [.ref pn, .ref pt, .int 0, .int 999, .int 0, .int 5]))] H := hP
    have hD : va_D A [(xo, .inr (9, [.ref tp, .ref rd, .ref rn, .ref co, .ref wy, .ref sg, .ref sh, .ref pl, .ref sp, .int 0])), (rn, .inr (4, [.ref hy, .ref rs, .ref ri, .ref ra, .ref rt, .ref rg, .int 0, .int 0, .int 0, .int 0, .int 0, .int 0, .int 0, .int 0])), (pl, .inr (2, [.ref pn, .ref pt, .int 0, .int 999, .int 0, .int 5]))] := hD
    obtain rfl : r5 = 0 := hw5
    refine W.widen (k := 0) (n := 0) (by decide) (by decide) ?_
    exact W.iret (v := 0) hx hb hr (fun t ht hW => ⟨⟨0, (), rfl, (by unfold sp_up; repeat (first | rw [if_pos (by omega)] | rw [if_neg (by omega)])), trivial⟩, hS.F ht⟩) hS.2.2 dX10_up_56
  by_cases i_4_1 : p0.toInt = 1
  · refine lv_tableIn (off := 36) (tgt := 57) hx hb dX10_up_21 (by omega) (by omega) (by rw [i_4_1]; rfl) (by decide) ?_
    refine lv_iload_n hx hb dX10_up_57 rfl (lv_at hl 0 rfl) ?_
    refine lv_aload_n hx hb dX10_up_58 rfl (lv_at hl 2 rfl) ?_
    refine va_get (D := D) (ci := 9) (v := .ref pl) (C := RX10) (T := TX10) (N := 10) hx hb hts in_X10_up_X10 hown hK hP 0 rfl rfl 7 (by decide) (hts (.fieldLink RX10 56 "PowerRails" "plan" "LPowerRails$Plan;") (by decide +kernel)) (fun _ h9 => h9) rfl dX10_up_59 ?_
    refine lv_iload_n hx hb dX10_up_62 rfl (lv_at hl 0 rfl) ?_
    have hPc := hP.sub (ws' := [(pl, .inr (2, [.ref pn, .ref pt, .int 0, .int 999, .int 0, .int 5]))]) [2] rfl
    have hDc := hD.sub (ws' := [(pl, .inr (2, [.ref pn, .ref pt, .int 0, .int 999, .int 0, .int 5]))]) [2] (by decide) rfl
    have hFc := va_free (wc := [(pl, .inr (2, [.ref pn, .ref pt, .int 0, .int 999, .int 0, .int 5]))]) hD hS hA [2] rfl
    refine va_calli (va_runV (As := [.int 0]) (rest := [.int 0]) ⟨hx, hb, hml, hown, hts⟩ (c_upAmong0 l D cI cJ cZ cG cH H.size pl (0 : Int32) pn pt) (cwV 1 hts gX10_up_X3_upAmong rfl rfl rfl (by decide +kernel) ⟨Nat.le_of_ble_eq_true rfl, Nat.le_of_ble_eq_true rfl⟩) ⟨xPc_blind, va_recv hK hPc (ci := 2) (q0 := 0) rfl rfl, xPc_pre hPc hK hDc⟩ rfl rfl hl.1 rfl (lv_room (Nat.le_of_ble_eq_true rfl)) dX10_up_63 ⟨Nat.le_of_ble_eq_true rfl, Nat.le_of_ble_eq_true rfl⟩) hS (fun q _ h => hFc q h) hFc (fun r6 u t H1 locs ht hvm hw6 hB hz1 hk1 hS => ?_)
    obtain ⟨hP1, hK1, hD1⟩ := hB
    rw [ht] at hP1
    obtain ⟨hP, hD⟩ := va_join (wr := [(xo, .inr (9, [.ref tp, .ref rd, .ref rn, .ref co, .ref wy, .ref sg, .ref sh, .ref pl, .ref sp, .int 0])), (rn, .inr (4, [.ref hy, .ref rs, .ref ri, .ref ra, .ref rt, .ref rg, .int 0, .int 0, .int 0, .int 0, .int 0, .int 0, .int 0, .int 0]))]) (w1 := [(pl, .inr (2, [.ref pn, .ref pt, .int 0, .int 999, .int 0, .int 5]))]) hP hD [2] [0, 1] rfl rfl (by decide) (by decide) hk1 hFc hP1 hD1
    generalize H1 = H at hP hS ⊢
    have hP : va_P D vwCl [(xo, .inr (9, [.ref tp, .ref rd, .ref rn, .ref co, .ref wy, .ref sg, .ref sh, .ref pl, .ref sp, .int 0])), (rn, .inr (4, [.ref hy, .ref rs, .ref ri, .ref ra, .ref rt, .ref rg, .int 0, .int 0, .int 0, .int 0, .int 0, .int 0, .int 0, .int 0])), (pl, .inr (2, [.ref pn, .ref pt, .int 0, .int 999, .int 0, .int 5]))] H := hP
    have hD : va_D A [(xo, .inr (9, [.ref tp, .ref rd, .ref rn, .ref co, .ref wy, .ref sg, .ref sh, .ref pl, .ref sp, .int 0])), (rn, .inr (4, [.ref hy, .ref rs, .ref ri, .ref ra, .ref rt, .ref rg, .int 0, .int 0, .int 0, .int 0, .int 0, .int 0, .int 0, .int 0])), (pl, .inr (2, [.ref pn, .ref pt, .int 0, .int 999, .int 0, .int 5]))] := hD
    obtain rfl : r6 = 0 := hw6
    refine lv_iconst (v := (-1)) hx hb dX10_up_66 (by decide) ?_
    refine lv_ixor hx hb dX10_up_67 ?_
    refine lv_topi (fun v7 ev7 => ?_)
    obtain rfl : v7 = (-1) := ev7.trans (by decide)
    refine lv_iand hx hb dX10_up_68 ?_
    refine lv_topi (fun v8 ev8 => ?_)
    obtain rfl : v8 = 0 := ev8.trans (by decide)
    refine W.widen (k := 0) (n := 0) (by decide) (by decide) ?_
    exact W.iret (v := 0) hx hb hr (fun t ht hW => ⟨⟨0, (), rfl, (by unfold sp_up; repeat (first | rw [if_pos (by omega)] | rw [if_neg (by omega)])), trivial⟩, hS.F ht⟩) hS.2.2 dX10_up_69
  by_cases i_4_2 : p0.toInt = 2
  · refine lv_tableIn (off := 49) (tgt := 70) hx hb dX10_up_21 (by omega) (by omega) (by rw [i_4_2]; rfl) (by decide) ?_
    refine lv_iload_n hx hb dX10_up_70 rfl (lv_at hl 1 rfl) ?_
    refine lv_aload_n hx hb dX10_up_71 rfl (lv_at hl 2 rfl) ?_
    refine va_get (D := D) (ci := 9) (v := .ref pl) (C := RX10) (T := TX10) (N := 10) hx hb hts in_X10_up_X10 hown hK hP 0 rfl rfl 7 (by decide) (hts (.fieldLink RX10 56 "PowerRails" "plan" "LPowerRails$Plan;") (by decide +kernel)) (fun _ h9 => h9) rfl dX10_up_72 ?_
    refine lv_iload_n hx hb dX10_up_75 rfl (lv_at hl 1 rfl) ?_
    have hPc := hP.sub (ws' := [(pl, .inr (2, [.ref pn, .ref pt, .int 0, .int 999, .int 0, .int 5]))]) [2] rfl
    have hDc := hD.sub (ws' := [(pl, .inr (2, [.ref pn, .ref pt, .int 0, .int 999, .int 0, .int 5]))]) [2] (by decide) rfl
    have hFc := va_free (wc := [(pl, .inr (2, [.ref pn, .ref pt, .int 0, .int 999, .int 0, .int 5]))]) hD hS hA [2] rfl
    refine va_calli (va_runV (As := [.int 0]) (rest := [.int 0]) ⟨hx, hb, hml, hown, hts⟩ (c_upAmong0 l D cI cJ cZ cG cH H.size pl (0 : Int32) pn pt) (cwV 1 hts gX10_up_X3_upAmong rfl rfl rfl (by decide +kernel) ⟨Nat.le_of_ble_eq_true rfl, Nat.le_of_ble_eq_true rfl⟩) ⟨xPc_blind, va_recv hK hPc (ci := 2) (q0 := 0) rfl rfl, xPc_pre hPc hK hDc⟩ rfl rfl hl.1 rfl (lv_room (Nat.le_of_ble_eq_true rfl)) dX10_up_76 ⟨Nat.le_of_ble_eq_true rfl, Nat.le_of_ble_eq_true rfl⟩) hS (fun q _ h => hFc q h) hFc (fun r9 u t H1 locs ht hvm hw9 hB hz1 hk1 hS => ?_)
    obtain ⟨hP1, hK1, hD1⟩ := hB
    rw [ht] at hP1
    obtain ⟨hP, hD⟩ := va_join (wr := [(xo, .inr (9, [.ref tp, .ref rd, .ref rn, .ref co, .ref wy, .ref sg, .ref sh, .ref pl, .ref sp, .int 0])), (rn, .inr (4, [.ref hy, .ref rs, .ref ri, .ref ra, .ref rt, .ref rg, .int 0, .int 0, .int 0, .int 0, .int 0, .int 0, .int 0, .int 0]))]) (w1 := [(pl, .inr (2, [.ref pn, .ref pt, .int 0, .int 999, .int 0, .int 5]))]) hP hD [2] [0, 1] rfl rfl (by decide) (by decide) hk1 hFc hP1 hD1
    generalize H1 = H at hP hS ⊢
    have hP : va_P D vwCl [(xo, .inr (9, [.ref tp, .ref rd, .ref rn, .ref co, .ref wy, .ref sg, .ref sh, .ref pl, .ref sp, .int 0])), (rn, .inr (4, [.ref hy, .ref rs, .ref ri, .ref ra, .ref rt, .ref rg, .int 0, .int 0, .int 0, .int 0, .int 0, .int 0, .int 0, .int 0])), (pl, .inr (2, [.ref pn, .ref pt, .int 0, .int 999, .int 0, .int 5]))] H := hP
    have hD : va_D A [(xo, .inr (9, [.ref tp, .ref rd, .ref rn, .ref co, .ref wy, .ref sg, .ref sh, .ref pl, .ref sp, .int 0])), (rn, .inr (4, [.ref hy, .ref rs, .ref ri, .ref ra, .ref rt, .ref rg, .int 0, .int 0, .int 0, .int 0, .int 0, .int 0, .int 0, .int 0])), (pl, .inr (2, [.ref pn, .ref pt, .int 0, .int 999, .int 0, .int 5]))] := hD
    obtain rfl : r9 = 0 := hw9
    refine lv_iconst (v := (-1)) hx hb dX10_up_79 (by decide) ?_
    refine lv_ixor hx hb dX10_up_80 ?_
    refine lv_topi (fun v10 ev10 => ?_)
    obtain rfl : v10 = (-1) := ev10.trans (by decide)
    refine lv_iand hx hb dX10_up_81 ?_
    refine lv_topi (fun v11 ev11 => ?_)
    obtain rfl : v11 = 0 := ev11.trans (by decide)
    refine W.widen (k := 0) (n := 0) (by decide) (by decide) ?_
    exact W.iret (v := 0) hx hb hr (fun t ht hW => ⟨⟨0, (), rfl, (by unfold sp_up; repeat (first | rw [if_pos (by omega)] | rw [if_neg (by omega)])), trivial⟩, hS.F ht⟩) hS.2.2 dX10_up_82
  refine lv_tableOut (tgt := 83) hx hb dX10_up_21 (by omega) (by decide) ?_
  refine lv_iconst (v := (-1)) hx hb dX10_up_83 (by decide) ?_
  refine W.widen (k := 0) (n := 0) (by decide) (by decide) ?_
  exact W.iret (v := (-1)) hx hb hr (fun t ht hW => ⟨⟨(-1), (), rfl, (by unfold sp_up; repeat (first | rw [if_pos (by omega)] | rw [if_neg (by omega)])), trivial⟩, hS.F ht⟩) hS.2.2 dX10_up_84
theorem in_X10_when_X10 : ∀ w ∈ wsX100, w ∈ wsX10_when := by decide +kernel
abbrev W_x_when (cI cJ cZ cG cH : ClassId) (xo : Nat) (p0 : Int32) (p1 : Int32) (tp : Nat) (rd : Nat) (rn : Nat) (co : Nat) (wy : Nat) (sg : Nat) (sh : Nat) (pl : Nat) (sp : Nat) (pn : Nat) (pt : Nat) : va_W := [(xo, .inr (9, [.ref tp, .ref rd, .ref rn, .ref co, .ref wy, .ref sg, .ref sh, .ref pl, .ref sp, .int 0])), (pl, .inr (2, [.ref pn, .ref pt, .int 0, .int 999, .int 0, .int 5]))]
abbrev Q_x_when (D : va_G) (cI cJ cZ cG cH : ClassId) (xo : Nat) (p0 : Int32) (p1 : Int32) (tp : Nat) (rd : Nat) (rn : Nat) (co : Nat) (wy : Nat) (sg : Nat) (sh : Nat) (pl : Nat) (sp : Nat) (pn : Nat) (pt : Nat) (A : Nat → Prop) : Array Value → State → Outcome → State → Prop := va_Qi (fun (r : Int32) (_ : Unit) => r = (-1)) (fun _ t => True) A
abbrev rm_x_when : Room := { frames := 1, cells := 0, slots := 0, locals := 21 }
set_option maxRecDepth 100000 in
set_option maxHeartbeats 4000000 in
theorem c_x_when (l : Launch) (D : va_G) (cI cJ cZ cG cH : ClassId) (sz : Nat) (xo : Nat) (p0 : Int32) (p1 : Int32) (tp : Nat) (rd : Nat) (rn : Nat) (co : Nat) (wy : Nat) (sg : Nat) (sh : Nat) (pl : Nat) (sp : Nat) (pn : Nat) (pt : Nat) : Met l yX10_when wsX10_when rm_x_when (xPc [.ref xo, .int p0, .int p1] D (tyL cI cJ cZ cG cH) (W_x_when cI cJ cZ cG cH xo p0 p1 tp rd rn co wy sg sh pl sp pn pt) sz) (Q_x_when D cI cJ cZ cG cH xo p0 p1 tp rd rn co wy sg sh pl sp pn pt (va_A (W_x_when cI cJ cZ cG cH xo p0 p1 tp rd rn co wy sg sh pl sp pn pt) sz)) 0 0 (va_A (W_x_when cI cJ cZ cG cH xo p0 p1 tp rd rn co wy sg sh pl sp pn pt) sz) := by
  refine xMet (cc := cX10_when) (maxL := 3) (ret := (some .int)) (Qf := Q_x_when D cI cJ cZ cG cH xo p0 p1 tp rd rn co wy sg sh pl sp pn pt) (by decide) rfl (Nat.le_of_ble_eq_true rfl) ?_
  intro p e s m below meth c ls A hx hb hr hml hts hown hlocks hnm hsz hP hK hD hA hS hl
  have hown : s.vm.findClass RX10 = some m.cls := hown
  have hP : va_P D vwCl [(xo, .inr (9, [.ref tp, .ref rd, .ref rn, .ref co, .ref wy, .ref sg, .ref sh, .ref pl, .ref sp, .int 0])), (pl, .inr (2, [.ref pn, .ref pt, .int 0, .int 999, .int 0, .int 5]))] s.heap := hP
  have hD : va_D A [(xo, .inr (9, [.ref tp, .ref rd, .ref rn, .ref co, .ref wy, .ref sg, .ref sh, .ref pl, .ref sp, .int 0])), (pl, .inr (2, [.ref pn, .ref pt, .int 0, .int 999, .int 0, .int 5]))] := hD
  have hl : lv_has ls 3 [(0, .ref xo), (1, .int p0), (2, .int p1)] := hl
  refine lv_aload_n hx hb dX10_when_0 rfl (lv_at hl 0 rfl) ?_
  refine va_get (D := D) (ci := 9) (v := .ref pl) (C := RX10) (T := TX10) (N := 10) hx hb hts in_X10_when_X10 hown hK hP 0 rfl rfl 7 (by decide) (hts (.fieldLink RX10 56 "PowerRails" "plan" "LPowerRails$Plan;") (by decide +kernel)) (fun _ h9 => h9) rfl dX10_when_1 ?_
  refine lv_iload_n hx hb dX10_when_4 rfl (lv_at hl 1 rfl) ?_
  have hPc := hP.sub (ws' := [(pl, .inr (2, [.ref pn, .ref pt, .int 0, .int 999, .int 0, .int 5]))]) [1] rfl
  have hDc := hD.sub (ws' := [(pl, .inr (2, [.ref pn, .ref pt, .int 0, .int 999, .int 0, .int 5]))]) [1] (by decide) rfl
  have hFc := va_free (wc := [(pl, .inr (2, [.ref pn, .ref pt, .int 0, .int 999, .int 0, .int 5]))]) hD hS hA [1] rfl
  refine va_calli (va_runV (As := [.int p0]) (rest := []) ⟨hx, hb, hml, hown, hts⟩ (c_hasRail0 l D cI cJ cZ cG cH s.heap.size pl p0 pn pt) (cwV 1 hts gX10_when_X3_hasRail rfl rfl rfl (by decide +kernel) ⟨Nat.le_of_ble_eq_true rfl, Nat.le_of_ble_eq_true rfl⟩) ⟨xPc_blind, va_recv hK hPc (ci := 2) (q0 := 0) rfl rfl, xPc_pre hPc hK hDc⟩ rfl rfl hl.1 rfl (lv_room (Nat.le_of_ble_eq_true rfl)) dX10_when_5 ⟨Nat.le_of_ble_eq_true rfl, Nat.le_of_ble_eq_true rfl⟩) hS (fun q _ h => hFc q h) hFc (fun r1 u t H1 locs ht hvm hw1 hB hz1 hk1 hS => ?_)
  obtain ⟨hP1, hK1, hD1⟩ := hB
  rw [ht] at hP1
  obtain ⟨hP, hD⟩ := va_join (wr := [(xo, .inr (9, [.ref tp, .ref rd, .ref rn, .ref co, .ref wy, .ref sg, .ref sh, .ref pl, .ref sp, .int 0]))]) (w1 := [(pl, .inr (2, [.ref pn, .ref pt, .int 0, .int 999, .int 0, .int 5]))]) hP hD [1] [0] rfl rfl (by decide) (by decide) hk1 hFc hP1 hD1
  generalize H1 = H at hP hS ⊢
  have hP : va_P D vwCl [(xo, .inr (9, [.ref tp, .ref rd, .ref rn, .ref co, .ref wy, .ref sg, .ref sh, .ref pl, .ref sp, .int 0])), (pl, .inr (2, [.ref pn, .ref pt, .int 0, .int 999, .int 0, .int 5]))] H := hP
  have hD : va_D A [(xo, .inr (9, [.ref tp, .ref rd, .ref rn, .ref co, .ref wy, .ref sg, .ref sh, .ref pl, .ref sp, .int 0])), (pl, .inr (2, [.ref pn, .ref pt, .int 0, .int 999, .int 0, .int 5]))] := hD
  obtain rfl : r1 = 0 := hw1
  refine lv_if_eq (tgt := 20) hx hb dX10_when_8 (by decide) (fun _ => ?_) (fun c9 => absurd c9 (by decide))
  refine lv_iconst (v := (-1)) hx hb dX10_when_20 (by decide) ?_
  refine W.widen (k := 0) (n := 0) (by decide) (by decide) ?_
  exact W.iret (v := (-1)) hx hb hr (fun t ht hW => ⟨⟨(-1), (), rfl, rfl, trivial⟩, hS.F ht⟩) hS.2.2 dX10_when_21
theorem in_X10_ahead_X10 : ∀ w ∈ wsX100, w ∈ wsX10_ahead := by decide +kernel
abbrev W_x_ahead (cI cJ cZ cG cH : ClassId) (xo : Nat) (p0 : Int32) (p1 : Int32) (p2 : Int32) (tp : Nat) (rd : Nat) (rn : Nat) (co : Nat) (wy : Nat) (sg : Nat) (sh : Nat) (pl : Nat) (sp : Nat) (pn : Nat) (pt : Nat) : va_W := [(xo, .inr (9, [.ref tp, .ref rd, .ref rn, .ref co, .ref wy, .ref sg, .ref sh, .ref pl, .ref sp, .int 0])), (pl, .inr (2, [.ref pn, .ref pt, .int 0, .int 999, .int 0, .int 5]))]
abbrev Q_x_ahead (D : va_G) (cI cJ cZ cG cH : ClassId) (xo : Nat) (p0 : Int32) (p1 : Int32) (p2 : Int32) (tp : Nat) (rd : Nat) (rn : Nat) (co : Nat) (wy : Nat) (sg : Nat) (sh : Nat) (pl : Nat) (sp : Nat) (pn : Nat) (pt : Nat) (A : Nat → Prop) : Array Value → State → Outcome → State → Prop := va_Qi (fun (r : Int32) (_ : Unit) => r = (-1000)) (fun _ t => True) A
abbrev rm_x_ahead : Room := { frames := 1, cells := 0, slots := 0, locals := 21 }
set_option maxRecDepth 100000 in
set_option maxHeartbeats 4000000 in
theorem c_x_ahead (l : Launch) (D : va_G) (cI cJ cZ cG cH : ClassId) (sz : Nat) (xo : Nat) (p0 : Int32) (p1 : Int32) (p2 : Int32) (tp : Nat) (rd : Nat) (rn : Nat) (co : Nat) (wy : Nat) (sg : Nat) (sh : Nat) (pl : Nat) (sp : Nat) (pn : Nat) (pt : Nat) : Met l yX10_ahead wsX10_ahead rm_x_ahead (xPc [.ref xo, .int p0, .int p1, .int p2] D (tyL cI cJ cZ cG cH) (W_x_ahead cI cJ cZ cG cH xo p0 p1 p2 tp rd rn co wy sg sh pl sp pn pt) sz) (Q_x_ahead D cI cJ cZ cG cH xo p0 p1 p2 tp rd rn co wy sg sh pl sp pn pt (va_A (W_x_ahead cI cJ cZ cG cH xo p0 p1 p2 tp rd rn co wy sg sh pl sp pn pt) sz)) 0 0 (va_A (W_x_ahead cI cJ cZ cG cH xo p0 p1 p2 tp rd rn co wy sg sh pl sp pn pt) sz) := by
  refine xMet (cc := cX10_ahead) (maxL := 6) (ret := (some .int)) (Qf := Q_x_ahead D cI cJ cZ cG cH xo p0 p1 p2 tp rd rn co wy sg sh pl sp pn pt) (by decide) rfl (Nat.le_of_ble_eq_true rfl) ?_
  intro p e s m below meth c ls A hx hb hr hml hts hown hlocks hnm hsz hP hK hD hA hS hl
  have hown : s.vm.findClass RX10 = some m.cls := hown
  have hP : va_P D vwCl [(xo, .inr (9, [.ref tp, .ref rd, .ref rn, .ref co, .ref wy, .ref sg, .ref sh, .ref pl, .ref sp, .int 0])), (pl, .inr (2, [.ref pn, .ref pt, .int 0, .int 999, .int 0, .int 5]))] s.heap := hP
  have hD : va_D A [(xo, .inr (9, [.ref tp, .ref rd, .ref rn, .ref co, .ref wy, .ref sg, .ref sh, .ref pl, .ref sp, .int 0])), (pl, .inr (2, [.ref pn, .ref pt, .int 0, .int 999, .int 0, .int 5]))] := hD
  have hl : lv_has ls 6 [(0, .ref xo), (1, .int p0), (2, .int p1), (3, .int p2)] := hl
  refine lv_aload_n hx hb dX10_ahead_0 rfl (lv_at hl 0 rfl) ?_
  refine va_get (D := D) (ci := 9) (v := .ref pl) (C := RX10) (T := TX10) (N := 10) hx hb hts in_X10_ahead_X10 hown hK hP 0 rfl rfl 7 (by decide) (hts (.fieldLink RX10 56 "PowerRails" "plan" "LPowerRails$Plan;") (by decide +kernel)) (fun _ h9 => h9) rfl dX10_ahead_1 ?_
  refine lv_iload_n hx hb dX10_ahead_4 rfl (lv_at hl 1 rfl) ?_
  have hPc := hP.sub (ws' := [(pl, .inr (2, [.ref pn, .ref pt, .int 0, .int 999, .int 0, .int 5]))]) [1] rfl
  have hDc := hD.sub (ws' := [(pl, .inr (2, [.ref pn, .ref pt, .int 0, .int 999, .int 0, .int 5]))]) [1] (by decide) rfl
  have hFc := va_free (wc := [(pl, .inr (2, [.ref pn, .ref pt, .int 0, .int 999, .int 0, .int 5]))]) hD hS hA [1] rfl
  refine va_calli (va_runV (As := [.int p0]) (rest := []) ⟨hx, hb, hml, hown, hts⟩ (c_hasRail0 l D cI cJ cZ cG cH s.heap.size pl p0 pn pt) (cwV 1 hts gX10_ahead_X3_hasRail rfl rfl rfl (by decide +kernel) ⟨Nat.le_of_ble_eq_true rfl, Nat.le_of_ble_eq_true rfl⟩) ⟨xPc_blind, va_recv hK hPc (ci := 2) (q0 := 0) rfl rfl, xPc_pre hPc hK hDc⟩ rfl rfl hl.1 rfl (lv_room (Nat.le_of_ble_eq_true rfl)) dX10_ahead_5 ⟨Nat.le_of_ble_eq_true rfl, Nat.le_of_ble_eq_true rfl⟩) hS (fun q _ h => hFc q h) hFc (fun r1 u t H1 locs ht hvm hw1 hB hz1 hk1 hS => ?_)
  obtain ⟨hP1, hK1, hD1⟩ := hB
  rw [ht] at hP1
  obtain ⟨hP, hD⟩ := va_join (wr := [(xo, .inr (9, [.ref tp, .ref rd, .ref rn, .ref co, .ref wy, .ref sg, .ref sh, .ref pl, .ref sp, .int 0]))]) (w1 := [(pl, .inr (2, [.ref pn, .ref pt, .int 0, .int 999, .int 0, .int 5]))]) hP hD [1] [0] rfl rfl (by decide) (by decide) hk1 hFc hP1 hD1
  generalize H1 = H at hP hS ⊢
  have hP : va_P D vwCl [(xo, .inr (9, [.ref tp, .ref rd, .ref rn, .ref co, .ref wy, .ref sg, .ref sh, .ref pl, .ref sp, .int 0])), (pl, .inr (2, [.ref pn, .ref pt, .int 0, .int 999, .int 0, .int 5]))] H := hP
  have hD : va_D A [(xo, .inr (9, [.ref tp, .ref rd, .ref rn, .ref co, .ref wy, .ref sg, .ref sh, .ref pl, .ref sp, .int 0])), (pl, .inr (2, [.ref pn, .ref pt, .int 0, .int 999, .int 0, .int 5]))] := hD
  obtain rfl : r1 = 0 := hw1
  refine lv_if_eq (tgt := 36) hx hb dX10_ahead_8 (by decide) (fun _ => ?_) (fun c9 => absurd c9 (by decide))
  refine lv_sipush (v := (-1000)) hx hb dX10_ahead_36 (by decide) ?_
  refine W.widen (k := 0) (n := 0) (by decide) (by decide) ?_
  exact W.iret (v := (-1000)) hx hb hr (fun t ht hW => ⟨⟨(-1000), (), rfl, rfl, trivial⟩, hS.F ht⟩) hS.2.2 dX10_ahead_39
theorem in_X10_drawn_X10 : ∀ w ∈ wsX100, w ∈ wsX10_drawn := by decide +kernel
abbrev W_x_drawn (cI cJ cZ cG cH : ClassId) (xo : Nat) (p0 : Int32) (tp : Nat) (rd : Nat) (rn : Nat) (co : Nat) (wy : Nat) (sg : Nat) (sh : Nat) (pl : Nat) (sp : Nat) (pn : Nat) (pt : Nat) (cw : Nat) (ct : Nat) (cr : Nat) (cg : Nat) (cx : Nat) (hy : Nat) (rs : Nat) (ri : Nat) (ra : Nat) (rt : Nat) (rg : Nat) : va_W := [(xo, .inr (9, [.ref tp, .ref rd, .ref rn, .ref co, .ref wy, .ref sg, .ref sh, .ref pl, .ref sp, .int 0])), (pl, .inr (2, [.ref pn, .ref pt, .int 0, .int 999, .int 0, .int 5])), (co, .inr (0, [.ref cw, .ref ct, .ref cr, .ref cg, .ref cx, .int 0, .int 0, .int 0, .int 0])), (ct, .inl (cI, 8, .inl (fun _ => 0))), (rn, .inr (4, [.ref hy, .ref rs, .ref ri, .ref ra, .ref rt, .ref rg, .int 0, .int 0, .int 0, .int 0, .int 0, .int 0, .int 0, .int 0])), (rt, .inl (cI, 8, .inl (fun _ => 0)))]
abbrev Q_x_drawn (D : va_G) (cI cJ cZ cG cH : ClassId) (xo : Nat) (p0 : Int32) (tp : Nat) (rd : Nat) (rn : Nat) (co : Nat) (wy : Nat) (sg : Nat) (sh : Nat) (pl : Nat) (sp : Nat) (pn : Nat) (pt : Nat) (cw : Nat) (ct : Nat) (cr : Nat) (cg : Nat) (cx : Nat) (hy : Nat) (rs : Nat) (ri : Nat) (ra : Nat) (rt : Nat) (rg : Nat) (A : Nat → Prop) : Array Value → State → Outcome → State → Prop := va_Qi (fun (r : Int32) (_ : Unit) => r = sp_drawn p0) (fun _ t => True) A
abbrev rm_x_drawn : Room := { frames := 3, cells := 0, slots := 0, locals := 81 }
set_option maxRecDepth 100000 in
set_option maxHeartbeats 4000000 in
theorem c_x_drawn (l : Launch) (D : va_G) (cI cJ cZ cG cH : ClassId) (sz : Nat) (xo : Nat) (p0 : Int32) (tp : Nat) (rd : Nat) (rn : Nat) (co : Nat) (wy : Nat) (sg : Nat) (sh : Nat) (pl : Nat) (sp : Nat) (pn : Nat) (pt : Nat) (cw : Nat) (ct : Nat) (cr : Nat) (cg : Nat) (cx : Nat) (hy : Nat) (rs : Nat) (ri : Nat) (ra : Nat) (rt : Nat) (rg : Nat) : Met l yX10_drawn wsX10_drawn rm_x_drawn (xPc [.ref xo, .int p0] D (tyL cI cJ cZ cG cH) (W_x_drawn cI cJ cZ cG cH xo p0 tp rd rn co wy sg sh pl sp pn pt cw ct cr cg cx hy rs ri ra rt rg) sz) (Q_x_drawn D cI cJ cZ cG cH xo p0 tp rd rn co wy sg sh pl sp pn pt cw ct cr cg cx hy rs ri ra rt rg (va_A (W_x_drawn cI cJ cZ cG cH xo p0 tp rd rn co wy sg sh pl sp pn pt cw ct cr cg cx hy rs ri ra rt rg) sz)) 0 0 (va_A (W_x_drawn cI cJ cZ cG cH xo p0 tp rd rn co wy sg sh pl sp pn pt cw ct cr cg cx hy rs ri ra rt rg) sz) := by
  refine xMet (cc := cX10_drawn) (maxL := 2) (ret := (some .int)) (Qf := Q_x_drawn D cI cJ cZ cG cH xo p0 tp rd rn co wy sg sh pl sp pn pt cw ct cr cg cx hy rs ri ra rt rg) (by decide) rfl (Nat.le_of_ble_eq_true rfl) ?_
  intro p e s m below meth c ls A hx hb hr hml hts hown hlocks hnm hsz hP hK hD hA hS hl
  have hown : s.vm.findClass RX10 = some m.cls := hown
  have hP : va_P D vwCl [(xo, .inr (9, [.ref tp, .ref rd, .ref rn, .ref co, .ref wy, .ref sg, .ref sh, .ref pl, .ref sp, .int 0])), (pl, .inr (2, [.ref pn, .ref pt, .int 0, .int 999, .int 0, .int 5])), (co, .inr (0, [.ref cw, .ref ct, .ref cr, .ref cg, .ref cx, .int 0, .int 0, .int 0, .int 0])), (ct, .inl (cI, 8, .inl (fun _ => 0))), (rn, .inr (4, [.ref hy, .ref rs, .ref ri, .ref ra, .ref rt, .ref rg, .int 0, .int 0, .int 0, .int 0, .int 0, .int 0, .int 0, .int 0])), (rt, .inl (cI, 8, .inl (fun _ => 0)))] s.heap := hP
  have hD : va_D A [(xo, .inr (9, [.ref tp, .ref rd, .ref rn, .ref co, .ref wy, .ref sg, .ref sh, .ref pl, .ref sp, .int 0])), (pl, .inr (2, [.ref pn, .ref pt, .int 0, .int 999, .int 0, .int 5])), (co, .inr (0, [.ref cw, .ref ct, .ref cr, .ref cg, .ref cx, .int 0, .int 0, .int 0, .int 0])), (ct, .inl (cI, 8, .inl (fun _ => 0))), (rn, .inr (4, [.ref hy, .ref rs, .ref ri, .ref ra, .ref rt, .ref rg, .int 0, .int 0, .int 0, .int 0, .int 0, .int 0, .int 0, .int 0])), (rt, .inl (cI, 8, .inl (fun _ => 0)))] := hD
  have hl : lv_has ls 2 [(0, .ref xo), (1, .int p0)] := hl
  refine lv_iload_n hx hb dX10_drawn_0 rfl (lv_at hl 1 rfl) ?_
  refine lv_if_lt (tgt := 11) hx hb dX10_drawn_1 (by decide) (fun c_1 => ?_) (fun c_1 => ?_)
  · skip
    have i_1 : p0.toInt < 0 := (ilt rfl (by decide)).mp c_1
    refine lv_iconst (v := (-1)) hx hb dX10_drawn_11 (by decide) ?_
    refine W.widen (k := 0) (n := 0) (by decide) (by decide) ?_
    exact W.iret (v := (-1)) hx hb hr (fun t ht hW => ⟨⟨(-1), (), rfl, (by unfold sp_drawn; repeat (first | rw [if_pos (by omega)] | rw [if_neg (by omega)])), trivial⟩, hS.F ht⟩) hS.2.2 dX10_drawn_12
  · skip
    have i_1 : ¬ (p0.toInt < 0) := fun h9 => c_1 ((ilt rfl (by decide)).mpr h9)
    refine lv_iload_n hx hb dX10_drawn_4 rfl (lv_at hl 1 rfl) ?_
    refine lv_sipush (v := 999) hx hb dX10_drawn_5 (by decide) ?_
    refine lv_icmp_le (tgt := 13) hx hb dX10_drawn_8 (by decide) (fun c_2 => ?_) (fun c_2 => ?_)
    · skip
      have i_2 : p0.toInt ≤ 999 := (ile rfl (by decide)).mp c_2
      refine lv_aload_n hx hb dX10_drawn_13 rfl (lv_at hl 0 rfl) ?_
      have hPc := hP.sub (ws' := [(xo, .inr (9, [.ref tp, .ref rd, .ref rn, .ref co, .ref wy, .ref sg, .ref sh, .ref pl, .ref sp, .int 0])), (pl, .inr (2, [.ref pn, .ref pt, .int 0, .int 999, .int 0, .int 5])), (co, .inr (0, [.ref cw, .ref ct, .ref cr, .ref cg, .ref cx, .int 0, .int 0, .int 0, .int 0])), (ct, .inl (cI, 8, .inl (fun _ => 0))), (rn, .inr (4, [.ref hy, .ref rs, .ref ri, .ref ra, .ref rt, .ref rg, .int 0, .int 0, .int 0, .int 0, .int 0, .int 0, .int 0, .int 0])), (rt, .inl (cI, 8, .inl (fun _ => 0)))]) [0, 1, 2, 3, 4, 5] rfl
      have hDc := hD.sub (ws' := [(xo, .inr (9, [.ref tp, .ref rd, .ref rn, .ref co, .ref wy, .ref sg, .ref sh, .ref pl, .ref sp, .int 0])), (pl, .inr (2, [.ref pn, .ref pt, .int 0, .int 999, .int 0, .int 5])), (co, .inr (0, [.ref cw, .ref ct, .ref cr, .ref cg, .ref cx, .int 0, .int 0, .int 0, .int 0])), (ct, .inl (cI, 8, .inl (fun _ => 0))), (rn, .inr (4, [.ref hy, .ref rs, .ref ri, .ref ra, .ref rt, .ref rg, .int 0, .int 0, .int 0, .int 0, .int 0, .int 0, .int 0, .int 0])), (rt, .inl (cI, 8, .inl (fun _ => 0)))]) [0, 1, 2, 3, 4, 5] (by decide) rfl
      have hFc := va_free (wc := [(xo, .inr (9, [.ref tp, .ref rd, .ref rn, .ref co, .ref wy, .ref sg, .ref sh, .ref pl, .ref sp, .int 0])), (pl, .inr (2, [.ref pn, .ref pt, .int 0, .int 999, .int 0, .int 5])), (co, .inr (0, [.ref cw, .ref ct, .ref cr, .ref cg, .ref cx, .int 0, .int 0, .int 0, .int 0])), (ct, .inl (cI, 8, .inl (fun _ => 0))), (rn, .inr (4, [.ref hy, .ref rs, .ref ri, .ref ra, .ref rt, .ref rg, .int 0, .int 0, .int 0, .int 0, .int 0, .int 0, .int 0, .int 0])), (rt, .inl (cI, 8, .inl (fun _ => 0)))]) hD hS hA [0, 1, 2, 3, 4, 5] rfl
      refine va_callv (va_runV (As := []) (rest := []) ⟨hx, hb, hml, hown, hts⟩ (c_followTimes0 l D cI cJ cZ cG cH s.heap.size xo tp rd rn co wy sg sh pl sp pn pt cw ct cr cg cx hy rs ri ra rt rg) (cwV 0 hts gX10_drawn_X10_followTimes rfl rfl rfl (by decide +kernel) ⟨Nat.le_of_ble_eq_true rfl, Nat.le_of_ble_eq_true rfl⟩) ⟨xPc_blind, va_recv hK hPc (ci := 9) (q0 := 0) rfl rfl, xPc_pre hPc hK hDc⟩ rfl rfl hl.1 rfl (lv_room (Nat.le_of_ble_eq_true rfl)) dX10_drawn_14 ⟨Nat.le_of_ble_eq_true rfl, Nat.le_of_ble_eq_true rfl⟩) hS (fun q _ h => hFc q h) hFc (fun u t H1 locs ht hvm hw3 hB hz1 hk1 hS => ?_)
      obtain ⟨hP1, hK1, hD1⟩ := hB
      rw [ht] at hP1
      obtain ⟨hP, hD⟩ := va_join (wr := []) (w1 := [(xo, .inr (9, [.ref tp, .ref rd, .ref rn, .ref co, .ref wy, .ref sg, .ref sh, .ref pl, .ref sp, .int 0])), (pl, .inr (2, [.ref pn, .ref pt, .int 0, .int 999, .int 0, .int 5])), (co, .inr (0, [.ref cw, .ref ct, .ref cr, .ref cg, .ref cx, .int 0, .int 0, .int 0, .int 0]))]) hP hD [0, 1, 2, 3, 4, 5] [] rfl rfl (by decide) (by decide) hk1 hFc hP1 hD1
      generalize H1 = H at hP hS ⊢
      have hP : va_P D vwCl [(xo, .inr (9, [.ref tp, .ref rd, .ref rn, .ref co, .ref wy, .ref sg, .ref sh, .ref pl, .ref sp, .int 0])), (pl, .inr (2, [.ref pn, .ref pt, .int 0, .int 999, .int 0, .int 5])), (co, .inr (0, [.ref cw, .ref ct, .ref cr, .ref cg, .ref cx, .int 0, .int 0, .int 0, .int 0]))] H := hP
      have hD : va_D A [(xo, .inr (9, [.ref tp, .ref rd, .ref rn, .ref co, .ref wy, .ref sg, .ref sh, .ref pl, .ref sp, .int 0])), (pl, .inr (2, [.ref pn, .ref pt, .int 0, .int 999, .int 0, .int 5])), (co, .inr (0, [.ref cw, .ref ct, .ref cr, .ref cg, .ref cx, .int 0, .int 0, .int 0, .int 0]))] := hD
      refine lv_aload_n hx hb dX10_drawn_17 rfl (lv_at hl 0 rfl) ?_
      refine va_get (D := D) (ci := 9) (v := .ref co) (C := RX10) (T := TX10) (N := 10) hx hb hts in_X10_drawn_X10 hown hK hP 0 rfl rfl 3 (by decide) (hts (.fieldLink RX10 26 "PowerRails" "course" "LPowerRails$Course;") (by decide +kernel)) (fun _ h9 => h9) rfl dX10_drawn_18 ?_
      refine lv_aload_n hx hb dX10_drawn_21 rfl (lv_at hl 0 rfl) ?_
      refine va_get (D := D) (ci := 9) (v := .ref pl) (C := RX10) (T := TX10) (N := 10) hx hb hts in_X10_drawn_X10 hown hK hP 0 rfl rfl 7 (by decide) (hts (.fieldLink RX10 56 "PowerRails" "plan" "LPowerRails$Plan;") (by decide +kernel)) (fun _ h9 => h9) rfl dX10_drawn_22 ?_
      refine lv_iload_n hx hb dX10_drawn_25 rfl (lv_at hl 1 rfl) ?_
      have hPc := hP.sub (ws' := [(co, .inr (0, [.ref cw, .ref ct, .ref cr, .ref cg, .ref cx, .int 0, .int 0, .int 0, .int 0])), (pl, .inr (2, [.ref pn, .ref pt, .int 0, .int 999, .int 0, .int 5]))]) [2, 1] rfl
      have hDc := hD.sub (ws' := [(co, .inr (0, [.ref cw, .ref ct, .ref cr, .ref cg, .ref cx, .int 0, .int 0, .int 0, .int 0])), (pl, .inr (2, [.ref pn, .ref pt, .int 0, .int 999, .int 0, .int 5]))]) [2, 1] (by decide) rfl
      have hFc := va_free (wc := [(co, .inr (0, [.ref cw, .ref ct, .ref cr, .ref cg, .ref cx, .int 0, .int 0, .int 0, .int 0])), (pl, .inr (2, [.ref pn, .ref pt, .int 0, .int 999, .int 0, .int 5]))]) hD hS hA [2, 1] rfl
      refine va_calli (va_runV (As := [.ref pl, .int p0]) (rest := []) ⟨hx, hb, hml, hown, hts⟩ (c_drawnAt0 l D cI cJ cZ cG cH H.size co pl p0 cw ct cr cg cx pn pt) (cwV 2 hts gX10_drawn_X0_drawnAt rfl rfl rfl (by decide +kernel) ⟨Nat.le_of_ble_eq_true rfl, Nat.le_of_ble_eq_true rfl⟩) ⟨xPc_blind, va_recv hK hPc (ci := 0) (q0 := 0) rfl rfl, xPc_pre hPc hK hDc⟩ rfl rfl hl.1 rfl (lv_room (Nat.le_of_ble_eq_true rfl)) dX10_drawn_26 ⟨Nat.le_of_ble_eq_true rfl, Nat.le_of_ble_eq_true rfl⟩) hS (fun q _ h => hFc q h) hFc (fun r4 u t H1 locs ht hvm hw4 hB hz1 hk1 hS => ?_)
      obtain ⟨hP1, hK1, hD1⟩ := hB
      rw [ht] at hP1
      obtain ⟨hP, hD⟩ := va_join (wr := [(xo, .inr (9, [.ref tp, .ref rd, .ref rn, .ref co, .ref wy, .ref sg, .ref sh, .ref pl, .ref sp, .int 0]))]) (w1 := [(co, .inr (0, [.ref cw, .ref ct, .ref cr, .ref cg, .ref cx, .int 0, .int 0, .int 0, .int 0])), (pl, .inr (2, [.ref pn, .ref pt, .int 0, .int 999, .int 0, .int 5]))]) hP hD [2, 1] [0] rfl rfl (by decide) (by decide) hk1 hFc hP1 hD1
      generalize H1 = H at hP hS ⊢
      have hP : va_P D vwCl [(xo, .inr (9, [.ref tp, .ref rd, .ref rn, .ref co, .ref wy, .ref sg, .ref sh, .ref pl, .ref sp, .int 0])), (co, .inr (0, [.ref cw, .ref ct, .ref cr, .ref cg, .ref cx, .int 0, .int 0, .int 0, .int 0])), (pl, .inr (2, [.ref pn, .ref pt, .int 0, .int 999, .int 0, .int 5]))] H := hP
      have hD : va_D A [(xo, .inr (9, [.ref tp, .ref rd, .ref rn, .ref co, .ref wy, .ref sg, .ref sh, .ref pl, .ref sp, .int 0])), (co, .inr (0, [.ref cw, .ref ct, .ref cr, .ref cg, .ref cx, .int 0, .int 0, .int 0, .int 0])), (pl, .inr (2, [.ref pn, .ref pt, .int 0, .int 999, .int 0, .int 5]))] := hD
      obtain rfl : r4 = 0 := hw4
      refine W.widen (k := 0) (n := 0) (by decide) (by decide) ?_
      exact W.iret (v := 0) hx hb hr (fun t ht hW => ⟨⟨0, (), rfl, (by unfold sp_drawn; repeat (first | rw [if_pos (by omega)] | rw [if_neg (by omega)])), trivial⟩, hS.F ht⟩) hS.2.2 dX10_drawn_29
    · skip
      have i_2 : ¬ (p0.toInt ≤ 999) := fun h9 => c_2 ((ile rfl (by decide)).mpr h9)
      refine lv_iconst (v := (-1)) hx hb dX10_drawn_11 (by decide) ?_
      refine W.widen (k := 0) (n := 0) (by decide) (by decide) ?_
      exact W.iret (v := (-1)) hx hb hr (fun t ht hW => ⟨⟨(-1), (), rfl, (by unfold sp_drawn; repeat (first | rw [if_pos (by omega)] | rw [if_neg (by omega)])), trivial⟩, hS.F ht⟩) hS.2.2 dX10_drawn_12
theorem in_X10_peak_X10 : ∀ w ∈ wsX100, w ∈ wsX10_peak := by decide +kernel
abbrev W_x_peak (cI cJ cZ cG cH : ClassId) (xo : Nat) (p0 : Int32) (tp : Nat) (rd : Nat) (rn : Nat) (co : Nat) (wy : Nat) (sg : Nat) (sh : Nat) (pl : Nat) (sp : Nat) (pn : Nat) (pt : Nat) (hy : Nat) (rs : Nat) (ri : Nat) (ra : Nat) (rt : Nat) (rg : Nat) : va_W := [(xo, .inr (9, [.ref tp, .ref rd, .ref rn, .ref co, .ref wy, .ref sg, .ref sh, .ref pl, .ref sp, .int 0])), (pl, .inr (2, [.ref pn, .ref pt, .int 0, .int 999, .int 0, .int 5])), (rn, .inr (4, [.ref hy, .ref rs, .ref ri, .ref ra, .ref rt, .ref rg, .int 0, .int 0, .int 0, .int 0, .int 0, .int 0, .int 0, .int 0]))]
abbrev Q_x_peak (D : va_G) (cI cJ cZ cG cH : ClassId) (xo : Nat) (p0 : Int32) (tp : Nat) (rd : Nat) (rn : Nat) (co : Nat) (wy : Nat) (sg : Nat) (sh : Nat) (pl : Nat) (sp : Nat) (pn : Nat) (pt : Nat) (hy : Nat) (rs : Nat) (ri : Nat) (ra : Nat) (rt : Nat) (rg : Nat) (A : Nat → Prop) : Array Value → State → Outcome → State → Prop := va_Qi (fun (r : Int32) (_ : Unit) => r = sp_peak p0) (fun _ t => True) A
abbrev rm_x_peak : Room := { frames := 2, cells := 0, slots := 0, locals := 40 }
set_option maxRecDepth 100000 in
set_option maxHeartbeats 4000000 in
theorem c_x_peak (l : Launch) (D : va_G) (cI cJ cZ cG cH : ClassId) (sz : Nat) (xo : Nat) (p0 : Int32) (tp : Nat) (rd : Nat) (rn : Nat) (co : Nat) (wy : Nat) (sg : Nat) (sh : Nat) (pl : Nat) (sp : Nat) (pn : Nat) (pt : Nat) (hy : Nat) (rs : Nat) (ri : Nat) (ra : Nat) (rt : Nat) (rg : Nat) : Met l yX10_peak wsX10_peak rm_x_peak (xPc [.ref xo, .int p0] D (tyL cI cJ cZ cG cH) (W_x_peak cI cJ cZ cG cH xo p0 tp rd rn co wy sg sh pl sp pn pt hy rs ri ra rt rg) sz) (Q_x_peak D cI cJ cZ cG cH xo p0 tp rd rn co wy sg sh pl sp pn pt hy rs ri ra rt rg (va_A (W_x_peak cI cJ cZ cG cH xo p0 tp rd rn co wy sg sh pl sp pn pt hy rs ri ra rt rg) sz)) 0 0 (va_A (W_x_peak cI cJ cZ cG cH xo p0 tp rd rn co wy sg sh pl sp pn pt hy rs ri ra rt rg) sz) := by
  refine xMet (cc := cX10_peak) (maxL := 2) (ret := (some .int)) (Qf := Q_x_peak D cI cJ cZ cG cH xo p0 tp rd rn co wy sg sh pl sp pn pt hy rs ri ra rt rg) (by decide) rfl (Nat.le_of_ble_eq_true rfl) ?_
  intro p e s m below meth c ls A hx hb hr hml hts hown hlocks hnm hsz hP hK hD hA hS hl
  have hown : s.vm.findClass RX10 = some m.cls := hown
  have hP : va_P D vwCl [(xo, .inr (9, [.ref tp, .ref rd, .ref rn, .ref co, .ref wy, .ref sg, .ref sh, .ref pl, .ref sp, .int 0])), (pl, .inr (2, [.ref pn, .ref pt, .int 0, .int 999, .int 0, .int 5])), (rn, .inr (4, [.ref hy, .ref rs, .ref ri, .ref ra, .ref rt, .ref rg, .int 0, .int 0, .int 0, .int 0, .int 0, .int 0, .int 0, .int 0]))] s.heap := hP
  have hD : va_D A [(xo, .inr (9, [.ref tp, .ref rd, .ref rn, .ref co, .ref wy, .ref sg, .ref sh, .ref pl, .ref sp, .int 0])), (pl, .inr (2, [.ref pn, .ref pt, .int 0, .int 999, .int 0, .int 5])), (rn, .inr (4, [.ref hy, .ref rs, .ref ri, .ref ra, .ref rt, .ref rg, .int 0, .int 0, .int 0, .int 0, .int 0, .int 0, .int 0, .int 0]))] := hD
  have hl : lv_has ls 2 [(0, .ref xo), (1, .int p0)] := hl
  refine lv_iload_n hx hb dX10_peak_0 rfl (lv_at hl 1 rfl) ?_
  refine lv_if_lt (tgt := 9) hx hb dX10_peak_1 (by decide) (fun c_1 => ?_) (fun c_1 => ?_)
  · skip
    have i_1 : p0.toInt < 0 := (ilt rfl (by decide)).mp c_1
    refine lv_iconst (v := (-1)) hx hb dX10_peak_9 (by decide) ?_
    refine W.widen (k := 0) (n := 0) (by decide) (by decide) ?_
    exact W.iret (v := (-1)) hx hb hr (fun t ht hW => ⟨⟨(-1), (), rfl, (by unfold sp_peak; repeat (first | rw [if_pos (by omega)] | rw [if_neg (by omega)])), trivial⟩, hS.F ht⟩) hS.2.2 dX10_peak_10
  · skip
    have i_1 : ¬ (p0.toInt < 0) := fun h9 => c_1 ((ilt rfl (by decide)).mpr h9)
    refine lv_iload_n hx hb dX10_peak_4 rfl (lv_at hl 1 rfl) ?_
    refine lv_iconst (v := 3) hx hb dX10_peak_5 (by decide) ?_
    refine lv_icmp_le (tgt := 11) hx hb dX10_peak_6 (by decide) (fun c_2 => ?_) (fun c_2 => ?_)
    · skip
      have i_2 : p0.toInt ≤ 3 := (ile rfl (by decide)).mp c_2
      refine lv_iload_n hx hb dX10_peak_11 rfl (lv_at hl 1 rfl) ?_
      refine lv_iconst (v := 2) hx hb dX10_peak_12 (by decide) ?_
      refine lv_icmp_lt (tgt := 32) hx hb dX10_peak_13 (by decide) (fun c_3 => ?_) (fun c_3 => ?_)
      · skip
        have i_3 : p0.toInt < 2 := (ilt rfl (by decide)).mp c_3
        refine lv_aload_n hx hb dX10_peak_32 rfl (lv_at hl 0 rfl) ?_
        refine va_get (D := D) (ci := 9) (v := .ref pl) (C := RX10) (T := TX10) (N := 10) hx hb hts in_X10_peak_X10 hown hK hP 0 rfl rfl 7 (by decide) (hts (.fieldLink RX10 56 "PowerRails" "plan" "LPowerRails$Plan;") (by decide +kernel)) (fun _ h9 => h9) rfl dX10_peak_33 ?_
        refine lv_aload_n hx hb dX10_peak_36 rfl (lv_at hl 0 rfl) ?_
        have hPc := hP.sub (ws' := [(xo, .inr (9, [.ref tp, .ref rd, .ref rn, .ref co, .ref wy, .ref sg, .ref sh, .ref pl, .ref sp, .int 0])), (pl, .inr (2, [.ref pn, .ref pt, .int 0, .int 999, .int 0, .int 5])), (rn, .inr (4, [.ref hy, .ref rs, .ref ri, .ref ra, .ref rt, .ref rg, .int 0, .int 0, .int 0, .int 0, .int 0, .int 0, .int 0, .int 0]))]) [0, 1, 2] rfl
        have hDc := hD.sub (ws' := [(xo, .inr (9, [.ref tp, .ref rd, .ref rn, .ref co, .ref wy, .ref sg, .ref sh, .ref pl, .ref sp, .int 0])), (pl, .inr (2, [.ref pn, .ref pt, .int 0, .int 999, .int 0, .int 5])), (rn, .inr (4, [.ref hy, .ref rs, .ref ri, .ref ra, .ref rt, .ref rg, .int 0, .int 0, .int 0, .int 0, .int 0, .int 0, .int 0, .int 0]))]) [0, 1, 2] (by decide) rfl
        have hFc := va_free (wc := [(xo, .inr (9, [.ref tp, .ref rd, .ref rn, .ref co, .ref wy, .ref sg, .ref sh, .ref pl, .ref sp, .int 0])), (pl, .inr (2, [.ref pn, .ref pt, .int 0, .int 999, .int 0, .int 5])), (rn, .inr (4, [.ref hy, .ref rs, .ref ri, .ref ra, .ref rt, .ref rg, .int 0, .int 0, .int 0, .int 0, .int 0, .int 0, .int 0, .int 0]))]) hD hS hA [0, 1, 2] rfl
        refine va_calli (va_runV (As := []) (rest := [.ref pl]) ⟨hx, hb, hml, hown, hts⟩ (c_alive0 l D cI cJ cZ cG cH s.heap.size xo tp rd rn co wy sg sh pl sp pn pt hy rs ri ra rt rg) (cwV 0 hts gX10_peak_X10_alive rfl rfl rfl (by decide +kernel) ⟨Nat.le_of_ble_eq_true rfl, Nat.le_of_ble_eq_true rfl⟩) ⟨xPc_blind, va_recv hK hPc (ci := 9) (q0 := 0) rfl rfl, xPc_pre hPc hK hDc⟩ rfl rfl hl.1 rfl (lv_room (Nat.le_of_ble_eq_true rfl)) dX10_peak_37 ⟨Nat.le_of_ble_eq_true rfl, Nat.le_of_ble_eq_true rfl⟩) hS (fun q _ h => hFc q h) hFc (fun r4 u t H1 locs ht hvm hw4 hB hz1 hk1 hS => ?_)
        obtain ⟨hP1, hK1, hD1⟩ := hB
        rw [ht] at hP1
        obtain ⟨hP, hD⟩ := va_join (wr := []) (w1 := [(xo, .inr (9, [.ref tp, .ref rd, .ref rn, .ref co, .ref wy, .ref sg, .ref sh, .ref pl, .ref sp, .int 0])), (pl, .inr (2, [.ref pn, .ref pt, .int 0, .int 999, .int 0, .int 5])), (rn, .inr (4, [.ref hy, .ref rs, .ref ri, .ref ra, .ref rt, .ref rg, .int 0, .int 0, .int 0, .int 0, .int 0, .int 0, .int 0, .int 0]))]) hP hD [0, 1, 2] [] rfl rfl (by decide) (by decide) hk1 hFc hP1 hD1
        generalize H1 = H at hP hS ⊢
        have hP : va_P D vwCl [(xo, .inr (9, [.ref tp, .ref rd, .ref rn, .ref co, .ref wy, .ref sg, .ref sh, .ref pl, .ref sp, .int 0])), (pl, .inr (2, [.ref pn, .ref pt, .int 0, .int 999, .int 0, .int 5])), (rn, .inr (4, [.ref hy, .ref rs, .ref ri, .ref ra, .ref rt, .ref rg, .int 0, .int 0, .int 0, .int 0, .int 0, .int 0, .int 0, .int 0]))] H := hP
        have hD : va_D A [(xo, .inr (9, [.ref tp, .ref rd, .ref rn, .ref co, .ref wy, .ref sg, .ref sh, .ref pl, .ref sp, .int 0])), (pl, .inr (2, [.ref pn, .ref pt, .int 0, .int 999, .int 0, .int 5])), (rn, .inr (4, [.ref hy, .ref rs, .ref ri, .ref ra, .ref rt, .ref rg, .int 0, .int 0, .int 0, .int 0, .int 0, .int 0, .int 0, .int 0]))] := hD
        obtain rfl : r4 = 0 := hw4
        have hPc := hP.sub (ws' := [(pl, .inr (2, [.ref pn, .ref pt, .int 0, .int 999, .int 0, .int 5]))]) [1] rfl
        have hDc := hD.sub (ws' := [(pl, .inr (2, [.ref pn, .ref pt, .int 0, .int 999, .int 0, .int 5]))]) [1] (by decide) rfl
        have hFc := va_free (wc := [(pl, .inr (2, [.ref pn, .ref pt, .int 0, .int 999, .int 0, .int 5]))]) hD hS hA [1] rfl
        refine va_calli (va_runV (As := [.int 0]) (rest := []) ⟨hx, hb, hml, hown, hts⟩ (c_upAmong0 l D cI cJ cZ cG cH H.size pl (0 : Int32) pn pt) (cwV 1 hts gX10_peak_X3_upAmong rfl rfl rfl (by decide +kernel) ⟨Nat.le_of_ble_eq_true rfl, Nat.le_of_ble_eq_true rfl⟩) ⟨xPc_blind, va_recv hK hPc (ci := 2) (q0 := 0) rfl rfl, xPc_pre hPc hK hDc⟩ rfl rfl hl.1 rfl (lv_room (Nat.le_of_ble_eq_true rfl)) dX10_peak_40 ⟨Nat.le_of_ble_eq_true rfl, Nat.le_of_ble_eq_true rfl⟩) hS (fun q _ h => hFc q h) hFc (fun r5 u t H1 locs ht hvm hw5 hB hz1 hk1 hS => ?_)
        obtain ⟨hP1, hK1, hD1⟩ := hB
        rw [ht] at hP1
        obtain ⟨hP, hD⟩ := va_join (wr := [(xo, .inr (9, [.ref tp, .ref rd, .ref rn, .ref co, .ref wy, .ref sg, .ref sh, .ref pl, .ref sp, .int 0])), (rn, .inr (4, [.ref hy, .ref rs, .ref ri, .ref ra, .ref rt, .ref rg, .int 0, .int 0, .int 0, .int 0, .int 0, .int 0, .int 0, .int 0]))]) (w1 := [(pl, .inr (2, [.ref pn, .ref pt, .int 0, .int 999, .int 0, .int 5]))]) hP hD [1] [0, 2] rfl rfl (by decide) (by decide) hk1 hFc hP1 hD1
        generalize H1 = H at hP hS ⊢
        have hP : va_P D vwCl [(xo, .inr (9, [.ref tp, .ref rd, .ref rn, .ref co, .ref wy, .ref sg, .ref sh, .ref pl, .ref sp, .int 0])), (rn, .inr (4, [.ref hy, .ref rs, .ref ri, .ref ra, .ref rt, .ref rg, .int 0, .int 0, .int 0, .int 0, .int 0, .int 0, .int 0, .int 0])), (pl, .inr (2, [.ref pn, .ref pt, .int 0, .int 999, .int 0, .int 5]))] H := hP
        have hD : va_D A [(xo, .inr (9, [.ref tp, .ref rd, .ref rn, .ref co, .ref wy, .ref sg, .ref sh, .ref pl, .ref sp, .int 0])), (rn, .inr (4, [.ref hy, .ref rs, .ref ri, .ref ra, .ref rt, .ref rg, .int 0, .int 0, .int 0, .int 0, .int 0, .int 0, .int 0, .int 0])), (pl, .inr (2, [.ref pn, .ref pt, .int 0, .int 999, .int 0, .int 5]))] := hD
        obtain rfl : r5 = 0 := hw5
        refine lv_if_ne (tgt := 49) hx hb dX10_peak_43 (by decide) (fun c9 => absurd c9 (by decide)) (fun _ => ?_)
        refine lv_bipush (v := (-4)) hx hb dX10_peak_46 (by decide) ?_
        refine W.widen (k := 0) (n := 0) (by decide) (by decide) ?_
        exact W.iret (v := (-4)) hx hb hr (fun t ht hW => ⟨⟨(-4), (), rfl, (by unfold sp_peak; repeat (first | rw [if_pos (by omega)] | rw [if_neg (by omega)])), trivial⟩, hS.F ht⟩) hS.2.2 dX10_peak_48
      · skip
        have i_3 : ¬ (p0.toInt < 2) := fun h9 => c_3 ((ilt rfl (by decide)).mpr h9)
        refine lv_aload_n hx hb dX10_peak_16 rfl (lv_at hl 0 rfl) ?_
        refine va_get (D := D) (ci := 9) (v := .ref pl) (C := RX10) (T := TX10) (N := 10) hx hb hts in_X10_peak_X10 hown hK hP 0 rfl rfl 7 (by decide) (hts (.fieldLink RX10 56 "PowerRails" "plan" "LPowerRails$Plan;") (by decide +kernel)) (fun _ h9 => h9) rfl dX10_peak_17 ?_
        have hPc := hP.sub (ws' := [(pl, .inr (2, [.ref pn, .ref pt, .int 0, .int 999, .int 0, .int 5]))]) [1] rfl
        have hDc := hD.sub (ws' := [(pl, .inr (2, [.ref pn, .ref pt, .int 0, .int 999, .int 0, .int 5]))]) [1] (by decide) rfl
        have hFc := va_free (wc := [(pl, .inr (2, [.ref pn, .ref pt, .int 0, .int 999, .int 0, .int 5]))]) hD hS hA [1] rfl
        refine va_calli (va_runV (As := []) (rest := []) ⟨hx, hb, hml, hown, hts⟩ (c_countWays0 l D cI cJ cZ cG cH s.heap.size pl pn pt) (cwV 0 hts gX10_peak_X3_countWays rfl rfl rfl (by decide +kernel) ⟨Nat.le_of_ble_eq_true rfl, Nat.le_of_ble_eq_true rfl⟩) ⟨xPc_blind, va_recv hK hPc (ci := 2) (q0 := 0) rfl rfl, xPc_pre hPc hK hDc⟩ rfl rfl hl.1 rfl (lv_room (Nat.le_of_ble_eq_true rfl)) dX10_peak_20 ⟨Nat.le_of_ble_eq_true rfl, Nat.le_of_ble_eq_true rfl⟩) hS (fun q _ h => hFc q h) hFc (fun r6 u t H1 locs ht hvm hw6 hB hz1 hk1 hS => ?_)
        obtain ⟨hP1, hK1, hD1⟩ := hB
        rw [ht] at hP1
        obtain ⟨hP, hD⟩ := va_join (wr := [(xo, .inr (9, [.ref tp, .ref rd, .ref rn, .ref co, .ref wy, .ref sg, .ref sh, .ref pl, .ref sp, .int 0])), (rn, .inr (4, [.ref hy, .ref rs, .ref ri, .ref ra, .ref rt, .ref rg, .int 0, .int 0, .int 0, .int 0, .int 0, .int 0, .int 0, .int 0]))]) (w1 := [(pl, .inr (2, [.ref pn, .ref pt, .int 0, .int 999, .int 0, .int 5]))]) hP hD [1] [0, 2] rfl rfl (by decide) (by decide) hk1 hFc hP1 hD1
        generalize H1 = H at hP hS ⊢
        have hP : va_P D vwCl [(xo, .inr (9, [.ref tp, .ref rd, .ref rn, .ref co, .ref wy, .ref sg, .ref sh, .ref pl, .ref sp, .int 0])), (rn, .inr (4, [.ref hy, .ref rs, .ref ri, .ref ra, .ref rt, .ref rg, .int 0, .int 0, .int 0, .int 0, .int 0, .int 0, .int 0, .int 0])), (pl, .inr (2, [.ref pn, .ref pt, .int 0, .int 999, .int 0, .int 5]))] H := hP
        have hD : va_D A [(xo, .inr (9, [.ref tp, .ref rd, .ref rn, .ref co, .ref wy, .ref sg, .ref sh, .ref pl, .ref sp, .int 0])), (rn, .inr (4, [.ref hy, .ref rs, .ref ri, .ref ra, .ref rt, .ref rg, .int 0, .int 0, .int 0, .int 0, .int 0, .int 0, .int 0, .int 0])), (pl, .inr (2, [.ref pn, .ref pt, .int 0, .int 999, .int 0, .int 5]))] := hD
        obtain rfl : r6 = 1 := hw6
        refine lv_sipush (v := 20000) hx hb dX10_peak_23 (by decide) ?_
        refine lv_icmp_le (tgt := 32) hx hb dX10_peak_26 (by decide) (fun _ => ?_) (fun c9 => absurd c9 (by decide))
        refine lv_aload_n hx hb dX10_peak_32 rfl (lv_at hl 0 rfl) ?_
        refine va_get (D := D) (ci := 9) (v := .ref pl) (C := RX10) (T := TX10) (N := 10) hx hb hts in_X10_peak_X10 hown hK hP 0 rfl rfl 7 (by decide) (hts (.fieldLink RX10 56 "PowerRails" "plan" "LPowerRails$Plan;") (by decide +kernel)) (fun _ h9 => h9) rfl dX10_peak_33 ?_
        refine lv_aload_n hx hb dX10_peak_36 rfl (lv_at hl 0 rfl) ?_
        have hPc := hP.sub (ws' := [(xo, .inr (9, [.ref tp, .ref rd, .ref rn, .ref co, .ref wy, .ref sg, .ref sh, .ref pl, .ref sp, .int 0])), (pl, .inr (2, [.ref pn, .ref pt, .int 0, .int 999, .int 0, .int 5])), (rn, .inr (4, [.ref hy, .ref rs, .ref ri, .ref ra, .ref rt, .ref rg, .int 0, .int 0, .int 0, .int 0, .int 0, .int 0, .int 0, .int 0]))]) [0, 2, 1] rfl
        have hDc := hD.sub (ws' := [(xo, .inr (9, [.ref tp, .ref rd, .ref rn, .ref co, .ref wy, .ref sg, .ref sh, .ref pl, .ref sp, .int 0])), (pl, .inr (2, [.ref pn, .ref pt, .int 0, .int 999, .int 0, .int 5])), (rn, .inr (4, [.ref hy, .ref rs, .ref ri, .ref ra, .ref rt, .ref rg, .int 0, .int 0, .int 0, .int 0, .int 0, .int 0, .int 0, .int 0]))]) [0, 2, 1] (by decide) rfl
        have hFc := va_free (wc := [(xo, .inr (9, [.ref tp, .ref rd, .ref rn, .ref co, .ref wy, .ref sg, .ref sh, .ref pl, .ref sp, .int 0])), (pl, .inr (2, [.ref pn, .ref pt, .int 0, .int 999, .int 0, .int 5])), (rn, .inr (4, [.ref hy, .ref rs, .ref ri, .ref ra, .ref rt, .ref rg, .int 0, .int 0, .int 0, .int 0, .int 0, .int 0, .int 0, .int 0]))]) hD hS hA [0, 2, 1] rfl
        refine va_calli (va_runV (As := []) (rest := [.ref pl]) ⟨hx, hb, hml, hown, hts⟩ (c_alive0 l D cI cJ cZ cG cH H.size xo tp rd rn co wy sg sh pl sp pn pt hy rs ri ra rt rg) (cwV 0 hts gX10_peak_X10_alive rfl rfl rfl (by decide +kernel) ⟨Nat.le_of_ble_eq_true rfl, Nat.le_of_ble_eq_true rfl⟩) ⟨xPc_blind, va_recv hK hPc (ci := 9) (q0 := 0) rfl rfl, xPc_pre hPc hK hDc⟩ rfl rfl hl.1 rfl (lv_room (Nat.le_of_ble_eq_true rfl)) dX10_peak_37 ⟨Nat.le_of_ble_eq_true rfl, Nat.le_of_ble_eq_true rfl⟩) hS (fun q _ h => hFc q h) hFc (fun r7 u t H1 locs ht hvm hw7 hB hz1 hk1 hS => ?_)
        obtain ⟨hP1, hK1, hD1⟩ := hB
        rw [ht] at hP1
        obtain ⟨hP, hD⟩ := va_join (wr := []) (w1 := [(xo, .inr (9, [.ref tp, .ref rd, .ref rn, .ref co, .ref wy, .ref sg, .ref sh, .ref pl, .ref sp, .int 0])), (pl, .inr (2, [.ref pn, .ref pt, .int 0, .int 999, .int 0, .int 5])), (rn, .inr (4, [.ref hy, .ref rs, .ref ri, .ref ra, .ref rt, .ref rg, .int 0, .int 0, .int 0, .int 0, .int 0, .int 0, .int 0, .int 0]))]) hP hD [0, 2, 1] [] rfl rfl (by decide) (by decide) hk1 hFc hP1 hD1
        generalize H1 = H at hP hS ⊢
        have hP : va_P D vwCl [(xo, .inr (9, [.ref tp, .ref rd, .ref rn, .ref co, .ref wy, .ref sg, .ref sh, .ref pl, .ref sp, .int 0])), (pl, .inr (2, [.ref pn, .ref pt, .int 0, .int 999, .int 0, .int 5])), (rn, .inr (4, [.ref hy, .ref rs, .ref ri, .ref ra, .ref rt, .ref rg, .int 0, .int 0, .int 0, .int 0, .int 0, .int 0, .int 0, .int 0]))] H := hP
        have hD : va_D A [(xo, .inr (9, [.ref tp, .ref rd, .ref rn, .ref co, .ref wy, .ref sg, .ref sh, .ref pl, .ref sp, .int 0])), (pl, .inr (2, [.ref pn, .ref pt, .int 0, .int 999, .int 0, .int 5])), (rn, .inr (4, [.ref hy, .ref rs, .ref ri, .ref ra, .ref rt, .ref rg, .int 0, .int 0, .int 0, .int 0, .int 0, .int 0, .int 0, .int 0]))] := hD
        obtain rfl : r7 = 0 := hw7
        have hPc := hP.sub (ws' := [(pl, .inr (2, [.ref pn, .ref pt, .int 0, .int 999, .int 0, .int 5]))]) [1] rfl
        have hDc := hD.sub (ws' := [(pl, .inr (2, [.ref pn, .ref pt, .int 0, .int 999, .int 0, .int 5]))]) [1] (by decide) rfl
        have hFc := va_free (wc := [(pl, .inr (2, [.ref pn, .ref pt, .int 0, .int 999, .int 0, .int 5]))]) hD hS hA [1] rfl
        refine va_calli (va_runV (As := [.int 0]) (rest := []) ⟨hx, hb, hml, hown, hts⟩ (c_upAmong0 l D cI cJ cZ cG cH H.size pl (0 : Int32) pn pt) (cwV 1 hts gX10_peak_X3_upAmong rfl rfl rfl (by decide +kernel) ⟨Nat.le_of_ble_eq_true rfl, Nat.le_of_ble_eq_true rfl⟩) ⟨xPc_blind, va_recv hK hPc (ci := 2) (q0 := 0) rfl rfl, xPc_pre hPc hK hDc⟩ rfl rfl hl.1 rfl (lv_room (Nat.le_of_ble_eq_true rfl)) dX10_peak_40 ⟨Nat.le_of_ble_eq_true rfl, Nat.le_of_ble_eq_true rfl⟩) hS (fun q _ h => hFc q h) hFc (fun r8 u t H1 locs ht hvm hw8 hB hz1 hk1 hS => ?_)
        obtain ⟨hP1, hK1, hD1⟩ := hB
        rw [ht] at hP1
        obtain ⟨hP, hD⟩ := va_join (wr := [(xo, .inr (9, [.ref tp, .ref rd, .ref rn, .ref co, .ref wy, .ref sg, .ref sh, .ref pl, .ref sp, .int 0])), (rn, .inr (4, [.ref hy, .ref rs, .ref ri, .ref ra, .ref rt, .ref rg, .int 0, .int 0, .int 0, .int 0, .int 0, .int 0, .int 0, .int 0]))]) (w1 := [(pl, .inr (2, [.ref pn, .ref pt, .int 0, .int 999, .int 0, .int 5]))]) hP hD [1] [0, 2] rfl rfl (by decide) (by decide) hk1 hFc hP1 hD1
        generalize H1 = H at hP hS ⊢
        have hP : va_P D vwCl [(xo, .inr (9, [.ref tp, .ref rd, .ref rn, .ref co, .ref wy, .ref sg, .ref sh, .ref pl, .ref sp, .int 0])), (rn, .inr (4, [.ref hy, .ref rs, .ref ri, .ref ra, .ref rt, .ref rg, .int 0, .int 0, .int 0, .int 0, .int 0, .int 0, .int 0, .int 0])), (pl, .inr (2, [.ref pn, .ref pt, .int 0, .int 999, .int 0, .int 5]))] H := hP
        have hD : va_D A [(xo, .inr (9, [.ref tp, .ref rd, .ref rn, .ref co, .ref wy, .ref sg, .ref sh, .ref pl, .ref sp, .int 0])), (rn, .inr (4, [.ref hy, .ref rs, .ref ri, .ref ra, .ref rt, .ref rg, .int 0, .int 0, .int 0, .int 0, .int 0, .int 0, .int 0, .int 0])), (pl, .inr (2, [.ref pn, .ref pt, .int 0, .int 999, .int 0, .int 5]))] := hD
        obtain rfl : r8 = 0 := hw8
        refine lv_if_ne (tgt := 49) hx hb dX10_peak_43 (by decide) (fun c9 => absurd c9 (by decide)) (fun _ => ?_)
        refine lv_bipush (v := (-4)) hx hb dX10_peak_46 (by decide) ?_
        refine W.widen (k := 0) (n := 0) (by decide) (by decide) ?_
        exact W.iret (v := (-4)) hx hb hr (fun t ht hW => ⟨⟨(-4), (), rfl, (by unfold sp_peak; repeat (first | rw [if_pos (by omega)] | rw [if_neg (by omega)])), trivial⟩, hS.F ht⟩) hS.2.2 dX10_peak_48
    · skip
      have i_2 : ¬ (p0.toInt ≤ 3) := fun h9 => c_2 ((ile rfl (by decide)).mpr h9)
      refine lv_iconst (v := (-1)) hx hb dX10_peak_9 (by decide) ?_
      refine W.widen (k := 0) (n := 0) (by decide) (by decide) ?_
      exact W.iret (v := (-1)) hx hb hr (fun t ht hW => ⟨⟨(-1), (), rfl, (by unfold sp_peak; repeat (first | rw [if_pos (by omega)] | rw [if_neg (by omega)])), trivial⟩, hS.F ht⟩) hS.2.2 dX10_peak_10
theorem in_X10_stagger_X10 : ∀ w ∈ wsX100, w ∈ wsX10_stagger := by decide +kernel
theorem in_X10_stagger_X3 : ∀ w ∈ wsX30, w ∈ wsX10_stagger := by decide +kernel
theorem in_X10_stagger_X5 : ∀ w ∈ wsX50, w ∈ wsX10_stagger := by decide +kernel
theorem in_X10_stagger_X7 : ∀ w ∈ wsX70, w ∈ wsX10_stagger := by decide +kernel
abbrev W_x_stagger (cI cJ cZ cG cH : ClassId) (xo : Nat) (p0 : Int32) (tp : Nat) (rd : Nat) (rn : Nat) (co : Nat) (wy : Nat) (sg : Nat) (sh : Nat) (pl : Nat) (sp : Nat) (pn : Nat) (pt : Nat) (hy : Nat) (rs : Nat) (ri : Nat) (ra : Nat) (rt : Nat) (rg : Nat) (sr : Nat) (cw : Nat) (ct : Nat) (cr : Nat) (cg : Nat) (cx : Nat) : va_W := [(xo, .inr (9, [.ref tp, .ref rd, .ref rn, .ref co, .ref wy, .ref sg, .ref sh, .ref pl, .ref sp, .int 0])), (pl, .inr (2, [.ref pn, .ref pt, .int 0, .int 999, .int 0, .int 5])), (rn, .inr (4, [.ref hy, .ref rs, .ref ri, .ref ra, .ref rt, .ref rg, .int 0, .int 0, .int 0, .int 0, .int 0, .int 0, .int 0, .int 0])), (sg, .inr (6, [.ref co, .ref sr, .int 0, .int (-4)])), (sr, .inl (cI, 8, .inl (fun _ => 0))), (co, .inr (0, [.ref cw, .ref ct, .ref cr, .ref cg, .ref cx, .int 0, .int 0, .int 0, .int 0])), (cw, .inl (cI, 8, .inl (fun _ => 0))), (ct, .inl (cI, 8, .inl (fun _ => 0))), (rt, .inl (cI, 8, .inl (fun _ => 0)))]
abbrev Q_x_stagger (D : va_G) (cI cJ cZ cG cH : ClassId) (xo : Nat) (p0 : Int32) (tp : Nat) (rd : Nat) (rn : Nat) (co : Nat) (wy : Nat) (sg : Nat) (sh : Nat) (pl : Nat) (sp : Nat) (pn : Nat) (pt : Nat) (hy : Nat) (rs : Nat) (ri : Nat) (ra : Nat) (rt : Nat) (rg : Nat) (sr : Nat) (cw : Nat) (ct : Nat) (cr : Nat) (cg : Nat) (cx : Nat) (A : Nat → Prop) : Array Value → State → Outcome → State → Prop := va_Qi (fun (r : Int32) (_ : Unit) => r = sp_stagger p0) (fun _ t => True) A
abbrev rm_x_stagger : Room := { frames := 3, cells := 0, slots := 0, locals := 88 }
set_option maxRecDepth 100000 in
set_option maxHeartbeats 4000000 in
theorem c_x_stagger (l : Launch) (D : va_G) (cI cJ cZ cG cH : ClassId) (sz : Nat) (xo : Nat) (p0 : Int32) (tp : Nat) (rd : Nat) (rn : Nat) (co : Nat) (wy : Nat) (sg : Nat) (sh : Nat) (pl : Nat) (sp : Nat) (pn : Nat) (pt : Nat) (hy : Nat) (rs : Nat) (ri : Nat) (ra : Nat) (rt : Nat) (rg : Nat) (sr : Nat) (cw : Nat) (ct : Nat) (cr : Nat) (cg : Nat) (cx : Nat) : Met l yX10_stagger wsX10_stagger rm_x_stagger (xPc [.ref xo, .int p0] D (tyL cI cJ cZ cG cH) (W_x_stagger cI cJ cZ cG cH xo p0 tp rd rn co wy sg sh pl sp pn pt hy rs ri ra rt rg sr cw ct cr cg cx) sz) (Q_x_stagger D cI cJ cZ cG cH xo p0 tp rd rn co wy sg sh pl sp pn pt hy rs ri ra rt rg sr cw ct cr cg cx (va_A (W_x_stagger cI cJ cZ cG cH xo p0 tp rd rn co wy sg sh pl sp pn pt hy rs ri ra rt rg sr cw ct cr cg cx) sz)) 0 0 (va_A (W_x_stagger cI cJ cZ cG cH xo p0 tp rd rn co wy sg sh pl sp pn pt hy rs ri ra rt rg sr cw ct cr cg cx) sz) := by
  refine xMet (cc := cX10_stagger) (maxL := 2) (ret := (some .int)) (Qf := Q_x_stagger D cI cJ cZ cG cH xo p0 tp rd rn co wy sg sh pl sp pn pt hy rs ri ra rt rg sr cw ct cr cg cx) (by decide) rfl (Nat.le_of_ble_eq_true rfl) ?_
  intro p e s m below meth c ls A hx hb hr hml hts hown hlocks hnm hsz hP hK hD hA hS hl
  have hown : s.vm.findClass RX10 = some m.cls := hown
  have hP : va_P D vwCl [(xo, .inr (9, [.ref tp, .ref rd, .ref rn, .ref co, .ref wy, .ref sg, .ref sh, .ref pl, .ref sp, .int 0])), (pl, .inr (2, [.ref pn, .ref pt, .int 0, .int 999, .int 0, .int 5])), (rn, .inr (4, [.ref hy, .ref rs, .ref ri, .ref ra, .ref rt, .ref rg, .int 0, .int 0, .int 0, .int 0, .int 0, .int 0, .int 0, .int 0])), (sg, .inr (6, [.ref co, .ref sr, .int 0, .int (-4)])), (sr, .inl (cI, 8, .inl (fun _ => 0))), (co, .inr (0, [.ref cw, .ref ct, .ref cr, .ref cg, .ref cx, .int 0, .int 0, .int 0, .int 0])), (cw, .inl (cI, 8, .inl (fun _ => 0))), (ct, .inl (cI, 8, .inl (fun _ => 0))), (rt, .inl (cI, 8, .inl (fun _ => 0)))] s.heap := hP
  have hD : va_D A [(xo, .inr (9, [.ref tp, .ref rd, .ref rn, .ref co, .ref wy, .ref sg, .ref sh, .ref pl, .ref sp, .int 0])), (pl, .inr (2, [.ref pn, .ref pt, .int 0, .int 999, .int 0, .int 5])), (rn, .inr (4, [.ref hy, .ref rs, .ref ri, .ref ra, .ref rt, .ref rg, .int 0, .int 0, .int 0, .int 0, .int 0, .int 0, .int 0, .int 0])), (sg, .inr (6, [.ref co, .ref sr, .int 0, .int (-4)])), (sr, .inl (cI, 8, .inl (fun _ => 0))), (co, .inr (0, [.ref cw, .ref ct, .ref cr, .ref cg, .ref cx, .int 0, .int 0, .int 0, .int 0])), (cw, .inl (cI, 8, .inl (fun _ => 0))), (ct, .inl (cI, 8, .inl (fun _ => 0))), (rt, .inl (cI, 8, .inl (fun _ => 0)))] := hD
  have hl : lv_has ls 2 [(0, .ref xo), (1, .int p0)] := hl
  refine lv_iload_n hx hb dX10_stagger_0 rfl (lv_at hl 1 rfl) ?_
  refine lv_if_eq (tgt := 26) hx hb dX10_stagger_1 (by decide) (fun c_1 => ?_) (fun c_1 => ?_)
  · skip
    have i_1 : p0.toInt = 0 := (ieq rfl (by decide)).mp c_1
    refine lv_aload_n hx hb dX10_stagger_26 rfl (lv_at hl 0 rfl) ?_
    refine va_get (D := D) (ci := 9) (v := .ref pl) (C := RX10) (T := TX10) (N := 10) hx hb hts in_X10_stagger_X10 hown hK hP 0 rfl rfl 7 (by decide) (hts (.fieldLink RX10 56 "PowerRails" "plan" "LPowerRails$Plan;") (by decide +kernel)) (fun _ h9 => h9) rfl dX10_stagger_27 ?_
    refine va_get (D := D) (ci := 2) (v := .int 0) (C := RX3) (T := TX3) (N := 6) hx hb hts in_X10_stagger_X3 hown hK hP 1 rfl rfl 2 (by decide) (hts (.fieldLink RX10 117 "PowerRails$Plan" "rails" "I") (by decide +kernel)) (fun _ h9 => h9) rfl dX10_stagger_30 ?_
    refine lv_bipush (v := 6) hx hb dX10_stagger_33 (by decide) ?_
    refine lv_icmp_le (tgt := 41) hx hb dX10_stagger_35 (by decide) (fun _ => ?_) (fun c9 => absurd c9 (by decide))
    refine lv_aload_n hx hb dX10_stagger_41 rfl (lv_at hl 0 rfl) ?_
    refine va_get (D := D) (ci := 9) (v := .ref sg) (C := RX10) (T := TX10) (N := 10) hx hb hts in_X10_stagger_X10 hown hK hP 0 rfl rfl 5 (by decide) (hts (.fieldLink RX10 42 "PowerRails" "staggering" "LPowerRails$Stagger;") (by decide +kernel)) (fun _ h9 => h9) rfl dX10_stagger_42 ?_
    refine lv_aload_n hx hb dX10_stagger_45 rfl (lv_at hl 0 rfl) ?_
    refine va_get (D := D) (ci := 9) (v := .ref pl) (C := RX10) (T := TX10) (N := 10) hx hb hts in_X10_stagger_X10 hown hK hP 0 rfl rfl 7 (by decide) (hts (.fieldLink RX10 56 "PowerRails" "plan" "LPowerRails$Plan;") (by decide +kernel)) (fun _ h9 => h9) rfl dX10_stagger_46 ?_
    refine lv_aload_n hx hb dX10_stagger_49 rfl (lv_at hl 0 rfl) ?_
    have hPc := hP.sub (ws' := [(xo, .inr (9, [.ref tp, .ref rd, .ref rn, .ref co, .ref wy, .ref sg, .ref sh, .ref pl, .ref sp, .int 0])), (pl, .inr (2, [.ref pn, .ref pt, .int 0, .int 999, .int 0, .int 5])), (rn, .inr (4, [.ref hy, .ref rs, .ref ri, .ref ra, .ref rt, .ref rg, .int 0, .int 0, .int 0, .int 0, .int 0, .int 0, .int 0, .int 0]))]) [0, 1, 2] rfl
    have hDc := hD.sub (ws' := [(xo, .inr (9, [.ref tp, .ref rd, .ref rn, .ref co, .ref wy, .ref sg, .ref sh, .ref pl, .ref sp, .int 0])), (pl, .inr (2, [.ref pn, .ref pt, .int 0, .int 999, .int 0, .int 5])), (rn, .inr (4, [.ref hy, .ref rs, .ref ri, .ref ra, .ref rt, .ref rg, .int 0, .int 0, .int 0, .int 0, .int 0, .int 0, .int 0, .int 0]))]) [0, 1, 2] (by decide) rfl
    have hFc := va_free (wc := [(xo, .inr (9, [.ref tp, .ref rd, .ref rn, .ref co, .ref wy, .ref sg, .ref sh, .ref pl, .ref sp, .int 0])), (pl, .inr (2, [.ref pn, .ref pt, .int 0, .int 999, .int 0, .int 5])), (rn, .inr (4, [.ref hy, .ref rs, .ref ri, .ref ra, .ref rt, .ref rg, .int 0, .int 0, .int 0, .int 0, .int 0, .int 0, .int 0, .int 0]))]) hD hS hA [0, 1, 2] rfl
    refine va_calli (va_runV (As := []) (rest := [.ref pl, .ref sg]) ⟨hx, hb, hml, hown, hts⟩ (c_alive0 l D cI cJ cZ cG cH s.heap.size xo tp rd rn co wy sg sh pl sp pn pt hy rs ri ra rt rg) (cwV 0 hts gX10_stagger_X10_alive rfl rfl rfl (by decide +kernel) ⟨Nat.le_of_ble_eq_true rfl, Nat.le_of_ble_eq_true rfl⟩) ⟨xPc_blind, va_recv hK hPc (ci := 9) (q0 := 0) rfl rfl, xPc_pre hPc hK hDc⟩ rfl rfl hl.1 rfl (lv_room (Nat.le_of_ble_eq_true rfl)) dX10_stagger_50 ⟨Nat.le_of_ble_eq_true rfl, Nat.le_of_ble_eq_true rfl⟩) hS (fun q _ h => hFc q h) hFc (fun r2 u t H1 locs ht hvm hw2 hB hz1 hk1 hS => ?_)
    obtain ⟨hP1, hK1, hD1⟩ := hB
    rw [ht] at hP1
    obtain ⟨hP, hD⟩ := va_join (wr := [(sg, .inr (6, [.ref co, .ref sr, .int 0, .int (-4)])), (sr, .inl (cI, 8, .inl (fun _ => 0))), (co, .inr (0, [.ref cw, .ref ct, .ref cr, .ref cg, .ref cx, .int 0, .int 0, .int 0, .int 0])), (cw, .inl (cI, 8, .inl (fun _ => 0))), (ct, .inl (cI, 8, .inl (fun _ => 0))), (rt, .inl (cI, 8, .inl (fun _ => 0)))]) (w1 := [(xo, .inr (9, [.ref tp, .ref rd, .ref rn, .ref co, .ref wy, .ref sg, .ref sh, .ref pl, .ref sp, .int 0])), (pl, .inr (2, [.ref pn, .ref pt, .int 0, .int 999, .int 0, .int 5])), (rn, .inr (4, [.ref hy, .ref rs, .ref ri, .ref ra, .ref rt, .ref rg, .int 0, .int 0, .int 0, .int 0, .int 0, .int 0, .int 0, .int 0]))]) hP hD [0, 1, 2] [3, 4, 5, 6, 7, 8] rfl rfl (by decide) (by decide) hk1 hFc hP1 hD1
    generalize H1 = H at hP hS ⊢
    have hP : va_P D vwCl [(sg, .inr (6, [.ref co, .ref sr, .int 0, .int (-4)])), (sr, .inl (cI, 8, .inl (fun _ => 0))), (co, .inr (0, [.ref cw, .ref ct, .ref cr, .ref cg, .ref cx, .int 0, .int 0, .int 0, .int 0])), (cw, .inl (cI, 8, .inl (fun _ => 0))), (ct, .inl (cI, 8, .inl (fun _ => 0))), (rt, .inl (cI, 8, .inl (fun _ => 0))), (xo, .inr (9, [.ref tp, .ref rd, .ref rn, .ref co, .ref wy, .ref sg, .ref sh, .ref pl, .ref sp, .int 0])), (pl, .inr (2, [.ref pn, .ref pt, .int 0, .int 999, .int 0, .int 5])), (rn, .inr (4, [.ref hy, .ref rs, .ref ri, .ref ra, .ref rt, .ref rg, .int 0, .int 0, .int 0, .int 0, .int 0, .int 0, .int 0, .int 0]))] H := hP
    have hD : va_D A [(sg, .inr (6, [.ref co, .ref sr, .int 0, .int (-4)])), (sr, .inl (cI, 8, .inl (fun _ => 0))), (co, .inr (0, [.ref cw, .ref ct, .ref cr, .ref cg, .ref cx, .int 0, .int 0, .int 0, .int 0])), (cw, .inl (cI, 8, .inl (fun _ => 0))), (ct, .inl (cI, 8, .inl (fun _ => 0))), (rt, .inl (cI, 8, .inl (fun _ => 0))), (xo, .inr (9, [.ref tp, .ref rd, .ref rn, .ref co, .ref wy, .ref sg, .ref sh, .ref pl, .ref sp, .int 0])), (pl, .inr (2, [.ref pn, .ref pt, .int 0, .int 999, .int 0, .int 5])), (rn, .inr (4, [.ref hy, .ref rs, .ref ri, .ref ra, .ref rt, .ref rg, .int 0, .int 0, .int 0, .int 0, .int 0, .int 0, .int 0, .int 0]))] := hD
    obtain rfl : r2 = 0 := hw2
    refine lv_aload_n hx hb dX10_stagger_53 rfl (lv_at hl 0 rfl) ?_
    refine va_get (D := D) (ci := 9) (v := .ref rn) (C := RX10) (T := TX10) (N := 10) hx hb hts in_X10_stagger_X10 hown hK hP 6 rfl rfl 2 (by decide) (hts (.fieldLink RX10 19 "PowerRails" "run" "LPowerRails$Run;") (by decide +kernel)) (fun _ h9 => h9) rfl dX10_stagger_54 ?_
    refine va_get (D := D) (ci := 4) (v := .ref rt) (C := RX5) (T := TX5) (N := 14) hx hb hts in_X10_stagger_X5 hown hK hP 8 rfl rfl 4 (by decide) (hts (.fieldLink RX10 150 "PowerRails$Run" "takes" "[I") (by decide +kernel)) (fun _ h9 => h9) rfl dX10_stagger_57 ?_
    have hPc := hP.sub (ws' := [(sg, .inr (6, [.ref co, .ref sr, .int 0, .int (-4)])), (sr, .inl (cI, 8, .inl (fun _ => 0))), (co, .inr (0, [.ref cw, .ref ct, .ref cr, .ref cg, .ref cx, .int 0, .int 0, .int 0, .int 0])), (cw, .inl (cI, 8, .inl (fun _ => 0))), (ct, .inl (cI, 8, .inl (fun _ => 0))), (pl, .inr (2, [.ref pn, .ref pt, .int 0, .int 999, .int 0, .int 5])), (rt, .inl (cI, 8, .inl (fun _ => 0)))]) [0, 1, 2, 3, 4, 7, 5] rfl
    have hDc := hD.sub (ws' := [(sg, .inr (6, [.ref co, .ref sr, .int 0, .int (-4)])), (sr, .inl (cI, 8, .inl (fun _ => 0))), (co, .inr (0, [.ref cw, .ref ct, .ref cr, .ref cg, .ref cx, .int 0, .int 0, .int 0, .int 0])), (cw, .inl (cI, 8, .inl (fun _ => 0))), (ct, .inl (cI, 8, .inl (fun _ => 0))), (pl, .inr (2, [.ref pn, .ref pt, .int 0, .int 999, .int 0, .int 5])), (rt, .inl (cI, 8, .inl (fun _ => 0)))]) [0, 1, 2, 3, 4, 7, 5] (by decide) rfl
    have hFc := va_free (wc := [(sg, .inr (6, [.ref co, .ref sr, .int 0, .int (-4)])), (sr, .inl (cI, 8, .inl (fun _ => 0))), (co, .inr (0, [.ref cw, .ref ct, .ref cr, .ref cg, .ref cx, .int 0, .int 0, .int 0, .int 0])), (cw, .inl (cI, 8, .inl (fun _ => 0))), (ct, .inl (cI, 8, .inl (fun _ => 0))), (pl, .inr (2, [.ref pn, .ref pt, .int 0, .int 999, .int 0, .int 5])), (rt, .inl (cI, 8, .inl (fun _ => 0)))]) hD hS hA [0, 1, 2, 3, 4, 7, 5] rfl
    refine va_callv (va_runV (As := [.ref pl, .int 0, .ref rt]) (rest := []) ⟨hx, hb, hml, hown, hts⟩ (c_findRow0 l D cI cJ cZ cG cH H.size sg pl (0 : Int32) rt co sr cw ct cr cg cx pn pt) (cwV 3 hts gX10_stagger_X7_findRow rfl rfl rfl (by decide +kernel) ⟨Nat.le_of_ble_eq_true rfl, Nat.le_of_ble_eq_true rfl⟩) ⟨xPc_blind, va_recv hK hPc (ci := 6) (q0 := 0) rfl rfl, xPc_pre hPc hK hDc⟩ rfl rfl hl.1 rfl (lv_room (Nat.le_of_ble_eq_true rfl)) dX10_stagger_60 ⟨Nat.le_of_ble_eq_true rfl, Nat.le_of_ble_eq_true rfl⟩) hS (fun q _ h => hFc q h) hFc (fun u t H1 locs ht hvm hw3 hB hz1 hk1 hS => ?_)
    obtain ⟨hP1, hK1, hD1⟩ := hB
    rw [ht] at hP1
    obtain ⟨hP, hD⟩ := va_join (wr := [(xo, .inr (9, [.ref tp, .ref rd, .ref rn, .ref co, .ref wy, .ref sg, .ref sh, .ref pl, .ref sp, .int 0])), (rn, .inr (4, [.ref hy, .ref rs, .ref ri, .ref ra, .ref rt, .ref rg, .int 0, .int 0, .int 0, .int 0, .int 0, .int 0, .int 0, .int 0]))]) (w1 := [(sg, .inr (6, [.ref co, .ref sr, .int 1, .int (-4)])), (pl, .inr (2, [.ref pn, .ref pt, .int 0, .int 999, .int 0, .int 5]))]) hP hD [0, 1, 2, 3, 4, 7, 5] [6, 8] rfl rfl (by decide) (by decide) hk1 hFc hP1 hD1
    generalize H1 = H at hP hS ⊢
    have hP : va_P D vwCl [(xo, .inr (9, [.ref tp, .ref rd, .ref rn, .ref co, .ref wy, .ref sg, .ref sh, .ref pl, .ref sp, .int 0])), (rn, .inr (4, [.ref hy, .ref rs, .ref ri, .ref ra, .ref rt, .ref rg, .int 0, .int 0, .int 0, .int 0, .int 0, .int 0, .int 0, .int 0])), (sg, .inr (6, [.ref co, .ref sr, .int 1, .int (-4)])), (pl, .inr (2, [.ref pn, .ref pt, .int 0, .int 999, .int 0, .int 5]))] H := hP
    have hD : va_D A [(xo, .inr (9, [.ref tp, .ref rd, .ref rn, .ref co, .ref wy, .ref sg, .ref sh, .ref pl, .ref sp, .int 0])), (rn, .inr (4, [.ref hy, .ref rs, .ref ri, .ref ra, .ref rt, .ref rg, .int 0, .int 0, .int 0, .int 0, .int 0, .int 0, .int 0, .int 0])), (sg, .inr (6, [.ref co, .ref sr, .int 1, .int (-4)])), (pl, .inr (2, [.ref pn, .ref pt, .int 0, .int 999, .int 0, .int 5]))] := hD
    refine lv_iload_n hx hb dX10_stagger_63 rfl (lv_at hl 1 rfl) ?_
    refine lv_if_eq (tgt := 79) hx hb dX10_stagger_64 (by decide) (fun c_4 => ?_) (fun c_4 => ?_)
    · skip
      have i_4 : p0.toInt = 0 := (ieq rfl (by decide)).mp c_4
      refine lv_aload_n hx hb dX10_stagger_79 rfl (lv_at hl 0 rfl) ?_
      refine va_get (D := D) (ci := 9) (v := .ref sg) (C := RX10) (T := TX10) (N := 10) hx hb hts in_X10_stagger_X10 hown hK hP 0 rfl rfl 5 (by decide) (hts (.fieldLink RX10 42 "PowerRails" "staggering" "LPowerRails$Stagger;") (by decide +kernel)) (fun _ h9 => h9) rfl dX10_stagger_80 ?_
      refine va_get (D := D) (ci := 6) (v := .int (-4)) (C := RX7) (T := TX7) (N := 4) hx hb hts in_X10_stagger_X7 hown hK hP 2 rfl rfl 3 (by decide) (hts (.fieldLink RX10 263 "PowerRails$Stagger" "last" "I") (by decide +kernel)) (fun _ h9 => h9) rfl dX10_stagger_83 ?_
      refine W.widen (k := 0) (n := 0) (by decide) (by decide) ?_
      exact W.iret (v := (-4)) hx hb hr (fun t ht hW => ⟨⟨(-4), (), rfl, (by unfold sp_stagger; repeat (first | rw [if_pos (by omega)] | rw [if_neg (by omega)])), trivial⟩, hS.F ht⟩) hS.2.2 dX10_stagger_86
    · skip
      have i_4 : ¬ (p0.toInt = 0) := fun h9 => c_4 ((ieq rfl (by decide)).mpr h9)
      exfalso
      omega
  · skip
    have i_1 : ¬ (p0.toInt = 0) := fun h9 => c_1 ((ieq rfl (by decide)).mpr h9)
    refine lv_iload_n hx hb dX10_stagger_4 rfl (lv_at hl 1 rfl) ?_
    refine lv_bipush (v := 10) hx hb dX10_stagger_5 (by decide) ?_
    refine lv_icmp_lt (tgt := 24) hx hb dX10_stagger_7 (by decide) (fun c_5 => ?_) (fun c_5 => ?_)
    · skip
      have i_5 : p0.toInt < 10 := (ilt rfl (by decide)).mp c_5
      refine lv_iconst (v := (-1)) hx hb dX10_stagger_24 (by decide) ?_
      refine W.widen (k := 0) (n := 0) (by decide) (by decide) ?_
      exact W.iret (v := (-1)) hx hb hr (fun t ht hW => ⟨⟨(-1), (), rfl, (by unfold sp_stagger; repeat (first | rw [if_pos (by omega)] | rw [if_neg (by omega)])), trivial⟩, hS.F ht⟩) hS.2.2 dX10_stagger_25
    · skip
      have i_5 : ¬ (p0.toInt < 10) := fun h9 => c_5 ((ilt rfl (by decide)).mpr h9)
      refine lv_iload_n hx hb dX10_stagger_10 rfl (lv_at hl 1 rfl) ?_
      refine lv_bipush (v := 10) hx hb dX10_stagger_11 (by decide) ?_
      refine lv_aload_n hx hb dX10_stagger_13 rfl (lv_at hl 0 rfl) ?_
      refine va_get (D := D) (ci := 9) (v := .ref pl) (C := RX10) (T := TX10) (N := 10) hx hb hts in_X10_stagger_X10 hown hK hP 0 rfl rfl 7 (by decide) (hts (.fieldLink RX10 56 "PowerRails" "plan" "LPowerRails$Plan;") (by decide +kernel)) (fun _ h9 => h9) rfl dX10_stagger_14 ?_
      refine va_get (D := D) (ci := 2) (v := .int 0) (C := RX3) (T := TX3) (N := 6) hx hb hts in_X10_stagger_X3 hown hK hP 1 rfl rfl 2 (by decide) (hts (.fieldLink RX10 117 "PowerRails$Plan" "rails" "I") (by decide +kernel)) (fun _ h9 => h9) rfl dX10_stagger_17 ?_
      refine lv_iadd hx hb dX10_stagger_20 ?_
      refine lv_topi (fun v6 ev6 => ?_)
      obtain rfl : v6 = 10 := ev6.trans (by decide)
      refine lv_icmp_lt (tgt := 26) hx hb dX10_stagger_21 (by decide) (fun c_7 => ?_) (fun c_7 => ?_)
      · skip
        have i_7 : p0.toInt < 10 := (ilt rfl (by decide)).mp c_7
        exfalso
        omega
      · skip
        have i_7 : ¬ (p0.toInt < 10) := fun h9 => c_7 ((ilt rfl (by decide)).mpr h9)
        refine lv_iconst (v := (-1)) hx hb dX10_stagger_24 (by decide) ?_
        refine W.widen (k := 0) (n := 0) (by decide) (by decide) ?_
        exact W.iret (v := (-1)) hx hb hr (fun t ht hW => ⟨⟨(-1), (), rfl, (by unfold sp_stagger; repeat (first | rw [if_pos (by omega)] | rw [if_neg (by omega)])), trivial⟩, hS.F ht⟩) hS.2.2 dX10_stagger_25
theorem in_X10_adopt_X10 : ∀ w ∈ wsX100, w ∈ wsX10_adopt := by decide +kernel
theorem in_X10_adopt_X3 : ∀ w ∈ wsX30, w ∈ wsX10_adopt := by decide +kernel
theorem in_X10_adopt_X5 : ∀ w ∈ wsX50, w ∈ wsX10_adopt := by decide +kernel
theorem in_X10_adopt_X7 : ∀ w ∈ wsX70, w ∈ wsX10_adopt := by decide +kernel
abbrev W_x_adopt (cI cJ cZ cG cH : ClassId) (xo : Nat) (tp : Nat) (rd : Nat) (rn : Nat) (co : Nat) (wy : Nat) (sg : Nat) (sh : Nat) (pl : Nat) (sp : Nat) (pn : Nat) (pt : Nat) (hy : Nat) (rs : Nat) (ri : Nat) (ra : Nat) (rt : Nat) (rg : Nat) (sr : Nat) (cw : Nat) (ct : Nat) (cr : Nat) (cg : Nat) (cx : Nat) : va_W := [(xo, .inr (9, [.ref tp, .ref rd, .ref rn, .ref co, .ref wy, .ref sg, .ref sh, .ref pl, .ref sp, .int 0])), (pl, .inr (2, [.ref pn, .ref pt, .int 0, .int 999, .int 0, .int 5])), (rn, .inr (4, [.ref hy, .ref rs, .ref ri, .ref ra, .ref rt, .ref rg, .int 0, .int 0, .int 0, .int 0, .int 0, .int 0, .int 0, .int 0])), (sg, .inr (6, [.ref co, .ref sr, .int 0, .int (-4)])), (sr, .inl (cI, 8, .inl (fun _ => 0))), (co, .inr (0, [.ref cw, .ref ct, .ref cr, .ref cg, .ref cx, .int 0, .int 0, .int 0, .int 0])), (cw, .inl (cI, 8, .inl (fun _ => 0))), (ct, .inl (cI, 8, .inl (fun _ => 0))), (rt, .inl (cI, 8, .inl (fun _ => 0)))]
abbrev Q_x_adopt (D : va_G) (cI cJ cZ cG cH : ClassId) (xo : Nat) (tp : Nat) (rd : Nat) (rn : Nat) (co : Nat) (wy : Nat) (sg : Nat) (sh : Nat) (pl : Nat) (sp : Nat) (pn : Nat) (pt : Nat) (hy : Nat) (rs : Nat) (ri : Nat) (ra : Nat) (rt : Nat) (rg : Nat) (sr : Nat) (cw : Nat) (ct : Nat) (cr : Nat) (cg : Nat) (cx : Nat) (A : Nat → Prop) : Array Value → State → Outcome → State → Prop := va_Qi (fun (r : Int32) (_ : Unit) => r = (-4)) (fun _ t => True) A
abbrev rm_x_adopt : Room := { frames := 3, cells := 0, slots := 0, locals := 88 }
set_option maxRecDepth 100000 in
set_option maxHeartbeats 4000000 in
theorem c_x_adopt (l : Launch) (D : va_G) (cI cJ cZ cG cH : ClassId) (sz : Nat) (xo : Nat) (tp : Nat) (rd : Nat) (rn : Nat) (co : Nat) (wy : Nat) (sg : Nat) (sh : Nat) (pl : Nat) (sp : Nat) (pn : Nat) (pt : Nat) (hy : Nat) (rs : Nat) (ri : Nat) (ra : Nat) (rt : Nat) (rg : Nat) (sr : Nat) (cw : Nat) (ct : Nat) (cr : Nat) (cg : Nat) (cx : Nat) : Met l yX10_adopt wsX10_adopt rm_x_adopt (xPc [.ref xo] D (tyL cI cJ cZ cG cH) (W_x_adopt cI cJ cZ cG cH xo tp rd rn co wy sg sh pl sp pn pt hy rs ri ra rt rg sr cw ct cr cg cx) sz) (Q_x_adopt D cI cJ cZ cG cH xo tp rd rn co wy sg sh pl sp pn pt hy rs ri ra rt rg sr cw ct cr cg cx (va_A (W_x_adopt cI cJ cZ cG cH xo tp rd rn co wy sg sh pl sp pn pt hy rs ri ra rt rg sr cw ct cr cg cx) sz)) 0 0 (va_A (W_x_adopt cI cJ cZ cG cH xo tp rd rn co wy sg sh pl sp pn pt hy rs ri ra rt rg sr cw ct cr cg cx) sz) := by
  refine xMet (cc := cX10_adopt) (maxL := 2) (ret := (some .int)) (Qf := Q_x_adopt D cI cJ cZ cG cH xo tp rd rn co wy sg sh pl sp pn pt hy rs ri ra rt rg sr cw ct cr cg cx) (by decide) rfl (Nat.le_of_ble_eq_true rfl) ?_
  intro p e s m below meth c ls A hx hb hr hml hts hown hlocks hnm hsz hP hK hD hA hS hl
  have hown : s.vm.findClass RX10 = some m.cls := hown
  have hP : va_P D vwCl [(xo, .inr (9, [.ref tp, .ref rd, .ref rn, .ref co, .ref wy, .ref sg, .ref sh, .ref pl, .ref sp, .int 0])), (pl, .inr (2, [.ref pn, .ref pt, .int 0, .int 999, .int 0, .int 5])), (rn, .inr (4, [.ref hy, .ref rs, .ref ri, .ref ra, .ref rt, .ref rg, .int 0, .int 0, .int 0, .int 0, .int 0, .int 0, .int 0, .int 0])), (sg, .inr (6, [.ref co, .ref sr, .int 0, .int (-4)])), (sr, .inl (cI, 8, .inl (fun _ => 0))), (co, .inr (0, [.ref cw, .ref ct, .ref cr, .ref cg, .ref cx, .int 0, .int 0, .int 0, .int 0])), (cw, .inl (cI, 8, .inl (fun _ => 0))), (ct, .inl (cI, 8, .inl (fun _ => 0))), (rt, .inl (cI, 8, .inl (fun _ => 0)))] s.heap := hP
  have hD : va_D A [(xo, .inr (9, [.ref tp, .ref rd, .ref rn, .ref co, .ref wy, .ref sg, .ref sh, .ref pl, .ref sp, .int 0])), (pl, .inr (2, [.ref pn, .ref pt, .int 0, .int 999, .int 0, .int 5])), (rn, .inr (4, [.ref hy, .ref rs, .ref ri, .ref ra, .ref rt, .ref rg, .int 0, .int 0, .int 0, .int 0, .int 0, .int 0, .int 0, .int 0])), (sg, .inr (6, [.ref co, .ref sr, .int 0, .int (-4)])), (sr, .inl (cI, 8, .inl (fun _ => 0))), (co, .inr (0, [.ref cw, .ref ct, .ref cr, .ref cg, .ref cx, .int 0, .int 0, .int 0, .int 0])), (cw, .inl (cI, 8, .inl (fun _ => 0))), (ct, .inl (cI, 8, .inl (fun _ => 0))), (rt, .inl (cI, 8, .inl (fun _ => 0)))] := hD
  have hl : lv_has ls 2 [(0, .ref xo)] := hl
  refine lv_aload_n hx hb dX10_adopt_0 rfl (lv_at hl 0 rfl) ?_
  refine va_get (D := D) (ci := 9) (v := .ref pl) (C := RX10) (T := TX10) (N := 10) hx hb hts in_X10_adopt_X10 hown hK hP 0 rfl rfl 7 (by decide) (hts (.fieldLink RX10 56 "PowerRails" "plan" "LPowerRails$Plan;") (by decide +kernel)) (fun _ h9 => h9) rfl dX10_adopt_1 ?_
  refine va_get (D := D) (ci := 2) (v := .int 0) (C := RX3) (T := TX3) (N := 6) hx hb hts in_X10_adopt_X3 hown hK hP 1 rfl rfl 2 (by decide) (hts (.fieldLink RX10 117 "PowerRails$Plan" "rails" "I") (by decide +kernel)) (fun _ h9 => h9) rfl dX10_adopt_4 ?_
  refine lv_bipush (v := 6) hx hb dX10_adopt_7 (by decide) ?_
  refine lv_icmp_le (tgt := 15) hx hb dX10_adopt_9 (by decide) (fun _ => ?_) (fun c9 => absurd c9 (by decide))
  refine lv_aload_n hx hb dX10_adopt_15 rfl (lv_at hl 0 rfl) ?_
  refine va_get (D := D) (ci := 9) (v := .ref sg) (C := RX10) (T := TX10) (N := 10) hx hb hts in_X10_adopt_X10 hown hK hP 0 rfl rfl 5 (by decide) (hts (.fieldLink RX10 42 "PowerRails" "staggering" "LPowerRails$Stagger;") (by decide +kernel)) (fun _ h9 => h9) rfl dX10_adopt_16 ?_
  refine lv_aload_n hx hb dX10_adopt_19 rfl (lv_at hl 0 rfl) ?_
  refine va_get (D := D) (ci := 9) (v := .ref pl) (C := RX10) (T := TX10) (N := 10) hx hb hts in_X10_adopt_X10 hown hK hP 0 rfl rfl 7 (by decide) (hts (.fieldLink RX10 56 "PowerRails" "plan" "LPowerRails$Plan;") (by decide +kernel)) (fun _ h9 => h9) rfl dX10_adopt_20 ?_
  refine lv_aload_n hx hb dX10_adopt_23 rfl (lv_at hl 0 rfl) ?_
  have hPc := hP.sub (ws' := [(xo, .inr (9, [.ref tp, .ref rd, .ref rn, .ref co, .ref wy, .ref sg, .ref sh, .ref pl, .ref sp, .int 0])), (pl, .inr (2, [.ref pn, .ref pt, .int 0, .int 999, .int 0, .int 5])), (rn, .inr (4, [.ref hy, .ref rs, .ref ri, .ref ra, .ref rt, .ref rg, .int 0, .int 0, .int 0, .int 0, .int 0, .int 0, .int 0, .int 0]))]) [0, 1, 2] rfl
  have hDc := hD.sub (ws' := [(xo, .inr (9, [.ref tp, .ref rd, .ref rn, .ref co, .ref wy, .ref sg, .ref sh, .ref pl, .ref sp, .int 0])), (pl, .inr (2, [.ref pn, .ref pt, .int 0, .int 999, .int 0, .int 5])), (rn, .inr (4, [.ref hy, .ref rs, .ref ri, .ref ra, .ref rt, .ref rg, .int 0, .int 0, .int 0, .int 0, .int 0, .int 0, .int 0, .int 0]))]) [0, 1, 2] (by decide) rfl
  have hFc := va_free (wc := [(xo, .inr (9, [.ref tp, .ref rd, .ref rn, .ref co, .ref wy, .ref sg, .ref sh, .ref pl, .ref sp, .int 0])), (pl, .inr (2, [.ref pn, .ref pt, .int 0, .int 999, .int 0, .int 5])), (rn, .inr (4, [.ref hy, .ref rs, .ref ri, .ref ra, .ref rt, .ref rg, .int 0, .int 0, .int 0, .int 0, .int 0, .int 0, .int 0, .int 0]))]) hD hS hA [0, 1, 2] rfl
  refine va_calli (va_runV (As := []) (rest := [.ref pl, .ref sg]) ⟨hx, hb, hml, hown, hts⟩ (c_alive0 l D cI cJ cZ cG cH s.heap.size xo tp rd rn co wy sg sh pl sp pn pt hy rs ri ra rt rg) (cwV 0 hts gX10_adopt_X10_alive rfl rfl rfl (by decide +kernel) ⟨Nat.le_of_ble_eq_true rfl, Nat.le_of_ble_eq_true rfl⟩) ⟨xPc_blind, va_recv hK hPc (ci := 9) (q0 := 0) rfl rfl, xPc_pre hPc hK hDc⟩ rfl rfl hl.1 rfl (lv_room (Nat.le_of_ble_eq_true rfl)) dX10_adopt_24 ⟨Nat.le_of_ble_eq_true rfl, Nat.le_of_ble_eq_true rfl⟩) hS (fun q _ h => hFc q h) hFc (fun r1 u t H1 locs ht hvm hw1 hB hz1 hk1 hS => ?_)
  obtain ⟨hP1, hK1, hD1⟩ := hB
  rw [ht] at hP1
  obtain ⟨hP, hD⟩ := va_join (wr := [(sg, .inr (6, [.ref co, .ref sr, .int 0, .int (-4)])), (sr, .inl (cI, 8, .inl (fun _ => 0))), (co, .inr (0, [.ref cw, .ref ct, .ref cr, .ref cg, .ref cx, .int 0, .int 0, .int 0, .int 0])), (cw, .inl (cI, 8, .inl (fun _ => 0))), (ct, .inl (cI, 8, .inl (fun _ => 0))), (rt, .inl (cI, 8, .inl (fun _ => 0)))]) (w1 := [(xo, .inr (9, [.ref tp, .ref rd, .ref rn, .ref co, .ref wy, .ref sg, .ref sh, .ref pl, .ref sp, .int 0])), (pl, .inr (2, [.ref pn, .ref pt, .int 0, .int 999, .int 0, .int 5])), (rn, .inr (4, [.ref hy, .ref rs, .ref ri, .ref ra, .ref rt, .ref rg, .int 0, .int 0, .int 0, .int 0, .int 0, .int 0, .int 0, .int 0]))]) hP hD [0, 1, 2] [3, 4, 5, 6, 7, 8] rfl rfl (by decide) (by decide) hk1 hFc hP1 hD1
  generalize H1 = H at hP hS ⊢
  have hP : va_P D vwCl [(sg, .inr (6, [.ref co, .ref sr, .int 0, .int (-4)])), (sr, .inl (cI, 8, .inl (fun _ => 0))), (co, .inr (0, [.ref cw, .ref ct, .ref cr, .ref cg, .ref cx, .int 0, .int 0, .int 0, .int 0])), (cw, .inl (cI, 8, .inl (fun _ => 0))), (ct, .inl (cI, 8, .inl (fun _ => 0))), (rt, .inl (cI, 8, .inl (fun _ => 0))), (xo, .inr (9, [.ref tp, .ref rd, .ref rn, .ref co, .ref wy, .ref sg, .ref sh, .ref pl, .ref sp, .int 0])), (pl, .inr (2, [.ref pn, .ref pt, .int 0, .int 999, .int 0, .int 5])), (rn, .inr (4, [.ref hy, .ref rs, .ref ri, .ref ra, .ref rt, .ref rg, .int 0, .int 0, .int 0, .int 0, .int 0, .int 0, .int 0, .int 0]))] H := hP
  have hD : va_D A [(sg, .inr (6, [.ref co, .ref sr, .int 0, .int (-4)])), (sr, .inl (cI, 8, .inl (fun _ => 0))), (co, .inr (0, [.ref cw, .ref ct, .ref cr, .ref cg, .ref cx, .int 0, .int 0, .int 0, .int 0])), (cw, .inl (cI, 8, .inl (fun _ => 0))), (ct, .inl (cI, 8, .inl (fun _ => 0))), (rt, .inl (cI, 8, .inl (fun _ => 0))), (xo, .inr (9, [.ref tp, .ref rd, .ref rn, .ref co, .ref wy, .ref sg, .ref sh, .ref pl, .ref sp, .int 0])), (pl, .inr (2, [.ref pn, .ref pt, .int 0, .int 999, .int 0, .int 5])), (rn, .inr (4, [.ref hy, .ref rs, .ref ri, .ref ra, .ref rt, .ref rg, .int 0, .int 0, .int 0, .int 0, .int 0, .int 0, .int 0, .int 0]))] := hD
  obtain rfl : r1 = 0 := hw1
  refine lv_aload_n hx hb dX10_adopt_27 rfl (lv_at hl 0 rfl) ?_
  refine va_get (D := D) (ci := 9) (v := .ref rn) (C := RX10) (T := TX10) (N := 10) hx hb hts in_X10_adopt_X10 hown hK hP 6 rfl rfl 2 (by decide) (hts (.fieldLink RX10 19 "PowerRails" "run" "LPowerRails$Run;") (by decide +kernel)) (fun _ h9 => h9) rfl dX10_adopt_28 ?_
  refine va_get (D := D) (ci := 4) (v := .ref rt) (C := RX5) (T := TX5) (N := 14) hx hb hts in_X10_adopt_X5 hown hK hP 8 rfl rfl 4 (by decide) (hts (.fieldLink RX10 150 "PowerRails$Run" "takes" "[I") (by decide +kernel)) (fun _ h9 => h9) rfl dX10_adopt_31 ?_
  have hPc := hP.sub (ws' := [(sg, .inr (6, [.ref co, .ref sr, .int 0, .int (-4)])), (sr, .inl (cI, 8, .inl (fun _ => 0))), (co, .inr (0, [.ref cw, .ref ct, .ref cr, .ref cg, .ref cx, .int 0, .int 0, .int 0, .int 0])), (cw, .inl (cI, 8, .inl (fun _ => 0))), (ct, .inl (cI, 8, .inl (fun _ => 0))), (pl, .inr (2, [.ref pn, .ref pt, .int 0, .int 999, .int 0, .int 5])), (rt, .inl (cI, 8, .inl (fun _ => 0)))]) [0, 1, 2, 3, 4, 7, 5] rfl
  have hDc := hD.sub (ws' := [(sg, .inr (6, [.ref co, .ref sr, .int 0, .int (-4)])), (sr, .inl (cI, 8, .inl (fun _ => 0))), (co, .inr (0, [.ref cw, .ref ct, .ref cr, .ref cg, .ref cx, .int 0, .int 0, .int 0, .int 0])), (cw, .inl (cI, 8, .inl (fun _ => 0))), (ct, .inl (cI, 8, .inl (fun _ => 0))), (pl, .inr (2, [.ref pn, .ref pt, .int 0, .int 999, .int 0, .int 5])), (rt, .inl (cI, 8, .inl (fun _ => 0)))]) [0, 1, 2, 3, 4, 7, 5] (by decide) rfl
  have hFc := va_free (wc := [(sg, .inr (6, [.ref co, .ref sr, .int 0, .int (-4)])), (sr, .inl (cI, 8, .inl (fun _ => 0))), (co, .inr (0, [.ref cw, .ref ct, .ref cr, .ref cg, .ref cx, .int 0, .int 0, .int 0, .int 0])), (cw, .inl (cI, 8, .inl (fun _ => 0))), (ct, .inl (cI, 8, .inl (fun _ => 0))), (pl, .inr (2, [.ref pn, .ref pt, .int 0, .int 999, .int 0, .int 5])), (rt, .inl (cI, 8, .inl (fun _ => 0)))]) hD hS hA [0, 1, 2, 3, 4, 7, 5] rfl
  refine va_callv (va_runV (As := [.ref pl, .int 0, .ref rt]) (rest := []) ⟨hx, hb, hml, hown, hts⟩ (c_findRow0 l D cI cJ cZ cG cH H.size sg pl (0 : Int32) rt co sr cw ct cr cg cx pn pt) (cwV 3 hts gX10_adopt_X7_findRow rfl rfl rfl (by decide +kernel) ⟨Nat.le_of_ble_eq_true rfl, Nat.le_of_ble_eq_true rfl⟩) ⟨xPc_blind, va_recv hK hPc (ci := 6) (q0 := 0) rfl rfl, xPc_pre hPc hK hDc⟩ rfl rfl hl.1 rfl (lv_room (Nat.le_of_ble_eq_true rfl)) dX10_adopt_34 ⟨Nat.le_of_ble_eq_true rfl, Nat.le_of_ble_eq_true rfl⟩) hS (fun q _ h => hFc q h) hFc (fun u t H1 locs ht hvm hw2 hB hz1 hk1 hS => ?_)
  obtain ⟨hP1, hK1, hD1⟩ := hB
  rw [ht] at hP1
  obtain ⟨hP, hD⟩ := va_join (wr := [(xo, .inr (9, [.ref tp, .ref rd, .ref rn, .ref co, .ref wy, .ref sg, .ref sh, .ref pl, .ref sp, .int 0])), (rn, .inr (4, [.ref hy, .ref rs, .ref ri, .ref ra, .ref rt, .ref rg, .int 0, .int 0, .int 0, .int 0, .int 0, .int 0, .int 0, .int 0]))]) (w1 := [(sg, .inr (6, [.ref co, .ref sr, .int 1, .int (-4)])), (pl, .inr (2, [.ref pn, .ref pt, .int 0, .int 999, .int 0, .int 5]))]) hP hD [0, 1, 2, 3, 4, 7, 5] [6, 8] rfl rfl (by decide) (by decide) hk1 hFc hP1 hD1
  generalize H1 = H at hP hS ⊢
  have hP : va_P D vwCl [(xo, .inr (9, [.ref tp, .ref rd, .ref rn, .ref co, .ref wy, .ref sg, .ref sh, .ref pl, .ref sp, .int 0])), (rn, .inr (4, [.ref hy, .ref rs, .ref ri, .ref ra, .ref rt, .ref rg, .int 0, .int 0, .int 0, .int 0, .int 0, .int 0, .int 0, .int 0])), (sg, .inr (6, [.ref co, .ref sr, .int 1, .int (-4)])), (pl, .inr (2, [.ref pn, .ref pt, .int 0, .int 999, .int 0, .int 5]))] H := hP
  have hD : va_D A [(xo, .inr (9, [.ref tp, .ref rd, .ref rn, .ref co, .ref wy, .ref sg, .ref sh, .ref pl, .ref sp, .int 0])), (rn, .inr (4, [.ref hy, .ref rs, .ref ri, .ref ra, .ref rt, .ref rg, .int 0, .int 0, .int 0, .int 0, .int 0, .int 0, .int 0, .int 0])), (sg, .inr (6, [.ref co, .ref sr, .int 1, .int (-4)])), (pl, .inr (2, [.ref pn, .ref pt, .int 0, .int 999, .int 0, .int 5]))] := hD
  refine lv_aload_n hx hb dX10_adopt_37 rfl (lv_at hl 0 rfl) ?_
  refine va_get (D := D) (ci := 9) (v := .ref sg) (C := RX10) (T := TX10) (N := 10) hx hb hts in_X10_adopt_X10 hown hK hP 0 rfl rfl 5 (by decide) (hts (.fieldLink RX10 42 "PowerRails" "staggering" "LPowerRails$Stagger;") (by decide +kernel)) (fun _ h9 => h9) rfl dX10_adopt_38 ?_
  refine va_get (D := D) (ci := 6) (v := .int (-4)) (C := RX7) (T := TX7) (N := 4) hx hb hts in_X10_adopt_X7 hown hK hP 2 rfl rfl 3 (by decide) (hts (.fieldLink RX10 263 "PowerRails$Stagger" "last" "I") (by decide +kernel)) (fun _ h9 => h9) rfl dX10_adopt_41 ?_
  refine lv_istore_n (lv' := [(1, .int (-4)), (0, .ref xo)]) hx hb dX10_adopt_44 rfl hl (by decide) rfl (fun ls hl => ?_)
  refine lv_iload_n hx hb dX10_adopt_45 rfl (lv_at hl 0 rfl) ?_
  refine lv_bipush (v := (-4)) hx hb dX10_adopt_46 (by decide) ?_
  refine lv_icmp_eq (tgt := 69) hx hb dX10_adopt_48 (by decide) (fun _ => ?_) (fun c9 => absurd c9 (by decide))
  refine lv_iload_n hx hb dX10_adopt_69 rfl (lv_at hl 0 rfl) ?_
  refine W.widen (k := 0) (n := 0) (by decide) (by decide) ?_
  exact W.iret (v := (-4)) hx hb hr (fun t ht hW => ⟨⟨(-4), (), rfl, rfl, trivial⟩, hS.F ht⟩) hS.2.2 dX10_adopt_70
theorem in_X10_down_X10 : ∀ w ∈ wsX100, w ∈ wsX10_down := by decide +kernel
abbrev W_x_down (cI cJ cZ cG cH : ClassId) (xo : Nat) (p0 : Int32) (tp : Nat) (rd : Nat) (rn : Nat) (co : Nat) (wy : Nat) (sg : Nat) (sh : Nat) (pl : Nat) (sp : Nat) (pn : Nat) (pt : Nat) (hy : Nat) (rs : Nat) (ri : Nat) (ra : Nat) (rt : Nat) (rg : Nat) : va_W := [(xo, .inr (9, [.ref tp, .ref rd, .ref rn, .ref co, .ref wy, .ref sg, .ref sh, .ref pl, .ref sp, .int 0])), (pl, .inr (2, [.ref pn, .ref pt, .int 0, .int 999, .int 0, .int 5])), (rn, .inr (4, [.ref hy, .ref rs, .ref ri, .ref ra, .ref rt, .ref rg, .int 0, .int 0, .int 0, .int 0, .int 0, .int 0, .int 0, .int 0]))]
abbrev Q_x_down (D : va_G) (cI cJ cZ cG cH : ClassId) (xo : Nat) (p0 : Int32) (tp : Nat) (rd : Nat) (rn : Nat) (co : Nat) (wy : Nat) (sg : Nat) (sh : Nat) (pl : Nat) (sp : Nat) (pn : Nat) (pt : Nat) (hy : Nat) (rs : Nat) (ri : Nat) (ra : Nat) (rt : Nat) (rg : Nat) (A : Nat → Prop) : Array Value → State → Outcome → State → Prop := va_Qi (fun (r : Int32) (_ : Unit) => r = sp_down p0) (fun _ t => True) A
abbrev rm_x_down : Room := { frames := 2, cells := 0, slots := 0, locals := 40 }
set_option maxRecDepth 100000 in
set_option maxHeartbeats 4000000 in
theorem c_x_down (l : Launch) (D : va_G) (cI cJ cZ cG cH : ClassId) (sz : Nat) (xo : Nat) (p0 : Int32) (tp : Nat) (rd : Nat) (rn : Nat) (co : Nat) (wy : Nat) (sg : Nat) (sh : Nat) (pl : Nat) (sp : Nat) (pn : Nat) (pt : Nat) (hy : Nat) (rs : Nat) (ri : Nat) (ra : Nat) (rt : Nat) (rg : Nat) : Met l yX10_down wsX10_down rm_x_down (xPc [.ref xo, .int p0] D (tyL cI cJ cZ cG cH) (W_x_down cI cJ cZ cG cH xo p0 tp rd rn co wy sg sh pl sp pn pt hy rs ri ra rt rg) sz) (Q_x_down D cI cJ cZ cG cH xo p0 tp rd rn co wy sg sh pl sp pn pt hy rs ri ra rt rg (va_A (W_x_down cI cJ cZ cG cH xo p0 tp rd rn co wy sg sh pl sp pn pt hy rs ri ra rt rg) sz)) 0 0 (va_A (W_x_down cI cJ cZ cG cH xo p0 tp rd rn co wy sg sh pl sp pn pt hy rs ri ra rt rg) sz) := by
  refine xMet (cc := cX10_down) (maxL := 2) (ret := (some .int)) (Qf := Q_x_down D cI cJ cZ cG cH xo p0 tp rd rn co wy sg sh pl sp pn pt hy rs ri ra rt rg) (by decide) rfl (Nat.le_of_ble_eq_true rfl) ?_
  intro p e s m below meth c ls A hx hb hr hml hts hown hlocks hnm hsz hP hK hD hA hS hl
  have hown : s.vm.findClass RX10 = some m.cls := hown
  have hP : va_P D vwCl [(xo, .inr (9, [.ref tp, .ref rd, .ref rn, .ref co, .ref wy, .ref sg, .ref sh, .ref pl, .ref sp, .int 0])), (pl, .inr (2, [.ref pn, .ref pt, .int 0, .int 999, .int 0, .int 5])), (rn, .inr (4, [.ref hy, .ref rs, .ref ri, .ref ra, .ref rt, .ref rg, .int 0, .int 0, .int 0, .int 0, .int 0, .int 0, .int 0, .int 0]))] s.heap := hP
  have hD : va_D A [(xo, .inr (9, [.ref tp, .ref rd, .ref rn, .ref co, .ref wy, .ref sg, .ref sh, .ref pl, .ref sp, .int 0])), (pl, .inr (2, [.ref pn, .ref pt, .int 0, .int 999, .int 0, .int 5])), (rn, .inr (4, [.ref hy, .ref rs, .ref ri, .ref ra, .ref rt, .ref rg, .int 0, .int 0, .int 0, .int 0, .int 0, .int 0, .int 0, .int 0]))] := hD
  have hl : lv_has ls 2 [(0, .ref xo), (1, .int p0)] := hl
  refine lv_iload_n hx hb dX10_down_0 rfl (lv_at hl 1 rfl) ?_
  refine lv_aload_n hx hb dX10_down_1 rfl (lv_at hl 0 rfl) ?_
  refine va_get (D := D) (ci := 9) (v := .ref pl) (C := RX10) (T := TX10) (N := 10) hx hb hts in_X10_down_X10 hown hK hP 0 rfl rfl 7 (by decide) (hts (.fieldLink RX10 56 "PowerRails" "plan" "LPowerRails$Plan;") (by decide +kernel)) (fun _ h9 => h9) rfl dX10_down_2 ?_
  have hPc := hP.sub (ws' := [(pl, .inr (2, [.ref pn, .ref pt, .int 0, .int 999, .int 0, .int 5]))]) [1] rfl
  have hDc := hD.sub (ws' := [(pl, .inr (2, [.ref pn, .ref pt, .int 0, .int 999, .int 0, .int 5]))]) [1] (by decide) rfl
  have hFc := va_free (wc := [(pl, .inr (2, [.ref pn, .ref pt, .int 0, .int 999, .int 0, .int 5]))]) hD hS hA [1] rfl
  refine va_calli (va_runV (As := []) (rest := [.int p0]) ⟨hx, hb, hml, hown, hts⟩ (c_allRails0 l D cI cJ cZ cG cH s.heap.size pl pn pt) (cwV 0 hts gX10_down_X3_allRails rfl rfl rfl (by decide +kernel) ⟨Nat.le_of_ble_eq_true rfl, Nat.le_of_ble_eq_true rfl⟩) ⟨xPc_blind, va_recv hK hPc (ci := 2) (q0 := 0) rfl rfl, xPc_pre hPc hK hDc⟩ rfl rfl hl.1 rfl (lv_room (Nat.le_of_ble_eq_true rfl)) dX10_down_5 ⟨Nat.le_of_ble_eq_true rfl, Nat.le_of_ble_eq_true rfl⟩) hS (fun q _ h => hFc q h) hFc (fun r1 u t H1 locs ht hvm hw1 hB hz1 hk1 hS => ?_)
  obtain ⟨hP1, hK1, hD1⟩ := hB
  rw [ht] at hP1
  obtain ⟨hP, hD⟩ := va_join (wr := [(xo, .inr (9, [.ref tp, .ref rd, .ref rn, .ref co, .ref wy, .ref sg, .ref sh, .ref pl, .ref sp, .int 0])), (rn, .inr (4, [.ref hy, .ref rs, .ref ri, .ref ra, .ref rt, .ref rg, .int 0, .int 0, .int 0, .int 0, .int 0, .int 0, .int 0, .int 0]))]) (w1 := [(pl, .inr (2, [.ref pn, .ref pt, .int 0, .int 999, .int 0, .int 5]))]) hP hD [1] [0, 2] rfl rfl (by decide) (by decide) hk1 hFc hP1 hD1
  generalize H1 = H at hP hS ⊢
  have hP : va_P D vwCl [(xo, .inr (9, [.ref tp, .ref rd, .ref rn, .ref co, .ref wy, .ref sg, .ref sh, .ref pl, .ref sp, .int 0])), (rn, .inr (4, [.ref hy, .ref rs, .ref ri, .ref ra, .ref rt, .ref rg, .int 0, .int 0, .int 0, .int 0, .int 0, .int 0, .int 0, .int 0])), (pl, .inr (2, [.ref pn, .ref pt, .int 0, .int 999, .int 0, .int 5]))] H := hP
  have hD : va_D A [(xo, .inr (9, [.ref tp, .ref rd, .ref rn, .ref co, .ref wy, .ref sg, .ref sh, .ref pl, .ref sp, .int 0])), (rn, .inr (4, [.ref hy, .ref rs, .ref ri, .ref ra, .ref rt, .ref rg, .int 0, .int 0, .int 0, .int 0, .int 0, .int 0, .int 0, .int 0])), (pl, .inr (2, [.ref pn, .ref pt, .int 0, .int 999, .int 0, .int 5]))] := hD
  obtain rfl : r1 = 0 := hw1
  refine lv_iconst (v := (-1)) hx hb dX10_down_8 (by decide) ?_
  refine lv_ixor hx hb dX10_down_9 ?_
  refine lv_topi (fun v2 ev2 => ?_)
  obtain rfl : v2 = (-1) := ev2.trans (by decide)
  refine lv_iand hx hb dX10_down_10 ?_
  refine lv_topi (fun v3 ev3 => ?_)
  have ev3 : v3 = p0 := ev3.trans (xand1 _)
  refine lv_if_eq (tgt := 16) hx hb dX10_down_11 (by decide) (fun c_4 => ?_) (fun c_4 => ?_)
  · skip
    have i_4 : p0.toInt = 0 := (ieq ((congrArg Int32.toInt ev3).trans rfl) (by decide)).mp c_4
    refine lv_aload_n hx hb dX10_down_16 rfl (lv_at hl 0 rfl) ?_
    refine va_get (D := D) (ci := 9) (v := .ref pl) (C := RX10) (T := TX10) (N := 10) hx hb hts in_X10_down_X10 hown hK hP 0 rfl rfl 7 (by decide) (hts (.fieldLink RX10 56 "PowerRails" "plan" "LPowerRails$Plan;") (by decide +kernel)) (fun _ h9 => h9) rfl dX10_down_17 ?_
    refine lv_aload_n hx hb dX10_down_20 rfl (lv_at hl 0 rfl) ?_
    have hPc := hP.sub (ws' := [(xo, .inr (9, [.ref tp, .ref rd, .ref rn, .ref co, .ref wy, .ref sg, .ref sh, .ref pl, .ref sp, .int 0])), (pl, .inr (2, [.ref pn, .ref pt, .int 0, .int 999, .int 0, .int 5])), (rn, .inr (4, [.ref hy, .ref rs, .ref ri, .ref ra, .ref rt, .ref rg, .int 0, .int 0, .int 0, .int 0, .int 0, .int 0, .int 0, .int 0]))]) [0, 2, 1] rfl
    have hDc := hD.sub (ws' := [(xo, .inr (9, [.ref tp, .ref rd, .ref rn, .ref co, .ref wy, .ref sg, .ref sh, .ref pl, .ref sp, .int 0])), (pl, .inr (2, [.ref pn, .ref pt, .int 0, .int 999, .int 0, .int 5])), (rn, .inr (4, [.ref hy, .ref rs, .ref ri, .ref ra, .ref rt, .ref rg, .int 0, .int 0, .int 0, .int 0, .int 0, .int 0, .int 0, .int 0]))]) [0, 2, 1] (by decide) rfl
    have hFc := va_free (wc := [(xo, .inr (9, [.ref tp, .ref rd, .ref rn, .ref co, .ref wy, .ref sg, .ref sh, .ref pl, .ref sp, .int 0])), (pl, .inr (2, [.ref pn, .ref pt, .int 0, .int 999, .int 0, .int 5])), (rn, .inr (4, [.ref hy, .ref rs, .ref ri, .ref ra, .ref rt, .ref rg, .int 0, .int 0, .int 0, .int 0, .int 0, .int 0, .int 0, .int 0]))]) hD hS hA [0, 2, 1] rfl
    refine va_calli (va_runV (As := []) (rest := [.ref pl]) ⟨hx, hb, hml, hown, hts⟩ (c_alive0 l D cI cJ cZ cG cH H.size xo tp rd rn co wy sg sh pl sp pn pt hy rs ri ra rt rg) (cwV 0 hts gX10_down_X10_alive rfl rfl rfl (by decide +kernel) ⟨Nat.le_of_ble_eq_true rfl, Nat.le_of_ble_eq_true rfl⟩) ⟨xPc_blind, va_recv hK hPc (ci := 9) (q0 := 0) rfl rfl, xPc_pre hPc hK hDc⟩ rfl rfl hl.1 rfl (lv_room (Nat.le_of_ble_eq_true rfl)) dX10_down_21 ⟨Nat.le_of_ble_eq_true rfl, Nat.le_of_ble_eq_true rfl⟩) hS (fun q _ h => hFc q h) hFc (fun r5 u t H1 locs ht hvm hw5 hB hz1 hk1 hS => ?_)
    obtain ⟨hP1, hK1, hD1⟩ := hB
    rw [ht] at hP1
    obtain ⟨hP, hD⟩ := va_join (wr := []) (w1 := [(xo, .inr (9, [.ref tp, .ref rd, .ref rn, .ref co, .ref wy, .ref sg, .ref sh, .ref pl, .ref sp, .int 0])), (pl, .inr (2, [.ref pn, .ref pt, .int 0, .int 999, .int 0, .int 5])), (rn, .inr (4, [.ref hy, .ref rs, .ref ri, .ref ra, .ref rt, .ref rg, .int 0, .int 0, .int 0, .int 0, .int 0, .int 0, .int 0, .int 0]))]) hP hD [0, 2, 1] [] rfl rfl (by decide) (by decide) hk1 hFc hP1 hD1
    generalize H1 = H at hP hS ⊢
    have hP : va_P D vwCl [(xo, .inr (9, [.ref tp, .ref rd, .ref rn, .ref co, .ref wy, .ref sg, .ref sh, .ref pl, .ref sp, .int 0])), (pl, .inr (2, [.ref pn, .ref pt, .int 0, .int 999, .int 0, .int 5])), (rn, .inr (4, [.ref hy, .ref rs, .ref ri, .ref ra, .ref rt, .ref rg, .int 0, .int 0, .int 0, .int 0, .int 0, .int 0, .int 0, .int 0]))] H := hP
    have hD : va_D A [(xo, .inr (9, [.ref tp, .ref rd, .ref rn, .ref co, .ref wy, .ref sg, .ref sh, .ref pl, .ref sp, .int 0])), (pl, .inr (2, [.ref pn, .ref pt, .int 0, .int 999, .int 0, .int 5])), (rn, .inr (4, [.ref hy, .ref rs, .ref ri, .ref ra, .ref rt, .ref rg, .int 0, .int 0, .int 0, .int 0, .int 0, .int 0, .int 0, .int 0]))] := hD
    obtain rfl : r5 = 0 := hw5
    have hPc := hP.sub (ws' := [(pl, .inr (2, [.ref pn, .ref pt, .int 0, .int 999, .int 0, .int 5]))]) [1] rfl
    have hDc := hD.sub (ws' := [(pl, .inr (2, [.ref pn, .ref pt, .int 0, .int 999, .int 0, .int 5]))]) [1] (by decide) rfl
    have hFc := va_free (wc := [(pl, .inr (2, [.ref pn, .ref pt, .int 0, .int 999, .int 0, .int 5]))]) hD hS hA [1] rfl
    refine va_calli (va_runV (As := [.int 0]) (rest := []) ⟨hx, hb, hml, hown, hts⟩ (c_upAmong0 l D cI cJ cZ cG cH H.size pl (0 : Int32) pn pt) (cwV 1 hts gX10_down_X3_upAmong rfl rfl rfl (by decide +kernel) ⟨Nat.le_of_ble_eq_true rfl, Nat.le_of_ble_eq_true rfl⟩) ⟨xPc_blind, va_recv hK hPc (ci := 2) (q0 := 0) rfl rfl, xPc_pre hPc hK hDc⟩ rfl rfl hl.1 rfl (lv_room (Nat.le_of_ble_eq_true rfl)) dX10_down_24 ⟨Nat.le_of_ble_eq_true rfl, Nat.le_of_ble_eq_true rfl⟩) hS (fun q _ h => hFc q h) hFc (fun r6 u t H1 locs ht hvm hw6 hB hz1 hk1 hS => ?_)
    obtain ⟨hP1, hK1, hD1⟩ := hB
    rw [ht] at hP1
    obtain ⟨hP, hD⟩ := va_join (wr := [(xo, .inr (9, [.ref tp, .ref rd, .ref rn, .ref co, .ref wy, .ref sg, .ref sh, .ref pl, .ref sp, .int 0])), (rn, .inr (4, [.ref hy, .ref rs, .ref ri, .ref ra, .ref rt, .ref rg, .int 0, .int 0, .int 0, .int 0, .int 0, .int 0, .int 0, .int 0]))]) (w1 := [(pl, .inr (2, [.ref pn, .ref pt, .int 0, .int 999, .int 0, .int 5]))]) hP hD [1] [0, 2] rfl rfl (by decide) (by decide) hk1 hFc hP1 hD1
    generalize H1 = H at hP hS ⊢
    have hP : va_P D vwCl [(xo, .inr (9, [.ref tp, .ref rd, .ref rn, .ref co, .ref wy, .ref sg, .ref sh, .ref pl, .ref sp, .int 0])), (rn, .inr (4, [.ref hy, .ref rs, .ref ri, .ref ra, .ref rt, .ref rg, .int 0, .int 0, .int 0, .int 0, .int 0, .int 0, .int 0, .int 0])), (pl, .inr (2, [.ref pn, .ref pt, .int 0, .int 999, .int 0, .int 5]))] H := hP
    have hD : va_D A [(xo, .inr (9, [.ref tp, .ref rd, .ref rn, .ref co, .ref wy, .ref sg, .ref sh, .ref pl, .ref sp, .int 0])), (rn, .inr (4, [.ref hy, .ref rs, .ref ri, .ref ra, .ref rt, .ref rg, .int 0, .int 0, .int 0, .int 0, .int 0, .int 0, .int 0, .int 0])), (pl, .inr (2, [.ref pn, .ref pt, .int 0, .int 999, .int 0, .int 5]))] := hD
    obtain rfl : r6 = 0 := hw6
    refine lv_aload_n hx hb dX10_down_27 rfl (lv_at hl 0 rfl) ?_
    refine va_get (D := D) (ci := 9) (v := .ref pl) (C := RX10) (T := TX10) (N := 10) hx hb hts in_X10_down_X10 hown hK hP 0 rfl rfl 7 (by decide) (hts (.fieldLink RX10 56 "PowerRails" "plan" "LPowerRails$Plan;") (by decide +kernel)) (fun _ h9 => h9) rfl dX10_down_28 ?_
    refine lv_aload_n hx hb dX10_down_31 rfl (lv_at hl 0 rfl) ?_
    have hPc := hP.sub (ws' := [(xo, .inr (9, [.ref tp, .ref rd, .ref rn, .ref co, .ref wy, .ref sg, .ref sh, .ref pl, .ref sp, .int 0])), (pl, .inr (2, [.ref pn, .ref pt, .int 0, .int 999, .int 0, .int 5])), (rn, .inr (4, [.ref hy, .ref rs, .ref ri, .ref ra, .ref rt, .ref rg, .int 0, .int 0, .int 0, .int 0, .int 0, .int 0, .int 0, .int 0]))]) [0, 2, 1] rfl
    have hDc := hD.sub (ws' := [(xo, .inr (9, [.ref tp, .ref rd, .ref rn, .ref co, .ref wy, .ref sg, .ref sh, .ref pl, .ref sp, .int 0])), (pl, .inr (2, [.ref pn, .ref pt, .int 0, .int 999, .int 0, .int 5])), (rn, .inr (4, [.ref hy, .ref rs, .ref ri, .ref ra, .ref rt, .ref rg, .int 0, .int 0, .int 0, .int 0, .int 0, .int 0, .int 0, .int 0]))]) [0, 2, 1] (by decide) rfl
    have hFc := va_free (wc := [(xo, .inr (9, [.ref tp, .ref rd, .ref rn, .ref co, .ref wy, .ref sg, .ref sh, .ref pl, .ref sp, .int 0])), (pl, .inr (2, [.ref pn, .ref pt, .int 0, .int 999, .int 0, .int 5])), (rn, .inr (4, [.ref hy, .ref rs, .ref ri, .ref ra, .ref rt, .ref rg, .int 0, .int 0, .int 0, .int 0, .int 0, .int 0, .int 0, .int 0]))]) hD hS hA [0, 2, 1] rfl
    refine va_calli (va_runV (As := []) (rest := [.ref pl, .int 0]) ⟨hx, hb, hml, hown, hts⟩ (c_alive0 l D cI cJ cZ cG cH H.size xo tp rd rn co wy sg sh pl sp pn pt hy rs ri ra rt rg) (cwV 0 hts gX10_down_X10_alive rfl rfl rfl (by decide +kernel) ⟨Nat.le_of_ble_eq_true rfl, Nat.le_of_ble_eq_true rfl⟩) ⟨xPc_blind, va_recv hK hPc (ci := 9) (q0 := 0) rfl rfl, xPc_pre hPc hK hDc⟩ rfl rfl hl.1 rfl (lv_room (Nat.le_of_ble_eq_true rfl)) dX10_down_32 ⟨Nat.le_of_ble_eq_true rfl, Nat.le_of_ble_eq_true rfl⟩) hS (fun q _ h => hFc q h) hFc (fun r7 u t H1 locs ht hvm hw7 hB hz1 hk1 hS => ?_)
    obtain ⟨hP1, hK1, hD1⟩ := hB
    rw [ht] at hP1
    obtain ⟨hP, hD⟩ := va_join (wr := []) (w1 := [(xo, .inr (9, [.ref tp, .ref rd, .ref rn, .ref co, .ref wy, .ref sg, .ref sh, .ref pl, .ref sp, .int 0])), (pl, .inr (2, [.ref pn, .ref pt, .int 0, .int 999, .int 0, .int 5])), (rn, .inr (4, [.ref hy, .ref rs, .ref ri, .ref ra, .ref rt, .ref rg, .int 0, .int 0, .int 0, .int 0, .int 0, .int 0, .int 0, .int 0]))]) hP hD [0, 2, 1] [] rfl rfl (by decide) (by decide) hk1 hFc hP1 hD1
    generalize H1 = H at hP hS ⊢
    have hP : va_P D vwCl [(xo, .inr (9, [.ref tp, .ref rd, .ref rn, .ref co, .ref wy, .ref sg, .ref sh, .ref pl, .ref sp, .int 0])), (pl, .inr (2, [.ref pn, .ref pt, .int 0, .int 999, .int 0, .int 5])), (rn, .inr (4, [.ref hy, .ref rs, .ref ri, .ref ra, .ref rt, .ref rg, .int 0, .int 0, .int 0, .int 0, .int 0, .int 0, .int 0, .int 0]))] H := hP
    have hD : va_D A [(xo, .inr (9, [.ref tp, .ref rd, .ref rn, .ref co, .ref wy, .ref sg, .ref sh, .ref pl, .ref sp, .int 0])), (pl, .inr (2, [.ref pn, .ref pt, .int 0, .int 999, .int 0, .int 5])), (rn, .inr (4, [.ref hy, .ref rs, .ref ri, .ref ra, .ref rt, .ref rg, .int 0, .int 0, .int 0, .int 0, .int 0, .int 0, .int 0, .int 0]))] := hD
    obtain rfl : r7 = 0 := hw7
    refine lv_iload_n hx hb dX10_down_35 rfl (lv_at hl 1 rfl) ?_
    refine lv_iconst (v := (-1)) hx hb dX10_down_36 (by decide) ?_
    refine lv_ixor hx hb dX10_down_37 ?_
    refine lv_topi (fun v8 ev8 => ?_)
    refine lv_iand hx hb dX10_down_38 ?_
    refine lv_topi (fun v9 ev9 => ?_)
    have hPc := hP.sub (ws' := [(pl, .inr (2, [.ref pn, .ref pt, .int 0, .int 999, .int 0, .int 5]))]) [1] rfl
    have hDc := hD.sub (ws' := [(pl, .inr (2, [.ref pn, .ref pt, .int 0, .int 999, .int 0, .int 5]))]) [1] (by decide) rfl
    have hFc := va_free (wc := [(pl, .inr (2, [.ref pn, .ref pt, .int 0, .int 999, .int 0, .int 5]))]) hD hS hA [1] rfl
    refine va_calli (va_runV (As := [.int v9]) (rest := [.int 0]) ⟨hx, hb, hml, hown, hts⟩ (c_upAmong0 l D cI cJ cZ cG cH H.size pl v9 pn pt) (cwV 1 hts gX10_down_X3_upAmong rfl rfl rfl (by decide +kernel) ⟨Nat.le_of_ble_eq_true rfl, Nat.le_of_ble_eq_true rfl⟩) ⟨xPc_blind, va_recv hK hPc (ci := 2) (q0 := 0) rfl rfl, xPc_pre hPc hK hDc⟩ rfl rfl hl.1 rfl (lv_room (Nat.le_of_ble_eq_true rfl)) dX10_down_39 ⟨Nat.le_of_ble_eq_true rfl, Nat.le_of_ble_eq_true rfl⟩) hS (fun q _ h => hFc q h) hFc (fun r10 u t H1 locs ht hvm hw10 hB hz1 hk1 hS => ?_)
    obtain ⟨hP1, hK1, hD1⟩ := hB
    rw [ht] at hP1
    obtain ⟨hP, hD⟩ := va_join (wr := [(xo, .inr (9, [.ref tp, .ref rd, .ref rn, .ref co, .ref wy, .ref sg, .ref sh, .ref pl, .ref sp, .int 0])), (rn, .inr (4, [.ref hy, .ref rs, .ref ri, .ref ra, .ref rt, .ref rg, .int 0, .int 0, .int 0, .int 0, .int 0, .int 0, .int 0, .int 0]))]) (w1 := [(pl, .inr (2, [.ref pn, .ref pt, .int 0, .int 999, .int 0, .int 5]))]) hP hD [1] [0, 2] rfl rfl (by decide) (by decide) hk1 hFc hP1 hD1
    generalize H1 = H at hP hS ⊢
    have hP : va_P D vwCl [(xo, .inr (9, [.ref tp, .ref rd, .ref rn, .ref co, .ref wy, .ref sg, .ref sh, .ref pl, .ref sp, .int 0])), (rn, .inr (4, [.ref hy, .ref rs, .ref ri, .ref ra, .ref rt, .ref rg, .int 0, .int 0, .int 0, .int 0, .int 0, .int 0, .int 0, .int 0])), (pl, .inr (2, [.ref pn, .ref pt, .int 0, .int 999, .int 0, .int 5]))] H := hP
    have hD : va_D A [(xo, .inr (9, [.ref tp, .ref rd, .ref rn, .ref co, .ref wy, .ref sg, .ref sh, .ref pl, .ref sp, .int 0])), (rn, .inr (4, [.ref hy, .ref rs, .ref ri, .ref ra, .ref rt, .ref rg, .int 0, .int 0, .int 0, .int 0, .int 0, .int 0, .int 0, .int 0])), (pl, .inr (2, [.ref pn, .ref pt, .int 0, .int 999, .int 0, .int 5]))] := hD
    obtain rfl : r10 = 0 := hw10
    refine lv_iconst (v := (-1)) hx hb dX10_down_42 (by decide) ?_
    refine lv_ixor hx hb dX10_down_43 ?_
    refine lv_topi (fun v11 ev11 => ?_)
    obtain rfl : v11 = (-1) := ev11.trans (by decide)
    refine lv_iand hx hb dX10_down_44 ?_
    refine lv_topi (fun v12 ev12 => ?_)
    obtain rfl : v12 = 0 := ev12.trans (by decide)
    refine W.widen (k := 0) (n := 0) (by decide) (by decide) ?_
    exact W.iret (v := 0) hx hb hr (fun t ht hW => ⟨⟨0, (), rfl, (by unfold sp_down; repeat (first | rw [if_pos (by omega)] | rw [if_neg (by omega)])), trivial⟩, hS.F ht⟩) hS.2.2 dX10_down_45
  · skip
    have i_4 : ¬ (p0.toInt = 0) := fun h9 => c_4 ((ieq ((congrArg Int32.toInt ev3).trans rfl) (by decide)).mpr h9)
    refine lv_iconst (v := (-1)) hx hb dX10_down_14 (by decide) ?_
    refine W.widen (k := 0) (n := 0) (by decide) (by decide) ?_
    exact W.iret (v := (-1)) hx hb hr (fun t ht hW => ⟨⟨(-1), (), rfl, (by unfold sp_down; repeat (first | rw [if_pos (by omega)] | rw [if_neg (by omega)])), trivial⟩, hS.F ht⟩) hS.2.2 dX10_down_15
theorem in_X10_cut_X10 : ∀ w ∈ wsX100, w ∈ wsX10_cut := by decide +kernel
abbrev W_x_cut (cI cJ cZ cG cH : ClassId) (xo : Nat) (p0 : Int32) (p1 : Int32) (tp : Nat) (rd : Nat) (rn : Nat) (co : Nat) (wy : Nat) (sg : Nat) (sh : Nat) (pl : Nat) (sp : Nat) (pn : Nat) (pt : Nat) : va_W := [(xo, .inr (9, [.ref tp, .ref rd, .ref rn, .ref co, .ref wy, .ref sg, .ref sh, .ref pl, .ref sp, .int 0])), (pl, .inr (2, [.ref pn, .ref pt, .int 0, .int 999, .int 0, .int 5]))]
abbrev Q_x_cut (D : va_G) (cI cJ cZ cG cH : ClassId) (xo : Nat) (p0 : Int32) (p1 : Int32) (tp : Nat) (rd : Nat) (rn : Nat) (co : Nat) (wy : Nat) (sg : Nat) (sh : Nat) (pl : Nat) (sp : Nat) (pn : Nat) (pt : Nat) (A : Nat → Prop) : Array Value → State → Outcome → State → Prop := va_Qi (fun (r : Int32) (_ : Unit) => r = (-1)) (fun _ t => True) A
abbrev rm_x_cut : Room := { frames := 1, cells := 0, slots := 0, locals := 21 }
set_option maxRecDepth 100000 in
set_option maxHeartbeats 4000000 in
theorem c_x_cut (l : Launch) (D : va_G) (cI cJ cZ cG cH : ClassId) (sz : Nat) (xo : Nat) (p0 : Int32) (p1 : Int32) (tp : Nat) (rd : Nat) (rn : Nat) (co : Nat) (wy : Nat) (sg : Nat) (sh : Nat) (pl : Nat) (sp : Nat) (pn : Nat) (pt : Nat) : Met l yX10_cut wsX10_cut rm_x_cut (xPc [.ref xo, .int p0, .int p1] D (tyL cI cJ cZ cG cH) (W_x_cut cI cJ cZ cG cH xo p0 p1 tp rd rn co wy sg sh pl sp pn pt) sz) (Q_x_cut D cI cJ cZ cG cH xo p0 p1 tp rd rn co wy sg sh pl sp pn pt (va_A (W_x_cut cI cJ cZ cG cH xo p0 p1 tp rd rn co wy sg sh pl sp pn pt) sz)) 0 0 (va_A (W_x_cut cI cJ cZ cG cH xo p0 p1 tp rd rn co wy sg sh pl sp pn pt) sz) := by
  refine xMet (cc := cX10_cut) (maxL := 4) (ret := (some .int)) (Qf := Q_x_cut D cI cJ cZ cG cH xo p0 p1 tp rd rn co wy sg sh pl sp pn pt) (by decide) rfl (Nat.le_of_ble_eq_true rfl) ?_
  intro p e s m below meth c ls A hx hb hr hml hts hown hlocks hnm hsz hP hK hD hA hS hl
  have hown : s.vm.findClass RX10 = some m.cls := hown
  have hP : va_P D vwCl [(xo, .inr (9, [.ref tp, .ref rd, .ref rn, .ref co, .ref wy, .ref sg, .ref sh, .ref pl, .ref sp, .int 0])), (pl, .inr (2, [.ref pn, .ref pt, .int 0, .int 999, .int 0, .int 5]))] s.heap := hP
  have hD : va_D A [(xo, .inr (9, [.ref tp, .ref rd, .ref rn, .ref co, .ref wy, .ref sg, .ref sh, .ref pl, .ref sp, .int 0])), (pl, .inr (2, [.ref pn, .ref pt, .int 0, .int 999, .int 0, .int 5]))] := hD
  have hl : lv_has ls 4 [(0, .ref xo), (1, .int p0), (2, .int p1)] := hl
  refine lv_aload_n hx hb dX10_cut_0 rfl (lv_at hl 0 rfl) ?_
  refine va_get (D := D) (ci := 9) (v := .ref pl) (C := RX10) (T := TX10) (N := 10) hx hb hts in_X10_cut_X10 hown hK hP 0 rfl rfl 7 (by decide) (hts (.fieldLink RX10 56 "PowerRails" "plan" "LPowerRails$Plan;") (by decide +kernel)) (fun _ h9 => h9) rfl dX10_cut_1 ?_
  refine lv_iload_n hx hb dX10_cut_4 rfl (lv_at hl 1 rfl) ?_
  have hPc := hP.sub (ws' := [(pl, .inr (2, [.ref pn, .ref pt, .int 0, .int 999, .int 0, .int 5]))]) [1] rfl
  have hDc := hD.sub (ws' := [(pl, .inr (2, [.ref pn, .ref pt, .int 0, .int 999, .int 0, .int 5]))]) [1] (by decide) rfl
  have hFc := va_free (wc := [(pl, .inr (2, [.ref pn, .ref pt, .int 0, .int 999, .int 0, .int 5]))]) hD hS hA [1] rfl
  refine va_calli (va_runV (As := [.int p0]) (rest := []) ⟨hx, hb, hml, hown, hts⟩ (c_hasRail0 l D cI cJ cZ cG cH s.heap.size pl p0 pn pt) (cwV 1 hts gX10_cut_X3_hasRail rfl rfl rfl (by decide +kernel) ⟨Nat.le_of_ble_eq_true rfl, Nat.le_of_ble_eq_true rfl⟩) ⟨xPc_blind, va_recv hK hPc (ci := 2) (q0 := 0) rfl rfl, xPc_pre hPc hK hDc⟩ rfl rfl hl.1 rfl (lv_room (Nat.le_of_ble_eq_true rfl)) dX10_cut_5 ⟨Nat.le_of_ble_eq_true rfl, Nat.le_of_ble_eq_true rfl⟩) hS (fun q _ h => hFc q h) hFc (fun r1 u t H1 locs ht hvm hw1 hB hz1 hk1 hS => ?_)
  obtain ⟨hP1, hK1, hD1⟩ := hB
  rw [ht] at hP1
  obtain ⟨hP, hD⟩ := va_join (wr := [(xo, .inr (9, [.ref tp, .ref rd, .ref rn, .ref co, .ref wy, .ref sg, .ref sh, .ref pl, .ref sp, .int 0]))]) (w1 := [(pl, .inr (2, [.ref pn, .ref pt, .int 0, .int 999, .int 0, .int 5]))]) hP hD [1] [0] rfl rfl (by decide) (by decide) hk1 hFc hP1 hD1
  generalize H1 = H at hP hS ⊢
  have hP : va_P D vwCl [(xo, .inr (9, [.ref tp, .ref rd, .ref rn, .ref co, .ref wy, .ref sg, .ref sh, .ref pl, .ref sp, .int 0])), (pl, .inr (2, [.ref pn, .ref pt, .int 0, .int 999, .int 0, .int 5]))] H := hP
  have hD : va_D A [(xo, .inr (9, [.ref tp, .ref rd, .ref rn, .ref co, .ref wy, .ref sg, .ref sh, .ref pl, .ref sp, .int 0])), (pl, .inr (2, [.ref pn, .ref pt, .int 0, .int 999, .int 0, .int 5]))] := hD
  obtain rfl : r1 = 0 := hw1
  refine lv_if_eq (tgt := 20) hx hb dX10_cut_8 (by decide) (fun _ => ?_) (fun c9 => absurd c9 (by decide))
  refine lv_iconst (v := (-1)) hx hb dX10_cut_20 (by decide) ?_
  refine W.widen (k := 0) (n := 0) (by decide) (by decide) ?_
  exact W.iret (v := (-1)) hx hb hr (fun t ht hW => ⟨⟨(-1), (), rfl, rfl, trivial⟩, hS.F ht⟩) hS.2.2 dX10_cut_21
theorem in_X10_need_X10 : ∀ w ∈ wsX100, w ∈ wsX10_need := by decide +kernel
abbrev W_x_need (cI cJ cZ cG cH : ClassId) (xo : Nat) (p0 : Int32) (p1 : Int32) (tp : Nat) (rd : Nat) (rn : Nat) (co : Nat) (wy : Nat) (sg : Nat) (sh : Nat) (pl : Nat) (sp : Nat) (pn : Nat) (pt : Nat) : va_W := [(xo, .inr (9, [.ref tp, .ref rd, .ref rn, .ref co, .ref wy, .ref sg, .ref sh, .ref pl, .ref sp, .int 0])), (pl, .inr (2, [.ref pn, .ref pt, .int 0, .int 999, .int 0, .int 5]))]
abbrev Q_x_need (D : va_G) (cI cJ cZ cG cH : ClassId) (xo : Nat) (p0 : Int32) (p1 : Int32) (tp : Nat) (rd : Nat) (rn : Nat) (co : Nat) (wy : Nat) (sg : Nat) (sh : Nat) (pl : Nat) (sp : Nat) (pn : Nat) (pt : Nat) (A : Nat → Prop) : Array Value → State → Outcome → State → Prop := va_Qi (fun (r : Int32) (_ : Unit) => r = (-1)) (fun _ t => True) A
abbrev rm_x_need : Room := { frames := 1, cells := 0, slots := 0, locals := 21 }
set_option maxRecDepth 100000 in
set_option maxHeartbeats 4000000 in
theorem c_x_need (l : Launch) (D : va_G) (cI cJ cZ cG cH : ClassId) (sz : Nat) (xo : Nat) (p0 : Int32) (p1 : Int32) (tp : Nat) (rd : Nat) (rn : Nat) (co : Nat) (wy : Nat) (sg : Nat) (sh : Nat) (pl : Nat) (sp : Nat) (pn : Nat) (pt : Nat) : Met l yX10_need wsX10_need rm_x_need (xPc [.ref xo, .int p0, .int p1] D (tyL cI cJ cZ cG cH) (W_x_need cI cJ cZ cG cH xo p0 p1 tp rd rn co wy sg sh pl sp pn pt) sz) (Q_x_need D cI cJ cZ cG cH xo p0 p1 tp rd rn co wy sg sh pl sp pn pt (va_A (W_x_need cI cJ cZ cG cH xo p0 p1 tp rd rn co wy sg sh pl sp pn pt) sz)) 0 0 (va_A (W_x_need cI cJ cZ cG cH xo p0 p1 tp rd rn co wy sg sh pl sp pn pt) sz) := by
  refine xMet (cc := cX10_need) (maxL := 4) (ret := (some .int)) (Qf := Q_x_need D cI cJ cZ cG cH xo p0 p1 tp rd rn co wy sg sh pl sp pn pt) (by decide) rfl (Nat.le_of_ble_eq_true rfl) ?_
  intro p e s m below meth c ls A hx hb hr hml hts hown hlocks hnm hsz hP hK hD hA hS hl
  have hown : s.vm.findClass RX10 = some m.cls := hown
  have hP : va_P D vwCl [(xo, .inr (9, [.ref tp, .ref rd, .ref rn, .ref co, .ref wy, .ref sg, .ref sh, .ref pl, .ref sp, .int 0])), (pl, .inr (2, [.ref pn, .ref pt, .int 0, .int 999, .int 0, .int 5]))] s.heap := hP
  have hD : va_D A [(xo, .inr (9, [.ref tp, .ref rd, .ref rn, .ref co, .ref wy, .ref sg, .ref sh, .ref pl, .ref sp, .int 0])), (pl, .inr (2, [.ref pn, .ref pt, .int 0, .int 999, .int 0, .int 5]))] := hD
  have hl : lv_has ls 4 [(0, .ref xo), (1, .int p0), (2, .int p1)] := hl
  refine lv_aload_n hx hb dX10_need_0 rfl (lv_at hl 0 rfl) ?_
  refine va_get (D := D) (ci := 9) (v := .ref pl) (C := RX10) (T := TX10) (N := 10) hx hb hts in_X10_need_X10 hown hK hP 0 rfl rfl 7 (by decide) (hts (.fieldLink RX10 56 "PowerRails" "plan" "LPowerRails$Plan;") (by decide +kernel)) (fun _ h9 => h9) rfl dX10_need_1 ?_
  refine lv_iload_n hx hb dX10_need_4 rfl (lv_at hl 1 rfl) ?_
  have hPc := hP.sub (ws' := [(pl, .inr (2, [.ref pn, .ref pt, .int 0, .int 999, .int 0, .int 5]))]) [1] rfl
  have hDc := hD.sub (ws' := [(pl, .inr (2, [.ref pn, .ref pt, .int 0, .int 999, .int 0, .int 5]))]) [1] (by decide) rfl
  have hFc := va_free (wc := [(pl, .inr (2, [.ref pn, .ref pt, .int 0, .int 999, .int 0, .int 5]))]) hD hS hA [1] rfl
  refine va_calli (va_runV (As := [.int p0]) (rest := []) ⟨hx, hb, hml, hown, hts⟩ (c_hasRail0 l D cI cJ cZ cG cH s.heap.size pl p0 pn pt) (cwV 1 hts gX10_need_X3_hasRail rfl rfl rfl (by decide +kernel) ⟨Nat.le_of_ble_eq_true rfl, Nat.le_of_ble_eq_true rfl⟩) ⟨xPc_blind, va_recv hK hPc (ci := 2) (q0 := 0) rfl rfl, xPc_pre hPc hK hDc⟩ rfl rfl hl.1 rfl (lv_room (Nat.le_of_ble_eq_true rfl)) dX10_need_5 ⟨Nat.le_of_ble_eq_true rfl, Nat.le_of_ble_eq_true rfl⟩) hS (fun q _ h => hFc q h) hFc (fun r1 u t H1 locs ht hvm hw1 hB hz1 hk1 hS => ?_)
  obtain ⟨hP1, hK1, hD1⟩ := hB
  rw [ht] at hP1
  obtain ⟨hP, hD⟩ := va_join (wr := [(xo, .inr (9, [.ref tp, .ref rd, .ref rn, .ref co, .ref wy, .ref sg, .ref sh, .ref pl, .ref sp, .int 0]))]) (w1 := [(pl, .inr (2, [.ref pn, .ref pt, .int 0, .int 999, .int 0, .int 5]))]) hP hD [1] [0] rfl rfl (by decide) (by decide) hk1 hFc hP1 hD1
  generalize H1 = H at hP hS ⊢
  have hP : va_P D vwCl [(xo, .inr (9, [.ref tp, .ref rd, .ref rn, .ref co, .ref wy, .ref sg, .ref sh, .ref pl, .ref sp, .int 0])), (pl, .inr (2, [.ref pn, .ref pt, .int 0, .int 999, .int 0, .int 5]))] H := hP
  have hD : va_D A [(xo, .inr (9, [.ref tp, .ref rd, .ref rn, .ref co, .ref wy, .ref sg, .ref sh, .ref pl, .ref sp, .int 0])), (pl, .inr (2, [.ref pn, .ref pt, .int 0, .int 999, .int 0, .int 5]))] := hD
  obtain rfl : r1 = 0 := hw1
  refine lv_if_eq (tgt := 20) hx hb dX10_need_8 (by decide) (fun _ => ?_) (fun c9 => absurd c9 (by decide))
  refine lv_iconst (v := (-1)) hx hb dX10_need_20 (by decide) ?_
  refine W.widen (k := 0) (n := 0) (by decide) (by decide) ?_
  exact W.iret (v := (-1)) hx hb hr (fun t ht hW => ⟨⟨(-1), (), rfl, rfl, trivial⟩, hS.F ht⟩) hS.2.2 dX10_need_21
theorem in_X10_must_X10 : ∀ w ∈ wsX100, w ∈ wsX10_must := by decide +kernel
abbrev W_x_must (cI cJ cZ cG cH : ClassId) (xo : Nat) (p0 : Int32) (tp : Nat) (rd : Nat) (rn : Nat) (co : Nat) (wy : Nat) (sg : Nat) (sh : Nat) (pl : Nat) (sp : Nat) (pn : Nat) (pt : Nat) : va_W := [(xo, .inr (9, [.ref tp, .ref rd, .ref rn, .ref co, .ref wy, .ref sg, .ref sh, .ref pl, .ref sp, .int 0])), (pl, .inr (2, [.ref pn, .ref pt, .int 0, .int 999, .int 0, .int 5]))]
abbrev Q_x_must (D : va_G) (cI cJ cZ cG cH : ClassId) (xo : Nat) (p0 : Int32) (tp : Nat) (rd : Nat) (rn : Nat) (co : Nat) (wy : Nat) (sg : Nat) (sh : Nat) (pl : Nat) (sp : Nat) (pn : Nat) (pt : Nat) (A : Nat → Prop) : Array Value → State → Outcome → State → Prop := va_Qi (fun (r : Int32) (_ : Unit) => r = (-1)) (fun _ t => True) A
abbrev rm_x_must : Room := { frames := 1, cells := 0, slots := 0, locals := 21 }
set_option maxRecDepth 100000 in
set_option maxHeartbeats 4000000 in
theorem c_x_must (l : Launch) (D : va_G) (cI cJ cZ cG cH : ClassId) (sz : Nat) (xo : Nat) (p0 : Int32) (tp : Nat) (rd : Nat) (rn : Nat) (co : Nat) (wy : Nat) (sg : Nat) (sh : Nat) (pl : Nat) (sp : Nat) (pn : Nat) (pt : Nat) : Met l yX10_must wsX10_must rm_x_must (xPc [.ref xo, .int p0] D (tyL cI cJ cZ cG cH) (W_x_must cI cJ cZ cG cH xo p0 tp rd rn co wy sg sh pl sp pn pt) sz) (Q_x_must D cI cJ cZ cG cH xo p0 tp rd rn co wy sg sh pl sp pn pt (va_A (W_x_must cI cJ cZ cG cH xo p0 tp rd rn co wy sg sh pl sp pn pt) sz)) 0 0 (va_A (W_x_must cI cJ cZ cG cH xo p0 tp rd rn co wy sg sh pl sp pn pt) sz) := by
  refine xMet (cc := cX10_must) (maxL := 2) (ret := (some .int)) (Qf := Q_x_must D cI cJ cZ cG cH xo p0 tp rd rn co wy sg sh pl sp pn pt) (by decide) rfl (Nat.le_of_ble_eq_true rfl) ?_
  intro p e s m below meth c ls A hx hb hr hml hts hown hlocks hnm hsz hP hK hD hA hS hl
  have hown : s.vm.findClass RX10 = some m.cls := hown
  have hP : va_P D vwCl [(xo, .inr (9, [.ref tp, .ref rd, .ref rn, .ref co, .ref wy, .ref sg, .ref sh, .ref pl, .ref sp, .int 0])), (pl, .inr (2, [.ref pn, .ref pt, .int 0, .int 999, .int 0, .int 5]))] s.heap := hP
  have hD : va_D A [(xo, .inr (9, [.ref tp, .ref rd, .ref rn, .ref co, .ref wy, .ref sg, .ref sh, .ref pl, .ref sp, .int 0])), (pl, .inr (2, [.ref pn, .ref pt, .int 0, .int 999, .int 0, .int 5]))] := hD
  have hl : lv_has ls 2 [(0, .ref xo), (1, .int p0)] := hl
  refine lv_aload_n hx hb dX10_must_0 rfl (lv_at hl 0 rfl) ?_
  refine va_get (D := D) (ci := 9) (v := .ref pl) (C := RX10) (T := TX10) (N := 10) hx hb hts in_X10_must_X10 hown hK hP 0 rfl rfl 7 (by decide) (hts (.fieldLink RX10 56 "PowerRails" "plan" "LPowerRails$Plan;") (by decide +kernel)) (fun _ h9 => h9) rfl dX10_must_1 ?_
  refine lv_iload_n hx hb dX10_must_4 rfl (lv_at hl 1 rfl) ?_
  have hPc := hP.sub (ws' := [(pl, .inr (2, [.ref pn, .ref pt, .int 0, .int 999, .int 0, .int 5]))]) [1] rfl
  have hDc := hD.sub (ws' := [(pl, .inr (2, [.ref pn, .ref pt, .int 0, .int 999, .int 0, .int 5]))]) [1] (by decide) rfl
  have hFc := va_free (wc := [(pl, .inr (2, [.ref pn, .ref pt, .int 0, .int 999, .int 0, .int 5]))]) hD hS hA [1] rfl
  refine va_calli (va_runV (As := [.int p0]) (rest := []) ⟨hx, hb, hml, hown, hts⟩ (c_hasRail0 l D cI cJ cZ cG cH s.heap.size pl p0 pn pt) (cwV 1 hts gX10_must_X3_hasRail rfl rfl rfl (by decide +kernel) ⟨Nat.le_of_ble_eq_true rfl, Nat.le_of_ble_eq_true rfl⟩) ⟨xPc_blind, va_recv hK hPc (ci := 2) (q0 := 0) rfl rfl, xPc_pre hPc hK hDc⟩ rfl rfl hl.1 rfl (lv_room (Nat.le_of_ble_eq_true rfl)) dX10_must_5 ⟨Nat.le_of_ble_eq_true rfl, Nat.le_of_ble_eq_true rfl⟩) hS (fun q _ h => hFc q h) hFc (fun r1 u t H1 locs ht hvm hw1 hB hz1 hk1 hS => ?_)
  obtain ⟨hP1, hK1, hD1⟩ := hB
  rw [ht] at hP1
  obtain ⟨hP, hD⟩ := va_join (wr := [(xo, .inr (9, [.ref tp, .ref rd, .ref rn, .ref co, .ref wy, .ref sg, .ref sh, .ref pl, .ref sp, .int 0]))]) (w1 := [(pl, .inr (2, [.ref pn, .ref pt, .int 0, .int 999, .int 0, .int 5]))]) hP hD [1] [0] rfl rfl (by decide) (by decide) hk1 hFc hP1 hD1
  generalize H1 = H at hP hS ⊢
  have hP : va_P D vwCl [(xo, .inr (9, [.ref tp, .ref rd, .ref rn, .ref co, .ref wy, .ref sg, .ref sh, .ref pl, .ref sp, .int 0])), (pl, .inr (2, [.ref pn, .ref pt, .int 0, .int 999, .int 0, .int 5]))] H := hP
  have hD : va_D A [(xo, .inr (9, [.ref tp, .ref rd, .ref rn, .ref co, .ref wy, .ref sg, .ref sh, .ref pl, .ref sp, .int 0])), (pl, .inr (2, [.ref pn, .ref pt, .int 0, .int 999, .int 0, .int 5]))] := hD
  obtain rfl : r1 = 0 := hw1
  refine lv_if_ne (tgt := 13) hx hb dX10_must_8 (by decide) (fun c9 => absurd c9 (by decide)) (fun _ => ?_)
  refine lv_iconst (v := (-1)) hx hb dX10_must_11 (by decide) ?_
  refine W.widen (k := 0) (n := 0) (by decide) (by decide) ?_
  exact W.iret (v := (-1)) hx hb hr (fun t ht hW => ⟨⟨(-1), (), rfl, rfl, trivial⟩, hS.F ht⟩) hS.2.2 dX10_must_12
theorem in_X1_thatExplain_X3 : ∀ w ∈ wsX30, w ∈ wsX1_thatExplain := by decide +kernel
abbrev W_thatExplain0 (cI cJ cZ cG cH : ClassId) (pl : Nat) (p0 : Int32) (pn : Nat) (pt : Nat) : va_W := [(pl, .inr (2, [.ref pn, .ref pt, .int 0, .int 999, .int 0, .int 5]))]
abbrev Q_thatExplain0 (D : va_G) (cI cJ cZ cG cH : ClassId) (pl : Nat) (p0 : Int32) (pn : Nat) (pt : Nat) (A : Nat → Prop) : Array Value → State → Outcome → State → Prop := va_Qi (fun (r : Int32) (_ : Unit) => r = 256) (fun _ t => xB D (tyL cI cJ cZ cG cH) [(pl, .inr (2, [.ref pn, .ref pt, .int 0, .int 999, .int 0, .int 5]))] A t) A
abbrev rm_thatExplain0 : Room := { frames := 1, cells := 0, slots := 0, locals := 25 }
set_option maxRecDepth 100000 in
set_option maxHeartbeats 4000000 in
theorem c_thatExplain0 (l : Launch) (D : va_G) (cI cJ cZ cG cH : ClassId) (sz : Nat) (pl : Nat) (p0 : Int32) (pn : Nat) (pt : Nat) (hg0 : p0.toInt = 0) : Met l yX1_thatExplain wsX1_thatExplain rm_thatExplain0 (xPc [.ref pl, .int p0] D (tyL cI cJ cZ cG cH) (W_thatExplain0 cI cJ cZ cG cH pl p0 pn pt) sz) (Q_thatExplain0 D cI cJ cZ cG cH pl p0 pn pt (va_A (W_thatExplain0 cI cJ cZ cG cH pl p0 pn pt) sz)) 0 0 (va_A (W_thatExplain0 cI cJ cZ cG cH pl p0 pn pt) sz) := by
  refine xMet (cc := cX1_thatExplain) (maxL := 5) (ret := (some .int)) (Qf := Q_thatExplain0 D cI cJ cZ cG cH pl p0 pn pt) (by decide) rfl (Nat.le_of_ble_eq_true rfl) ?_
  intro p e s m below meth c ls A hx hb hr hml hts hown hlocks hnm hsz hP hK hD hA hS hl
  have hown : s.vm.findClass RX1 = some m.cls := hown
  have hP : va_P D vwCl [(pl, .inr (2, [.ref pn, .ref pt, .int 0, .int 999, .int 0, .int 5]))] s.heap := hP
  have hD : va_D A [(pl, .inr (2, [.ref pn, .ref pt, .int 0, .int 999, .int 0, .int 5]))] := hD
  have hl : lv_has ls 5 [(0, .ref pl), (1, .int p0)] := hl
  refine lv_aload_n hx hb dX1_thatExplain_0 rfl (lv_at hl 0 rfl) ?_
  have hPc := hP.sub (ws' := [(pl, .inr (2, [.ref pn, .ref pt, .int 0, .int 999, .int 0, .int 5]))]) [0] rfl
  have hDc := hD.sub (ws' := [(pl, .inr (2, [.ref pn, .ref pt, .int 0, .int 999, .int 0, .int 5]))]) [0] (by decide) rfl
  have hFc := va_free (wc := [(pl, .inr (2, [.ref pn, .ref pt, .int 0, .int 999, .int 0, .int 5]))]) hD hS hA [0] rfl
  refine va_calli (va_runV (As := []) (rest := []) ⟨hx, hb, hml, hown, hts⟩ (c_allRails0 l D cI cJ cZ cG cH s.heap.size pl pn pt) (cwV 0 hts gX1_thatExplain_X3_allRails rfl rfl rfl (by decide +kernel) ⟨Nat.le_of_ble_eq_true rfl, Nat.le_of_ble_eq_true rfl⟩) ⟨xPc_blind, va_recv hK hPc (ci := 2) (q0 := 0) rfl rfl, xPc_pre hPc hK hDc⟩ rfl rfl hl.1 rfl (lv_room (Nat.le_of_ble_eq_true rfl)) dX1_thatExplain_1 ⟨Nat.le_of_ble_eq_true rfl, Nat.le_of_ble_eq_true rfl⟩) hS (fun q _ h => hFc q h) hFc (fun r1 u t H1 locs ht hvm hw1 hB hz1 hk1 hS => ?_)
  obtain ⟨hP1, hK1, hD1⟩ := hB
  rw [ht] at hP1
  obtain ⟨hP, hD⟩ := va_join (wr := []) (w1 := [(pl, .inr (2, [.ref pn, .ref pt, .int 0, .int 999, .int 0, .int 5]))]) hP hD [0] [] rfl rfl (by decide) (by decide) hk1 hFc hP1 hD1
  generalize H1 = H at hP hS ⊢
  have hP : va_P D vwCl [(pl, .inr (2, [.ref pn, .ref pt, .int 0, .int 999, .int 0, .int 5]))] H := hP
  have hD : va_D A [(pl, .inr (2, [.ref pn, .ref pt, .int 0, .int 999, .int 0, .int 5]))] := hD
  obtain rfl : r1 = 0 := hw1
  refine lv_istore_n (lv' := [(2, .int 0), (0, .ref pl), (1, .int p0)]) hx hb dX1_thatExplain_4 rfl hl (by decide) rfl (fun ls hl => ?_)
  refine lv_aload_n hx hb dX1_thatExplain_5 rfl (lv_at hl 1 rfl) ?_
  refine lv_iload_n hx hb dX1_thatExplain_6 rfl (lv_at hl 0 rfl) ?_
  have hPc := hP.sub (ws' := [(pl, .inr (2, [.ref pn, .ref pt, .int 0, .int 999, .int 0, .int 5]))]) [0] rfl
  have hDc := hD.sub (ws' := [(pl, .inr (2, [.ref pn, .ref pt, .int 0, .int 999, .int 0, .int 5]))]) [0] (by decide) rfl
  have hFc := va_free (wc := [(pl, .inr (2, [.ref pn, .ref pt, .int 0, .int 999, .int 0, .int 5]))]) hD hS hA [0] rfl
  refine va_calli (va_runV (As := [.int 0]) (rest := []) ⟨hx, hb, hml, hown, hts⟩ (c_upAmong0 l D cI cJ cZ cG cH H.size pl (0 : Int32) pn pt) (cwV 1 hts gX1_thatExplain_X3_upAmong rfl rfl rfl (by decide +kernel) ⟨Nat.le_of_ble_eq_true rfl, Nat.le_of_ble_eq_true rfl⟩) ⟨xPc_blind, va_recv hK hPc (ci := 2) (q0 := 0) rfl rfl, xPc_pre hPc hK hDc⟩ rfl rfl hl.1 rfl (lv_room (Nat.le_of_ble_eq_true rfl)) dX1_thatExplain_7 ⟨Nat.le_of_ble_eq_true rfl, Nat.le_of_ble_eq_true rfl⟩) hS (fun q _ h => hFc q h) hFc (fun r2 u t H1 locs ht hvm hw2 hB hz1 hk1 hS => ?_)
  obtain ⟨hP1, hK1, hD1⟩ := hB
  rw [ht] at hP1
  obtain ⟨hP, hD⟩ := va_join (wr := []) (w1 := [(pl, .inr (2, [.ref pn, .ref pt, .int 0, .int 999, .int 0, .int 5]))]) hP hD [0] [] rfl rfl (by decide) (by decide) hk1 hFc hP1 hD1
  generalize H1 = H at hP hS ⊢
  have hP : va_P D vwCl [(pl, .inr (2, [.ref pn, .ref pt, .int 0, .int 999, .int 0, .int 5]))] H := hP
  have hD : va_D A [(pl, .inr (2, [.ref pn, .ref pt, .int 0, .int 999, .int 0, .int 5]))] := hD
  obtain rfl : r2 = 0 := hw2
  refine lv_iload_n hx hb dX1_thatExplain_10 rfl (lv_at hl 2 rfl) ?_
  refine lv_icmp_ne (tgt := 20) hx hb dX1_thatExplain_11 (by decide) (fun c_3 => ?_) (fun c_3 => ?_)
  · skip
    have i_3 : ¬ (0 = p0.toInt) := fun h9 => c_3 ((ieq (by decide) rfl).mpr h9)
    exfalso
    omega
  · skip
    have i_3 : 0 = p0.toInt := (ieq (by decide) rfl).mp c_3
    refine lv_sipush (v := 256) hx hb dX1_thatExplain_14 (by decide) ?_
    refine lv_goto (tgt := 21) hx hb dX1_thatExplain_17 (by decide) ?_
    refine lv_istore_n (lv' := [(3, .int 256), (2, .int 0), (0, .ref pl), (1, .int p0)]) hx hb dX1_thatExplain_21 rfl hl (by decide) rfl (fun ls hl => ?_)
    refine lv_iconst (v := 0) hx hb dX1_thatExplain_22 (by decide) ?_
    refine lv_istore (lv' := [(4, .int 0), (3, .int 256), (2, .int 0), (0, .ref pl), (1, .int p0)]) hx hb dX1_thatExplain_23 hl (by decide) rfl (fun ls hl => ?_)
    refine lv_iload hx hb dX1_thatExplain_25 (lv_at hl 0 rfl) ?_
    refine lv_aload_n hx hb dX1_thatExplain_27 rfl (lv_at hl 3 rfl) ?_
    refine va_get (D := D) (ci := 2) (v := .int 0) (C := RX3) (T := TX3) (N := 6) hx hb hts in_X1_thatExplain_X3 hown hK hP 0 rfl rfl 2 (by decide) (hts (.fieldLink RX1 30 "PowerRails$Plan" "rails" "I") (by decide +kernel)) (fun _ h9 => h9) rfl dX1_thatExplain_28 ?_
    refine lv_icmp_ge (tgt := 63) hx hb dX1_thatExplain_31 (by decide) (fun _ => ?_) (fun c9 => absurd c9 (by decide))
    refine lv_iload_n hx hb dX1_thatExplain_63 rfl (lv_at hl 1 rfl) ?_
    refine W.widen (k := 0) (n := 0) (by decide) (by decide) ?_
    have hP9 := hP.sub (ws' := [(pl, .inr (2, [.ref pn, .ref pt, .int 0, .int 999, .int 0, .int 5]))]) [0] rfl
    have hD9 := hD.sub (ws' := [(pl, .inr (2, [.ref pn, .ref pt, .int 0, .int 999, .int 0, .int 5]))]) [0] (by decide) rfl
    exact W.iret (v := 256) hx hb hr (fun t ht hW => ⟨⟨256, (), rfl, rfl, xB_of ht hW hP9 hK hD9⟩, hS.F ht⟩) hS.2.2 dX1_thatExplain_64
theorem in_X10_seen_X10 : ∀ w ∈ wsX100, w ∈ wsX10_seen := by decide +kernel
abbrev W_x_seen (cI cJ cZ cG cH : ClassId) (xo : Nat) (p0 : Int32) (tp : Nat) (rd : Nat) (rn : Nat) (co : Nat) (wy : Nat) (sg : Nat) (sh : Nat) (pl : Nat) (sp : Nat) (pn : Nat) (pt : Nat) : va_W := [(xo, .inr (9, [.ref tp, .ref rd, .ref rn, .ref co, .ref wy, .ref sg, .ref sh, .ref pl, .ref sp, .int 0])), (pl, .inr (2, [.ref pn, .ref pt, .int 0, .int 999, .int 0, .int 5]))]
abbrev Q_x_seen (D : va_G) (cI cJ cZ cG cH : ClassId) (xo : Nat) (p0 : Int32) (tp : Nat) (rd : Nat) (rn : Nat) (co : Nat) (wy : Nat) (sg : Nat) (sh : Nat) (pl : Nat) (sp : Nat) (pn : Nat) (pt : Nat) (A : Nat → Prop) : Array Value → State → Outcome → State → Prop := va_Qi (fun (r : Int32) (_ : Unit) => r = sp_seen p0) (fun _ t => True) A
abbrev rm_x_seen : Room := { frames := 2, cells := 0, slots := 0, locals := 49 }
set_option maxRecDepth 100000 in
set_option maxHeartbeats 4000000 in
theorem c_x_seen (l : Launch) (D : va_G) (cI cJ cZ cG cH : ClassId) (sz : Nat) (xo : Nat) (p0 : Int32) (tp : Nat) (rd : Nat) (rn : Nat) (co : Nat) (wy : Nat) (sg : Nat) (sh : Nat) (pl : Nat) (sp : Nat) (pn : Nat) (pt : Nat) : Met l yX10_seen wsX10_seen rm_x_seen (xPc [.ref xo, .int p0] D (tyL cI cJ cZ cG cH) (W_x_seen cI cJ cZ cG cH xo p0 tp rd rn co wy sg sh pl sp pn pt) sz) (Q_x_seen D cI cJ cZ cG cH xo p0 tp rd rn co wy sg sh pl sp pn pt (va_A (W_x_seen cI cJ cZ cG cH xo p0 tp rd rn co wy sg sh pl sp pn pt) sz)) 0 0 (va_A (W_x_seen cI cJ cZ cG cH xo p0 tp rd rn co wy sg sh pl sp pn pt) sz) := by
  refine xMet (cc := cX10_seen) (maxL := 2) (ret := (some .int)) (Qf := Q_x_seen D cI cJ cZ cG cH xo p0 tp rd rn co wy sg sh pl sp pn pt) (by decide) rfl (Nat.le_of_ble_eq_true rfl) ?_
  intro p e s m below meth c ls A hx hb hr hml hts hown hlocks hnm hsz hP hK hD hA hS hl
  have hown : s.vm.findClass RX10 = some m.cls := hown
  have hP : va_P D vwCl [(xo, .inr (9, [.ref tp, .ref rd, .ref rn, .ref co, .ref wy, .ref sg, .ref sh, .ref pl, .ref sp, .int 0])), (pl, .inr (2, [.ref pn, .ref pt, .int 0, .int 999, .int 0, .int 5]))] s.heap := hP
  have hD : va_D A [(xo, .inr (9, [.ref tp, .ref rd, .ref rn, .ref co, .ref wy, .ref sg, .ref sh, .ref pl, .ref sp, .int 0])), (pl, .inr (2, [.ref pn, .ref pt, .int 0, .int 999, .int 0, .int 5]))] := hD
  have hl : lv_has ls 2 [(0, .ref xo), (1, .int p0)] := hl
  refine lv_iload_n hx hb dX10_seen_0 rfl (lv_at hl 1 rfl) ?_
  refine lv_aload_n hx hb dX10_seen_1 rfl (lv_at hl 0 rfl) ?_
  refine va_get (D := D) (ci := 9) (v := .ref pl) (C := RX10) (T := TX10) (N := 10) hx hb hts in_X10_seen_X10 hown hK hP 0 rfl rfl 7 (by decide) (hts (.fieldLink RX10 56 "PowerRails" "plan" "LPowerRails$Plan;") (by decide +kernel)) (fun _ h9 => h9) rfl dX10_seen_2 ?_
  have hPc := hP.sub (ws' := [(pl, .inr (2, [.ref pn, .ref pt, .int 0, .int 999, .int 0, .int 5]))]) [1] rfl
  have hDc := hD.sub (ws' := [(pl, .inr (2, [.ref pn, .ref pt, .int 0, .int 999, .int 0, .int 5]))]) [1] (by decide) rfl
  have hFc := va_free (wc := [(pl, .inr (2, [.ref pn, .ref pt, .int 0, .int 999, .int 0, .int 5]))]) hD hS hA [1] rfl
  refine va_calli (va_runV (As := []) (rest := [.int p0]) ⟨hx, hb, hml, hown, hts⟩ (c_allRails0 l D cI cJ cZ cG cH s.heap.size pl pn pt) (cwV 0 hts gX10_seen_X3_allRails rfl rfl rfl (by decide +kernel) ⟨Nat.le_of_ble_eq_true rfl, Nat.le_of_ble_eq_true rfl⟩) ⟨xPc_blind, va_recv hK hPc (ci := 2) (q0 := 0) rfl rfl, xPc_pre hPc hK hDc⟩ rfl rfl hl.1 rfl (lv_room (Nat.le_of_ble_eq_true rfl)) dX10_seen_5 ⟨Nat.le_of_ble_eq_true rfl, Nat.le_of_ble_eq_true rfl⟩) hS (fun q _ h => hFc q h) hFc (fun r1 u t H1 locs ht hvm hw1 hB hz1 hk1 hS => ?_)
  obtain ⟨hP1, hK1, hD1⟩ := hB
  rw [ht] at hP1
  obtain ⟨hP, hD⟩ := va_join (wr := [(xo, .inr (9, [.ref tp, .ref rd, .ref rn, .ref co, .ref wy, .ref sg, .ref sh, .ref pl, .ref sp, .int 0]))]) (w1 := [(pl, .inr (2, [.ref pn, .ref pt, .int 0, .int 999, .int 0, .int 5]))]) hP hD [1] [0] rfl rfl (by decide) (by decide) hk1 hFc hP1 hD1
  generalize H1 = H at hP hS ⊢
  have hP : va_P D vwCl [(xo, .inr (9, [.ref tp, .ref rd, .ref rn, .ref co, .ref wy, .ref sg, .ref sh, .ref pl, .ref sp, .int 0])), (pl, .inr (2, [.ref pn, .ref pt, .int 0, .int 999, .int 0, .int 5]))] H := hP
  have hD : va_D A [(xo, .inr (9, [.ref tp, .ref rd, .ref rn, .ref co, .ref wy, .ref sg, .ref sh, .ref pl, .ref sp, .int 0])), (pl, .inr (2, [.ref pn, .ref pt, .int 0, .int 999, .int 0, .int 5]))] := hD
  obtain rfl : r1 = 0 := hw1
  refine lv_iconst (v := (-1)) hx hb dX10_seen_8 (by decide) ?_
  refine lv_ixor hx hb dX10_seen_9 ?_
  refine lv_topi (fun v2 ev2 => ?_)
  obtain rfl : v2 = (-1) := ev2.trans (by decide)
  refine lv_iand hx hb dX10_seen_10 ?_
  refine lv_topi (fun v3 ev3 => ?_)
  have ev3 : v3 = p0 := ev3.trans (xand1 _)
  refine lv_if_eq (tgt := 16) hx hb dX10_seen_11 (by decide) (fun c_4 => ?_) (fun c_4 => ?_)
  · skip
    have i_4 : p0.toInt = 0 := (ieq ((congrArg Int32.toInt ev3).trans rfl) (by decide)).mp c_4
    refine lv_aload_n hx hb dX10_seen_16 rfl (lv_at hl 0 rfl) ?_
    refine va_get (D := D) (ci := 9) (v := .ref pl) (C := RX10) (T := TX10) (N := 10) hx hb hts in_X10_seen_X10 hown hK hP 0 rfl rfl 7 (by decide) (hts (.fieldLink RX10 56 "PowerRails" "plan" "LPowerRails$Plan;") (by decide +kernel)) (fun _ h9 => h9) rfl dX10_seen_17 ?_
    refine lv_iload_n hx hb dX10_seen_20 rfl (lv_at hl 1 rfl) ?_
    have hPc := hP.sub (ws' := [(pl, .inr (2, [.ref pn, .ref pt, .int 0, .int 999, .int 0, .int 5]))]) [1] rfl
    have hDc := hD.sub (ws' := [(pl, .inr (2, [.ref pn, .ref pt, .int 0, .int 999, .int 0, .int 5]))]) [1] (by decide) rfl
    have hFc := va_free (wc := [(pl, .inr (2, [.ref pn, .ref pt, .int 0, .int 999, .int 0, .int 5]))]) hD hS hA [1] rfl
    refine va_calli (va_runS (As := [.ref pl, .int p0]) (rest := []) ⟨hx, hb, hml, hown, hts⟩ (c_thatExplain0 l D cI cJ cZ cG cH H.size pl p0 pn pt (by first | assumption | decide | omega)) (va_cwS 2 hts gX10_seen_X1_thatExplain rfl rfl rfl (by decide +kernel) ⟨Nat.le_of_ble_eq_true rfl, Nat.le_of_ble_eq_true rfl⟩) ⟨xPc_blind, xPc_pre hPc hK hDc⟩ rfl rfl hl.1 rfl (lv_room (Nat.le_of_ble_eq_true rfl)) dX10_seen_21 ⟨Nat.le_of_ble_eq_true rfl, Nat.le_of_ble_eq_true rfl⟩) hS (fun q _ h => hFc q h) hFc (fun r5 u t H1 locs ht hvm hw5 hB hz1 hk1 hS => ?_)
    obtain ⟨hP1, hK1, hD1⟩ := hB
    rw [ht] at hP1
    obtain ⟨hP, hD⟩ := va_join (wr := [(xo, .inr (9, [.ref tp, .ref rd, .ref rn, .ref co, .ref wy, .ref sg, .ref sh, .ref pl, .ref sp, .int 0]))]) (w1 := [(pl, .inr (2, [.ref pn, .ref pt, .int 0, .int 999, .int 0, .int 5]))]) hP hD [1] [0] rfl rfl (by decide) (by decide) hk1 hFc hP1 hD1
    generalize H1 = H at hP hS ⊢
    have hP : va_P D vwCl [(xo, .inr (9, [.ref tp, .ref rd, .ref rn, .ref co, .ref wy, .ref sg, .ref sh, .ref pl, .ref sp, .int 0])), (pl, .inr (2, [.ref pn, .ref pt, .int 0, .int 999, .int 0, .int 5]))] H := hP
    have hD : va_D A [(xo, .inr (9, [.ref tp, .ref rd, .ref rn, .ref co, .ref wy, .ref sg, .ref sh, .ref pl, .ref sp, .int 0])), (pl, .inr (2, [.ref pn, .ref pt, .int 0, .int 999, .int 0, .int 5]))] := hD
    obtain rfl : r5 = 256 := hw5
    refine W.widen (k := 0) (n := 0) (by decide) (by decide) ?_
    exact W.iret (v := 256) hx hb hr (fun t ht hW => ⟨⟨256, (), rfl, (by unfold sp_seen; repeat (first | rw [if_pos (by omega)] | rw [if_neg (by omega)])), trivial⟩, hS.F ht⟩) hS.2.2 dX10_seen_24
  · skip
    have i_4 : ¬ (p0.toInt = 0) := fun h9 => c_4 ((ieq ((congrArg Int32.toInt ev3).trans rfl) (by decide)).mpr h9)
    refine lv_iconst (v := (-1)) hx hb dX10_seen_14 (by decide) ?_
    refine W.widen (k := 0) (n := 0) (by decide) (by decide) ?_
    exact W.iret (v := (-1)) hx hb hr (fun t ht hW => ⟨⟨(-1), (), rfl, (by unfold sp_seen; repeat (first | rw [if_pos (by omega)] | rw [if_neg (by omega)])), trivial⟩, hS.F ht⟩) hS.2.2 dX10_seen_15
theorem in_X6_renew_X6 : ∀ w ∈ wsX60, w ∈ wsX6_renew := by decide +kernel
abbrev W_renew0 (cI cJ cZ cG cH : ClassId) (sh : Nat) (p0 : Int32) (p1 : Int32) (p2 : Int32) (sc : Nat) (sl : Nat) (ss : Nat) (rr : Nat → Nat) (fs : Nat → Int32) : va_W := [(sh, .inr (5, [.ref sc, .ref sl, .ref ss])), (sc, .inl (cG, 4, .inr (.inr (.inr (.inr (xmf 4 rr)))))), ((rr 0), .inl (cI, 40, .inl (fun _ => 0))), ((rr 1), .inl (cI, 40, .inl (fun _ => 0))), ((rr 2), .inl (cI, 40, .inl (fun _ => 0))), ((rr 3), .inl (cI, 40, .inl (fun _ => 0))), (sl, .inl (cI, 4, .inl (fun _ => 0))), (ss, .inl (cI, 4, .inl fs))]
abbrev Q_renew0 (D : va_G) (cI cJ cZ cG cH : ClassId) (sh : Nat) (p0 : Int32) (p1 : Int32) (p2 : Int32) (sc : Nat) (sl : Nat) (ss : Nat) (rr : Nat → Nat) (fs : Nat → Int32) (A : Nat → Prop) : Array Value → State → Outcome → State → Prop := va_Qv (fun (_ : Unit) => True) (fun _ t => True) A
abbrev rm_renew0 : Room := { frames := 1, cells := 0, slots := 0, locals := 23 }
set_option maxRecDepth 100000 in
set_option maxHeartbeats 4000000 in
theorem c_renew0 (l : Launch) (D : va_G) (cI cJ cZ cG cH : ClassId) (sz : Nat) (sh : Nat) (p0 : Int32) (p1 : Int32) (p2 : Int32) (sc : Nat) (sl : Nat) (ss : Nat) (rr : Nat → Nat) (fs : Nat → Int32) (hk0 : 0 ≤ p0.toInt ∧ p0.toInt < 4) : Met l yX6_renew wsX6_renew rm_renew0 (xPc [.ref sh, .int p0, .int p1, .int p2] D (tyL cI cJ cZ cG cH) (W_renew0 cI cJ cZ cG cH sh p0 p1 p2 sc sl ss rr fs) sz) (Q_renew0 D cI cJ cZ cG cH sh p0 p1 p2 sc sl ss rr fs (va_A (W_renew0 cI cJ cZ cG cH sh p0 p1 p2 sc sl ss rr fs) sz)) 0 0 (va_A (W_renew0 cI cJ cZ cG cH sh p0 p1 p2 sc sl ss rr fs) sz) := by
  refine xMet (cc := cX6_renew) (maxL := 4) (ret := none) (Qf := Q_renew0 D cI cJ cZ cG cH sh p0 p1 p2 sc sl ss rr fs) (by decide) rfl (Nat.le_of_ble_eq_true rfl) ?_
  intro p e s m below meth c ls A hx hb hr hml hts hown hlocks hnm hsz hP hK hD hA hS hl
  have hown : s.vm.findClass RX6 = some m.cls := hown
  have hP : va_P D vwCl [(sh, .inr (5, [.ref sc, .ref sl, .ref ss])), (sc, .inl (cG, 4, .inr (.inr (.inr (.inr (xmf 4 rr)))))), ((rr 0), .inl (cI, 40, .inl (fun _ => 0))), ((rr 1), .inl (cI, 40, .inl (fun _ => 0))), ((rr 2), .inl (cI, 40, .inl (fun _ => 0))), ((rr 3), .inl (cI, 40, .inl (fun _ => 0))), (sl, .inl (cI, 4, .inl (fun _ => 0))), (ss, .inl (cI, 4, .inl fs))] s.heap := hP
  have hD : va_D A [(sh, .inr (5, [.ref sc, .ref sl, .ref ss])), (sc, .inl (cG, 4, .inr (.inr (.inr (.inr (xmf 4 rr)))))), ((rr 0), .inl (cI, 40, .inl (fun _ => 0))), ((rr 1), .inl (cI, 40, .inl (fun _ => 0))), ((rr 2), .inl (cI, 40, .inl (fun _ => 0))), ((rr 3), .inl (cI, 40, .inl (fun _ => 0))), (sl, .inl (cI, 4, .inl (fun _ => 0))), (ss, .inl (cI, 4, .inl fs))] := hD
  have hl : lv_has ls 4 [(0, .ref sh), (1, .int p0), (2, .int p1), (3, .int p2)] := hl
  refine lv_aload_n hx hb dX6_renew_0 rfl (lv_at hl 0 rfl) ?_
  refine va_get (D := D) (ci := 5) (v := .ref sl) (C := RX6) (T := TX6) (N := 3) hx hb hts in_X6_renew_X6 hown hK hP 0 rfl rfl 1 (by decide) (hts (.fieldLink RX6 16 "PowerRails$Sheets" "lanes" "[I") (by decide +kernel)) (fun _ h9 => h9) rfl dX6_renew_1 ?_
  refine lv_iload_n hx hb dX6_renew_4 rfl (lv_at hl 1 rfl) ?_
  refine lv_iload_n hx hb dX6_renew_5 rfl (lv_at hl 2 rfl) ?_
  refine va_iast hx hb hK hP hD hS 6 0 rfl rfl (vp_in_iff.mpr ⟨by omega, by omega⟩) dX6_renew_6 (fun H locs hP hD hS => ?_)
  obtain ⟨f1, ef1⟩ : ∃ fz9 : Nat → Int32, fz9 = upd (fun _ => 0) (p0 : Int32).toNatClampNeg p1 := ⟨_, rfl⟩
  have hP : va_P D vwCl [(sh, .inr (5, [.ref sc, .ref sl, .ref ss])), (sc, .inl (cG, 4, .inr (.inr (.inr (.inr (xmf 4 rr)))))), ((rr 0), .inl (cI, 40, .inl (fun _ => 0))), ((rr 1), .inl (cI, 40, .inl (fun _ => 0))), ((rr 2), .inl (cI, 40, .inl (fun _ => 0))), ((rr 3), .inl (cI, 40, .inl (fun _ => 0))), (sl, .inl (cI, 4, .inl f1)), (ss, .inl (cI, 4, .inl fs))] H := by rw [ef1]; exact hP
  have hD : va_D A [(sh, .inr (5, [.ref sc, .ref sl, .ref ss])), (sc, .inl (cG, 4, .inr (.inr (.inr (.inr (xmf 4 rr)))))), ((rr 0), .inl (cI, 40, .inl (fun _ => 0))), ((rr 1), .inl (cI, 40, .inl (fun _ => 0))), ((rr 2), .inl (cI, 40, .inl (fun _ => 0))), ((rr 3), .inl (cI, 40, .inl (fun _ => 0))), (sl, .inl (cI, 4, .inl f1)), (ss, .inl (cI, 4, .inl fs))] := by rw [ef1]; exact hD
  refine lv_aload_n hx hb dX6_renew_7 rfl (lv_at hl 0 rfl) ?_
  refine va_get (D := D) (ci := 5) (v := .ref ss) (C := RX6) (T := TX6) (N := 3) hx hb hts in_X6_renew_X6 hown hK hP 0 rfl rfl 2 (by decide) (hts (.fieldLink RX6 20 "PowerRails$Sheets" "sizes" "[I") (by decide +kernel)) (fun _ h9 => h9) rfl dX6_renew_8 ?_
  refine lv_iload_n hx hb dX6_renew_11 rfl (lv_at hl 1 rfl) ?_
  refine lv_iload_n hx hb dX6_renew_12 rfl (lv_at hl 3 rfl) ?_
  refine va_iast hx hb hK hP hD hS 7 0 rfl rfl (vp_in_iff.mpr ⟨by omega, by omega⟩) dX6_renew_13 (fun H locs hP hD hS => ?_)
  obtain ⟨f2, ef2⟩ : ∃ fz9 : Nat → Int32, fz9 = upd fs (p0 : Int32).toNatClampNeg p2 := ⟨_, rfl⟩
  have hP : va_P D vwCl [(sh, .inr (5, [.ref sc, .ref sl, .ref ss])), (sc, .inl (cG, 4, .inr (.inr (.inr (.inr (xmf 4 rr)))))), ((rr 0), .inl (cI, 40, .inl (fun _ => 0))), ((rr 1), .inl (cI, 40, .inl (fun _ => 0))), ((rr 2), .inl (cI, 40, .inl (fun _ => 0))), ((rr 3), .inl (cI, 40, .inl (fun _ => 0))), (sl, .inl (cI, 4, .inl f1)), (ss, .inl (cI, 4, .inl f2))] H := by rw [ef2]; exact hP
  have hD : va_D A [(sh, .inr (5, [.ref sc, .ref sl, .ref ss])), (sc, .inl (cG, 4, .inr (.inr (.inr (.inr (xmf 4 rr)))))), ((rr 0), .inl (cI, 40, .inl (fun _ => 0))), ((rr 1), .inl (cI, 40, .inl (fun _ => 0))), ((rr 2), .inl (cI, 40, .inl (fun _ => 0))), ((rr 3), .inl (cI, 40, .inl (fun _ => 0))), (sl, .inl (cI, 4, .inl f1)), (ss, .inl (cI, 4, .inl f2))] := by rw [ef2]; exact hD
  refine lv_aload_n hx hb dX6_renew_14 rfl (lv_at hl 0 rfl) ?_
  refine va_get (D := D) (ci := 5) (v := .ref sc) (C := RX6) (T := TX6) (N := 3) hx hb hts in_X6_renew_X6 hown hK hP 0 rfl rfl 0 (by decide) (hts (.fieldLink RX6 13 "PowerRails$Sheets" "cells" "[[I") (by decide +kernel)) (fun _ h9 => h9) rfl dX6_renew_15 ?_
  refine lv_iload_n hx hb dX6_renew_18 rfl (lv_at hl 1 rfl) ?_
  by_cases h3 : p0.toInt = 0
  · refine xaldA hx hb hK hP 1 3 rfl rfl (vp_in_iff.mpr ⟨by omega, by omega⟩) dX6_renew_19 (v := .ref (rr 0)) (by rw [xclamp (j := 0) (rfl.trans h3)]; rfl) ?_
    refine lv_iconst (v := 0) hx hb dX6_renew_20 (by decide) ?_
    have hPc := hP.sub (ws' := [((rr 0), .inl (cI, 40, .inl (fun _ => 0)))]) [2] rfl
    have hDc := hD.sub (ws' := [((rr 0), .inl (cI, 40, .inl (fun _ => 0)))]) [2] (by decide) rfl
    have hFc := va_free (wc := [((rr 0), .inl (cI, 40, .inl (fun _ => 0)))]) hD hS hA [2] rfl
    refine va_callv (va_runS (As := [.ref (rr 0), .int 0]) (rest := []) ⟨hx, hb, hml, hown, hts⟩ (c_fillI l D cI cJ cZ cG cH H.size (rr 0) (0 : Int32) 40 (fun _ => 0) (by first | assumption | decide | omega)) (va_cwS 2 hts gX6_renew_J7_fill_53178 rfl rfl rfl (by decide +kernel) ⟨Nat.le_of_ble_eq_true rfl, Nat.le_of_ble_eq_true rfl⟩) ⟨xPc_blind, xPc_pre hPc hK hDc⟩ rfl rfl hl.1 rfl (lv_room (Nat.le_of_ble_eq_true rfl)) dX6_renew_21 ⟨Nat.le_of_ble_eq_true rfl, Nat.le_of_ble_eq_true rfl⟩) hS (fun q _ h => hFc q h) hFc (fun u t H1 locs ht hvm hw4 hB hz1 hk1 hS => ?_)
    obtain ⟨g_5, hf5_0, hP1, hK1, hD1⟩ := hB
    rw [ht] at hP1
    obtain ⟨hP, hD⟩ := va_join (wr := [(sh, .inr (5, [.ref sc, .ref sl, .ref ss])), (sc, .inl (cG, 4, .inr (.inr (.inr (.inr (xmf 4 rr)))))), ((rr 1), .inl (cI, 40, .inl (fun _ => 0))), ((rr 2), .inl (cI, 40, .inl (fun _ => 0))), ((rr 3), .inl (cI, 40, .inl (fun _ => 0))), (sl, .inl (cI, 4, .inl f1)), (ss, .inl (cI, 4, .inl f2))]) (w1 := [((rr 0), .inl (cI, 40, .inl g_5))]) hP hD [2] [0, 1, 3, 4, 5, 6, 7] rfl rfl (by decide) (by decide) hk1 hFc hP1 hD1
    generalize H1 = H at hP hS ⊢
    have hP : va_P D vwCl [(sh, .inr (5, [.ref sc, .ref sl, .ref ss])), (sc, .inl (cG, 4, .inr (.inr (.inr (.inr (xmf 4 rr)))))), ((rr 1), .inl (cI, 40, .inl (fun _ => 0))), ((rr 2), .inl (cI, 40, .inl (fun _ => 0))), ((rr 3), .inl (cI, 40, .inl (fun _ => 0))), (sl, .inl (cI, 4, .inl f1)), (ss, .inl (cI, 4, .inl f2)), ((rr 0), .inl (cI, 40, .inl g_5))] H := hP
    have hD : va_D A [(sh, .inr (5, [.ref sc, .ref sl, .ref ss])), (sc, .inl (cG, 4, .inr (.inr (.inr (.inr (xmf 4 rr)))))), ((rr 1), .inl (cI, 40, .inl (fun _ => 0))), ((rr 2), .inl (cI, 40, .inl (fun _ => 0))), ((rr 3), .inl (cI, 40, .inl (fun _ => 0))), (sl, .inl (cI, 4, .inl f1)), (ss, .inl (cI, 4, .inl f2)), ((rr 0), .inl (cI, 40, .inl g_5))] := hD
    have hf5_0 : ∀ j, j < 40 → g_5 j = (0 : Int32) := hf5_0
    refine W.widen (k := 0) (n := 0) (by decide) (by decide) ?_
    exact W.vret hx hb hr (fun t ht hW => ⟨⟨(), rfl, trivial, trivial⟩, hS.F ht⟩) hS.2.2 dX6_renew_24
  by_cases h6 : p0.toInt = 1
  · refine xaldA hx hb hK hP 1 3 rfl rfl (vp_in_iff.mpr ⟨by omega, by omega⟩) dX6_renew_19 (v := .ref (rr 1)) (by rw [xclamp (j := 1) (rfl.trans h6)]; rfl) ?_
    refine lv_iconst (v := 0) hx hb dX6_renew_20 (by decide) ?_
    have hPc := hP.sub (ws' := [((rr 1), .inl (cI, 40, .inl (fun _ => 0)))]) [3] rfl
    have hDc := hD.sub (ws' := [((rr 1), .inl (cI, 40, .inl (fun _ => 0)))]) [3] (by decide) rfl
    have hFc := va_free (wc := [((rr 1), .inl (cI, 40, .inl (fun _ => 0)))]) hD hS hA [3] rfl
    refine va_callv (va_runS (As := [.ref (rr 1), .int 0]) (rest := []) ⟨hx, hb, hml, hown, hts⟩ (c_fillI l D cI cJ cZ cG cH H.size (rr 1) (0 : Int32) 40 (fun _ => 0) (by first | assumption | decide | omega)) (va_cwS 2 hts gX6_renew_J7_fill_53178 rfl rfl rfl (by decide +kernel) ⟨Nat.le_of_ble_eq_true rfl, Nat.le_of_ble_eq_true rfl⟩) ⟨xPc_blind, xPc_pre hPc hK hDc⟩ rfl rfl hl.1 rfl (lv_room (Nat.le_of_ble_eq_true rfl)) dX6_renew_21 ⟨Nat.le_of_ble_eq_true rfl, Nat.le_of_ble_eq_true rfl⟩) hS (fun q _ h => hFc q h) hFc (fun u t H1 locs ht hvm hw7 hB hz1 hk1 hS => ?_)
    obtain ⟨g_8, hf8_0, hP1, hK1, hD1⟩ := hB
    rw [ht] at hP1
    obtain ⟨hP, hD⟩ := va_join (wr := [(sh, .inr (5, [.ref sc, .ref sl, .ref ss])), (sc, .inl (cG, 4, .inr (.inr (.inr (.inr (xmf 4 rr)))))), ((rr 0), .inl (cI, 40, .inl (fun _ => 0))), ((rr 2), .inl (cI, 40, .inl (fun _ => 0))), ((rr 3), .inl (cI, 40, .inl (fun _ => 0))), (sl, .inl (cI, 4, .inl f1)), (ss, .inl (cI, 4, .inl f2))]) (w1 := [((rr 1), .inl (cI, 40, .inl g_8))]) hP hD [3] [0, 1, 2, 4, 5, 6, 7] rfl rfl (by decide) (by decide) hk1 hFc hP1 hD1
    generalize H1 = H at hP hS ⊢
    have hP : va_P D vwCl [(sh, .inr (5, [.ref sc, .ref sl, .ref ss])), (sc, .inl (cG, 4, .inr (.inr (.inr (.inr (xmf 4 rr)))))), ((rr 0), .inl (cI, 40, .inl (fun _ => 0))), ((rr 2), .inl (cI, 40, .inl (fun _ => 0))), ((rr 3), .inl (cI, 40, .inl (fun _ => 0))), (sl, .inl (cI, 4, .inl f1)), (ss, .inl (cI, 4, .inl f2)), ((rr 1), .inl (cI, 40, .inl g_8))] H := hP
    have hD : va_D A [(sh, .inr (5, [.ref sc, .ref sl, .ref ss])), (sc, .inl (cG, 4, .inr (.inr (.inr (.inr (xmf 4 rr)))))), ((rr 0), .inl (cI, 40, .inl (fun _ => 0))), ((rr 2), .inl (cI, 40, .inl (fun _ => 0))), ((rr 3), .inl (cI, 40, .inl (fun _ => 0))), (sl, .inl (cI, 4, .inl f1)), (ss, .inl (cI, 4, .inl f2)), ((rr 1), .inl (cI, 40, .inl g_8))] := hD
    have hf8_0 : ∀ j, j < 40 → g_8 j = (0 : Int32) := hf8_0
    refine W.widen (k := 0) (n := 0) (by decide) (by decide) ?_
    exact W.vret hx hb hr (fun t ht hW => ⟨⟨(), rfl, trivial, trivial⟩, hS.F ht⟩) hS.2.2 dX6_renew_24
  by_cases h9 : p0.toInt = 2
  · refine xaldA hx hb hK hP 1 3 rfl rfl (vp_in_iff.mpr ⟨by omega, by omega⟩) dX6_renew_19 (v := .ref (rr 2)) (by rw [xclamp (j := 2) (rfl.trans h9)]; rfl) ?_
    refine lv_iconst (v := 0) hx hb dX6_renew_20 (by decide) ?_
    have hPc := hP.sub (ws' := [((rr 2), .inl (cI, 40, .inl (fun _ => 0)))]) [4] rfl
    have hDc := hD.sub (ws' := [((rr 2), .inl (cI, 40, .inl (fun _ => 0)))]) [4] (by decide) rfl
    have hFc := va_free (wc := [((rr 2), .inl (cI, 40, .inl (fun _ => 0)))]) hD hS hA [4] rfl
    refine va_callv (va_runS (As := [.ref (rr 2), .int 0]) (rest := []) ⟨hx, hb, hml, hown, hts⟩ (c_fillI l D cI cJ cZ cG cH H.size (rr 2) (0 : Int32) 40 (fun _ => 0) (by first | assumption | decide | omega)) (va_cwS 2 hts gX6_renew_J7_fill_53178 rfl rfl rfl (by decide +kernel) ⟨Nat.le_of_ble_eq_true rfl, Nat.le_of_ble_eq_true rfl⟩) ⟨xPc_blind, xPc_pre hPc hK hDc⟩ rfl rfl hl.1 rfl (lv_room (Nat.le_of_ble_eq_true rfl)) dX6_renew_21 ⟨Nat.le_of_ble_eq_true rfl, Nat.le_of_ble_eq_true rfl⟩) hS (fun q _ h => hFc q h) hFc (fun u t H1 locs ht hvm hw10 hB hz1 hk1 hS => ?_)
    obtain ⟨g_11, hf11_0, hP1, hK1, hD1⟩ := hB
    rw [ht] at hP1
    obtain ⟨hP, hD⟩ := va_join (wr := [(sh, .inr (5, [.ref sc, .ref sl, .ref ss])), (sc, .inl (cG, 4, .inr (.inr (.inr (.inr (xmf 4 rr)))))), ((rr 0), .inl (cI, 40, .inl (fun _ => 0))), ((rr 1), .inl (cI, 40, .inl (fun _ => 0))), ((rr 3), .inl (cI, 40, .inl (fun _ => 0))), (sl, .inl (cI, 4, .inl f1)), (ss, .inl (cI, 4, .inl f2))]) (w1 := [((rr 2), .inl (cI, 40, .inl g_11))]) hP hD [4] [0, 1, 2, 3, 5, 6, 7] rfl rfl (by decide) (by decide) hk1 hFc hP1 hD1
    generalize H1 = H at hP hS ⊢
    have hP : va_P D vwCl [(sh, .inr (5, [.ref sc, .ref sl, .ref ss])), (sc, .inl (cG, 4, .inr (.inr (.inr (.inr (xmf 4 rr)))))), ((rr 0), .inl (cI, 40, .inl (fun _ => 0))), ((rr 1), .inl (cI, 40, .inl (fun _ => 0))), ((rr 3), .inl (cI, 40, .inl (fun _ => 0))), (sl, .inl (cI, 4, .inl f1)), (ss, .inl (cI, 4, .inl f2)), ((rr 2), .inl (cI, 40, .inl g_11))] H := hP
    have hD : va_D A [(sh, .inr (5, [.ref sc, .ref sl, .ref ss])), (sc, .inl (cG, 4, .inr (.inr (.inr (.inr (xmf 4 rr)))))), ((rr 0), .inl (cI, 40, .inl (fun _ => 0))), ((rr 1), .inl (cI, 40, .inl (fun _ => 0))), ((rr 3), .inl (cI, 40, .inl (fun _ => 0))), (sl, .inl (cI, 4, .inl f1)), (ss, .inl (cI, 4, .inl f2)), ((rr 2), .inl (cI, 40, .inl g_11))] := hD
    have hf11_0 : ∀ j, j < 40 → g_11 j = (0 : Int32) := hf11_0
    refine W.widen (k := 0) (n := 0) (by decide) (by decide) ?_
    exact W.vret hx hb hr (fun t ht hW => ⟨⟨(), rfl, trivial, trivial⟩, hS.F ht⟩) hS.2.2 dX6_renew_24
  have h12 : p0.toInt = 3 := by omega
  refine xaldA hx hb hK hP 1 3 rfl rfl (vp_in_iff.mpr ⟨by omega, by omega⟩) dX6_renew_19 (v := .ref (rr 3)) (by rw [xclamp (j := 3) (rfl.trans h12)]; rfl) ?_
  refine lv_iconst (v := 0) hx hb dX6_renew_20 (by decide) ?_
  have hPc := hP.sub (ws' := [((rr 3), .inl (cI, 40, .inl (fun _ => 0)))]) [5] rfl
  have hDc := hD.sub (ws' := [((rr 3), .inl (cI, 40, .inl (fun _ => 0)))]) [5] (by decide) rfl
  have hFc := va_free (wc := [((rr 3), .inl (cI, 40, .inl (fun _ => 0)))]) hD hS hA [5] rfl
  refine va_callv (va_runS (As := [.ref (rr 3), .int 0]) (rest := []) ⟨hx, hb, hml, hown, hts⟩ (c_fillI l D cI cJ cZ cG cH H.size (rr 3) (0 : Int32) 40 (fun _ => 0) (by first | assumption | decide | omega)) (va_cwS 2 hts gX6_renew_J7_fill_53178 rfl rfl rfl (by decide +kernel) ⟨Nat.le_of_ble_eq_true rfl, Nat.le_of_ble_eq_true rfl⟩) ⟨xPc_blind, xPc_pre hPc hK hDc⟩ rfl rfl hl.1 rfl (lv_room (Nat.le_of_ble_eq_true rfl)) dX6_renew_21 ⟨Nat.le_of_ble_eq_true rfl, Nat.le_of_ble_eq_true rfl⟩) hS (fun q _ h => hFc q h) hFc (fun u t H1 locs ht hvm hw13 hB hz1 hk1 hS => ?_)
  obtain ⟨g_14, hf14_0, hP1, hK1, hD1⟩ := hB
  rw [ht] at hP1
  obtain ⟨hP, hD⟩ := va_join (wr := [(sh, .inr (5, [.ref sc, .ref sl, .ref ss])), (sc, .inl (cG, 4, .inr (.inr (.inr (.inr (xmf 4 rr)))))), ((rr 0), .inl (cI, 40, .inl (fun _ => 0))), ((rr 1), .inl (cI, 40, .inl (fun _ => 0))), ((rr 2), .inl (cI, 40, .inl (fun _ => 0))), (sl, .inl (cI, 4, .inl f1)), (ss, .inl (cI, 4, .inl f2))]) (w1 := [((rr 3), .inl (cI, 40, .inl g_14))]) hP hD [5] [0, 1, 2, 3, 4, 6, 7] rfl rfl (by decide) (by decide) hk1 hFc hP1 hD1
  generalize H1 = H at hP hS ⊢
  have hP : va_P D vwCl [(sh, .inr (5, [.ref sc, .ref sl, .ref ss])), (sc, .inl (cG, 4, .inr (.inr (.inr (.inr (xmf 4 rr)))))), ((rr 0), .inl (cI, 40, .inl (fun _ => 0))), ((rr 1), .inl (cI, 40, .inl (fun _ => 0))), ((rr 2), .inl (cI, 40, .inl (fun _ => 0))), (sl, .inl (cI, 4, .inl f1)), (ss, .inl (cI, 4, .inl f2)), ((rr 3), .inl (cI, 40, .inl g_14))] H := hP
  have hD : va_D A [(sh, .inr (5, [.ref sc, .ref sl, .ref ss])), (sc, .inl (cG, 4, .inr (.inr (.inr (.inr (xmf 4 rr)))))), ((rr 0), .inl (cI, 40, .inl (fun _ => 0))), ((rr 1), .inl (cI, 40, .inl (fun _ => 0))), ((rr 2), .inl (cI, 40, .inl (fun _ => 0))), (sl, .inl (cI, 4, .inl f1)), (ss, .inl (cI, 4, .inl f2)), ((rr 3), .inl (cI, 40, .inl g_14))] := hD
  have hf14_0 : ∀ j, j < 40 → g_14 j = (0 : Int32) := hf14_0
  refine W.widen (k := 0) (n := 0) (by decide) (by decide) ?_
  exact W.vret hx hb hr (fun t ht hW => ⟨⟨(), rfl, trivial, trivial⟩, hS.F ht⟩) hS.2.2 dX6_renew_24
theorem in_X10_sheet_X10 : ∀ w ∈ wsX100, w ∈ wsX10_sheet := by decide +kernel
abbrev W_x_sheet (cI cJ cZ cG cH : ClassId) (xo : Nat) (p0 : Int32) (p1 : Int32) (p2 : Int32) (tp : Nat) (rd : Nat) (rn : Nat) (co : Nat) (wy : Nat) (sg : Nat) (sh : Nat) (pl : Nat) (sp : Nat) (sc : Nat) (sl : Nat) (ss : Nat) (rr : Nat → Nat) (fs : Nat → Int32) : va_W := [(xo, .inr (9, [.ref tp, .ref rd, .ref rn, .ref co, .ref wy, .ref sg, .ref sh, .ref pl, .ref sp, .int 0])), (sh, .inr (5, [.ref sc, .ref sl, .ref ss])), (sc, .inl (cG, 4, .inr (.inr (.inr (.inr (xmf 4 rr)))))), ((rr 0), .inl (cI, 40, .inl (fun _ => 0))), ((rr 1), .inl (cI, 40, .inl (fun _ => 0))), ((rr 2), .inl (cI, 40, .inl (fun _ => 0))), ((rr 3), .inl (cI, 40, .inl (fun _ => 0))), (sl, .inl (cI, 4, .inl (fun _ => 0))), (ss, .inl (cI, 4, .inl fs))]
abbrev Q_x_sheet (D : va_G) (cI cJ cZ cG cH : ClassId) (xo : Nat) (p0 : Int32) (p1 : Int32) (p2 : Int32) (tp : Nat) (rd : Nat) (rn : Nat) (co : Nat) (wy : Nat) (sg : Nat) (sh : Nat) (pl : Nat) (sp : Nat) (sc : Nat) (sl : Nat) (ss : Nat) (rr : Nat → Nat) (fs : Nat → Int32) (A : Nat → Prop) : Array Value → State → Outcome → State → Prop := va_Qi (fun (r : Int32) (_ : Unit) => r = sp_sheet p0 p1 p2) (fun _ t => True) A
abbrev rm_x_sheet : Room := { frames := 2, cells := 0, slots := 0, locals := 46 }
set_option maxRecDepth 100000 in
set_option maxHeartbeats 4000000 in
theorem c_x_sheet (l : Launch) (D : va_G) (cI cJ cZ cG cH : ClassId) (sz : Nat) (xo : Nat) (p0 : Int32) (p1 : Int32) (p2 : Int32) (tp : Nat) (rd : Nat) (rn : Nat) (co : Nat) (wy : Nat) (sg : Nat) (sh : Nat) (pl : Nat) (sp : Nat) (sc : Nat) (sl : Nat) (ss : Nat) (rr : Nat → Nat) (fs : Nat → Int32) : Met l yX10_sheet wsX10_sheet rm_x_sheet (xPc [.ref xo, .int p0, .int p1, .int p2] D (tyL cI cJ cZ cG cH) (W_x_sheet cI cJ cZ cG cH xo p0 p1 p2 tp rd rn co wy sg sh pl sp sc sl ss rr fs) sz) (Q_x_sheet D cI cJ cZ cG cH xo p0 p1 p2 tp rd rn co wy sg sh pl sp sc sl ss rr fs (va_A (W_x_sheet cI cJ cZ cG cH xo p0 p1 p2 tp rd rn co wy sg sh pl sp sc sl ss rr fs) sz)) 0 0 (va_A (W_x_sheet cI cJ cZ cG cH xo p0 p1 p2 tp rd rn co wy sg sh pl sp sc sl ss rr fs) sz) := by
  refine xMet (cc := cX10_sheet) (maxL := 4) (ret := (some .int)) (Qf := Q_x_sheet D cI cJ cZ cG cH xo p0 p1 p2 tp rd rn co wy sg sh pl sp sc sl ss rr fs) (by decide) rfl (Nat.le_of_ble_eq_true rfl) ?_
  intro p e s m below meth c ls A hx hb hr hml hts hown hlocks hnm hsz hP hK hD hA hS hl
  have hown : s.vm.findClass RX10 = some m.cls := hown
  have hP : va_P D vwCl [(xo, .inr (9, [.ref tp, .ref rd, .ref rn, .ref co, .ref wy, .ref sg, .ref sh, .ref pl, .ref sp, .int 0])), (sh, .inr (5, [.ref sc, .ref sl, .ref ss])), (sc, .inl (cG, 4, .inr (.inr (.inr (.inr (xmf 4 rr)))))), ((rr 0), .inl (cI, 40, .inl (fun _ => 0))), ((rr 1), .inl (cI, 40, .inl (fun _ => 0))), ((rr 2), .inl (cI, 40, .inl (fun _ => 0))), ((rr 3), .inl (cI, 40, .inl (fun _ => 0))), (sl, .inl (cI, 4, .inl (fun _ => 0))), (ss, .inl (cI, 4, .inl fs))] s.heap := hP
  have hD : va_D A [(xo, .inr (9, [.ref tp, .ref rd, .ref rn, .ref co, .ref wy, .ref sg, .ref sh, .ref pl, .ref sp, .int 0])), (sh, .inr (5, [.ref sc, .ref sl, .ref ss])), (sc, .inl (cG, 4, .inr (.inr (.inr (.inr (xmf 4 rr)))))), ((rr 0), .inl (cI, 40, .inl (fun _ => 0))), ((rr 1), .inl (cI, 40, .inl (fun _ => 0))), ((rr 2), .inl (cI, 40, .inl (fun _ => 0))), ((rr 3), .inl (cI, 40, .inl (fun _ => 0))), (sl, .inl (cI, 4, .inl (fun _ => 0))), (ss, .inl (cI, 4, .inl fs))] := hD
  have hl : lv_has ls 4 [(0, .ref xo), (1, .int p0), (2, .int p1), (3, .int p2)] := hl
  refine lv_iload_n hx hb dX10_sheet_0 rfl (lv_at hl 1 rfl) ?_
  have hPc := hP.sub (ws' := []) [] rfl
  have hDc := hD.sub (ws' := []) [] (by decide) rfl
  have hFc := va_free (wc := []) hD hS hA [] rfl
  refine va_calli (va_runS (As := [.int p0]) (rest := []) ⟨hx, hb, hml, hown, hts⟩ (c_hasPlace l D cI cJ cZ cG cH s.heap.size p0) (va_cwS 1 hts gX10_sheet_X6_hasPlace rfl rfl rfl (by decide +kernel) ⟨Nat.le_of_ble_eq_true rfl, Nat.le_of_ble_eq_true rfl⟩) ⟨xPc_blind, xPc_pre hPc hK hDc⟩ rfl rfl hl.1 rfl (lv_room (Nat.le_of_ble_eq_true rfl)) dX10_sheet_1 ⟨Nat.le_of_ble_eq_true rfl, Nat.le_of_ble_eq_true rfl⟩) hS (fun q _ h => hFc q h) hFc (fun r1 u t H1 locs ht hvm hw1 hB hz1 hk1 hS => ?_)
  obtain ⟨hP1, hK1, hD1⟩ := hB
  rw [ht] at hP1
  obtain ⟨hP, hD⟩ := va_join (wr := [(xo, .inr (9, [.ref tp, .ref rd, .ref rn, .ref co, .ref wy, .ref sg, .ref sh, .ref pl, .ref sp, .int 0])), (sh, .inr (5, [.ref sc, .ref sl, .ref ss])), (sc, .inl (cG, 4, .inr (.inr (.inr (.inr (xmf 4 rr)))))), ((rr 0), .inl (cI, 40, .inl (fun _ => 0))), ((rr 1), .inl (cI, 40, .inl (fun _ => 0))), ((rr 2), .inl (cI, 40, .inl (fun _ => 0))), ((rr 3), .inl (cI, 40, .inl (fun _ => 0))), (sl, .inl (cI, 4, .inl (fun _ => 0))), (ss, .inl (cI, 4, .inl fs))]) (w1 := []) hP hD [] [0, 1, 2, 3, 4, 5, 6, 7, 8] rfl rfl (by decide) (by decide) hk1 hFc hP1 hD1
  generalize H1 = H at hP hS ⊢
  have hP : va_P D vwCl [(xo, .inr (9, [.ref tp, .ref rd, .ref rn, .ref co, .ref wy, .ref sg, .ref sh, .ref pl, .ref sp, .int 0])), (sh, .inr (5, [.ref sc, .ref sl, .ref ss])), (sc, .inl (cG, 4, .inr (.inr (.inr (.inr (xmf 4 rr)))))), ((rr 0), .inl (cI, 40, .inl (fun _ => 0))), ((rr 1), .inl (cI, 40, .inl (fun _ => 0))), ((rr 2), .inl (cI, 40, .inl (fun _ => 0))), ((rr 3), .inl (cI, 40, .inl (fun _ => 0))), (sl, .inl (cI, 4, .inl (fun _ => 0))), (ss, .inl (cI, 4, .inl fs))] H := hP
  have hD : va_D A [(xo, .inr (9, [.ref tp, .ref rd, .ref rn, .ref co, .ref wy, .ref sg, .ref sh, .ref pl, .ref sp, .int 0])), (sh, .inr (5, [.ref sc, .ref sl, .ref ss])), (sc, .inl (cG, 4, .inr (.inr (.inr (.inr (xmf 4 rr)))))), ((rr 0), .inl (cI, 40, .inl (fun _ => 0))), ((rr 1), .inl (cI, 40, .inl (fun _ => 0))), ((rr 2), .inl (cI, 40, .inl (fun _ => 0))), ((rr 3), .inl (cI, 40, .inl (fun _ => 0))), (sl, .inl (cI, 4, .inl (fun _ => 0))), (ss, .inl (cI, 4, .inl fs))] := hD
  have hw1 : r1 = if 0 ≤ p0.toInt ∧ p0.toInt < 4 then 1 else 0 := hw1
  refine lv_if_eq (tgt := 20) hx hb dX10_sheet_4 (by decide) (fun c_2 => ?_) (fun c_2 => ?_)
  · skip
    have i_2 : ¬ (0 ≤ p0.toInt ∧ p0.toInt < 4) := (xbool hw1).1.mp c_2
    refine lv_iconst (v := (-1)) hx hb dX10_sheet_20 (by decide) ?_
    refine W.widen (k := 0) (n := 0) (by decide) (by decide) ?_
    exact W.iret (v := (-1)) hx hb hr (fun t ht hW => ⟨⟨(-1), (), rfl, (by unfold sp_sheet; repeat (first | rw [if_pos (by omega)] | rw [if_neg (by omega)])), trivial⟩, hS.F ht⟩) hS.2.2 dX10_sheet_21
  · skip
    have i_2 : 0 ≤ p0.toInt ∧ p0.toInt < 4 := (xbool hw1).2.mp c_2
    refine lv_iload_n hx hb dX10_sheet_7 rfl (lv_at hl 2 rfl) ?_
    have hPc := hP.sub (ws' := []) [] rfl
    have hDc := hD.sub (ws' := []) [] (by decide) rfl
    have hFc := va_free (wc := []) hD hS hA [] rfl
    refine va_calli (va_runS (As := [.int p1]) (rest := []) ⟨hx, hb, hml, hown, hts⟩ (c_isLane l D cI cJ cZ cG cH H.size p1) (va_cwS 1 hts gX10_sheet_X6_isLane rfl rfl rfl (by decide +kernel) ⟨Nat.le_of_ble_eq_true rfl, Nat.le_of_ble_eq_true rfl⟩) ⟨xPc_blind, xPc_pre hPc hK hDc⟩ rfl rfl hl.1 rfl (lv_room (Nat.le_of_ble_eq_true rfl)) dX10_sheet_8 ⟨Nat.le_of_ble_eq_true rfl, Nat.le_of_ble_eq_true rfl⟩) hS (fun q _ h => hFc q h) hFc (fun r3 u t H1 locs ht hvm hw3 hB hz1 hk1 hS => ?_)
    obtain ⟨hP1, hK1, hD1⟩ := hB
    rw [ht] at hP1
    obtain ⟨hP, hD⟩ := va_join (wr := [(xo, .inr (9, [.ref tp, .ref rd, .ref rn, .ref co, .ref wy, .ref sg, .ref sh, .ref pl, .ref sp, .int 0])), (sh, .inr (5, [.ref sc, .ref sl, .ref ss])), (sc, .inl (cG, 4, .inr (.inr (.inr (.inr (xmf 4 rr)))))), ((rr 0), .inl (cI, 40, .inl (fun _ => 0))), ((rr 1), .inl (cI, 40, .inl (fun _ => 0))), ((rr 2), .inl (cI, 40, .inl (fun _ => 0))), ((rr 3), .inl (cI, 40, .inl (fun _ => 0))), (sl, .inl (cI, 4, .inl (fun _ => 0))), (ss, .inl (cI, 4, .inl fs))]) (w1 := []) hP hD [] [0, 1, 2, 3, 4, 5, 6, 7, 8] rfl rfl (by decide) (by decide) hk1 hFc hP1 hD1
    generalize H1 = H at hP hS ⊢
    have hP : va_P D vwCl [(xo, .inr (9, [.ref tp, .ref rd, .ref rn, .ref co, .ref wy, .ref sg, .ref sh, .ref pl, .ref sp, .int 0])), (sh, .inr (5, [.ref sc, .ref sl, .ref ss])), (sc, .inl (cG, 4, .inr (.inr (.inr (.inr (xmf 4 rr)))))), ((rr 0), .inl (cI, 40, .inl (fun _ => 0))), ((rr 1), .inl (cI, 40, .inl (fun _ => 0))), ((rr 2), .inl (cI, 40, .inl (fun _ => 0))), ((rr 3), .inl (cI, 40, .inl (fun _ => 0))), (sl, .inl (cI, 4, .inl (fun _ => 0))), (ss, .inl (cI, 4, .inl fs))] H := hP
    have hD : va_D A [(xo, .inr (9, [.ref tp, .ref rd, .ref rn, .ref co, .ref wy, .ref sg, .ref sh, .ref pl, .ref sp, .int 0])), (sh, .inr (5, [.ref sc, .ref sl, .ref ss])), (sc, .inl (cG, 4, .inr (.inr (.inr (.inr (xmf 4 rr)))))), ((rr 0), .inl (cI, 40, .inl (fun _ => 0))), ((rr 1), .inl (cI, 40, .inl (fun _ => 0))), ((rr 2), .inl (cI, 40, .inl (fun _ => 0))), ((rr 3), .inl (cI, 40, .inl (fun _ => 0))), (sl, .inl (cI, 4, .inl (fun _ => 0))), (ss, .inl (cI, 4, .inl fs))] := hD
    have hw3 : r3 = if 0 ≤ p1.toInt ∧ p1.toInt ≤ 2 then 1 else 0 := hw3
    refine lv_if_eq (tgt := 20) hx hb dX10_sheet_11 (by decide) (fun c_4 => ?_) (fun c_4 => ?_)
    · skip
      have i_4 : ¬ (0 ≤ p1.toInt ∧ p1.toInt ≤ 2) := (xbool hw3).1.mp c_4
      refine lv_iconst (v := (-1)) hx hb dX10_sheet_20 (by decide) ?_
      refine W.widen (k := 0) (n := 0) (by decide) (by decide) ?_
      exact W.iret (v := (-1)) hx hb hr (fun t ht hW => ⟨⟨(-1), (), rfl, (by unfold sp_sheet; repeat (first | rw [if_pos (by omega)] | rw [if_neg (by omega)])), trivial⟩, hS.F ht⟩) hS.2.2 dX10_sheet_21
    · skip
      have i_4 : 0 ≤ p1.toInt ∧ p1.toInt ≤ 2 := (xbool hw3).2.mp c_4
      refine lv_iload_n hx hb dX10_sheet_14 rfl (lv_at hl 3 rfl) ?_
      refine lv_bipush (v := 40) hx hb dX10_sheet_15 (by decide) ?_
      refine lv_icmp_le (tgt := 22) hx hb dX10_sheet_17 (by decide) (fun c_5 => ?_) (fun c_5 => ?_)
      · skip
        have i_5 : p2.toInt ≤ 40 := (ile rfl (by decide)).mp c_5
        refine lv_iload_n hx hb dX10_sheet_22 rfl (lv_at hl 3 rfl) ?_
        refine lv_if_ge (tgt := 29) hx hb dX10_sheet_23 (by decide) (fun c_6 => ?_) (fun c_6 => ?_)
        · skip
          have i_6 : 0 ≤ p2.toInt := (ile (by decide) rfl).mp c_6
          refine lv_aload_n hx hb dX10_sheet_29 rfl (lv_at hl 0 rfl) ?_
          refine va_get (D := D) (ci := 9) (v := .ref sh) (C := RX10) (T := TX10) (N := 10) hx hb hts in_X10_sheet_X10 hown hK hP 0 rfl rfl 6 (by decide) (hts (.fieldLink RX10 49 "PowerRails" "sheets" "LPowerRails$Sheets;") (by decide +kernel)) (fun _ h9 => h9) rfl dX10_sheet_30 ?_
          refine lv_iload_n hx hb dX10_sheet_33 rfl (lv_at hl 1 rfl) ?_
          refine lv_iload_n hx hb dX10_sheet_34 rfl (lv_at hl 2 rfl) ?_
          refine lv_iload_n hx hb dX10_sheet_35 rfl (lv_at hl 3 rfl) ?_
          have hPc := hP.sub (ws' := [(sh, .inr (5, [.ref sc, .ref sl, .ref ss])), (sc, .inl (cG, 4, .inr (.inr (.inr (.inr (xmf 4 rr)))))), ((rr 0), .inl (cI, 40, .inl (fun _ => 0))), ((rr 1), .inl (cI, 40, .inl (fun _ => 0))), ((rr 2), .inl (cI, 40, .inl (fun _ => 0))), ((rr 3), .inl (cI, 40, .inl (fun _ => 0))), (sl, .inl (cI, 4, .inl (fun _ => 0))), (ss, .inl (cI, 4, .inl fs))]) [1, 2, 3, 4, 5, 6, 7, 8] rfl
          have hDc := hD.sub (ws' := [(sh, .inr (5, [.ref sc, .ref sl, .ref ss])), (sc, .inl (cG, 4, .inr (.inr (.inr (.inr (xmf 4 rr)))))), ((rr 0), .inl (cI, 40, .inl (fun _ => 0))), ((rr 1), .inl (cI, 40, .inl (fun _ => 0))), ((rr 2), .inl (cI, 40, .inl (fun _ => 0))), ((rr 3), .inl (cI, 40, .inl (fun _ => 0))), (sl, .inl (cI, 4, .inl (fun _ => 0))), (ss, .inl (cI, 4, .inl fs))]) [1, 2, 3, 4, 5, 6, 7, 8] (by decide) rfl
          have hFc := va_free (wc := [(sh, .inr (5, [.ref sc, .ref sl, .ref ss])), (sc, .inl (cG, 4, .inr (.inr (.inr (.inr (xmf 4 rr)))))), ((rr 0), .inl (cI, 40, .inl (fun _ => 0))), ((rr 1), .inl (cI, 40, .inl (fun _ => 0))), ((rr 2), .inl (cI, 40, .inl (fun _ => 0))), ((rr 3), .inl (cI, 40, .inl (fun _ => 0))), (sl, .inl (cI, 4, .inl (fun _ => 0))), (ss, .inl (cI, 4, .inl fs))]) hD hS hA [1, 2, 3, 4, 5, 6, 7, 8] rfl
          refine va_callv (va_runV (As := [.int p0, .int p1, .int p2]) (rest := []) ⟨hx, hb, hml, hown, hts⟩ (c_renew0 l D cI cJ cZ cG cH H.size sh p0 p1 p2 sc sl ss rr fs (by first | assumption | decide | omega)) (cwV 3 hts gX10_sheet_X6_renew rfl rfl rfl (by decide +kernel) ⟨Nat.le_of_ble_eq_true rfl, Nat.le_of_ble_eq_true rfl⟩) ⟨xPc_blind, va_recv hK hPc (ci := 5) (q0 := 0) rfl rfl, xPc_pre hPc hK hDc⟩ rfl rfl hl.1 rfl (lv_room (Nat.le_of_ble_eq_true rfl)) dX10_sheet_36 ⟨Nat.le_of_ble_eq_true rfl, Nat.le_of_ble_eq_true rfl⟩) hS (fun q _ h => hFc q h) hFc (fun u t H1 locs ht hvm hw7 hB hz1 hk1 hS => ?_)
          obtain ⟨hP, hD⟩ := va_join (wr := [(xo, .inr (9, [.ref tp, .ref rd, .ref rn, .ref co, .ref wy, .ref sg, .ref sh, .ref pl, .ref sp, .int 0]))]) (w1 := []) hP hD [1, 2, 3, 4, 5, 6, 7, 8] [0] rfl rfl (by decide) (by decide) hk1 hFc (xP0 D H1) (xD0 _)
          generalize H1 = H at hP hS ⊢
          have hP : va_P D vwCl [(xo, .inr (9, [.ref tp, .ref rd, .ref rn, .ref co, .ref wy, .ref sg, .ref sh, .ref pl, .ref sp, .int 0]))] H := hP
          have hD : va_D A [(xo, .inr (9, [.ref tp, .ref rd, .ref rn, .ref co, .ref wy, .ref sg, .ref sh, .ref pl, .ref sp, .int 0]))] := hD
          refine lv_iconst (v := 1) hx hb dX10_sheet_39 (by decide) ?_
          refine W.widen (k := 0) (n := 0) (by decide) (by decide) ?_
          exact W.iret (v := 1) hx hb hr (fun t ht hW => ⟨⟨1, (), rfl, (by unfold sp_sheet; repeat (first | rw [if_pos (by omega)] | rw [if_neg (by omega)])), trivial⟩, hS.F ht⟩) hS.2.2 dX10_sheet_40
        · skip
          have i_6 : ¬ (0 ≤ p2.toInt) := fun h9 => c_6 ((ile (by decide) rfl).mpr h9)
          refine lv_bipush (v := (-14)) hx hb dX10_sheet_26 (by decide) ?_
          refine W.widen (k := 0) (n := 0) (by decide) (by decide) ?_
          exact W.iret (v := (-14)) hx hb hr (fun t ht hW => ⟨⟨(-14), (), rfl, (by unfold sp_sheet; repeat (first | rw [if_pos (by omega)] | rw [if_neg (by omega)])), trivial⟩, hS.F ht⟩) hS.2.2 dX10_sheet_28
      · skip
        have i_5 : ¬ (p2.toInt ≤ 40) := fun h9 => c_5 ((ile rfl (by decide)).mpr h9)
        refine lv_iconst (v := (-1)) hx hb dX10_sheet_20 (by decide) ?_
        refine W.widen (k := 0) (n := 0) (by decide) (by decide) ?_
        exact W.iret (v := (-1)) hx hb hr (fun t ht hW => ⟨⟨(-1), (), rfl, (by unfold sp_sheet; repeat (first | rw [if_pos (by omega)] | rw [if_neg (by omega)])), trivial⟩, hS.F ht⟩) hS.2.2 dX10_sheet_21
theorem in_X10_lay_X10 : ∀ w ∈ wsX100, w ∈ wsX10_lay := by decide +kernel
theorem in_X10_lay_X6 : ∀ w ∈ wsX60, w ∈ wsX10_lay := by decide +kernel
abbrev W_x_lay (cI cJ cZ cG cH : ClassId) (xo : Nat) (p0 : Int32) (p1 : Int32) (p2 : Int32) (tp : Nat) (rd : Nat) (rn : Nat) (co : Nat) (wy : Nat) (sg : Nat) (sh : Nat) (pl : Nat) (sp : Nat) (sc : Nat) (sl : Nat) (ss : Nat) (fs : Nat → Int32) : va_W := [(xo, .inr (9, [.ref tp, .ref rd, .ref rn, .ref co, .ref wy, .ref sg, .ref sh, .ref pl, .ref sp, .int 0])), (sh, .inr (5, [.ref sc, .ref sl, .ref ss])), (ss, .inl (cI, 4, .inl fs))]
abbrev Q_x_lay (D : va_G) (cI cJ cZ cG cH : ClassId) (xo : Nat) (p0 : Int32) (p1 : Int32) (p2 : Int32) (tp : Nat) (rd : Nat) (rn : Nat) (co : Nat) (wy : Nat) (sg : Nat) (sh : Nat) (pl : Nat) (sp : Nat) (sc : Nat) (sl : Nat) (ss : Nat) (fs : Nat → Int32) (A : Nat → Prop) : Array Value → State → Outcome → State → Prop := va_Qi (fun (r : Int32) (_ : Unit) => r = sp_lay p0) (fun _ t => True) A
abbrev rm_x_lay : Room := { frames := 1, cells := 0, slots := 0, locals := 20 }
set_option maxRecDepth 100000 in
set_option maxHeartbeats 4000000 in
theorem c_x_lay (l : Launch) (D : va_G) (cI cJ cZ cG cH : ClassId) (sz : Nat) (xo : Nat) (p0 : Int32) (p1 : Int32) (p2 : Int32) (tp : Nat) (rd : Nat) (rn : Nat) (co : Nat) (wy : Nat) (sg : Nat) (sh : Nat) (pl : Nat) (sp : Nat) (sc : Nat) (sl : Nat) (ss : Nat) (fs : Nat → Int32) (hfs : ∀ j, j < 4 → fs j = -4) : Met l yX10_lay wsX10_lay rm_x_lay (xPc [.ref xo, .int p0, .int p1, .int p2] D (tyL cI cJ cZ cG cH) (W_x_lay cI cJ cZ cG cH xo p0 p1 p2 tp rd rn co wy sg sh pl sp sc sl ss fs) sz) (Q_x_lay D cI cJ cZ cG cH xo p0 p1 p2 tp rd rn co wy sg sh pl sp sc sl ss fs (va_A (W_x_lay cI cJ cZ cG cH xo p0 p1 p2 tp rd rn co wy sg sh pl sp sc sl ss fs) sz)) 0 0 (va_A (W_x_lay cI cJ cZ cG cH xo p0 p1 p2 tp rd rn co wy sg sh pl sp sc sl ss fs) sz) := by
  refine xMet (cc := cX10_lay) (maxL := 4) (ret := (some .int)) (Qf := Q_x_lay D cI cJ cZ cG cH xo p0 p1 p2 tp rd rn co wy sg sh pl sp sc sl ss fs) (by decide) rfl (Nat.le_of_ble_eq_true rfl) ?_
  intro p e s m below meth c ls A hx hb hr hml hts hown hlocks hnm hsz hP hK hD hA hS hl
  have hown : s.vm.findClass RX10 = some m.cls := hown
  have hP : va_P D vwCl [(xo, .inr (9, [.ref tp, .ref rd, .ref rn, .ref co, .ref wy, .ref sg, .ref sh, .ref pl, .ref sp, .int 0])), (sh, .inr (5, [.ref sc, .ref sl, .ref ss])), (ss, .inl (cI, 4, .inl fs))] s.heap := hP
  have hD : va_D A [(xo, .inr (9, [.ref tp, .ref rd, .ref rn, .ref co, .ref wy, .ref sg, .ref sh, .ref pl, .ref sp, .int 0])), (sh, .inr (5, [.ref sc, .ref sl, .ref ss])), (ss, .inl (cI, 4, .inl fs))] := hD
  have hl : lv_has ls 4 [(0, .ref xo), (1, .int p0), (2, .int p1), (3, .int p2)] := hl
  refine lv_iload_n hx hb dX10_lay_0 rfl (lv_at hl 1 rfl) ?_
  have hPc := hP.sub (ws' := []) [] rfl
  have hDc := hD.sub (ws' := []) [] (by decide) rfl
  have hFc := va_free (wc := []) hD hS hA [] rfl
  refine va_calli (va_runS (As := [.int p0]) (rest := []) ⟨hx, hb, hml, hown, hts⟩ (c_hasPlace l D cI cJ cZ cG cH s.heap.size p0) (va_cwS 1 hts gX10_lay_X6_hasPlace rfl rfl rfl (by decide +kernel) ⟨Nat.le_of_ble_eq_true rfl, Nat.le_of_ble_eq_true rfl⟩) ⟨xPc_blind, xPc_pre hPc hK hDc⟩ rfl rfl hl.1 rfl (lv_room (Nat.le_of_ble_eq_true rfl)) dX10_lay_1 ⟨Nat.le_of_ble_eq_true rfl, Nat.le_of_ble_eq_true rfl⟩) hS (fun q _ h => hFc q h) hFc (fun r1 u t H1 locs ht hvm hw1 hB hz1 hk1 hS => ?_)
  obtain ⟨hP1, hK1, hD1⟩ := hB
  rw [ht] at hP1
  obtain ⟨hP, hD⟩ := va_join (wr := [(xo, .inr (9, [.ref tp, .ref rd, .ref rn, .ref co, .ref wy, .ref sg, .ref sh, .ref pl, .ref sp, .int 0])), (sh, .inr (5, [.ref sc, .ref sl, .ref ss])), (ss, .inl (cI, 4, .inl fs))]) (w1 := []) hP hD [] [0, 1, 2] rfl rfl (by decide) (by decide) hk1 hFc hP1 hD1
  generalize H1 = H at hP hS ⊢
  have hP : va_P D vwCl [(xo, .inr (9, [.ref tp, .ref rd, .ref rn, .ref co, .ref wy, .ref sg, .ref sh, .ref pl, .ref sp, .int 0])), (sh, .inr (5, [.ref sc, .ref sl, .ref ss])), (ss, .inl (cI, 4, .inl fs))] H := hP
  have hD : va_D A [(xo, .inr (9, [.ref tp, .ref rd, .ref rn, .ref co, .ref wy, .ref sg, .ref sh, .ref pl, .ref sp, .int 0])), (sh, .inr (5, [.ref sc, .ref sl, .ref ss])), (ss, .inl (cI, 4, .inl fs))] := hD
  have hw1 : r1 = if 0 ≤ p0.toInt ∧ p0.toInt < 4 then 1 else 0 := hw1
  refine lv_if_ne (tgt := 9) hx hb dX10_lay_4 (by decide) (fun c_2 => ?_) (fun c_2 => ?_)
  · skip
    have i_2 : 0 ≤ p0.toInt ∧ p0.toInt < 4 := (xbool hw1).2.mp c_2
    refine lv_aload_n hx hb dX10_lay_9 rfl (lv_at hl 0 rfl) ?_
    refine va_get (D := D) (ci := 9) (v := .ref sh) (C := RX10) (T := TX10) (N := 10) hx hb hts in_X10_lay_X10 hown hK hP 0 rfl rfl 6 (by decide) (hts (.fieldLink RX10 49 "PowerRails" "sheets" "LPowerRails$Sheets;") (by decide +kernel)) (fun _ h9 => h9) rfl dX10_lay_10 ?_
    refine va_get (D := D) (ci := 5) (v := .ref ss) (C := RX6) (T := TX6) (N := 3) hx hb hts in_X10_lay_X6 hown hK hP 1 rfl rfl 2 (by decide) (hts (.fieldLink RX10 305 "PowerRails$Sheets" "sizes" "[I") (by decide +kernel)) (fun _ h9 => h9) rfl dX10_lay_13 ?_
    refine lv_iload_n hx hb dX10_lay_16 rfl (lv_at hl 1 rfl) ?_
    refine va_iald hx hb hK hP 2 0 rfl rfl (vp_in_iff.mpr ⟨by omega, by omega⟩) dX10_lay_17 ?_
    refine lv_topi (fun v3 ev3 => ?_)
    obtain rfl : v3 = (-4) := ev3.trans (hfs _ (Nat.not_le.mp fun q9 => (vp_in_iff.mpr ⟨by omega, by omega⟩) (Or.inr q9)))
    refine lv_bipush (v := (-4)) hx hb dX10_lay_18 (by decide) ?_
    refine lv_icmp_ne (tgt := 26) hx hb dX10_lay_20 (by decide) (fun c9 => absurd c9 (by decide)) (fun _ => ?_)
    refine lv_bipush (v := (-11)) hx hb dX10_lay_23 (by decide) ?_
    refine W.widen (k := 0) (n := 0) (by decide) (by decide) ?_
    exact W.iret (v := (-11)) hx hb hr (fun t ht hW => ⟨⟨(-11), (), rfl, (by unfold sp_lay; repeat (first | rw [if_pos (by omega)] | rw [if_neg (by omega)])), trivial⟩, hS.F ht⟩) hS.2.2 dX10_lay_25
  · skip
    have i_2 : ¬ (0 ≤ p0.toInt ∧ p0.toInt < 4) := (xbool hw1).1.mp c_2
    refine lv_iconst (v := (-1)) hx hb dX10_lay_7 (by decide) ?_
    refine W.widen (k := 0) (n := 0) (by decide) (by decide) ?_
    exact W.iret (v := (-1)) hx hb hr (fun t ht hW => ⟨⟨(-1), (), rfl, (by unfold sp_lay; repeat (first | rw [if_pos (by omega)] | rw [if_neg (by omega)])), trivial⟩, hS.F ht⟩) hS.2.2 dX10_lay_8
theorem in_X10_measured_X10 : ∀ w ∈ wsX100, w ∈ wsX10_measured := by decide +kernel
theorem in_X10_measured_X6 : ∀ w ∈ wsX60, w ∈ wsX10_measured := by decide +kernel
abbrev W_x_measured (cI cJ cZ cG cH : ClassId) (xo : Nat) (p0 : Int32) (p1 : Int32) (p2 : Int32) (p3 : Int32) (p4 : Int32) (tp : Nat) (rd : Nat) (rn : Nat) (co : Nat) (wy : Nat) (sg : Nat) (sh : Nat) (pl : Nat) (sp : Nat) (sc : Nat) (sl : Nat) (ss : Nat) (fs : Nat → Int32) : va_W := [(xo, .inr (9, [.ref tp, .ref rd, .ref rn, .ref co, .ref wy, .ref sg, .ref sh, .ref pl, .ref sp, .int 0])), (sh, .inr (5, [.ref sc, .ref sl, .ref ss])), (ss, .inl (cI, 4, .inl fs))]
abbrev Q_x_measured (D : va_G) (cI cJ cZ cG cH : ClassId) (xo : Nat) (p0 : Int32) (p1 : Int32) (p2 : Int32) (p3 : Int32) (p4 : Int32) (tp : Nat) (rd : Nat) (rn : Nat) (co : Nat) (wy : Nat) (sg : Nat) (sh : Nat) (pl : Nat) (sp : Nat) (sc : Nat) (sl : Nat) (ss : Nat) (fs : Nat → Int32) (A : Nat → Prop) : Array Value → State → Outcome → State → Prop := va_Qi (fun (r : Int32) (_ : Unit) => r = sp_measured p0 p1 p3 p4) (fun _ t => True) A
abbrev rm_x_measured : Room := { frames := 1, cells := 0, slots := 0, locals := 20 }
set_option maxRecDepth 100000 in
set_option maxHeartbeats 4000000 in
theorem c_x_measured (l : Launch) (D : va_G) (cI cJ cZ cG cH : ClassId) (sz : Nat) (xo : Nat) (p0 : Int32) (p1 : Int32) (p2 : Int32) (p3 : Int32) (p4 : Int32) (tp : Nat) (rd : Nat) (rn : Nat) (co : Nat) (wy : Nat) (sg : Nat) (sh : Nat) (pl : Nat) (sp : Nat) (sc : Nat) (sl : Nat) (ss : Nat) (fs : Nat → Int32) (hfs : ∀ j, j < 4 → fs j = -4) : Met l yX10_measured wsX10_measured rm_x_measured (xPc [.ref xo, .int p0, .int p1, .int p2, .int p3, .int p4] D (tyL cI cJ cZ cG cH) (W_x_measured cI cJ cZ cG cH xo p0 p1 p2 p3 p4 tp rd rn co wy sg sh pl sp sc sl ss fs) sz) (Q_x_measured D cI cJ cZ cG cH xo p0 p1 p2 p3 p4 tp rd rn co wy sg sh pl sp sc sl ss fs (va_A (W_x_measured cI cJ cZ cG cH xo p0 p1 p2 p3 p4 tp rd rn co wy sg sh pl sp sc sl ss fs) sz)) 0 0 (va_A (W_x_measured cI cJ cZ cG cH xo p0 p1 p2 p3 p4 tp rd rn co wy sg sh pl sp sc sl ss fs) sz) := by
  refine xMet (cc := cX10_measured) (maxL := 6) (ret := (some .int)) (Qf := Q_x_measured D cI cJ cZ cG cH xo p0 p1 p2 p3 p4 tp rd rn co wy sg sh pl sp sc sl ss fs) (by decide) rfl (Nat.le_of_ble_eq_true rfl) ?_
  intro p e s m below meth c ls A hx hb hr hml hts hown hlocks hnm hsz hP hK hD hA hS hl
  have hown : s.vm.findClass RX10 = some m.cls := hown
  have hP : va_P D vwCl [(xo, .inr (9, [.ref tp, .ref rd, .ref rn, .ref co, .ref wy, .ref sg, .ref sh, .ref pl, .ref sp, .int 0])), (sh, .inr (5, [.ref sc, .ref sl, .ref ss])), (ss, .inl (cI, 4, .inl fs))] s.heap := hP
  have hD : va_D A [(xo, .inr (9, [.ref tp, .ref rd, .ref rn, .ref co, .ref wy, .ref sg, .ref sh, .ref pl, .ref sp, .int 0])), (sh, .inr (5, [.ref sc, .ref sl, .ref ss])), (ss, .inl (cI, 4, .inl fs))] := hD
  have hl : lv_has ls 6 [(0, .ref xo), (1, .int p0), (2, .int p1), (3, .int p2), (4, .int p3), (5, .int p4)] := hl
  refine lv_iload_n hx hb dX10_measured_0 rfl (lv_at hl 1 rfl) ?_
  have hPc := hP.sub (ws' := []) [] rfl
  have hDc := hD.sub (ws' := []) [] (by decide) rfl
  have hFc := va_free (wc := []) hD hS hA [] rfl
  refine va_calli (va_runS (As := [.int p0]) (rest := []) ⟨hx, hb, hml, hown, hts⟩ (c_hasPlace l D cI cJ cZ cG cH s.heap.size p0) (va_cwS 1 hts gX10_measured_X6_hasPlace rfl rfl rfl (by decide +kernel) ⟨Nat.le_of_ble_eq_true rfl, Nat.le_of_ble_eq_true rfl⟩) ⟨xPc_blind, xPc_pre hPc hK hDc⟩ rfl rfl hl.1 rfl (lv_room (Nat.le_of_ble_eq_true rfl)) dX10_measured_1 ⟨Nat.le_of_ble_eq_true rfl, Nat.le_of_ble_eq_true rfl⟩) hS (fun q _ h => hFc q h) hFc (fun r1 u t H1 locs ht hvm hw1 hB hz1 hk1 hS => ?_)
  obtain ⟨hP1, hK1, hD1⟩ := hB
  rw [ht] at hP1
  obtain ⟨hP, hD⟩ := va_join (wr := [(xo, .inr (9, [.ref tp, .ref rd, .ref rn, .ref co, .ref wy, .ref sg, .ref sh, .ref pl, .ref sp, .int 0])), (sh, .inr (5, [.ref sc, .ref sl, .ref ss])), (ss, .inl (cI, 4, .inl fs))]) (w1 := []) hP hD [] [0, 1, 2] rfl rfl (by decide) (by decide) hk1 hFc hP1 hD1
  generalize H1 = H at hP hS ⊢
  have hP : va_P D vwCl [(xo, .inr (9, [.ref tp, .ref rd, .ref rn, .ref co, .ref wy, .ref sg, .ref sh, .ref pl, .ref sp, .int 0])), (sh, .inr (5, [.ref sc, .ref sl, .ref ss])), (ss, .inl (cI, 4, .inl fs))] H := hP
  have hD : va_D A [(xo, .inr (9, [.ref tp, .ref rd, .ref rn, .ref co, .ref wy, .ref sg, .ref sh, .ref pl, .ref sp, .int 0])), (sh, .inr (5, [.ref sc, .ref sl, .ref ss])), (ss, .inl (cI, 4, .inl fs))] := hD
  have hw1 : r1 = if 0 ≤ p0.toInt ∧ p0.toInt < 4 then 1 else 0 := hw1
  refine lv_if_eq (tgt := 14) hx hb dX10_measured_4 (by decide) (fun c_2 => ?_) (fun c_2 => ?_)
  · skip
    have i_2 : ¬ (0 ≤ p0.toInt ∧ p0.toInt < 4) := (xbool hw1).1.mp c_2
    refine lv_iconst (v := (-1)) hx hb dX10_measured_14 (by decide) ?_
    refine W.widen (k := 0) (n := 0) (by decide) (by decide) ?_
    exact W.iret (v := (-1)) hx hb hr (fun t ht hW => ⟨⟨(-1), (), rfl, (by unfold sp_measured; repeat (first | rw [if_pos (by omega)] | rw [if_neg (by omega)])), trivial⟩, hS.F ht⟩) hS.2.2 dX10_measured_15
  · skip
    have i_2 : 0 ≤ p0.toInt ∧ p0.toInt < 4 := (xbool hw1).2.mp c_2
    refine lv_iload_n hx hb dX10_measured_7 rfl (lv_at hl 2 rfl) ?_
    have hPc := hP.sub (ws' := []) [] rfl
    have hDc := hD.sub (ws' := []) [] (by decide) rfl
    have hFc := va_free (wc := []) hD hS hA [] rfl
    refine va_calli (va_runS (As := [.int p1]) (rest := []) ⟨hx, hb, hml, hown, hts⟩ (c_isLane l D cI cJ cZ cG cH H.size p1) (va_cwS 1 hts gX10_measured_X6_isLane rfl rfl rfl (by decide +kernel) ⟨Nat.le_of_ble_eq_true rfl, Nat.le_of_ble_eq_true rfl⟩) ⟨xPc_blind, xPc_pre hPc hK hDc⟩ rfl rfl hl.1 rfl (lv_room (Nat.le_of_ble_eq_true rfl)) dX10_measured_8 ⟨Nat.le_of_ble_eq_true rfl, Nat.le_of_ble_eq_true rfl⟩) hS (fun q _ h => hFc q h) hFc (fun r3 u t H1 locs ht hvm hw3 hB hz1 hk1 hS => ?_)
    obtain ⟨hP1, hK1, hD1⟩ := hB
    rw [ht] at hP1
    obtain ⟨hP, hD⟩ := va_join (wr := [(xo, .inr (9, [.ref tp, .ref rd, .ref rn, .ref co, .ref wy, .ref sg, .ref sh, .ref pl, .ref sp, .int 0])), (sh, .inr (5, [.ref sc, .ref sl, .ref ss])), (ss, .inl (cI, 4, .inl fs))]) (w1 := []) hP hD [] [0, 1, 2] rfl rfl (by decide) (by decide) hk1 hFc hP1 hD1
    generalize H1 = H at hP hS ⊢
    have hP : va_P D vwCl [(xo, .inr (9, [.ref tp, .ref rd, .ref rn, .ref co, .ref wy, .ref sg, .ref sh, .ref pl, .ref sp, .int 0])), (sh, .inr (5, [.ref sc, .ref sl, .ref ss])), (ss, .inl (cI, 4, .inl fs))] H := hP
    have hD : va_D A [(xo, .inr (9, [.ref tp, .ref rd, .ref rn, .ref co, .ref wy, .ref sg, .ref sh, .ref pl, .ref sp, .int 0])), (sh, .inr (5, [.ref sc, .ref sl, .ref ss])), (ss, .inl (cI, 4, .inl fs))] := hD
    have hw3 : r3 = if 0 ≤ p1.toInt ∧ p1.toInt ≤ 2 then 1 else 0 := hw3
    refine lv_if_ne (tgt := 16) hx hb dX10_measured_11 (by decide) (fun c_4 => ?_) (fun c_4 => ?_)
    · skip
      have i_4 : 0 ≤ p1.toInt ∧ p1.toInt ≤ 2 := (xbool hw3).2.mp c_4
      refine lv_iload hx hb dX10_measured_16 (lv_at hl 4 rfl) ?_
      refine lv_if_lt (tgt := 39) hx hb dX10_measured_18 (by decide) (fun c_5 => ?_) (fun c_5 => ?_)
      · skip
        have i_5 : p3.toInt < 0 := (ilt rfl (by decide)).mp c_5
        refine lv_iconst (v := (-1)) hx hb dX10_measured_39 (by decide) ?_
        refine W.widen (k := 0) (n := 0) (by decide) (by decide) ?_
        exact W.iret (v := (-1)) hx hb hr (fun t ht hW => ⟨⟨(-1), (), rfl, (by unfold sp_measured; repeat (first | rw [if_pos (by omega)] | rw [if_neg (by omega)])), trivial⟩, hS.F ht⟩) hS.2.2 dX10_measured_40
      · skip
        have i_5 : ¬ (p3.toInt < 0) := fun h9 => c_5 ((ilt rfl (by decide)).mpr h9)
        refine lv_iload hx hb dX10_measured_21 (lv_at hl 4 rfl) ?_
        refine lv_bipush (v := 40) hx hb dX10_measured_23 (by decide) ?_
        refine lv_icmp_gt (tgt := 39) hx hb dX10_measured_25 (by decide) (fun c_6 => ?_) (fun c_6 => ?_)
        · skip
          have i_6 : 40 < p3.toInt := (ilt (by decide) rfl).mp c_6
          refine lv_iconst (v := (-1)) hx hb dX10_measured_39 (by decide) ?_
          refine W.widen (k := 0) (n := 0) (by decide) (by decide) ?_
          exact W.iret (v := (-1)) hx hb hr (fun t ht hW => ⟨⟨(-1), (), rfl, (by unfold sp_measured; repeat (first | rw [if_pos (by omega)] | rw [if_neg (by omega)])), trivial⟩, hS.F ht⟩) hS.2.2 dX10_measured_40
        · skip
          have i_6 : ¬ (40 < p3.toInt) := fun h9 => c_6 ((ilt (by decide) rfl).mpr h9)
          refine lv_iload hx hb dX10_measured_28 (lv_at hl 5 rfl) ?_
          refine lv_if_lt (tgt := 39) hx hb dX10_measured_30 (by decide) (fun c_7 => ?_) (fun c_7 => ?_)
          · skip
            have i_7 : p4.toInt < 0 := (ilt rfl (by decide)).mp c_7
            refine lv_iconst (v := (-1)) hx hb dX10_measured_39 (by decide) ?_
            refine W.widen (k := 0) (n := 0) (by decide) (by decide) ?_
            exact W.iret (v := (-1)) hx hb hr (fun t ht hW => ⟨⟨(-1), (), rfl, (by unfold sp_measured; repeat (first | rw [if_pos (by omega)] | rw [if_neg (by omega)])), trivial⟩, hS.F ht⟩) hS.2.2 dX10_measured_40
          · skip
            have i_7 : ¬ (p4.toInt < 0) := fun h9 => c_7 ((ilt rfl (by decide)).mpr h9)
            refine lv_iload hx hb dX10_measured_33 (lv_at hl 5 rfl) ?_
            refine lv_iconst (v := 2) hx hb dX10_measured_35 (by decide) ?_
            refine lv_icmp_le (tgt := 41) hx hb dX10_measured_36 (by decide) (fun c_8 => ?_) (fun c_8 => ?_)
            · skip
              have i_8 : p4.toInt ≤ 2 := (ile rfl (by decide)).mp c_8
              refine lv_aload_n hx hb dX10_measured_41 rfl (lv_at hl 0 rfl) ?_
              refine va_get (D := D) (ci := 9) (v := .ref sh) (C := RX10) (T := TX10) (N := 10) hx hb hts in_X10_measured_X10 hown hK hP 0 rfl rfl 6 (by decide) (hts (.fieldLink RX10 49 "PowerRails" "sheets" "LPowerRails$Sheets;") (by decide +kernel)) (fun _ h9 => h9) rfl dX10_measured_42 ?_
              refine va_get (D := D) (ci := 5) (v := .ref ss) (C := RX6) (T := TX6) (N := 3) hx hb hts in_X10_measured_X6 hown hK hP 1 rfl rfl 2 (by decide) (hts (.fieldLink RX10 305 "PowerRails$Sheets" "sizes" "[I") (by decide +kernel)) (fun _ h9 => h9) rfl dX10_measured_45 ?_
              refine lv_iload_n hx hb dX10_measured_48 rfl (lv_at hl 1 rfl) ?_
              refine va_iald hx hb hK hP 2 0 rfl rfl (vp_in_iff.mpr ⟨by omega, by omega⟩) dX10_measured_49 ?_
              refine lv_topi (fun v9 ev9 => ?_)
              obtain rfl : v9 = (-4) := ev9.trans (hfs _ (Nat.not_le.mp fun q9 => (vp_in_iff.mpr ⟨by omega, by omega⟩) (Or.inr q9)))
              refine lv_bipush (v := (-4)) hx hb dX10_measured_50 (by decide) ?_
              refine lv_icmp_ne (tgt := 58) hx hb dX10_measured_52 (by decide) (fun c9 => absurd c9 (by decide)) (fun _ => ?_)
              refine lv_bipush (v := (-11)) hx hb dX10_measured_55 (by decide) ?_
              refine W.widen (k := 0) (n := 0) (by decide) (by decide) ?_
              exact W.iret (v := (-11)) hx hb hr (fun t ht hW => ⟨⟨(-11), (), rfl, (by unfold sp_measured; repeat (first | rw [if_pos (by omega)] | rw [if_neg (by omega)])), trivial⟩, hS.F ht⟩) hS.2.2 dX10_measured_57
            · skip
              have i_8 : ¬ (p4.toInt ≤ 2) := fun h9 => c_8 ((ile rfl (by decide)).mpr h9)
              refine lv_iconst (v := (-1)) hx hb dX10_measured_39 (by decide) ?_
              refine W.widen (k := 0) (n := 0) (by decide) (by decide) ?_
              exact W.iret (v := (-1)) hx hb hr (fun t ht hW => ⟨⟨(-1), (), rfl, (by unfold sp_measured; repeat (first | rw [if_pos (by omega)] | rw [if_neg (by omega)])), trivial⟩, hS.F ht⟩) hS.2.2 dX10_measured_40
    · skip
      have i_4 : ¬ (0 ≤ p1.toInt ∧ p1.toInt ≤ 2) := (xbool hw3).1.mp c_4
      refine lv_iconst (v := (-1)) hx hb dX10_measured_14 (by decide) ?_
      refine W.widen (k := 0) (n := 0) (by decide) (by decide) ?_
      exact W.iret (v := (-1)) hx hb hr (fun t ht hW => ⟨⟨(-1), (), rfl, (by unfold sp_measured; repeat (first | rw [if_pos (by omega)] | rw [if_neg (by omega)])), trivial⟩, hS.F ht⟩) hS.2.2 dX10_measured_15
theorem in_X10_count_X10 : ∀ w ∈ wsX100, w ∈ wsX10_count := by decide +kernel
theorem in_X10_count_X3 : ∀ w ∈ wsX30, w ∈ wsX10_count := by decide +kernel
theorem in_X10_count_X5 : ∀ w ∈ wsX50, w ∈ wsX10_count := by decide +kernel
theorem in_X10_count_X2 : ∀ w ∈ wsX20, w ∈ wsX10_count := by decide +kernel
theorem in_X10_count_X8 : ∀ w ∈ wsX80, w ∈ wsX10_count := by decide +kernel
theorem in_X10_count_X6 : ∀ w ∈ wsX60, w ∈ wsX10_count := by decide +kernel
abbrev W_x_count (cI cJ cZ cG cH : ClassId) (xo : Nat) (p0 : Int32) (tp : Nat) (rd : Nat) (rn : Nat) (co : Nat) (wy : Nat) (sg : Nat) (sh : Nat) (pl : Nat) (sp : Nat) (pn : Nat) (pt : Nat) (hy : Nat) (rs : Nat) (ri : Nat) (ra : Nat) (rt : Nat) (rg : Nat) (ya : Nat) (yb : Nat) (yc : Nat) (tb : Nat) (sc : Nat) (sl : Nat) (ss : Nat) (fs : Nat → Int32) : va_W := [(xo, .inr (9, [.ref tp, .ref rd, .ref rn, .ref co, .ref wy, .ref sg, .ref sh, .ref pl, .ref sp, .int 0])), (pl, .inr (2, [.ref pn, .ref pt, .int 0, .int 999, .int 0, .int 5])), (rn, .inr (4, [.ref hy, .ref rs, .ref ri, .ref ra, .ref rt, .ref rg, .int 0, .int 0, .int 0, .int 0, .int 0, .int 0, .int 0, .int 0])), (hy, .inr (1, [.ref ya, .ref yb, .ref yc, .int 0])), (tp, .inr (7, [.ref tb, .int 0])), (sh, .inr (5, [.ref sc, .ref sl, .ref ss])), (ss, .inl (cI, 4, .inl fs))]
abbrev Q_x_count (D : va_G) (cI cJ cZ cG cH : ClassId) (xo : Nat) (p0 : Int32) (tp : Nat) (rd : Nat) (rn : Nat) (co : Nat) (wy : Nat) (sg : Nat) (sh : Nat) (pl : Nat) (sp : Nat) (pn : Nat) (pt : Nat) (hy : Nat) (rs : Nat) (ri : Nat) (ra : Nat) (rt : Nat) (rg : Nat) (ya : Nat) (yb : Nat) (yc : Nat) (tb : Nat) (sc : Nat) (sl : Nat) (ss : Nat) (fs : Nat → Int32) (A : Nat → Prop) : Array Value → State → Outcome → State → Prop := va_Qi (fun (r : Int32) (_ : Unit) => r = sp_count p0) (fun _ t => True) A
abbrev rm_x_count : Room := { frames := 1, cells := 0, slots := 0, locals := 22 }
set_option maxRecDepth 100000 in
set_option maxHeartbeats 4000000 in
theorem c_x_count (l : Launch) (D : va_G) (cI cJ cZ cG cH : ClassId) (sz : Nat) (xo : Nat) (p0 : Int32) (tp : Nat) (rd : Nat) (rn : Nat) (co : Nat) (wy : Nat) (sg : Nat) (sh : Nat) (pl : Nat) (sp : Nat) (pn : Nat) (pt : Nat) (hy : Nat) (rs : Nat) (ri : Nat) (ra : Nat) (rt : Nat) (rg : Nat) (ya : Nat) (yb : Nat) (yc : Nat) (tb : Nat) (sc : Nat) (sl : Nat) (ss : Nat) (fs : Nat → Int32) (hfs : ∀ j, j < 4 → fs j = -4) : Met l yX10_count wsX10_count rm_x_count (xPc [.ref xo, .int p0] D (tyL cI cJ cZ cG cH) (W_x_count cI cJ cZ cG cH xo p0 tp rd rn co wy sg sh pl sp pn pt hy rs ri ra rt rg ya yb yc tb sc sl ss fs) sz) (Q_x_count D cI cJ cZ cG cH xo p0 tp rd rn co wy sg sh pl sp pn pt hy rs ri ra rt rg ya yb yc tb sc sl ss fs (va_A (W_x_count cI cJ cZ cG cH xo p0 tp rd rn co wy sg sh pl sp pn pt hy rs ri ra rt rg ya yb yc tb sc sl ss fs) sz)) 0 0 (va_A (W_x_count cI cJ cZ cG cH xo p0 tp rd rn co wy sg sh pl sp pn pt hy rs ri ra rt rg ya yb yc tb sc sl ss fs) sz) := by
  refine xMet (cc := cX10_count) (maxL := 2) (ret := (some .int)) (Qf := Q_x_count D cI cJ cZ cG cH xo p0 tp rd rn co wy sg sh pl sp pn pt hy rs ri ra rt rg ya yb yc tb sc sl ss fs) (by decide) rfl (Nat.le_of_ble_eq_true rfl) ?_
  intro p e s m below meth c ls A hx hb hr hml hts hown hlocks hnm hsz hP hK hD hA hS hl
  have hown : s.vm.findClass RX10 = some m.cls := hown
  have hP : va_P D vwCl [(xo, .inr (9, [.ref tp, .ref rd, .ref rn, .ref co, .ref wy, .ref sg, .ref sh, .ref pl, .ref sp, .int 0])), (pl, .inr (2, [.ref pn, .ref pt, .int 0, .int 999, .int 0, .int 5])), (rn, .inr (4, [.ref hy, .ref rs, .ref ri, .ref ra, .ref rt, .ref rg, .int 0, .int 0, .int 0, .int 0, .int 0, .int 0, .int 0, .int 0])), (hy, .inr (1, [.ref ya, .ref yb, .ref yc, .int 0])), (tp, .inr (7, [.ref tb, .int 0])), (sh, .inr (5, [.ref sc, .ref sl, .ref ss])), (ss, .inl (cI, 4, .inl fs))] s.heap := hP
  have hD : va_D A [(xo, .inr (9, [.ref tp, .ref rd, .ref rn, .ref co, .ref wy, .ref sg, .ref sh, .ref pl, .ref sp, .int 0])), (pl, .inr (2, [.ref pn, .ref pt, .int 0, .int 999, .int 0, .int 5])), (rn, .inr (4, [.ref hy, .ref rs, .ref ri, .ref ra, .ref rt, .ref rg, .int 0, .int 0, .int 0, .int 0, .int 0, .int 0, .int 0, .int 0])), (hy, .inr (1, [.ref ya, .ref yb, .ref yc, .int 0])), (tp, .inr (7, [.ref tb, .int 0])), (sh, .inr (5, [.ref sc, .ref sl, .ref ss])), (ss, .inl (cI, 4, .inl fs))] := hD
  have hl : lv_has ls 2 [(0, .ref xo), (1, .int p0)] := hl
  refine lv_iload_n hx hb dX10_count_0 rfl (lv_at hl 1 rfl) ?_
  by_cases i_1_0 : p0.toInt = 0
  · refine lv_tableIn (off := 39) (tgt := 40) hx hb dX10_count_1 (by omega) (by omega) (by rw [i_1_0]; rfl) (by decide) ?_
    refine lv_aload_n hx hb dX10_count_40 rfl (lv_at hl 0 rfl) ?_
    refine va_get (D := D) (ci := 9) (v := .ref pl) (C := RX10) (T := TX10) (N := 10) hx hb hts in_X10_count_X10 hown hK hP 0 rfl rfl 7 (by decide) (hts (.fieldLink RX10 56 "PowerRails" "plan" "LPowerRails$Plan;") (by decide +kernel)) (fun _ h9 => h9) rfl dX10_count_41 ?_
    refine va_get (D := D) (ci := 2) (v := .int 0) (C := RX3) (T := TX3) (N := 6) hx hb hts in_X10_count_X3 hown hK hP 1 rfl rfl 2 (by decide) (hts (.fieldLink RX10 117 "PowerRails$Plan" "rails" "I") (by decide +kernel)) (fun _ h9 => h9) rfl dX10_count_44 ?_
    refine W.widen (k := 0) (n := 0) (by decide) (by decide) ?_
    exact W.iret (v := 0) hx hb hr (fun t ht hW => ⟨⟨0, (), rfl, (by unfold sp_count; repeat (first | rw [if_pos (by omega)] | rw [if_neg (by omega)])), trivial⟩, hS.F ht⟩) hS.2.2 dX10_count_47
  by_cases i_1_1 : p0.toInt = 1
  · refine lv_tableIn (off := 47) (tgt := 48) hx hb dX10_count_1 (by omega) (by omega) (by rw [i_1_1]; rfl) (by decide) ?_
    refine lv_aload_n hx hb dX10_count_48 rfl (lv_at hl 0 rfl) ?_
    refine va_get (D := D) (ci := 9) (v := .ref rn) (C := RX10) (T := TX10) (N := 10) hx hb hts in_X10_count_X10 hown hK hP 0 rfl rfl 2 (by decide) (hts (.fieldLink RX10 19 "PowerRails" "run" "LPowerRails$Run;") (by decide +kernel)) (fun _ h9 => h9) rfl dX10_count_49 ?_
    refine va_get (D := D) (ci := 4) (v := .int 0) (C := RX5) (T := TX5) (N := 14) hx hb hts in_X10_count_X5 hown hK hP 2 rfl rfl 6 (by decide) (hts (.fieldLink RX10 147 "PowerRails$Run" "dead" "I") (by decide +kernel)) (fun _ h9 => h9) rfl dX10_count_52 ?_
    have hPc := hP.sub (ws' := []) [] rfl
    have hDc := hD.sub (ws' := []) [] (by decide) rfl
    have hFc := va_free (wc := []) hD hS hA [] rfl
    refine va_calli (va_runS (As := [.int 0]) (rest := []) ⟨hx, hb, hml, hown, hts⟩ (c_bitCount0 l D cI cJ cZ cG cH s.heap.size ) (va_cwS 1 hts gX10_count_J6_bitCount_0f7a4 rfl rfl rfl (by decide +kernel) ⟨Nat.le_of_ble_eq_true rfl, Nat.le_of_ble_eq_true rfl⟩) ⟨xPc_blind, xPc_pre hPc hK hDc⟩ rfl rfl hl.1 rfl (lv_room (Nat.le_of_ble_eq_true rfl)) dX10_count_55 ⟨Nat.le_of_ble_eq_true rfl, Nat.le_of_ble_eq_true rfl⟩) hS (fun q _ h => hFc q h) hFc (fun r2 u t H1 locs ht hvm hw2 hB hz1 hk1 hS => ?_)
    obtain ⟨hP1, hK1, hD1⟩ := hB
    rw [ht] at hP1
    obtain ⟨hP, hD⟩ := va_join (wr := [(xo, .inr (9, [.ref tp, .ref rd, .ref rn, .ref co, .ref wy, .ref sg, .ref sh, .ref pl, .ref sp, .int 0])), (pl, .inr (2, [.ref pn, .ref pt, .int 0, .int 999, .int 0, .int 5])), (rn, .inr (4, [.ref hy, .ref rs, .ref ri, .ref ra, .ref rt, .ref rg, .int 0, .int 0, .int 0, .int 0, .int 0, .int 0, .int 0, .int 0])), (hy, .inr (1, [.ref ya, .ref yb, .ref yc, .int 0])), (tp, .inr (7, [.ref tb, .int 0])), (sh, .inr (5, [.ref sc, .ref sl, .ref ss])), (ss, .inl (cI, 4, .inl fs))]) (w1 := []) hP hD [] [0, 1, 2, 3, 4, 5, 6] rfl rfl (by decide) (by decide) hk1 hFc hP1 hD1
    generalize H1 = H at hP hS ⊢
    have hP : va_P D vwCl [(xo, .inr (9, [.ref tp, .ref rd, .ref rn, .ref co, .ref wy, .ref sg, .ref sh, .ref pl, .ref sp, .int 0])), (pl, .inr (2, [.ref pn, .ref pt, .int 0, .int 999, .int 0, .int 5])), (rn, .inr (4, [.ref hy, .ref rs, .ref ri, .ref ra, .ref rt, .ref rg, .int 0, .int 0, .int 0, .int 0, .int 0, .int 0, .int 0, .int 0])), (hy, .inr (1, [.ref ya, .ref yb, .ref yc, .int 0])), (tp, .inr (7, [.ref tb, .int 0])), (sh, .inr (5, [.ref sc, .ref sl, .ref ss])), (ss, .inl (cI, 4, .inl fs))] H := hP
    have hD : va_D A [(xo, .inr (9, [.ref tp, .ref rd, .ref rn, .ref co, .ref wy, .ref sg, .ref sh, .ref pl, .ref sp, .int 0])), (pl, .inr (2, [.ref pn, .ref pt, .int 0, .int 999, .int 0, .int 5])), (rn, .inr (4, [.ref hy, .ref rs, .ref ri, .ref ra, .ref rt, .ref rg, .int 0, .int 0, .int 0, .int 0, .int 0, .int 0, .int 0, .int 0])), (hy, .inr (1, [.ref ya, .ref yb, .ref yc, .int 0])), (tp, .inr (7, [.ref tb, .int 0])), (sh, .inr (5, [.ref sc, .ref sl, .ref ss])), (ss, .inl (cI, 4, .inl fs))] := hD
    obtain rfl : r2 = 0 := hw2
    refine W.widen (k := 0) (n := 0) (by decide) (by decide) ?_
    exact W.iret (v := 0) hx hb hr (fun t ht hW => ⟨⟨0, (), rfl, (by unfold sp_count; repeat (first | rw [if_pos (by omega)] | rw [if_neg (by omega)])), trivial⟩, hS.F ht⟩) hS.2.2 dX10_count_58
  by_cases i_1_2 : p0.toInt = 2
  · refine lv_tableIn (off := 58) (tgt := 59) hx hb dX10_count_1 (by omega) (by omega) (by rw [i_1_2]; rfl) (by decide) ?_
    refine lv_aload_n hx hb dX10_count_59 rfl (lv_at hl 0 rfl) ?_
    refine va_get (D := D) (ci := 9) (v := .ref rn) (C := RX10) (T := TX10) (N := 10) hx hb hts in_X10_count_X10 hown hK hP 0 rfl rfl 2 (by decide) (hts (.fieldLink RX10 19 "PowerRails" "run" "LPowerRails$Run;") (by decide +kernel)) (fun _ h9 => h9) rfl dX10_count_60 ?_
    refine va_get (D := D) (ci := 4) (v := .ref hy) (C := RX5) (T := TX5) (N := 14) hx hb hts in_X10_count_X5 hown hK hP 2 rfl rfl 0 (by decide) (hts (.fieldLink RX10 187 "PowerRails$Run" "history" "LPowerRails$History;") (by decide +kernel)) (fun _ h9 => h9) rfl dX10_count_63 ?_
    refine va_get (D := D) (ci := 1) (v := .int 0) (C := RX2) (T := TX2) (N := 4) hx hb hts in_X10_count_X2 hown hK hP 3 rfl rfl 3 (by decide) (hts (.fieldLink RX10 191 "PowerRails$History" "size" "I") (by decide +kernel)) (fun _ h9 => h9) rfl dX10_count_66 ?_
    refine W.widen (k := 0) (n := 0) (by decide) (by decide) ?_
    exact W.iret (v := 0) hx hb hr (fun t ht hW => ⟨⟨0, (), rfl, (by unfold sp_count; repeat (first | rw [if_pos (by omega)] | rw [if_neg (by omega)])), trivial⟩, hS.F ht⟩) hS.2.2 dX10_count_69
  by_cases i_1_3 : p0.toInt = 3
  · refine lv_tableIn (off := 69) (tgt := 70) hx hb dX10_count_1 (by omega) (by omega) (by rw [i_1_3]; rfl) (by decide) ?_
    refine lv_aload_n hx hb dX10_count_70 rfl (lv_at hl 0 rfl) ?_
    refine va_get (D := D) (ci := 9) (v := .ref pl) (C := RX10) (T := TX10) (N := 10) hx hb hts in_X10_count_X10 hown hK hP 0 rfl rfl 7 (by decide) (hts (.fieldLink RX10 56 "PowerRails" "plan" "LPowerRails$Plan;") (by decide +kernel)) (fun _ h9 => h9) rfl dX10_count_71 ?_
    have hPc := hP.sub (ws' := [(pl, .inr (2, [.ref pn, .ref pt, .int 0, .int 999, .int 0, .int 5]))]) [1] rfl
    have hDc := hD.sub (ws' := [(pl, .inr (2, [.ref pn, .ref pt, .int 0, .int 999, .int 0, .int 5]))]) [1] (by decide) rfl
    have hFc := va_free (wc := [(pl, .inr (2, [.ref pn, .ref pt, .int 0, .int 999, .int 0, .int 5]))]) hD hS hA [1] rfl
    refine va_calli (va_runV (As := []) (rest := []) ⟨hx, hb, hml, hown, hts⟩ (c_countWays0 l D cI cJ cZ cG cH s.heap.size pl pn pt) (cwV 0 hts gX10_count_X3_countWays rfl rfl rfl (by decide +kernel) ⟨Nat.le_of_ble_eq_true rfl, Nat.le_of_ble_eq_true rfl⟩) ⟨xPc_blind, va_recv hK hPc (ci := 2) (q0 := 0) rfl rfl, xPc_pre hPc hK hDc⟩ rfl rfl hl.1 rfl (lv_room (Nat.le_of_ble_eq_true rfl)) dX10_count_74 ⟨Nat.le_of_ble_eq_true rfl, Nat.le_of_ble_eq_true rfl⟩) hS (fun q _ h => hFc q h) hFc (fun r3 u t H1 locs ht hvm hw3 hB hz1 hk1 hS => ?_)
    obtain ⟨hP1, hK1, hD1⟩ := hB
    rw [ht] at hP1
    obtain ⟨hP, hD⟩ := va_join (wr := [(xo, .inr (9, [.ref tp, .ref rd, .ref rn, .ref co, .ref wy, .ref sg, .ref sh, .ref pl, .ref sp, .int 0])), (rn, .inr (4, [.ref hy, .ref rs, .ref ri, .ref ra, .ref rt, .ref rg, .int 0, .int 0, .int 0, .int 0, .int 0, .int 0, .int 0, .int 0])), (hy, .inr (1, [.ref ya, .ref yb, .ref yc, .int 0])), (tp, .inr (7, [.ref tb, .int 0])), (sh, .inr (5, [.ref sc, .ref sl, .ref ss])), (ss, .inl (cI, 4, .inl fs))]) (w1 := [(pl, .inr (2, [.ref pn, .ref pt, .int 0, .int 999, .int 0, .int 5]))]) hP hD [1] [0, 2, 3, 4, 5, 6] rfl rfl (by decide) (by decide) hk1 hFc hP1 hD1
    generalize H1 = H at hP hS ⊢
    have hP : va_P D vwCl [(xo, .inr (9, [.ref tp, .ref rd, .ref rn, .ref co, .ref wy, .ref sg, .ref sh, .ref pl, .ref sp, .int 0])), (rn, .inr (4, [.ref hy, .ref rs, .ref ri, .ref ra, .ref rt, .ref rg, .int 0, .int 0, .int 0, .int 0, .int 0, .int 0, .int 0, .int 0])), (hy, .inr (1, [.ref ya, .ref yb, .ref yc, .int 0])), (tp, .inr (7, [.ref tb, .int 0])), (sh, .inr (5, [.ref sc, .ref sl, .ref ss])), (ss, .inl (cI, 4, .inl fs)), (pl, .inr (2, [.ref pn, .ref pt, .int 0, .int 999, .int 0, .int 5]))] H := hP
    have hD : va_D A [(xo, .inr (9, [.ref tp, .ref rd, .ref rn, .ref co, .ref wy, .ref sg, .ref sh, .ref pl, .ref sp, .int 0])), (rn, .inr (4, [.ref hy, .ref rs, .ref ri, .ref ra, .ref rt, .ref rg, .int 0, .int 0, .int 0, .int 0, .int 0, .int 0, .int 0, .int 0])), (hy, .inr (1, [.ref ya, .ref yb, .ref yc, .int 0])), (tp, .inr (7, [.ref tb, .int 0])), (sh, .inr (5, [.ref sc, .ref sl, .ref ss])), (ss, .inl (cI, 4, .inl fs)), (pl, .inr (2, [.ref pn, .ref pt, .int 0, .int 999, .int 0, .int 5]))] := hD
    obtain rfl : r3 = 1 := hw3
    refine lv_sipush (v := 20000) hx hb dX10_count_77 (by decide) ?_
    refine lv_icmp_le (tgt := 88) hx hb dX10_count_80 (by decide) (fun _ => ?_) (fun c9 => absurd c9 (by decide))
    refine lv_aload_n hx hb dX10_count_88 rfl (lv_at hl 0 rfl) ?_
    refine va_get (D := D) (ci := 9) (v := .ref pl) (C := RX10) (T := TX10) (N := 10) hx hb hts in_X10_count_X10 hown hK hP 0 rfl rfl 7 (by decide) (hts (.fieldLink RX10 56 "PowerRails" "plan" "LPowerRails$Plan;") (by decide +kernel)) (fun _ h9 => h9) rfl dX10_count_89 ?_
    have hPc := hP.sub (ws' := [(pl, .inr (2, [.ref pn, .ref pt, .int 0, .int 999, .int 0, .int 5]))]) [6] rfl
    have hDc := hD.sub (ws' := [(pl, .inr (2, [.ref pn, .ref pt, .int 0, .int 999, .int 0, .int 5]))]) [6] (by decide) rfl
    have hFc := va_free (wc := [(pl, .inr (2, [.ref pn, .ref pt, .int 0, .int 999, .int 0, .int 5]))]) hD hS hA [6] rfl
    refine va_calli (va_runV (As := []) (rest := []) ⟨hx, hb, hml, hown, hts⟩ (c_countWays0 l D cI cJ cZ cG cH H.size pl pn pt) (cwV 0 hts gX10_count_X3_countWays rfl rfl rfl (by decide +kernel) ⟨Nat.le_of_ble_eq_true rfl, Nat.le_of_ble_eq_true rfl⟩) ⟨xPc_blind, va_recv hK hPc (ci := 2) (q0 := 0) rfl rfl, xPc_pre hPc hK hDc⟩ rfl rfl hl.1 rfl (lv_room (Nat.le_of_ble_eq_true rfl)) dX10_count_92 ⟨Nat.le_of_ble_eq_true rfl, Nat.le_of_ble_eq_true rfl⟩) hS (fun q _ h => hFc q h) hFc (fun r4 u t H1 locs ht hvm hw4 hB hz1 hk1 hS => ?_)
    obtain ⟨hP1, hK1, hD1⟩ := hB
    rw [ht] at hP1
    obtain ⟨hP, hD⟩ := va_join (wr := [(xo, .inr (9, [.ref tp, .ref rd, .ref rn, .ref co, .ref wy, .ref sg, .ref sh, .ref pl, .ref sp, .int 0])), (rn, .inr (4, [.ref hy, .ref rs, .ref ri, .ref ra, .ref rt, .ref rg, .int 0, .int 0, .int 0, .int 0, .int 0, .int 0, .int 0, .int 0])), (hy, .inr (1, [.ref ya, .ref yb, .ref yc, .int 0])), (tp, .inr (7, [.ref tb, .int 0])), (sh, .inr (5, [.ref sc, .ref sl, .ref ss])), (ss, .inl (cI, 4, .inl fs))]) (w1 := [(pl, .inr (2, [.ref pn, .ref pt, .int 0, .int 999, .int 0, .int 5]))]) hP hD [6] [0, 1, 2, 3, 4, 5] rfl rfl (by decide) (by decide) hk1 hFc hP1 hD1
    generalize H1 = H at hP hS ⊢
    have hP : va_P D vwCl [(xo, .inr (9, [.ref tp, .ref rd, .ref rn, .ref co, .ref wy, .ref sg, .ref sh, .ref pl, .ref sp, .int 0])), (rn, .inr (4, [.ref hy, .ref rs, .ref ri, .ref ra, .ref rt, .ref rg, .int 0, .int 0, .int 0, .int 0, .int 0, .int 0, .int 0, .int 0])), (hy, .inr (1, [.ref ya, .ref yb, .ref yc, .int 0])), (tp, .inr (7, [.ref tb, .int 0])), (sh, .inr (5, [.ref sc, .ref sl, .ref ss])), (ss, .inl (cI, 4, .inl fs)), (pl, .inr (2, [.ref pn, .ref pt, .int 0, .int 999, .int 0, .int 5]))] H := hP
    have hD : va_D A [(xo, .inr (9, [.ref tp, .ref rd, .ref rn, .ref co, .ref wy, .ref sg, .ref sh, .ref pl, .ref sp, .int 0])), (rn, .inr (4, [.ref hy, .ref rs, .ref ri, .ref ra, .ref rt, .ref rg, .int 0, .int 0, .int 0, .int 0, .int 0, .int 0, .int 0, .int 0])), (hy, .inr (1, [.ref ya, .ref yb, .ref yc, .int 0])), (tp, .inr (7, [.ref tb, .int 0])), (sh, .inr (5, [.ref sc, .ref sl, .ref ss])), (ss, .inl (cI, 4, .inl fs)), (pl, .inr (2, [.ref pn, .ref pt, .int 0, .int 999, .int 0, .int 5]))] := hD
    obtain rfl : r4 = 1 := hw4
    refine W.widen (k := 0) (n := 0) (by decide) (by decide) ?_
    exact W.iret (v := 1) hx hb hr (fun t ht hW => ⟨⟨1, (), rfl, (by unfold sp_count; repeat (first | rw [if_pos (by omega)] | rw [if_neg (by omega)])), trivial⟩, hS.F ht⟩) hS.2.2 dX10_count_95
  by_cases i_1_4 : p0.toInt = 4
  · refine lv_tableIn (off := 95) (tgt := 96) hx hb dX10_count_1 (by omega) (by omega) (by rw [i_1_4]; rfl) (by decide) ?_
    refine lv_aload_n hx hb dX10_count_96 rfl (lv_at hl 0 rfl) ?_
    refine va_get (D := D) (ci := 9) (v := .ref tp) (C := RX10) (T := TX10) (N := 10) hx hb hts in_X10_count_X10 hown hK hP 0 rfl rfl 0 (by decide) (hts (.fieldLink RX10 10 "PowerRails" "tape" "LPowerRails$Tape;") (by decide +kernel)) (fun _ h9 => h9) rfl dX10_count_97 ?_
    refine va_get (D := D) (ci := 7) (v := .int 0) (C := RX8) (T := TX8) (N := 2) hx hb hts in_X10_count_X8 hown hK hP 4 rfl rfl 1 (by decide) (hts (.fieldLink RX10 80 "PowerRails$Tape" "length" "I") (by decide +kernel)) (fun _ h9 => h9) rfl dX10_count_100 ?_
    refine W.widen (k := 0) (n := 0) (by decide) (by decide) ?_
    exact W.iret (v := 0) hx hb hr (fun t ht hW => ⟨⟨0, (), rfl, (by unfold sp_count; repeat (first | rw [if_pos (by omega)] | rw [if_neg (by omega)])), trivial⟩, hS.F ht⟩) hS.2.2 dX10_count_103
  by_cases i_1_5 : p0.toInt = 5
  · refine lv_tableIn (off := 103) (tgt := 104) hx hb dX10_count_1 (by omega) (by omega) (by rw [i_1_5]; rfl) (by decide) ?_
    refine lv_aload_n hx hb dX10_count_104 rfl (lv_at hl 0 rfl) ?_
    refine va_get (D := D) (ci := 9) (v := .ref sh) (C := RX10) (T := TX10) (N := 10) hx hb hts in_X10_count_X10 hown hK hP 0 rfl rfl 6 (by decide) (hts (.fieldLink RX10 49 "PowerRails" "sheets" "LPowerRails$Sheets;") (by decide +kernel)) (fun _ h9 => h9) rfl dX10_count_105 ?_
    refine va_get (D := D) (ci := 5) (v := .ref ss) (C := RX6) (T := TX6) (N := 3) hx hb hts in_X10_count_X6 hown hK hP 5 rfl rfl 2 (by decide) (hts (.fieldLink RX10 305 "PowerRails$Sheets" "sizes" "[I") (by decide +kernel)) (fun _ h9 => h9) rfl dX10_count_108 ?_
    refine lv_iconst (v := 0) hx hb dX10_count_111 (by decide) ?_
    refine va_iald hx hb hK hP 6 0 rfl rfl (xin (by decide) (by decide)) dX10_count_112 ?_
    refine lv_topi (fun v5 ev5 => ?_)
    obtain rfl : v5 = (-4) := ev5.trans (hfs _ (Nat.not_le.mp fun q9 => (xin (by decide) (by decide)) (Or.inr q9)))
    refine W.widen (k := 0) (n := 0) (by decide) (by decide) ?_
    exact W.iret (v := (-4)) hx hb hr (fun t ht hW => ⟨⟨(-4), (), rfl, (by unfold sp_count; repeat (first | rw [if_pos (by omega)] | rw [if_neg (by omega)])), trivial⟩, hS.F ht⟩) hS.2.2 dX10_count_113
  refine lv_tableOut (tgt := 114) hx hb dX10_count_1 (by omega) (by decide) ?_
  refine lv_iconst (v := (-1)) hx hb dX10_count_114 (by decide) ?_
  refine W.widen (k := 0) (n := 0) (by decide) (by decide) ?_
  exact W.iret (v := (-1)) hx hb hr (fun t ht hW => ⟨⟨(-1), (), rfl, (by unfold sp_count; repeat (first | rw [if_pos (by omega)] | rw [if_neg (by omega)])), trivial⟩, hS.F ht⟩) hS.2.2 dX10_count_115
