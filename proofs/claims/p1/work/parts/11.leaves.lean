theorem in_X8_push_X8 : ∀ w ∈ wsX80, w ∈ wsX8_push := by decide +kernel
abbrev W_push (cI cJ cZ cG cH : ClassId) (tp : Nat) (jv : Int64) (tb : Nat) : va_W := [(tp, .inr (7, [.ref tb, .int 0])), (tb, .inl (cI, 400, .inl (fun _ => 0)))]
abbrev Q_push (D : va_G) (cI cJ cZ cG cH : ClassId) (tp : Nat) (jv : Int64) (tb : Nat) (A : Nat → Prop) : Array Value → State → Outcome → State → Prop := va_Qi (fun (r : Int32) (_ : Unit) => r = 1) (fun _ t => ∃ (f9 : Nat → Int32), xB D (tyL cI cJ cZ cG cH) [(tp, .inr (7, [.ref tb, .int 8])), (tb, .inl (cI, 400, .inl f9))] A t) A
abbrev rm_push : Room := { frames := 0, cells := 0, slots := 0, locals := 0 }
set_option maxRecDepth 100000 in
set_option maxHeartbeats 4000000 in
theorem c_push (l : Launch) (D : va_G) (cI cJ cZ cG cH : ClassId) (sz : Nat) (tp : Nat) (jv : Int64) (tb : Nat) : Met l yX8_push wsX8_push rm_push (xPc [.ref tp, .long jv] D (tyL cI cJ cZ cG cH) (W_push cI cJ cZ cG cH tp jv tb) sz) (Q_push D cI cJ cZ cG cH tp jv tb (va_A (W_push cI cJ cZ cG cH tp jv tb) sz)) 0 0 (va_A (W_push cI cJ cZ cG cH tp jv tb) sz) := by
  refine xMet (cc := cX8_push) (maxL := 4) (ret := (some .boolean)) (Qf := Q_push D cI cJ cZ cG cH tp jv tb) (by decide) rfl (Nat.le_of_ble_eq_true rfl) ?_
  intro p e s m below meth c ls A hx hb hr hml hts hown hlocks hnm hsz hP hK hD hA hS hl
  have hown : s.vm.findClass RX8 = some m.cls := hown
  have hP : va_P D vwCl [(tp, .inr (7, [.ref tb, .int 0])), (tb, .inl (cI, 400, .inl (fun _ => 0)))] s.heap := hP
  have hD : va_D A [(tp, .inr (7, [.ref tb, .int 0])), (tb, .inl (cI, 400, .inl (fun _ => 0)))] := hD
  have hl : lv_has ls 4 [(0, .ref tp), (1, .long jv)] := hl
  refine lv_aload_n hx hb dX8_push_0 rfl (lv_at hl 0 rfl) ?_
  refine va_get (D := D) (ci := 7) (v := .int 0) (C := RX8) (T := TX8) (N := 2) hx hb hts in_X8_push_X8 hown hK hP 0 rfl rfl 1 (by decide) (hts (.fieldLink RX8 13 "PowerRails$Tape" "length" "I") (by decide +kernel)) (fun _ h9 => h9) rfl dX8_push_1 ?_
  refine lv_bipush (v := 8) hx hb dX8_push_4 (by decide) ?_
  refine lv_iadd hx hb dX8_push_6 ?_
  refine lv_topi (fun v1 ev1 => ?_)
  obtain rfl : v1 = 8 := ev1.trans (by decide)
  refine lv_sipush (v := 400) hx hb dX8_push_7 (by decide) ?_
  refine lv_icmp_le (tgt := 15) hx hb dX8_push_10 (by decide) (fun _ => ?_) (fun c9 => absurd c9 (by decide))
  refine lv_bipush (v := 56) hx hb dX8_push_15 (by decide) ?_
  refine lv_istore_n (lv' := [(3, .int 56), (0, .ref tp), (1, .long jv)]) hx hb dX8_push_17 rfl hl (by decide) rfl (fun ls hl => ?_)
  refine lv_iload_n hx hb dX8_push_18 rfl (lv_at hl 0 rfl) ?_
  refine lv_if_lt (tgt := 55) hx hb dX8_push_19 (by decide) (fun c9 => absurd c9 (by decide)) (fun _ => ?_)
  refine lv_aload_n hx hb dX8_push_22 rfl (lv_at hl 1 rfl) ?_
  refine va_get (D := D) (ci := 7) (v := .ref tb) (C := RX8) (T := TX8) (N := 2) hx hb hts in_X8_push_X8 hown hK hP 0 rfl rfl 0 (by decide) (hts (.fieldLink RX8 9 "PowerRails$Tape" "bytes" "[I") (by decide +kernel)) (fun _ h9 => h9) rfl dX8_push_23 ?_
  refine lv_aload_n hx hb dX8_push_26 rfl (lv_at hl 1 rfl) ?_
  refine va_get (D := D) (ci := 7) (v := .int 0) (C := RX8) (T := TX8) (N := 2) hx hb hts in_X8_push_X8 hown hK hP 0 rfl rfl 1 (by decide) (hts (.fieldLink RX8 13 "PowerRails$Tape" "length" "I") (by decide +kernel)) (fun _ h9 => h9) rfl dX8_push_27 ?_
  refine lv_lload_n hx hb dX8_push_30 rfl (lv_at hl 2 rfl) ?_
  refine lv_iload_n hx hb dX8_push_31 rfl (lv_at hl 0 rfl) ?_
  obtain ⟨v2, ev2⟩ : ∃ z : Int64, ((jv : Int64).toUInt64 >>> ((56 : Int32).toInt64.toUInt64 &&& Int64.toUInt64 63)).toInt64 = z := ⟨_, rfl⟩
  refine lv_lushr hx hb dX8_push_32 ev2 ?_
  obtain ⟨v3, ev3⟩ : ∃ z : Int32, (v2 : Int64).toInt32 = z := ⟨_, rfl⟩
  refine lv_l2i hx hb dX8_push_33 ev3 ?_
  refine lv_sipush (v := 255) hx hb dX8_push_34 (by decide) ?_
  refine lv_iand hx hb dX8_push_37 ?_
  refine lv_topi (fun v4 ev4 => ?_)
  refine va_iast hx hb hK hP hD hS 1 0 rfl rfl (xin (by decide) (by decide)) dX8_push_38 (fun H locs hP hD hS => ?_)
  obtain ⟨f5, ef5⟩ : ∃ fz9 : Nat → Int32, fz9 = upd (fun _ => 0) (0 : Int32).toNatClampNeg v4 := ⟨_, rfl⟩
  have hP : va_P D vwCl [(tp, .inr (7, [.ref tb, .int 0])), (tb, .inl (cI, 400, .inl f5))] H := by rw [ef5]; exact hP
  have hD : va_D A [(tp, .inr (7, [.ref tb, .int 0])), (tb, .inl (cI, 400, .inl f5))] := by rw [ef5]; exact hD
  refine lv_aload_n hx hb dX8_push_39 rfl (lv_at hl 1 rfl) ?_
  refine lv_dup hx hb dX8_push_40 rfl ?_
  refine va_get (D := D) (ci := 7) (v := .int 0) (C := RX8) (T := TX8) (N := 2) hx hb hts in_X8_push_X8 hown hK hP 0 rfl rfl 1 (by decide) (hts (.fieldLink RX8 13 "PowerRails$Tape" "length" "I") (by decide +kernel)) (fun _ h9 => h9) rfl dX8_push_41 ?_
  refine lv_iconst (v := 1) hx hb dX8_push_44 (by decide) ?_
  refine lv_iadd hx hb dX8_push_45 ?_
  refine lv_topi (fun v6 ev6 => ?_)
  obtain rfl : v6 = 1 := ev6.trans (by decide)
  refine va_put (D := D) (ci := 7) (v := .int 1) (ty := .int) (C := RX8) (T := TX8) (N := 2) hx hb hts in_X8_push_X8 tyX8 tyX8_ok nmX8 hown hK hP hD hS 0 rfl rfl 1 (by decide) (hts (.fieldLink RX8 13 "PowerRails$Tape" "length" "I") (by decide +kernel)) (fun _ h9 => h9) rfl (by decide +kernel) rfl rfl (Nat.le_of_ble_eq_true rfl) dX8_push_46 (fun H locs hP hD hS => ?_)
  have hP : va_P D vwCl [(tp, .inr (7, [.ref tb, .int 1])), (tb, .inl (cI, 400, .inl f5))] H := hP
  have hD : va_D A [(tp, .inr (7, [.ref tb, .int 1])), (tb, .inl (cI, 400, .inl f5))] := hD
  refine lv_iinc (v := 48) (lv' := [(3, .int 48), (0, .ref tp), (1, .long jv)]) hx hb dX8_push_49 hl (k := 0) rfl (by decide) (by decide) rfl (fun ls hl => ?_)
  refine lv_goto (tgt := 18) hx hb dX8_push_52 (by decide) ?_
  refine lv_iload_n hx hb dX8_push_18 rfl (lv_at hl 0 rfl) ?_
  refine lv_if_lt (tgt := 55) hx hb dX8_push_19 (by decide) (fun c9 => absurd c9 (by decide)) (fun _ => ?_)
  refine lv_aload_n hx hb dX8_push_22 rfl (lv_at hl 1 rfl) ?_
  refine va_get (D := D) (ci := 7) (v := .ref tb) (C := RX8) (T := TX8) (N := 2) hx hb hts in_X8_push_X8 hown hK hP 0 rfl rfl 0 (by decide) (hts (.fieldLink RX8 9 "PowerRails$Tape" "bytes" "[I") (by decide +kernel)) (fun _ h9 => h9) rfl dX8_push_23 ?_
  refine lv_aload_n hx hb dX8_push_26 rfl (lv_at hl 1 rfl) ?_
  refine va_get (D := D) (ci := 7) (v := .int 1) (C := RX8) (T := TX8) (N := 2) hx hb hts in_X8_push_X8 hown hK hP 0 rfl rfl 1 (by decide) (hts (.fieldLink RX8 13 "PowerRails$Tape" "length" "I") (by decide +kernel)) (fun _ h9 => h9) rfl dX8_push_27 ?_
  refine lv_lload_n hx hb dX8_push_30 rfl (lv_at hl 2 rfl) ?_
  refine lv_iload_n hx hb dX8_push_31 rfl (lv_at hl 0 rfl) ?_
  obtain ⟨v7, ev7⟩ : ∃ z : Int64, ((jv : Int64).toUInt64 >>> ((48 : Int32).toInt64.toUInt64 &&& Int64.toUInt64 63)).toInt64 = z := ⟨_, rfl⟩
  refine lv_lushr hx hb dX8_push_32 ev7 ?_
  obtain ⟨v8, ev8⟩ : ∃ z : Int32, (v7 : Int64).toInt32 = z := ⟨_, rfl⟩
  refine lv_l2i hx hb dX8_push_33 ev8 ?_
  refine lv_sipush (v := 255) hx hb dX8_push_34 (by decide) ?_
  refine lv_iand hx hb dX8_push_37 ?_
  refine lv_topi (fun v9 ev9 => ?_)
  refine va_iast hx hb hK hP hD hS 1 0 rfl rfl (xin (by decide) (by decide)) dX8_push_38 (fun H locs hP hD hS => ?_)
  obtain ⟨f10, ef10⟩ : ∃ fz9 : Nat → Int32, fz9 = upd f5 (1 : Int32).toNatClampNeg v9 := ⟨_, rfl⟩
  have hP : va_P D vwCl [(tp, .inr (7, [.ref tb, .int 1])), (tb, .inl (cI, 400, .inl f10))] H := by rw [ef10]; exact hP
  have hD : va_D A [(tp, .inr (7, [.ref tb, .int 1])), (tb, .inl (cI, 400, .inl f10))] := by rw [ef10]; exact hD
  refine lv_aload_n hx hb dX8_push_39 rfl (lv_at hl 1 rfl) ?_
  refine lv_dup hx hb dX8_push_40 rfl ?_
  refine va_get (D := D) (ci := 7) (v := .int 1) (C := RX8) (T := TX8) (N := 2) hx hb hts in_X8_push_X8 hown hK hP 0 rfl rfl 1 (by decide) (hts (.fieldLink RX8 13 "PowerRails$Tape" "length" "I") (by decide +kernel)) (fun _ h9 => h9) rfl dX8_push_41 ?_
  refine lv_iconst (v := 1) hx hb dX8_push_44 (by decide) ?_
  refine lv_iadd hx hb dX8_push_45 ?_
  refine lv_topi (fun v11 ev11 => ?_)
  obtain rfl : v11 = 2 := ev11.trans (by decide)
  refine va_put (D := D) (ci := 7) (v := .int 2) (ty := .int) (C := RX8) (T := TX8) (N := 2) hx hb hts in_X8_push_X8 tyX8 tyX8_ok nmX8 hown hK hP hD hS 0 rfl rfl 1 (by decide) (hts (.fieldLink RX8 13 "PowerRails$Tape" "length" "I") (by decide +kernel)) (fun _ h9 => h9) rfl (by decide +kernel) rfl rfl (Nat.le_of_ble_eq_true rfl) dX8_push_46 (fun H locs hP hD hS => ?_)
  have hP : va_P D vwCl [(tp, .inr (7, [.ref tb, .int 2])), (tb, .inl (cI, 400, .inl f10))] H := hP
  have hD : va_D A [(tp, .inr (7, [.ref tb, .int 2])), (tb, .inl (cI, 400, .inl f10))] := hD
  refine lv_iinc (v := 40) (lv' := [(3, .int 40), (0, .ref tp), (1, .long jv)]) hx hb dX8_push_49 hl (k := 0) rfl (by decide) (by decide) rfl (fun ls hl => ?_)
  refine lv_goto (tgt := 18) hx hb dX8_push_52 (by decide) ?_
  refine lv_iload_n hx hb dX8_push_18 rfl (lv_at hl 0 rfl) ?_
  refine lv_if_lt (tgt := 55) hx hb dX8_push_19 (by decide) (fun c9 => absurd c9 (by decide)) (fun _ => ?_)
  refine lv_aload_n hx hb dX8_push_22 rfl (lv_at hl 1 rfl) ?_
  refine va_get (D := D) (ci := 7) (v := .ref tb) (C := RX8) (T := TX8) (N := 2) hx hb hts in_X8_push_X8 hown hK hP 0 rfl rfl 0 (by decide) (hts (.fieldLink RX8 9 "PowerRails$Tape" "bytes" "[I") (by decide +kernel)) (fun _ h9 => h9) rfl dX8_push_23 ?_
  refine lv_aload_n hx hb dX8_push_26 rfl (lv_at hl 1 rfl) ?_
  refine va_get (D := D) (ci := 7) (v := .int 2) (C := RX8) (T := TX8) (N := 2) hx hb hts in_X8_push_X8 hown hK hP 0 rfl rfl 1 (by decide) (hts (.fieldLink RX8 13 "PowerRails$Tape" "length" "I") (by decide +kernel)) (fun _ h9 => h9) rfl dX8_push_27 ?_
  refine lv_lload_n hx hb dX8_push_30 rfl (lv_at hl 2 rfl) ?_
  refine lv_iload_n hx hb dX8_push_31 rfl (lv_at hl 0 rfl) ?_
  obtain ⟨v12, ev12⟩ : ∃ z : Int64, ((jv : Int64).toUInt64 >>> ((40 : Int32).toInt64.toUInt64 &&& Int64.toUInt64 63)).toInt64 = z := ⟨_, rfl⟩
  refine lv_lushr hx hb dX8_push_32 ev12 ?_
  obtain ⟨v13, ev13⟩ : ∃ z : Int32, (v12 : Int64).toInt32 = z := ⟨_, rfl⟩
  refine lv_l2i hx hb dX8_push_33 ev13 ?_
  refine lv_sipush (v := 255) hx hb dX8_push_34 (by decide) ?_
  refine lv_iand hx hb dX8_push_37 ?_
  refine lv_topi (fun v14 ev14 => ?_)
  refine va_iast hx hb hK hP hD hS 1 0 rfl rfl (xin (by decide) (by decide)) dX8_push_38 (fun H locs hP hD hS => ?_)
  obtain ⟨f15, ef15⟩ : ∃ fz9 : Nat → Int32, fz9 = upd f10 (2 : Int32).toNatClampNeg v14 := ⟨_, rfl⟩
  have hP : va_P D vwCl [(tp, .inr (7, [.ref tb, .int 2])), (tb, .inl (cI, 400, .inl f15))] H := by rw [ef15]; exact hP
  have hD : va_D A [(tp, .inr (7, [.ref tb, .int 2])), (tb, .inl (cI, 400, .inl f15))] := by rw [ef15]; exact hD
  refine lv_aload_n hx hb dX8_push_39 rfl (lv_at hl 1 rfl) ?_
  refine lv_dup hx hb dX8_push_40 rfl ?_
  refine va_get (D := D) (ci := 7) (v := .int 2) (C := RX8) (T := TX8) (N := 2) hx hb hts in_X8_push_X8 hown hK hP 0 rfl rfl 1 (by decide) (hts (.fieldLink RX8 13 "PowerRails$Tape" "length" "I") (by decide +kernel)) (fun _ h9 => h9) rfl dX8_push_41 ?_
  refine lv_iconst (v := 1) hx hb dX8_push_44 (by decide) ?_
  refine lv_iadd hx hb dX8_push_45 ?_
  refine lv_topi (fun v16 ev16 => ?_)
  obtain rfl : v16 = 3 := ev16.trans (by decide)
  refine va_put (D := D) (ci := 7) (v := .int 3) (ty := .int) (C := RX8) (T := TX8) (N := 2) hx hb hts in_X8_push_X8 tyX8 tyX8_ok nmX8 hown hK hP hD hS 0 rfl rfl 1 (by decide) (hts (.fieldLink RX8 13 "PowerRails$Tape" "length" "I") (by decide +kernel)) (fun _ h9 => h9) rfl (by decide +kernel) rfl rfl (Nat.le_of_ble_eq_true rfl) dX8_push_46 (fun H locs hP hD hS => ?_)
  have hP : va_P D vwCl [(tp, .inr (7, [.ref tb, .int 3])), (tb, .inl (cI, 400, .inl f15))] H := hP
  have hD : va_D A [(tp, .inr (7, [.ref tb, .int 3])), (tb, .inl (cI, 400, .inl f15))] := hD
  refine lv_iinc (v := 32) (lv' := [(3, .int 32), (0, .ref tp), (1, .long jv)]) hx hb dX8_push_49 hl (k := 0) rfl (by decide) (by decide) rfl (fun ls hl => ?_)
  refine lv_goto (tgt := 18) hx hb dX8_push_52 (by decide) ?_
  refine lv_iload_n hx hb dX8_push_18 rfl (lv_at hl 0 rfl) ?_
  refine lv_if_lt (tgt := 55) hx hb dX8_push_19 (by decide) (fun c9 => absurd c9 (by decide)) (fun _ => ?_)
  refine lv_aload_n hx hb dX8_push_22 rfl (lv_at hl 1 rfl) ?_
  refine va_get (D := D) (ci := 7) (v := .ref tb) (C := RX8) (T := TX8) (N := 2) hx hb hts in_X8_push_X8 hown hK hP 0 rfl rfl 0 (by decide) (hts (.fieldLink RX8 9 "PowerRails$Tape" "bytes" "[I") (by decide +kernel)) (fun _ h9 => h9) rfl dX8_push_23 ?_
  refine lv_aload_n hx hb dX8_push_26 rfl (lv_at hl 1 rfl) ?_
  refine va_get (D := D) (ci := 7) (v := .int 3) (C := RX8) (T := TX8) (N := 2) hx hb hts in_X8_push_X8 hown hK hP 0 rfl rfl 1 (by decide) (hts (.fieldLink RX8 13 "PowerRails$Tape" "length" "I") (by decide +kernel)) (fun _ h9 => h9) rfl dX8_push_27 ?_
  refine lv_lload_n hx hb dX8_push_30 rfl (lv_at hl 2 rfl) ?_
  refine lv_iload_n hx hb dX8_push_31 rfl (lv_at hl 0 rfl) ?_
  obtain ⟨v17, ev17⟩ : ∃ z : Int64, ((jv : Int64).toUInt64 >>> ((32 : Int32).toInt64.toUInt64 &&& Int64.toUInt64 63)).toInt64 = z := ⟨_, rfl⟩
  refine lv_lushr hx hb dX8_push_32 ev17 ?_
  obtain ⟨v18, ev18⟩ : ∃ z : Int32, (v17 : Int64).toInt32 = z := ⟨_, rfl⟩
  refine lv_l2i hx hb dX8_push_33 ev18 ?_
  refine lv_sipush (v := 255) hx hb dX8_push_34 (by decide) ?_
  refine lv_iand hx hb dX8_push_37 ?_
  refine lv_topi (fun v19 ev19 => ?_)
  refine va_iast hx hb hK hP hD hS 1 0 rfl rfl (xin (by decide) (by decide)) dX8_push_38 (fun H locs hP hD hS => ?_)
  obtain ⟨f20, ef20⟩ : ∃ fz9 : Nat → Int32, fz9 = upd f15 (3 : Int32).toNatClampNeg v19 := ⟨_, rfl⟩
  have hP : va_P D vwCl [(tp, .inr (7, [.ref tb, .int 3])), (tb, .inl (cI, 400, .inl f20))] H := by rw [ef20]; exact hP
  have hD : va_D A [(tp, .inr (7, [.ref tb, .int 3])), (tb, .inl (cI, 400, .inl f20))] := by rw [ef20]; exact hD
  refine lv_aload_n hx hb dX8_push_39 rfl (lv_at hl 1 rfl) ?_
  refine lv_dup hx hb dX8_push_40 rfl ?_
  refine va_get (D := D) (ci := 7) (v := .int 3) (C := RX8) (T := TX8) (N := 2) hx hb hts in_X8_push_X8 hown hK hP 0 rfl rfl 1 (by decide) (hts (.fieldLink RX8 13 "PowerRails$Tape" "length" "I") (by decide +kernel)) (fun _ h9 => h9) rfl dX8_push_41 ?_
  refine lv_iconst (v := 1) hx hb dX8_push_44 (by decide) ?_
  refine lv_iadd hx hb dX8_push_45 ?_
  refine lv_topi (fun v21 ev21 => ?_)
  obtain rfl : v21 = 4 := ev21.trans (by decide)
  refine va_put (D := D) (ci := 7) (v := .int 4) (ty := .int) (C := RX8) (T := TX8) (N := 2) hx hb hts in_X8_push_X8 tyX8 tyX8_ok nmX8 hown hK hP hD hS 0 rfl rfl 1 (by decide) (hts (.fieldLink RX8 13 "PowerRails$Tape" "length" "I") (by decide +kernel)) (fun _ h9 => h9) rfl (by decide +kernel) rfl rfl (Nat.le_of_ble_eq_true rfl) dX8_push_46 (fun H locs hP hD hS => ?_)
  have hP : va_P D vwCl [(tp, .inr (7, [.ref tb, .int 4])), (tb, .inl (cI, 400, .inl f20))] H := hP
  have hD : va_D A [(tp, .inr (7, [.ref tb, .int 4])), (tb, .inl (cI, 400, .inl f20))] := hD
  refine lv_iinc (v := 24) (lv' := [(3, .int 24), (0, .ref tp), (1, .long jv)]) hx hb dX8_push_49 hl (k := 0) rfl (by decide) (by decide) rfl (fun ls hl => ?_)
  refine lv_goto (tgt := 18) hx hb dX8_push_52 (by decide) ?_
  refine lv_iload_n hx hb dX8_push_18 rfl (lv_at hl 0 rfl) ?_
  refine lv_if_lt (tgt := 55) hx hb dX8_push_19 (by decide) (fun c9 => absurd c9 (by decide)) (fun _ => ?_)
  refine lv_aload_n hx hb dX8_push_22 rfl (lv_at hl 1 rfl) ?_
  refine va_get (D := D) (ci := 7) (v := .ref tb) (C := RX8) (T := TX8) (N := 2) hx hb hts in_X8_push_X8 hown hK hP 0 rfl rfl 0 (by decide) (hts (.fieldLink RX8 9 "PowerRails$Tape" "bytes" "[I") (by decide +kernel)) (fun _ h9 => h9) rfl dX8_push_23 ?_
  refine lv_aload_n hx hb dX8_push_26 rfl (lv_at hl 1 rfl) ?_
  refine va_get (D := D) (ci := 7) (v := .int 4) (C := RX8) (T := TX8) (N := 2) hx hb hts in_X8_push_X8 hown hK hP 0 rfl rfl 1 (by decide) (hts (.fieldLink RX8 13 "PowerRails$Tape" "length" "I") (by decide +kernel)) (fun _ h9 => h9) rfl dX8_push_27 ?_
  refine lv_lload_n hx hb dX8_push_30 rfl (lv_at hl 2 rfl) ?_
  refine lv_iload_n hx hb dX8_push_31 rfl (lv_at hl 0 rfl) ?_
  obtain ⟨v22, ev22⟩ : ∃ z : Int64, ((jv : Int64).toUInt64 >>> ((24 : Int32).toInt64.toUInt64 &&& Int64.toUInt64 63)).toInt64 = z := ⟨_, rfl⟩
  refine lv_lushr hx hb dX8_push_32 ev22 ?_
  obtain ⟨v23, ev23⟩ : ∃ z : Int32, (v22 : Int64).toInt32 = z := ⟨_, rfl⟩
  refine lv_l2i hx hb dX8_push_33 ev23 ?_
  refine lv_sipush (v := 255) hx hb dX8_push_34 (by decide) ?_
  refine lv_iand hx hb dX8_push_37 ?_
  refine lv_topi (fun v24 ev24 => ?_)
  refine va_iast hx hb hK hP hD hS 1 0 rfl rfl (xin (by decide) (by decide)) dX8_push_38 (fun H locs hP hD hS => ?_)
  obtain ⟨f25, ef25⟩ : ∃ fz9 : Nat → Int32, fz9 = upd f20 (4 : Int32).toNatClampNeg v24 := ⟨_, rfl⟩
  have hP : va_P D vwCl [(tp, .inr (7, [.ref tb, .int 4])), (tb, .inl (cI, 400, .inl f25))] H := by rw [ef25]; exact hP
  have hD : va_D A [(tp, .inr (7, [.ref tb, .int 4])), (tb, .inl (cI, 400, .inl f25))] := by rw [ef25]; exact hD
  refine lv_aload_n hx hb dX8_push_39 rfl (lv_at hl 1 rfl) ?_
  refine lv_dup hx hb dX8_push_40 rfl ?_
  refine va_get (D := D) (ci := 7) (v := .int 4) (C := RX8) (T := TX8) (N := 2) hx hb hts in_X8_push_X8 hown hK hP 0 rfl rfl 1 (by decide) (hts (.fieldLink RX8 13 "PowerRails$Tape" "length" "I") (by decide +kernel)) (fun _ h9 => h9) rfl dX8_push_41 ?_
  refine lv_iconst (v := 1) hx hb dX8_push_44 (by decide) ?_
  refine lv_iadd hx hb dX8_push_45 ?_
  refine lv_topi (fun v26 ev26 => ?_)
  obtain rfl : v26 = 5 := ev26.trans (by decide)
  refine va_put (D := D) (ci := 7) (v := .int 5) (ty := .int) (C := RX8) (T := TX8) (N := 2) hx hb hts in_X8_push_X8 tyX8 tyX8_ok nmX8 hown hK hP hD hS 0 rfl rfl 1 (by decide) (hts (.fieldLink RX8 13 "PowerRails$Tape" "length" "I") (by decide +kernel)) (fun _ h9 => h9) rfl (by decide +kernel) rfl rfl (Nat.le_of_ble_eq_true rfl) dX8_push_46 (fun H locs hP hD hS => ?_)
  have hP : va_P D vwCl [(tp, .inr (7, [.ref tb, .int 5])), (tb, .inl (cI, 400, .inl f25))] H := hP
  have hD : va_D A [(tp, .inr (7, [.ref tb, .int 5])), (tb, .inl (cI, 400, .inl f25))] := hD
  refine lv_iinc (v := 16) (lv' := [(3, .int 16), (0, .ref tp), (1, .long jv)]) hx hb dX8_push_49 hl (k := 0) rfl (by decide) (by decide) rfl (fun ls hl => ?_)
  refine lv_goto (tgt := 18) hx hb dX8_push_52 (by decide) ?_
  refine lv_iload_n hx hb dX8_push_18 rfl (lv_at hl 0 rfl) ?_
  refine lv_if_lt (tgt := 55) hx hb dX8_push_19 (by decide) (fun c9 => absurd c9 (by decide)) (fun _ => ?_)
  refine lv_aload_n hx hb dX8_push_22 rfl (lv_at hl 1 rfl) ?_
  refine va_get (D := D) (ci := 7) (v := .ref tb) (C := RX8) (T := TX8) (N := 2) hx hb hts in_X8_push_X8 hown hK hP 0 rfl rfl 0 (by decide) (hts (.fieldLink RX8 9 "PowerRails$Tape" "bytes" "[I") (by decide +kernel)) (fun _ h9 => h9) rfl dX8_push_23 ?_
  refine lv_aload_n hx hb dX8_push_26 rfl (lv_at hl 1 rfl) ?_
  refine va_get (D := D) (ci := 7) (v := .int 5) (C := RX8) (T := TX8) (N := 2) hx hb hts in_X8_push_X8 hown hK hP 0 rfl rfl 1 (by decide) (hts (.fieldLink RX8 13 "PowerRails$Tape" "length" "I") (by decide +kernel)) (fun _ h9 => h9) rfl dX8_push_27 ?_
  refine lv_lload_n hx hb dX8_push_30 rfl (lv_at hl 2 rfl) ?_
  refine lv_iload_n hx hb dX8_push_31 rfl (lv_at hl 0 rfl) ?_
  obtain ⟨v27, ev27⟩ : ∃ z : Int64, ((jv : Int64).toUInt64 >>> ((16 : Int32).toInt64.toUInt64 &&& Int64.toUInt64 63)).toInt64 = z := ⟨_, rfl⟩
  refine lv_lushr hx hb dX8_push_32 ev27 ?_
  obtain ⟨v28, ev28⟩ : ∃ z : Int32, (v27 : Int64).toInt32 = z := ⟨_, rfl⟩
  refine lv_l2i hx hb dX8_push_33 ev28 ?_
  refine lv_sipush (v := 255) hx hb dX8_push_34 (by decide) ?_
  refine lv_iand hx hb dX8_push_37 ?_
  refine lv_topi (fun v29 ev29 => ?_)
  refine va_iast hx hb hK hP hD hS 1 0 rfl rfl (xin (by decide) (by decide)) dX8_push_38 (fun H locs hP hD hS => ?_)
  obtain ⟨f30, ef30⟩ : ∃ fz9 : Nat → Int32, fz9 = upd f25 (5 : Int32).toNatClampNeg v29 := ⟨_, rfl⟩
  have hP : va_P D vwCl [(tp, .inr (7, [.ref tb, .int 5])), (tb, .inl (cI, 400, .inl f30))] H := by rw [ef30]; exact hP
  have hD : va_D A [(tp, .inr (7, [.ref tb, .int 5])), (tb, .inl (cI, 400, .inl f30))] := by rw [ef30]; exact hD
  refine lv_aload_n hx hb dX8_push_39 rfl (lv_at hl 1 rfl) ?_
  refine lv_dup hx hb dX8_push_40 rfl ?_
  refine va_get (D := D) (ci := 7) (v := .int 5) (C := RX8) (T := TX8) (N := 2) hx hb hts in_X8_push_X8 hown hK hP 0 rfl rfl 1 (by decide) (hts (.fieldLink RX8 13 "PowerRails$Tape" "length" "I") (by decide +kernel)) (fun _ h9 => h9) rfl dX8_push_41 ?_
  refine lv_iconst (v := 1) hx hb dX8_push_44 (by decide) ?_
  refine lv_iadd hx hb dX8_push_45 ?_
  refine lv_topi (fun v31 ev31 => ?_)
  obtain rfl : v31 = 6 := ev31.trans (by decide)
  refine va_put (D := D) (ci := 7) (v := .int 6) (ty := .int) (C := RX8) (T := TX8) (N := 2) hx hb hts in_X8_push_X8 tyX8 tyX8_ok nmX8 hown hK hP hD hS 0 rfl rfl 1 (by decide) (hts (.fieldLink RX8 13 "PowerRails$Tape" "length" "I") (by decide +kernel)) (fun _ h9 => h9) rfl (by decide +kernel) rfl rfl (Nat.le_of_ble_eq_true rfl) dX8_push_46 (fun H locs hP hD hS => ?_)
  have hP : va_P D vwCl [(tp, .inr (7, [.ref tb, .int 6])), (tb, .inl (cI, 400, .inl f30))] H := hP
  have hD : va_D A [(tp, .inr (7, [.ref tb, .int 6])), (tb, .inl (cI, 400, .inl f30))] := hD
  refine lv_iinc (v := 8) (lv' := [(3, .int 8), (0, .ref tp), (1, .long jv)]) hx hb dX8_push_49 hl (k := 0) rfl (by decide) (by decide) rfl (fun ls hl => ?_)
  refine lv_goto (tgt := 18) hx hb dX8_push_52 (by decide) ?_
  refine lv_iload_n hx hb dX8_push_18 rfl (lv_at hl 0 rfl) ?_
  refine lv_if_lt (tgt := 55) hx hb dX8_push_19 (by decide) (fun c9 => absurd c9 (by decide)) (fun _ => ?_)
  refine lv_aload_n hx hb dX8_push_22 rfl (lv_at hl 1 rfl) ?_
  refine va_get (D := D) (ci := 7) (v := .ref tb) (C := RX8) (T := TX8) (N := 2) hx hb hts in_X8_push_X8 hown hK hP 0 rfl rfl 0 (by decide) (hts (.fieldLink RX8 9 "PowerRails$Tape" "bytes" "[I") (by decide +kernel)) (fun _ h9 => h9) rfl dX8_push_23 ?_
  refine lv_aload_n hx hb dX8_push_26 rfl (lv_at hl 1 rfl) ?_
  refine va_get (D := D) (ci := 7) (v := .int 6) (C := RX8) (T := TX8) (N := 2) hx hb hts in_X8_push_X8 hown hK hP 0 rfl rfl 1 (by decide) (hts (.fieldLink RX8 13 "PowerRails$Tape" "length" "I") (by decide +kernel)) (fun _ h9 => h9) rfl dX8_push_27 ?_
  refine lv_lload_n hx hb dX8_push_30 rfl (lv_at hl 2 rfl) ?_
  refine lv_iload_n hx hb dX8_push_31 rfl (lv_at hl 0 rfl) ?_
  obtain ⟨v32, ev32⟩ : ∃ z : Int64, ((jv : Int64).toUInt64 >>> ((8 : Int32).toInt64.toUInt64 &&& Int64.toUInt64 63)).toInt64 = z := ⟨_, rfl⟩
  refine lv_lushr hx hb dX8_push_32 ev32 ?_
  obtain ⟨v33, ev33⟩ : ∃ z : Int32, (v32 : Int64).toInt32 = z := ⟨_, rfl⟩
  refine lv_l2i hx hb dX8_push_33 ev33 ?_
  refine lv_sipush (v := 255) hx hb dX8_push_34 (by decide) ?_
  refine lv_iand hx hb dX8_push_37 ?_
  refine lv_topi (fun v34 ev34 => ?_)
  refine va_iast hx hb hK hP hD hS 1 0 rfl rfl (xin (by decide) (by decide)) dX8_push_38 (fun H locs hP hD hS => ?_)
  obtain ⟨f35, ef35⟩ : ∃ fz9 : Nat → Int32, fz9 = upd f30 (6 : Int32).toNatClampNeg v34 := ⟨_, rfl⟩
  have hP : va_P D vwCl [(tp, .inr (7, [.ref tb, .int 6])), (tb, .inl (cI, 400, .inl f35))] H := by rw [ef35]; exact hP
  have hD : va_D A [(tp, .inr (7, [.ref tb, .int 6])), (tb, .inl (cI, 400, .inl f35))] := by rw [ef35]; exact hD
  refine lv_aload_n hx hb dX8_push_39 rfl (lv_at hl 1 rfl) ?_
  refine lv_dup hx hb dX8_push_40 rfl ?_
  refine va_get (D := D) (ci := 7) (v := .int 6) (C := RX8) (T := TX8) (N := 2) hx hb hts in_X8_push_X8 hown hK hP 0 rfl rfl 1 (by decide) (hts (.fieldLink RX8 13 "PowerRails$Tape" "length" "I") (by decide +kernel)) (fun _ h9 => h9) rfl dX8_push_41 ?_
  refine lv_iconst (v := 1) hx hb dX8_push_44 (by decide) ?_
  refine lv_iadd hx hb dX8_push_45 ?_
  refine lv_topi (fun v36 ev36 => ?_)
  obtain rfl : v36 = 7 := ev36.trans (by decide)
  refine va_put (D := D) (ci := 7) (v := .int 7) (ty := .int) (C := RX8) (T := TX8) (N := 2) hx hb hts in_X8_push_X8 tyX8 tyX8_ok nmX8 hown hK hP hD hS 0 rfl rfl 1 (by decide) (hts (.fieldLink RX8 13 "PowerRails$Tape" "length" "I") (by decide +kernel)) (fun _ h9 => h9) rfl (by decide +kernel) rfl rfl (Nat.le_of_ble_eq_true rfl) dX8_push_46 (fun H locs hP hD hS => ?_)
  have hP : va_P D vwCl [(tp, .inr (7, [.ref tb, .int 7])), (tb, .inl (cI, 400, .inl f35))] H := hP
  have hD : va_D A [(tp, .inr (7, [.ref tb, .int 7])), (tb, .inl (cI, 400, .inl f35))] := hD
  refine lv_iinc (v := 0) (lv' := [(3, .int 0), (0, .ref tp), (1, .long jv)]) hx hb dX8_push_49 hl (k := 0) rfl (by decide) (by decide) rfl (fun ls hl => ?_)
  refine lv_goto (tgt := 18) hx hb dX8_push_52 (by decide) ?_
  refine lv_iload_n hx hb dX8_push_18 rfl (lv_at hl 0 rfl) ?_
  refine lv_if_lt (tgt := 55) hx hb dX8_push_19 (by decide) (fun c9 => absurd c9 (by decide)) (fun _ => ?_)
  refine lv_aload_n hx hb dX8_push_22 rfl (lv_at hl 1 rfl) ?_
  refine va_get (D := D) (ci := 7) (v := .ref tb) (C := RX8) (T := TX8) (N := 2) hx hb hts in_X8_push_X8 hown hK hP 0 rfl rfl 0 (by decide) (hts (.fieldLink RX8 9 "PowerRails$Tape" "bytes" "[I") (by decide +kernel)) (fun _ h9 => h9) rfl dX8_push_23 ?_
  refine lv_aload_n hx hb dX8_push_26 rfl (lv_at hl 1 rfl) ?_
  refine va_get (D := D) (ci := 7) (v := .int 7) (C := RX8) (T := TX8) (N := 2) hx hb hts in_X8_push_X8 hown hK hP 0 rfl rfl 1 (by decide) (hts (.fieldLink RX8 13 "PowerRails$Tape" "length" "I") (by decide +kernel)) (fun _ h9 => h9) rfl dX8_push_27 ?_
  refine lv_lload_n hx hb dX8_push_30 rfl (lv_at hl 2 rfl) ?_
  refine lv_iload_n hx hb dX8_push_31 rfl (lv_at hl 0 rfl) ?_
  obtain ⟨v37, ev37⟩ : ∃ z : Int64, ((jv : Int64).toUInt64 >>> ((0 : Int32).toInt64.toUInt64 &&& Int64.toUInt64 63)).toInt64 = z := ⟨_, rfl⟩
  refine lv_lushr hx hb dX8_push_32 ev37 ?_
  obtain ⟨v38, ev38⟩ : ∃ z : Int32, (v37 : Int64).toInt32 = z := ⟨_, rfl⟩
  refine lv_l2i hx hb dX8_push_33 ev38 ?_
  refine lv_sipush (v := 255) hx hb dX8_push_34 (by decide) ?_
  refine lv_iand hx hb dX8_push_37 ?_
  refine lv_topi (fun v39 ev39 => ?_)
  refine va_iast hx hb hK hP hD hS 1 0 rfl rfl (xin (by decide) (by decide)) dX8_push_38 (fun H locs hP hD hS => ?_)
  obtain ⟨f40, ef40⟩ : ∃ fz9 : Nat → Int32, fz9 = upd f35 (7 : Int32).toNatClampNeg v39 := ⟨_, rfl⟩
  have hP : va_P D vwCl [(tp, .inr (7, [.ref tb, .int 7])), (tb, .inl (cI, 400, .inl f40))] H := by rw [ef40]; exact hP
  have hD : va_D A [(tp, .inr (7, [.ref tb, .int 7])), (tb, .inl (cI, 400, .inl f40))] := by rw [ef40]; exact hD
  refine lv_aload_n hx hb dX8_push_39 rfl (lv_at hl 1 rfl) ?_
  refine lv_dup hx hb dX8_push_40 rfl ?_
  refine va_get (D := D) (ci := 7) (v := .int 7) (C := RX8) (T := TX8) (N := 2) hx hb hts in_X8_push_X8 hown hK hP 0 rfl rfl 1 (by decide) (hts (.fieldLink RX8 13 "PowerRails$Tape" "length" "I") (by decide +kernel)) (fun _ h9 => h9) rfl dX8_push_41 ?_
  refine lv_iconst (v := 1) hx hb dX8_push_44 (by decide) ?_
  refine lv_iadd hx hb dX8_push_45 ?_
  refine lv_topi (fun v41 ev41 => ?_)
  obtain rfl : v41 = 8 := ev41.trans (by decide)
  refine va_put (D := D) (ci := 7) (v := .int 8) (ty := .int) (C := RX8) (T := TX8) (N := 2) hx hb hts in_X8_push_X8 tyX8 tyX8_ok nmX8 hown hK hP hD hS 0 rfl rfl 1 (by decide) (hts (.fieldLink RX8 13 "PowerRails$Tape" "length" "I") (by decide +kernel)) (fun _ h9 => h9) rfl (by decide +kernel) rfl rfl (Nat.le_of_ble_eq_true rfl) dX8_push_46 (fun H locs hP hD hS => ?_)
  have hP : va_P D vwCl [(tp, .inr (7, [.ref tb, .int 8])), (tb, .inl (cI, 400, .inl f40))] H := hP
  have hD : va_D A [(tp, .inr (7, [.ref tb, .int 8])), (tb, .inl (cI, 400, .inl f40))] := hD
  refine lv_iinc (v := (-8)) (lv' := [(3, .int (-8)), (0, .ref tp), (1, .long jv)]) hx hb dX8_push_49 hl (k := 0) rfl (by decide) (by decide) rfl (fun ls hl => ?_)
  refine lv_goto (tgt := 18) hx hb dX8_push_52 (by decide) ?_
  refine lv_iload_n hx hb dX8_push_18 rfl (lv_at hl 0 rfl) ?_
  refine lv_if_lt (tgt := 55) hx hb dX8_push_19 (by decide) (fun _ => ?_) (fun c9 => absurd c9 (by decide))
  refine lv_iconst (v := 1) hx hb dX8_push_55 (by decide) ?_
  refine W.widen (k := 0) (n := 0) (by decide) (by decide) ?_
  have hP9 := hP.sub (ws' := [(tp, .inr (7, [.ref tb, .int 8])), (tb, .inl (cI, 400, .inl f40))]) [0, 1] rfl
  have hD9 := hD.sub (ws' := [(tp, .inr (7, [.ref tb, .int 8])), (tb, .inl (cI, 400, .inl f40))]) [0, 1] (by decide) rfl
  exact W.zret (v := 1) hx hb hr (by decide) (fun t ht hW => ⟨⟨1, (), rfl, rfl, ⟨f40, xB_of ht hW hP9 hK hD9⟩⟩, hS.F ht⟩) hS.2.2 dX8_push_56
theorem in_X3_hasRail_X3 : ∀ w ∈ wsX30, w ∈ wsX3_hasRail := by decide +kernel
abbrev W_hasRail0 (cI cJ cZ cG cH : ClassId) (pl : Nat) (p0 : Int32) (pn : Nat) (pt : Nat) : va_W := [(pl, .inr (2, [.ref pn, .ref pt, .int 0, .int 999, .int 0, .int 5]))]
abbrev Q_hasRail0 (D : va_G) (cI cJ cZ cG cH : ClassId) (pl : Nat) (p0 : Int32) (pn : Nat) (pt : Nat) (A : Nat → Prop) : Array Value → State → Outcome → State → Prop := va_Qi (fun (r : Int32) (_ : Unit) => r = 0) (fun _ t => xB D (tyL cI cJ cZ cG cH) [(pl, .inr (2, [.ref pn, .ref pt, .int 0, .int 999, .int 0, .int 5]))] A t) A
abbrev rm_hasRail0 : Room := { frames := 0, cells := 0, slots := 0, locals := 0 }
set_option maxRecDepth 100000 in
set_option maxHeartbeats 4000000 in
theorem c_hasRail0 (l : Launch) (D : va_G) (cI cJ cZ cG cH : ClassId) (sz : Nat) (pl : Nat) (p0 : Int32) (pn : Nat) (pt : Nat) : Met l yX3_hasRail wsX3_hasRail rm_hasRail0 (xPc [.ref pl, .int p0] D (tyL cI cJ cZ cG cH) (W_hasRail0 cI cJ cZ cG cH pl p0 pn pt) sz) (Q_hasRail0 D cI cJ cZ cG cH pl p0 pn pt (va_A (W_hasRail0 cI cJ cZ cG cH pl p0 pn pt) sz)) 0 0 (va_A (W_hasRail0 cI cJ cZ cG cH pl p0 pn pt) sz) := by
  refine xMet (cc := cX3_hasRail) (maxL := 2) (ret := (some .boolean)) (Qf := Q_hasRail0 D cI cJ cZ cG cH pl p0 pn pt) (by decide) rfl (Nat.le_of_ble_eq_true rfl) ?_
  intro p e s m below meth c ls A hx hb hr hml hts hown hlocks hnm hsz hP hK hD hA hS hl
  have hown : s.vm.findClass RX3 = some m.cls := hown
  have hP : va_P D vwCl [(pl, .inr (2, [.ref pn, .ref pt, .int 0, .int 999, .int 0, .int 5]))] s.heap := hP
  have hD : va_D A [(pl, .inr (2, [.ref pn, .ref pt, .int 0, .int 999, .int 0, .int 5]))] := hD
  have hl : lv_has ls 2 [(0, .ref pl), (1, .int p0)] := hl
  refine lv_iload_n hx hb dX3_hasRail_0 rfl (lv_at hl 1 rfl) ?_
  refine lv_if_lt (tgt := 16) hx hb dX3_hasRail_1 (by decide) (fun c_1 => ?_) (fun c_1 => ?_)
  · skip
    have i_1 : p0.toInt < 0 := (ilt rfl (by decide)).mp c_1
    refine lv_iconst (v := 0) hx hb dX3_hasRail_16 (by decide) ?_
    refine W.widen (k := 0) (n := 0) (by decide) (by decide) ?_
    have hP9 := hP.sub (ws' := [(pl, .inr (2, [.ref pn, .ref pt, .int 0, .int 999, .int 0, .int 5]))]) [0] rfl
    have hD9 := hD.sub (ws' := [(pl, .inr (2, [.ref pn, .ref pt, .int 0, .int 999, .int 0, .int 5]))]) [0] (by decide) rfl
    exact W.zret (v := 0) hx hb hr (by decide) (fun t ht hW => ⟨⟨0, (), rfl, rfl, xB_of ht hW hP9 hK hD9⟩, hS.F ht⟩) hS.2.2 dX3_hasRail_17
  · skip
    have i_1 : ¬ (p0.toInt < 0) := fun h9 => c_1 ((ilt rfl (by decide)).mpr h9)
    refine lv_iload_n hx hb dX3_hasRail_4 rfl (lv_at hl 1 rfl) ?_
    refine lv_aload_n hx hb dX3_hasRail_5 rfl (lv_at hl 0 rfl) ?_
    refine va_get (D := D) (ci := 2) (v := .int 0) (C := RX3) (T := TX3) (N := 6) hx hb hts in_X3_hasRail_X3 hown hK hP 0 rfl rfl 2 (by decide) (hts (.fieldLink RX3 19 "PowerRails$Plan" "rails" "I") (by decide +kernel)) (fun _ h9 => h9) rfl dX3_hasRail_6 ?_
    refine lv_icmp_ge (tgt := 16) hx hb dX3_hasRail_9 (by decide) (fun c_2 => ?_) (fun c_2 => ?_)
    · skip
      have i_2 : 0 ≤ p0.toInt := (ile (by decide) rfl).mp c_2
      refine lv_iconst (v := 0) hx hb dX3_hasRail_16 (by decide) ?_
      refine W.widen (k := 0) (n := 0) (by decide) (by decide) ?_
      have hP9 := hP.sub (ws' := [(pl, .inr (2, [.ref pn, .ref pt, .int 0, .int 999, .int 0, .int 5]))]) [0] rfl
      have hD9 := hD.sub (ws' := [(pl, .inr (2, [.ref pn, .ref pt, .int 0, .int 999, .int 0, .int 5]))]) [0] (by decide) rfl
      exact W.zret (v := 0) hx hb hr (by decide) (fun t ht hW => ⟨⟨0, (), rfl, rfl, xB_of ht hW hP9 hK hD9⟩, hS.F ht⟩) hS.2.2 dX3_hasRail_17
    · skip
      have i_2 : ¬ (0 ≤ p0.toInt) := fun h9 => c_2 ((ile (by decide) rfl).mpr h9)
      exfalso
      omega
theorem in_X3_allRails_X3 : ∀ w ∈ wsX30, w ∈ wsX3_allRails := by decide +kernel
abbrev W_allRails0 (cI cJ cZ cG cH : ClassId) (pl : Nat) (pn : Nat) (pt : Nat) : va_W := [(pl, .inr (2, [.ref pn, .ref pt, .int 0, .int 999, .int 0, .int 5]))]
abbrev Q_allRails0 (D : va_G) (cI cJ cZ cG cH : ClassId) (pl : Nat) (pn : Nat) (pt : Nat) (A : Nat → Prop) : Array Value → State → Outcome → State → Prop := va_Qi (fun (r : Int32) (_ : Unit) => r = 0) (fun _ t => xB D (tyL cI cJ cZ cG cH) [(pl, .inr (2, [.ref pn, .ref pt, .int 0, .int 999, .int 0, .int 5]))] A t) A
abbrev rm_allRails0 : Room := { frames := 0, cells := 0, slots := 0, locals := 0 }
set_option maxRecDepth 100000 in
set_option maxHeartbeats 4000000 in
theorem c_allRails0 (l : Launch) (D : va_G) (cI cJ cZ cG cH : ClassId) (sz : Nat) (pl : Nat) (pn : Nat) (pt : Nat) : Met l yX3_allRails wsX3_allRails rm_allRails0 (xPc [.ref pl] D (tyL cI cJ cZ cG cH) (W_allRails0 cI cJ cZ cG cH pl pn pt) sz) (Q_allRails0 D cI cJ cZ cG cH pl pn pt (va_A (W_allRails0 cI cJ cZ cG cH pl pn pt) sz)) 0 0 (va_A (W_allRails0 cI cJ cZ cG cH pl pn pt) sz) := by
  refine xMet (cc := cX3_allRails) (maxL := 1) (ret := (some .int)) (Qf := Q_allRails0 D cI cJ cZ cG cH pl pn pt) (by decide) rfl (Nat.le_of_ble_eq_true rfl) ?_
  intro p e s m below meth c ls A hx hb hr hml hts hown hlocks hnm hsz hP hK hD hA hS hl
  have hown : s.vm.findClass RX3 = some m.cls := hown
  have hP : va_P D vwCl [(pl, .inr (2, [.ref pn, .ref pt, .int 0, .int 999, .int 0, .int 5]))] s.heap := hP
  have hD : va_D A [(pl, .inr (2, [.ref pn, .ref pt, .int 0, .int 999, .int 0, .int 5]))] := hD
  have hl : lv_has ls 1 [(0, .ref pl)] := hl
  refine lv_iconst (v := 1) hx hb dX3_allRails_0 (by decide) ?_
  refine lv_aload_n hx hb dX3_allRails_1 rfl (lv_at hl 0 rfl) ?_
  refine va_get (D := D) (ci := 2) (v := .int 0) (C := RX3) (T := TX3) (N := 6) hx hb hts in_X3_allRails_X3 hown hK hP 0 rfl rfl 2 (by decide) (hts (.fieldLink RX3 19 "PowerRails$Plan" "rails" "I") (by decide +kernel)) (fun _ h9 => h9) rfl dX3_allRails_2 ?_
  refine lv_ishl hx hb dX3_allRails_5 ?_
  refine lv_topi (fun v1 ev1 => ?_)
  obtain rfl : v1 = 1 := ev1.trans (by decide)
  refine lv_iconst (v := 1) hx hb dX3_allRails_6 (by decide) ?_
  refine lv_isub hx hb dX3_allRails_7 ?_
  refine lv_topi (fun v2 ev2 => ?_)
  obtain rfl : v2 = 0 := ev2.trans (by decide)
  refine W.widen (k := 0) (n := 0) (by decide) (by decide) ?_
  have hP9 := hP.sub (ws' := [(pl, .inr (2, [.ref pn, .ref pt, .int 0, .int 999, .int 0, .int 5]))]) [0] rfl
  have hD9 := hD.sub (ws' := [(pl, .inr (2, [.ref pn, .ref pt, .int 0, .int 999, .int 0, .int 5]))]) [0] (by decide) rfl
  exact W.iret (v := 0) hx hb hr (fun t ht hW => ⟨⟨0, (), rfl, rfl, xB_of ht hW hP9 hK hD9⟩, hS.F ht⟩) hS.2.2 dX3_allRails_8
theorem in_X3_upAmong_X3 : ∀ w ∈ wsX30, w ∈ wsX3_upAmong := by decide +kernel
abbrev W_upAmong0 (cI cJ cZ cG cH : ClassId) (pl : Nat) (p0 : Int32) (pn : Nat) (pt : Nat) : va_W := [(pl, .inr (2, [.ref pn, .ref pt, .int 0, .int 999, .int 0, .int 5]))]
abbrev Q_upAmong0 (D : va_G) (cI cJ cZ cG cH : ClassId) (pl : Nat) (p0 : Int32) (pn : Nat) (pt : Nat) (A : Nat → Prop) : Array Value → State → Outcome → State → Prop := va_Qi (fun (r : Int32) (_ : Unit) => r = 0) (fun _ t => xB D (tyL cI cJ cZ cG cH) [(pl, .inr (2, [.ref pn, .ref pt, .int 0, .int 999, .int 0, .int 5]))] A t) A
abbrev rm_upAmong0 : Room := { frames := 0, cells := 0, slots := 0, locals := 0 }
set_option maxRecDepth 100000 in
set_option maxHeartbeats 4000000 in
theorem c_upAmong0 (l : Launch) (D : va_G) (cI cJ cZ cG cH : ClassId) (sz : Nat) (pl : Nat) (p0 : Int32) (pn : Nat) (pt : Nat) : Met l yX3_upAmong wsX3_upAmong rm_upAmong0 (xPc [.ref pl, .int p0] D (tyL cI cJ cZ cG cH) (W_upAmong0 cI cJ cZ cG cH pl p0 pn pt) sz) (Q_upAmong0 D cI cJ cZ cG cH pl p0 pn pt (va_A (W_upAmong0 cI cJ cZ cG cH pl p0 pn pt) sz)) 0 0 (va_A (W_upAmong0 cI cJ cZ cG cH pl p0 pn pt) sz) := by
  refine xMet (cc := cX3_upAmong) (maxL := 6) (ret := (some .int)) (Qf := Q_upAmong0 D cI cJ cZ cG cH pl p0 pn pt) (by decide) rfl (Nat.le_of_ble_eq_true rfl) ?_
  intro p e s m below meth c ls A hx hb hr hml hts hown hlocks hnm hsz hP hK hD hA hS hl
  have hown : s.vm.findClass RX3 = some m.cls := hown
  have hP : va_P D vwCl [(pl, .inr (2, [.ref pn, .ref pt, .int 0, .int 999, .int 0, .int 5]))] s.heap := hP
  have hD : va_D A [(pl, .inr (2, [.ref pn, .ref pt, .int 0, .int 999, .int 0, .int 5]))] := hD
  have hl : lv_has ls 6 [(0, .ref pl), (1, .int p0)] := hl
  refine lv_iconst (v := 0) hx hb dX3_upAmong_0 (by decide) ?_
  refine lv_istore_n (lv' := [(2, .int 0), (0, .ref pl), (1, .int p0)]) hx hb dX3_upAmong_1 rfl hl (by decide) rfl (fun ls hl => ?_)
  refine lv_iconst (v := 0) hx hb dX3_upAmong_2 (by decide) ?_
  refine lv_istore_n (lv' := [(3, .int 0), (2, .int 0), (0, .ref pl), (1, .int p0)]) hx hb dX3_upAmong_3 rfl hl (by decide) rfl (fun ls hl => ?_)
  refine lv_iload_n hx hb dX3_upAmong_4 rfl (lv_at hl 0 rfl) ?_
  refine lv_bipush (v := 8) hx hb dX3_upAmong_5 (by decide) ?_
  refine lv_icmp_gt (tgt := 82) hx hb dX3_upAmong_7 (by decide) (fun c9 => absurd c9 (by decide)) (fun _ => ?_)
  refine lv_iload_n hx hb dX3_upAmong_10 rfl (lv_at hl 1 rfl) ?_
  refine lv_istore (lv' := [(4, .int 0), (3, .int 0), (2, .int 0), (0, .ref pl), (1, .int p0)]) hx hb dX3_upAmong_11 hl (by decide) rfl (fun ls hl => ?_)
  refine lv_iconst (v := 0) hx hb dX3_upAmong_13 (by decide) ?_
  refine lv_istore (lv' := [(5, .int 0), (4, .int 0), (3, .int 0), (2, .int 0), (0, .ref pl), (1, .int p0)]) hx hb dX3_upAmong_14 hl (by decide) rfl (fun ls hl => ?_)
  refine lv_iload hx hb dX3_upAmong_16 (lv_at hl 0 rfl) ?_
  refine lv_aload_n hx hb dX3_upAmong_18 rfl (lv_at hl 4 rfl) ?_
  refine va_get (D := D) (ci := 2) (v := .int 0) (C := RX3) (T := TX3) (N := 6) hx hb hts in_X3_upAmong_X3 hown hK hP 0 rfl rfl 2 (by decide) (hts (.fieldLink RX3 19 "PowerRails$Plan" "rails" "I") (by decide +kernel)) (fun _ h9 => h9) rfl dX3_upAmong_19 ?_
  refine lv_icmp_ge (tgt := 64) hx hb dX3_upAmong_22 (by decide) (fun _ => ?_) (fun c9 => absurd c9 (by decide))
  refine lv_iload hx hb dX3_upAmong_64 (lv_at hl 1 rfl) ?_
  refine lv_iload_n hx hb dX3_upAmong_66 rfl (lv_at hl 3 rfl) ?_
  refine lv_icmp_ne (tgt := 73) hx hb dX3_upAmong_67 (by decide) (fun c9 => absurd c9 (by decide)) (fun _ => ?_)
  refine lv_goto (tgt := 82) hx hb dX3_upAmong_70 (by decide) ?_
  refine lv_iload_n hx hb dX3_upAmong_82 rfl (lv_at hl 3 rfl) ?_
  refine W.widen (k := 0) (n := 0) (by decide) (by decide) ?_
  have hP9 := hP.sub (ws' := [(pl, .inr (2, [.ref pn, .ref pt, .int 0, .int 999, .int 0, .int 5]))]) [0] rfl
  have hD9 := hD.sub (ws' := [(pl, .inr (2, [.ref pn, .ref pt, .int 0, .int 999, .int 0, .int 5]))]) [0] (by decide) rfl
  exact W.iret (v := 0) hx hb hr (fun t ht hW => ⟨⟨0, (), rfl, rfl, xB_of ht hW hP9 hK hD9⟩, hS.F ht⟩) hS.2.2 dX3_upAmong_83
theorem in_X3_countWays_X3 : ∀ w ∈ wsX30, w ∈ wsX3_countWays := by decide +kernel
abbrev W_countWays0 (cI cJ cZ cG cH : ClassId) (pl : Nat) (pn : Nat) (pt : Nat) : va_W := [(pl, .inr (2, [.ref pn, .ref pt, .int 0, .int 999, .int 0, .int 5]))]
abbrev Q_countWays0 (D : va_G) (cI cJ cZ cG cH : ClassId) (pl : Nat) (pn : Nat) (pt : Nat) (A : Nat → Prop) : Array Value → State → Outcome → State → Prop := va_Qi (fun (r : Int32) (_ : Unit) => r = 1) (fun _ t => xB D (tyL cI cJ cZ cG cH) [(pl, .inr (2, [.ref pn, .ref pt, .int 0, .int 999, .int 0, .int 5]))] A t) A
abbrev rm_countWays0 : Room := { frames := 0, cells := 0, slots := 0, locals := 0 }
set_option maxRecDepth 100000 in
set_option maxHeartbeats 4000000 in
theorem c_countWays0 (l : Launch) (D : va_G) (cI cJ cZ cG cH : ClassId) (sz : Nat) (pl : Nat) (pn : Nat) (pt : Nat) : Met l yX3_countWays wsX3_countWays rm_countWays0 (xPc [.ref pl] D (tyL cI cJ cZ cG cH) (W_countWays0 cI cJ cZ cG cH pl pn pt) sz) (Q_countWays0 D cI cJ cZ cG cH pl pn pt (va_A (W_countWays0 cI cJ cZ cG cH pl pn pt) sz)) 0 0 (va_A (W_countWays0 cI cJ cZ cG cH pl pn pt) sz) := by
  refine xMet (cc := cX3_countWays) (maxL := 3) (ret := (some .int)) (Qf := Q_countWays0 D cI cJ cZ cG cH pl pn pt) (by decide) rfl (Nat.le_of_ble_eq_true rfl) ?_
  intro p e s m below meth c ls A hx hb hr hml hts hown hlocks hnm hsz hP hK hD hA hS hl
  have hown : s.vm.findClass RX3 = some m.cls := hown
  have hP : va_P D vwCl [(pl, .inr (2, [.ref pn, .ref pt, .int 0, .int 999, .int 0, .int 5]))] s.heap := hP
  have hD : va_D A [(pl, .inr (2, [.ref pn, .ref pt, .int 0, .int 999, .int 0, .int 5]))] := hD
  have hl : lv_has ls 3 [(0, .ref pl)] := hl
  refine lv_iconst (v := 1) hx hb dX3_countWays_0 (by decide) ?_
  refine lv_istore_n (lv' := [(1, .int 1), (0, .ref pl)]) hx hb dX3_countWays_1 rfl hl (by decide) rfl (fun ls hl => ?_)
  refine lv_iconst (v := 0) hx hb dX3_countWays_2 (by decide) ?_
  refine lv_istore_n (lv' := [(2, .int 0), (1, .int 1), (0, .ref pl)]) hx hb dX3_countWays_3 rfl hl (by decide) rfl (fun ls hl => ?_)
  refine lv_iload_n hx hb dX3_countWays_4 rfl (lv_at hl 0 rfl) ?_
  refine lv_aload_n hx hb dX3_countWays_5 rfl (lv_at hl 2 rfl) ?_
  refine va_get (D := D) (ci := 2) (v := .int 0) (C := RX3) (T := TX3) (N := 6) hx hb hts in_X3_countWays_X3 hown hK hP 0 rfl rfl 2 (by decide) (hts (.fieldLink RX3 19 "PowerRails$Plan" "rails" "I") (by decide +kernel)) (fun _ h9 => h9) rfl dX3_countWays_6 ?_
  refine lv_icmp_ge (tgt := 36) hx hb dX3_countWays_9 (by decide) (fun _ => ?_) (fun c9 => absurd c9 (by decide))
  refine lv_iload_n hx hb dX3_countWays_36 rfl (lv_at hl 1 rfl) ?_
  refine W.widen (k := 0) (n := 0) (by decide) (by decide) ?_
  have hP9 := hP.sub (ws' := [(pl, .inr (2, [.ref pn, .ref pt, .int 0, .int 999, .int 0, .int 5]))]) [0] rfl
  have hD9 := hD.sub (ws' := [(pl, .inr (2, [.ref pn, .ref pt, .int 0, .int 999, .int 0, .int 5]))]) [0] (by decide) rfl
  exact W.iret (v := 1) hx hb hr (fun t ht hW => ⟨⟨1, (), rfl, rfl, xB_of ht hW hP9 hK hD9⟩, hS.F ht⟩) hS.2.2 dX3_countWays_37
abbrev W_asNumber0 (cI cJ cZ cG cH : ClassId) : va_W := []
abbrev Q_asNumber0 (D : va_G) (cI cJ cZ cG cH : ClassId) (A : Nat → Prop) : Array Value → State → Outcome → State → Prop := va_Qi (fun (r : Int32) (_ : Unit) => r = 0) (fun _ t => xB D (tyL cI cJ cZ cG cH) [] A t) A
abbrev rm_asNumber0 : Room := { frames := 0, cells := 0, slots := 0, locals := 0 }
set_option maxRecDepth 100000 in
set_option maxHeartbeats 4000000 in
theorem c_asNumber0 (l : Launch) (D : va_G) (cI cJ cZ cG cH : ClassId) (sz : Nat) : Met l yX10_asNumber wsX10_asNumber rm_asNumber0 (xPc [.int 0] D (tyL cI cJ cZ cG cH) (W_asNumber0 cI cJ cZ cG cH) sz) (Q_asNumber0 D cI cJ cZ cG cH (va_A (W_asNumber0 cI cJ cZ cG cH) sz)) 0 0 (va_A (W_asNumber0 cI cJ cZ cG cH) sz) := by
  refine xMet (cc := cX10_asNumber) (maxL := 1) (ret := (some .int)) (Qf := Q_asNumber0 D cI cJ cZ cG cH) (by decide) rfl (Nat.le_of_ble_eq_true rfl) ?_
  intro p e s m below meth c ls A hx hb hr hml hts hown hlocks hnm hsz hP hK hD hA hS hl
  have hown : s.vm.findClass RX10 = some m.cls := hown
  have hP : va_P D vwCl [] s.heap := hP
  have hD : va_D A [] := hD
  have hl : lv_has ls 1 [(0, .int 0)] := hl
  refine lv_iload_n hx hb dX10_asNumber_0 rfl (lv_at hl 0 rfl) ?_
  refine lv_if_eq (tgt := 8) hx hb dX10_asNumber_1 (by decide) (fun _ => ?_) (fun c9 => absurd c9 (by decide))
  refine lv_iconst (v := 0) hx hb dX10_asNumber_8 (by decide) ?_
  refine W.widen (k := 0) (n := 0) (by decide) (by decide) ?_
  have hP9 := hP.sub (ws' := []) [] rfl
  have hD9 := hD.sub (ws' := []) [] (by decide) rfl
  exact W.iret (v := 0) hx hb hr (fun t ht hW => ⟨⟨0, (), rfl, rfl, xB_of ht hW hP9 hK hD9⟩, hS.F ht⟩) hS.2.2 dX10_asNumber_9
theorem in_X3_reset_X3 : ∀ w ∈ wsX30, w ∈ wsX3_reset := by decide +kernel
abbrev W_Plan_reset (cI cJ cZ cG cH : ClassId) (pl : Nat) (pn : Nat) (pt : Nat) : va_W := [(pl, .inr (2, [.ref pn, .ref pt, .int 0, .int 999, .int 0, .int 5]))]
abbrev Q_Plan_reset (D : va_G) (cI cJ cZ cG cH : ClassId) (pl : Nat) (pn : Nat) (pt : Nat) (A : Nat → Prop) : Array Value → State → Outcome → State → Prop := va_Qv (fun (_ : Unit) => True) (fun _ t => xB D (tyL cI cJ cZ cG cH) [(pl, .inr (2, [.ref pn, .ref pt, .int 0, .int 999, .int 0, .int 5]))] A t) A
abbrev rm_Plan_reset : Room := { frames := 0, cells := 0, slots := 0, locals := 0 }
set_option maxRecDepth 100000 in
set_option maxHeartbeats 4000000 in
theorem c_Plan_reset (l : Launch) (D : va_G) (cI cJ cZ cG cH : ClassId) (sz : Nat) (pl : Nat) (pn : Nat) (pt : Nat) : Met l yX3_reset wsX3_reset rm_Plan_reset (xPc [.ref pl] D (tyL cI cJ cZ cG cH) (W_Plan_reset cI cJ cZ cG cH pl pn pt) sz) (Q_Plan_reset D cI cJ cZ cG cH pl pn pt (va_A (W_Plan_reset cI cJ cZ cG cH pl pn pt) sz)) 0 0 (va_A (W_Plan_reset cI cJ cZ cG cH pl pn pt) sz) := by
  refine xMet (cc := cX3_reset) (maxL := 1) (ret := none) (Qf := Q_Plan_reset D cI cJ cZ cG cH pl pn pt) (by decide) rfl (Nat.le_of_ble_eq_true rfl) ?_
  intro p e s m below meth c ls A hx hb hr hml hts hown hlocks hnm hsz hP hK hD hA hS hl
  have hown : s.vm.findClass RX3 = some m.cls := hown
  have hP : va_P D vwCl [(pl, .inr (2, [.ref pn, .ref pt, .int 0, .int 999, .int 0, .int 5]))] s.heap := hP
  have hD : va_D A [(pl, .inr (2, [.ref pn, .ref pt, .int 0, .int 999, .int 0, .int 5]))] := hD
  have hl : lv_has ls 1 [(0, .ref pl)] := hl
  refine lv_aload_n hx hb dX3_reset_0 rfl (lv_at hl 0 rfl) ?_
  refine lv_iconst (v := 0) hx hb dX3_reset_1 (by decide) ?_
  refine va_put (D := D) (ci := 2) (v := .int 0) (ty := .int) (C := RX3) (T := TX3) (N := 6) hx hb hts in_X3_reset_X3 tyX3 tyX3_ok nmX3 hown hK hP hD hS 0 rfl rfl 2 (by decide) (hts (.fieldLink RX3 19 "PowerRails$Plan" "rails" "I") (by decide +kernel)) (fun _ h9 => h9) rfl (by decide +kernel) rfl rfl (Nat.le_of_ble_eq_true rfl) dX3_reset_2 (fun H locs hP hD hS => ?_)
  have hP : va_P D vwCl [(pl, .inr (2, [.ref pn, .ref pt, .int 0, .int 999, .int 0, .int 5]))] H := hP
  have hD : va_D A [(pl, .inr (2, [.ref pn, .ref pt, .int 0, .int 999, .int 0, .int 5]))] := hD
  refine lv_aload_n hx hb dX3_reset_5 rfl (lv_at hl 0 rfl) ?_
  refine lv_sipush (v := 999) hx hb dX3_reset_6 (by decide) ?_
  refine va_put (D := D) (ci := 2) (v := .int 999) (ty := .int) (C := RX3) (T := TX3) (N := 6) hx hb hts in_X3_reset_X3 tyX3 tyX3_ok nmX3 hown hK hP hD hS 0 rfl rfl 3 (by decide) (hts (.fieldLink RX3 23 "PowerRails$Plan" "limit" "I") (by decide +kernel)) (fun _ h9 => h9) rfl (by decide +kernel) rfl rfl (Nat.le_of_ble_eq_true rfl) dX3_reset_9 (fun H locs hP hD hS => ?_)
  have hP : va_P D vwCl [(pl, .inr (2, [.ref pn, .ref pt, .int 0, .int 999, .int 0, .int 5]))] H := hP
  have hD : va_D A [(pl, .inr (2, [.ref pn, .ref pt, .int 0, .int 999, .int 0, .int 5]))] := hD
  refine lv_aload_n hx hb dX3_reset_12 rfl (lv_at hl 0 rfl) ?_
  refine lv_iconst (v := 0) hx hb dX3_reset_13 (by decide) ?_
  refine va_put (D := D) (ci := 2) (v := .int 0) (ty := .int) (C := RX3) (T := TX3) (N := 6) hx hb hts in_X3_reset_X3 tyX3 tyX3_ok nmX3 hown hK hP hD hS 0 rfl rfl 4 (by decide) (hts (.fieldLink RX3 26 "PowerRails$Plan" "retry" "I") (by decide +kernel)) (fun _ h9 => h9) rfl (by decide +kernel) rfl rfl (Nat.le_of_ble_eq_true rfl) dX3_reset_14 (fun H locs hP hD hS => ?_)
  have hP : va_P D vwCl [(pl, .inr (2, [.ref pn, .ref pt, .int 0, .int 999, .int 0, .int 5]))] H := hP
  have hD : va_D A [(pl, .inr (2, [.ref pn, .ref pt, .int 0, .int 999, .int 0, .int 5]))] := hD
  refine lv_aload_n hx hb dX3_reset_17 rfl (lv_at hl 0 rfl) ?_
  refine lv_iconst (v := 5) hx hb dX3_reset_18 (by decide) ?_
  refine va_put (D := D) (ci := 2) (v := .int 5) (ty := .int) (C := RX3) (T := TX3) (N := 6) hx hb hts in_X3_reset_X3 tyX3 tyX3_ok nmX3 hown hK hP hD hS 0 rfl rfl 5 (by decide) (hts (.fieldLink RX3 29 "PowerRails$Plan" "behind" "I") (by decide +kernel)) (fun _ h9 => h9) rfl (by decide +kernel) rfl rfl (Nat.le_of_ble_eq_true rfl) dX3_reset_19 (fun H locs hP hD hS => ?_)
  have hP : va_P D vwCl [(pl, .inr (2, [.ref pn, .ref pt, .int 0, .int 999, .int 0, .int 5]))] H := hP
  have hD : va_D A [(pl, .inr (2, [.ref pn, .ref pt, .int 0, .int 999, .int 0, .int 5]))] := hD
  refine W.widen (k := 0) (n := 0) (by decide) (by decide) ?_
  have hP9 := hP.sub (ws' := [(pl, .inr (2, [.ref pn, .ref pt, .int 0, .int 999, .int 0, .int 5]))]) [0] rfl
  have hD9 := hD.sub (ws' := [(pl, .inr (2, [.ref pn, .ref pt, .int 0, .int 999, .int 0, .int 5]))]) [0] (by decide) rfl
  exact W.vret hx hb hr (fun t ht hW => ⟨⟨(), rfl, trivial, xB_of ht hW hP9 hK hD9⟩, hS.F ht⟩) hS.2.2 dX3_reset_22
abbrev W_hasPlace (cI cJ cZ cG cH : ClassId) (p0 : Int32) : va_W := []
abbrev Q_hasPlace (D : va_G) (cI cJ cZ cG cH : ClassId) (p0 : Int32) (A : Nat → Prop) : Array Value → State → Outcome → State → Prop := va_Qi (fun (r : Int32) (_ : Unit) => r = if 0 ≤ p0.toInt ∧ p0.toInt < 4 then 1 else 0) (fun _ t => xB D (tyL cI cJ cZ cG cH) [] A t) A
abbrev rm_hasPlace : Room := { frames := 0, cells := 0, slots := 0, locals := 0 }
set_option maxRecDepth 100000 in
set_option maxHeartbeats 4000000 in
theorem c_hasPlace (l : Launch) (D : va_G) (cI cJ cZ cG cH : ClassId) (sz : Nat) (p0 : Int32) : Met l yX6_hasPlace wsX6_hasPlace rm_hasPlace (xPc [.int p0] D (tyL cI cJ cZ cG cH) (W_hasPlace cI cJ cZ cG cH p0) sz) (Q_hasPlace D cI cJ cZ cG cH p0 (va_A (W_hasPlace cI cJ cZ cG cH p0) sz)) 0 0 (va_A (W_hasPlace cI cJ cZ cG cH p0) sz) := by
  refine xMet (cc := cX6_hasPlace) (maxL := 1) (ret := (some .boolean)) (Qf := Q_hasPlace D cI cJ cZ cG cH p0) (by decide) rfl (Nat.le_of_ble_eq_true rfl) ?_
  intro p e s m below meth c ls A hx hb hr hml hts hown hlocks hnm hsz hP hK hD hA hS hl
  have hown : s.vm.findClass RX6 = some m.cls := hown
  have hP : va_P D vwCl [] s.heap := hP
  have hD : va_D A [] := hD
  have hl : lv_has ls 1 [(0, .int p0)] := hl
  refine lv_iload_n hx hb dX6_hasPlace_0 rfl (lv_at hl 0 rfl) ?_
  refine lv_if_lt (tgt := 13) hx hb dX6_hasPlace_1 (by decide) (fun c_1 => ?_) (fun c_1 => ?_)
  · skip
    have i_1 : p0.toInt < 0 := (ilt rfl (by decide)).mp c_1
    refine lv_iconst (v := 0) hx hb dX6_hasPlace_13 (by decide) ?_
    refine W.widen (k := 0) (n := 0) (by decide) (by decide) ?_
    have hP9 := hP.sub (ws' := []) [] rfl
    have hD9 := hD.sub (ws' := []) [] (by decide) rfl
    exact W.zret (v := 0) hx hb hr (by decide) (fun t ht hW => ⟨⟨0, (), rfl, (if_neg (by omega)).symm, xB_of ht hW hP9 hK hD9⟩, hS.F ht⟩) hS.2.2 dX6_hasPlace_14
  · skip
    have i_1 : ¬ (p0.toInt < 0) := fun h9 => c_1 ((ilt rfl (by decide)).mpr h9)
    refine lv_iload_n hx hb dX6_hasPlace_4 rfl (lv_at hl 0 rfl) ?_
    refine lv_iconst (v := 4) hx hb dX6_hasPlace_5 (by decide) ?_
    refine lv_icmp_ge (tgt := 13) hx hb dX6_hasPlace_6 (by decide) (fun c_2 => ?_) (fun c_2 => ?_)
    · skip
      have i_2 : 4 ≤ p0.toInt := (ile (by decide) rfl).mp c_2
      refine lv_iconst (v := 0) hx hb dX6_hasPlace_13 (by decide) ?_
      refine W.widen (k := 0) (n := 0) (by decide) (by decide) ?_
      have hP9 := hP.sub (ws' := []) [] rfl
      have hD9 := hD.sub (ws' := []) [] (by decide) rfl
      exact W.zret (v := 0) hx hb hr (by decide) (fun t ht hW => ⟨⟨0, (), rfl, (if_neg (by omega)).symm, xB_of ht hW hP9 hK hD9⟩, hS.F ht⟩) hS.2.2 dX6_hasPlace_14
    · skip
      have i_2 : ¬ (4 ≤ p0.toInt) := fun h9 => c_2 ((ile (by decide) rfl).mpr h9)
      refine lv_iconst (v := 1) hx hb dX6_hasPlace_9 (by decide) ?_
      refine lv_goto (tgt := 14) hx hb dX6_hasPlace_10 (by decide) ?_
      refine W.widen (k := 0) (n := 0) (by decide) (by decide) ?_
      have hP9 := hP.sub (ws' := []) [] rfl
      have hD9 := hD.sub (ws' := []) [] (by decide) rfl
      exact W.zret (v := 1) hx hb hr (by decide) (fun t ht hW => ⟨⟨1, (), rfl, (if_pos (by omega)).symm, xB_of ht hW hP9 hK hD9⟩, hS.F ht⟩) hS.2.2 dX6_hasPlace_14
abbrev W_isLane (cI cJ cZ cG cH : ClassId) (p0 : Int32) : va_W := []
abbrev Q_isLane (D : va_G) (cI cJ cZ cG cH : ClassId) (p0 : Int32) (A : Nat → Prop) : Array Value → State → Outcome → State → Prop := va_Qi (fun (r : Int32) (_ : Unit) => r = if 0 ≤ p0.toInt ∧ p0.toInt ≤ 2 then 1 else 0) (fun _ t => xB D (tyL cI cJ cZ cG cH) [] A t) A
abbrev rm_isLane : Room := { frames := 0, cells := 0, slots := 0, locals := 0 }
set_option maxRecDepth 100000 in
set_option maxHeartbeats 4000000 in
theorem c_isLane (l : Launch) (D : va_G) (cI cJ cZ cG cH : ClassId) (sz : Nat) (p0 : Int32) : Met l yX6_isLane wsX6_isLane rm_isLane (xPc [.int p0] D (tyL cI cJ cZ cG cH) (W_isLane cI cJ cZ cG cH p0) sz) (Q_isLane D cI cJ cZ cG cH p0 (va_A (W_isLane cI cJ cZ cG cH p0) sz)) 0 0 (va_A (W_isLane cI cJ cZ cG cH p0) sz) := by
  refine xMet (cc := cX6_isLane) (maxL := 1) (ret := (some .boolean)) (Qf := Q_isLane D cI cJ cZ cG cH p0) (by decide) rfl (Nat.le_of_ble_eq_true rfl) ?_
  intro p e s m below meth c ls A hx hb hr hml hts hown hlocks hnm hsz hP hK hD hA hS hl
  have hown : s.vm.findClass RX6 = some m.cls := hown
  have hP : va_P D vwCl [] s.heap := hP
  have hD : va_D A [] := hD
  have hl : lv_has ls 1 [(0, .int p0)] := hl
  refine lv_iload_n hx hb dX6_isLane_0 rfl (lv_at hl 0 rfl) ?_
  refine lv_if_lt (tgt := 13) hx hb dX6_isLane_1 (by decide) (fun c_1 => ?_) (fun c_1 => ?_)
  · skip
    have i_1 : p0.toInt < 0 := (ilt rfl (by decide)).mp c_1
    refine lv_iconst (v := 0) hx hb dX6_isLane_13 (by decide) ?_
    refine W.widen (k := 0) (n := 0) (by decide) (by decide) ?_
    have hP9 := hP.sub (ws' := []) [] rfl
    have hD9 := hD.sub (ws' := []) [] (by decide) rfl
    exact W.zret (v := 0) hx hb hr (by decide) (fun t ht hW => ⟨⟨0, (), rfl, (if_neg (by omega)).symm, xB_of ht hW hP9 hK hD9⟩, hS.F ht⟩) hS.2.2 dX6_isLane_14
  · skip
    have i_1 : ¬ (p0.toInt < 0) := fun h9 => c_1 ((ilt rfl (by decide)).mpr h9)
    refine lv_iload_n hx hb dX6_isLane_4 rfl (lv_at hl 0 rfl) ?_
    refine lv_iconst (v := 2) hx hb dX6_isLane_5 (by decide) ?_
    refine lv_icmp_gt (tgt := 13) hx hb dX6_isLane_6 (by decide) (fun c_2 => ?_) (fun c_2 => ?_)
    · skip
      have i_2 : 2 < p0.toInt := (ilt (by decide) rfl).mp c_2
      refine lv_iconst (v := 0) hx hb dX6_isLane_13 (by decide) ?_
      refine W.widen (k := 0) (n := 0) (by decide) (by decide) ?_
      have hP9 := hP.sub (ws' := []) [] rfl
      have hD9 := hD.sub (ws' := []) [] (by decide) rfl
      exact W.zret (v := 0) hx hb hr (by decide) (fun t ht hW => ⟨⟨0, (), rfl, (if_neg (by omega)).symm, xB_of ht hW hP9 hK hD9⟩, hS.F ht⟩) hS.2.2 dX6_isLane_14
    · skip
      have i_2 : ¬ (2 < p0.toInt) := fun h9 => c_2 ((ilt (by decide) rfl).mpr h9)
      refine lv_iconst (v := 1) hx hb dX6_isLane_9 (by decide) ?_
      refine lv_goto (tgt := 14) hx hb dX6_isLane_10 (by decide) ?_
      refine W.widen (k := 0) (n := 0) (by decide) (by decide) ?_
      have hP9 := hP.sub (ws' := []) [] rfl
      have hD9 := hD.sub (ws' := []) [] (by decide) rfl
      exact W.zret (v := 1) hx hb hr (by decide) (fun t ht hW => ⟨⟨1, (), rfl, (if_pos (by omega)).symm, xB_of ht hW hP9 hK hD9⟩, hS.F ht⟩) hS.2.2 dX6_isLane_14
abbrev W_bitCount0 (cI cJ cZ cG cH : ClassId) : va_W := []
abbrev Q_bitCount0 (D : va_G) (cI cJ cZ cG cH : ClassId) (A : Nat → Prop) : Array Value → State → Outcome → State → Prop := va_Qi (fun (r : Int32) (_ : Unit) => r = 0) (fun _ t => xB D (tyL cI cJ cZ cG cH) [] A t) A
abbrev rm_bitCount0 : Room := { frames := 0, cells := 0, slots := 0, locals := 0 }
set_option maxRecDepth 100000 in
set_option maxHeartbeats 4000000 in
theorem c_bitCount0 (l : Launch) (D : va_G) (cI cJ cZ cG cH : ClassId) (sz : Nat) : Met l yJ6_bitCount_0f7a4 wsJ6_bitCount_0f7a4 rm_bitCount0 (xPc [.int 0] D (tyL cI cJ cZ cG cH) (W_bitCount0 cI cJ cZ cG cH) sz) (Q_bitCount0 D cI cJ cZ cG cH (va_A (W_bitCount0 cI cJ cZ cG cH) sz)) 0 0 (va_A (W_bitCount0 cI cJ cZ cG cH) sz) := by
  refine xMet (cc := cJ6_bitCount_0f7a4) (maxL := 1) (ret := (some .int)) (Qf := Q_bitCount0 D cI cJ cZ cG cH) (by decide) rfl (Nat.le_of_ble_eq_true rfl) ?_
  intro p e s m below meth c ls A hx hb hr hml hts hown hlocks hnm hsz hP hK hD hA hS hl
  have hown : s.vm.findClass RJ6 = some m.cls := hown
  have hP : va_P D vwCl [] s.heap := hP
  have hD : va_D A [] := hD
  have hl : lv_has ls 1 [(0, .int 0)] := hl
  refine lv_iload_n hx hb dJ6_bitCount_0f7a4_0 rfl (lv_at hl 0 rfl) ?_
  refine lv_iload_n hx hb dJ6_bitCount_0f7a4_1 rfl (lv_at hl 0 rfl) ?_
  refine lv_iconst (v := 1) hx hb dJ6_bitCount_0f7a4_2 (by decide) ?_
  refine lv_iushr (v := 0) hx hb dJ6_bitCount_0f7a4_3 (by decide) ?_
  refine lv_ldcw (v := 1431655765) hx hb hown (hts (.constant RJ6 265 (1431655765)) (by decide +kernel)) dJ6_bitCount_0f7a4_4 ?_
  refine lv_iand hx hb dJ6_bitCount_0f7a4_7 ?_
  refine lv_topi (fun v1 ev1 => ?_)
  obtain rfl : v1 = 0 := ev1.trans (by decide)
  refine lv_isub hx hb dJ6_bitCount_0f7a4_8 ?_
  refine lv_topi (fun v2 ev2 => ?_)
  obtain rfl : v2 = 0 := ev2.trans (by decide)
  refine lv_istore_n (lv' := [(0, .int 0)]) hx hb dJ6_bitCount_0f7a4_9 rfl hl (by decide) rfl (fun ls hl => ?_)
  refine lv_iload_n hx hb dJ6_bitCount_0f7a4_10 rfl (lv_at hl 0 rfl) ?_
  refine lv_ldcw (v := 858993459) hx hb hown (hts (.constant RJ6 266 (858993459)) (by decide +kernel)) dJ6_bitCount_0f7a4_11 ?_
  refine lv_iand hx hb dJ6_bitCount_0f7a4_14 ?_
  refine lv_topi (fun v3 ev3 => ?_)
  obtain rfl : v3 = 0 := ev3.trans (by decide)
  refine lv_iload_n hx hb dJ6_bitCount_0f7a4_15 rfl (lv_at hl 0 rfl) ?_
  refine lv_iconst (v := 2) hx hb dJ6_bitCount_0f7a4_16 (by decide) ?_
  refine lv_iushr (v := 0) hx hb dJ6_bitCount_0f7a4_17 (by decide) ?_
  refine lv_ldcw (v := 858993459) hx hb hown (hts (.constant RJ6 266 (858993459)) (by decide +kernel)) dJ6_bitCount_0f7a4_18 ?_
  refine lv_iand hx hb dJ6_bitCount_0f7a4_21 ?_
  refine lv_topi (fun v4 ev4 => ?_)
  obtain rfl : v4 = 0 := ev4.trans (by decide)
  refine lv_iadd hx hb dJ6_bitCount_0f7a4_22 ?_
  refine lv_topi (fun v5 ev5 => ?_)
  obtain rfl : v5 = 0 := ev5.trans (by decide)
  refine lv_istore_n (lv' := [(0, .int 0)]) hx hb dJ6_bitCount_0f7a4_23 rfl hl (by decide) rfl (fun ls hl => ?_)
  refine lv_iload_n hx hb dJ6_bitCount_0f7a4_24 rfl (lv_at hl 0 rfl) ?_
  refine lv_iload_n hx hb dJ6_bitCount_0f7a4_25 rfl (lv_at hl 0 rfl) ?_
  refine lv_iconst (v := 4) hx hb dJ6_bitCount_0f7a4_26 (by decide) ?_
  refine lv_iushr (v := 0) hx hb dJ6_bitCount_0f7a4_27 (by decide) ?_
  refine lv_iadd hx hb dJ6_bitCount_0f7a4_28 ?_
  refine lv_topi (fun v6 ev6 => ?_)
  obtain rfl : v6 = 0 := ev6.trans (by decide)
  refine lv_ldcw (v := 252645135) hx hb hown (hts (.constant RJ6 267 (252645135)) (by decide +kernel)) dJ6_bitCount_0f7a4_29 ?_
  refine lv_iand hx hb dJ6_bitCount_0f7a4_32 ?_
  refine lv_topi (fun v7 ev7 => ?_)
  obtain rfl : v7 = 0 := ev7.trans (by decide)
  refine lv_istore_n (lv' := [(0, .int 0)]) hx hb dJ6_bitCount_0f7a4_33 rfl hl (by decide) rfl (fun ls hl => ?_)
  refine lv_iload_n hx hb dJ6_bitCount_0f7a4_34 rfl (lv_at hl 0 rfl) ?_
  refine lv_iload_n hx hb dJ6_bitCount_0f7a4_35 rfl (lv_at hl 0 rfl) ?_
  refine lv_bipush (v := 8) hx hb dJ6_bitCount_0f7a4_36 (by decide) ?_
  refine lv_iushr (v := 0) hx hb dJ6_bitCount_0f7a4_38 (by decide) ?_
  refine lv_iadd hx hb dJ6_bitCount_0f7a4_39 ?_
  refine lv_topi (fun v8 ev8 => ?_)
  obtain rfl : v8 = 0 := ev8.trans (by decide)
  refine lv_istore_n (lv' := [(0, .int 0)]) hx hb dJ6_bitCount_0f7a4_40 rfl hl (by decide) rfl (fun ls hl => ?_)
  refine lv_iload_n hx hb dJ6_bitCount_0f7a4_41 rfl (lv_at hl 0 rfl) ?_
  refine lv_iload_n hx hb dJ6_bitCount_0f7a4_42 rfl (lv_at hl 0 rfl) ?_
  refine lv_bipush (v := 16) hx hb dJ6_bitCount_0f7a4_43 (by decide) ?_
  refine lv_iushr (v := 0) hx hb dJ6_bitCount_0f7a4_45 (by decide) ?_
  refine lv_iadd hx hb dJ6_bitCount_0f7a4_46 ?_
  refine lv_topi (fun v9 ev9 => ?_)
  obtain rfl : v9 = 0 := ev9.trans (by decide)
  refine lv_istore_n (lv' := [(0, .int 0)]) hx hb dJ6_bitCount_0f7a4_47 rfl hl (by decide) rfl (fun ls hl => ?_)
  refine lv_iload_n hx hb dJ6_bitCount_0f7a4_48 rfl (lv_at hl 0 rfl) ?_
  refine lv_bipush (v := 63) hx hb dJ6_bitCount_0f7a4_49 (by decide) ?_
  refine lv_iand hx hb dJ6_bitCount_0f7a4_51 ?_
  refine lv_topi (fun v10 ev10 => ?_)
  obtain rfl : v10 = 0 := ev10.trans (by decide)
  refine W.widen (k := 0) (n := 0) (by decide) (by decide) ?_
  have hP9 := hP.sub (ws' := []) [] rfl
  have hD9 := hD.sub (ws' := []) [] (by decide) rfl
  exact W.iret (v := 0) hx hb hr (fun t ht hW => ⟨⟨0, (), rfl, rfl, xB_of ht hW hP9 hK hD9⟩, hS.F ht⟩) hS.2.2 dJ6_bitCount_0f7a4_52
theorem in_X10_alive_X10 : ∀ w ∈ wsX100, w ∈ wsX10_alive := by decide +kernel
theorem in_X10_alive_X5 : ∀ w ∈ wsX50, w ∈ wsX10_alive := by decide +kernel
abbrev W_alive0 (cI cJ cZ cG cH : ClassId) (xo : Nat) (tp : Nat) (rd : Nat) (rn : Nat) (co : Nat) (wy : Nat) (sg : Nat) (sh : Nat) (pl : Nat) (sp : Nat) (pn : Nat) (pt : Nat) (hy : Nat) (rs : Nat) (ri : Nat) (ra : Nat) (rt : Nat) (rg : Nat) : va_W := [(xo, .inr (9, [.ref tp, .ref rd, .ref rn, .ref co, .ref wy, .ref sg, .ref sh, .ref pl, .ref sp, .int 0])), (pl, .inr (2, [.ref pn, .ref pt, .int 0, .int 999, .int 0, .int 5])), (rn, .inr (4, [.ref hy, .ref rs, .ref ri, .ref ra, .ref rt, .ref rg, .int 0, .int 0, .int 0, .int 0, .int 0, .int 0, .int 0, .int 0]))]
abbrev Q_alive0 (D : va_G) (cI cJ cZ cG cH : ClassId) (xo : Nat) (tp : Nat) (rd : Nat) (rn : Nat) (co : Nat) (wy : Nat) (sg : Nat) (sh : Nat) (pl : Nat) (sp : Nat) (pn : Nat) (pt : Nat) (hy : Nat) (rs : Nat) (ri : Nat) (ra : Nat) (rt : Nat) (rg : Nat) (A : Nat → Prop) : Array Value → State → Outcome → State → Prop := va_Qi (fun (r : Int32) (_ : Unit) => r = 0) (fun _ t => xB D (tyL cI cJ cZ cG cH) [(xo, .inr (9, [.ref tp, .ref rd, .ref rn, .ref co, .ref wy, .ref sg, .ref sh, .ref pl, .ref sp, .int 0])), (pl, .inr (2, [.ref pn, .ref pt, .int 0, .int 999, .int 0, .int 5])), (rn, .inr (4, [.ref hy, .ref rs, .ref ri, .ref ra, .ref rt, .ref rg, .int 0, .int 0, .int 0, .int 0, .int 0, .int 0, .int 0, .int 0]))] A t) A
abbrev rm_alive0 : Room := { frames := 1, cells := 0, slots := 0, locals := 20 }
set_option maxRecDepth 100000 in
set_option maxHeartbeats 4000000 in
theorem c_alive0 (l : Launch) (D : va_G) (cI cJ cZ cG cH : ClassId) (sz : Nat) (xo : Nat) (tp : Nat) (rd : Nat) (rn : Nat) (co : Nat) (wy : Nat) (sg : Nat) (sh : Nat) (pl : Nat) (sp : Nat) (pn : Nat) (pt : Nat) (hy : Nat) (rs : Nat) (ri : Nat) (ra : Nat) (rt : Nat) (rg : Nat) : Met l yX10_alive wsX10_alive rm_alive0 (xPc [.ref xo] D (tyL cI cJ cZ cG cH) (W_alive0 cI cJ cZ cG cH xo tp rd rn co wy sg sh pl sp pn pt hy rs ri ra rt rg) sz) (Q_alive0 D cI cJ cZ cG cH xo tp rd rn co wy sg sh pl sp pn pt hy rs ri ra rt rg (va_A (W_alive0 cI cJ cZ cG cH xo tp rd rn co wy sg sh pl sp pn pt hy rs ri ra rt rg) sz)) 0 0 (va_A (W_alive0 cI cJ cZ cG cH xo tp rd rn co wy sg sh pl sp pn pt hy rs ri ra rt rg) sz) := by
  refine xMet (cc := cX10_alive) (maxL := 1) (ret := (some .int)) (Qf := Q_alive0 D cI cJ cZ cG cH xo tp rd rn co wy sg sh pl sp pn pt hy rs ri ra rt rg) (by decide) rfl (Nat.le_of_ble_eq_true rfl) ?_
  intro p e s m below meth c ls A hx hb hr hml hts hown hlocks hnm hsz hP hK hD hA hS hl
  have hown : s.vm.findClass RX10 = some m.cls := hown
  have hP : va_P D vwCl [(xo, .inr (9, [.ref tp, .ref rd, .ref rn, .ref co, .ref wy, .ref sg, .ref sh, .ref pl, .ref sp, .int 0])), (pl, .inr (2, [.ref pn, .ref pt, .int 0, .int 999, .int 0, .int 5])), (rn, .inr (4, [.ref hy, .ref rs, .ref ri, .ref ra, .ref rt, .ref rg, .int 0, .int 0, .int 0, .int 0, .int 0, .int 0, .int 0, .int 0]))] s.heap := hP
  have hD : va_D A [(xo, .inr (9, [.ref tp, .ref rd, .ref rn, .ref co, .ref wy, .ref sg, .ref sh, .ref pl, .ref sp, .int 0])), (pl, .inr (2, [.ref pn, .ref pt, .int 0, .int 999, .int 0, .int 5])), (rn, .inr (4, [.ref hy, .ref rs, .ref ri, .ref ra, .ref rt, .ref rg, .int 0, .int 0, .int 0, .int 0, .int 0, .int 0, .int 0, .int 0]))] := hD
  have hl : lv_has ls 1 [(0, .ref xo)] := hl
  refine lv_aload_n hx hb dX10_alive_0 rfl (lv_at hl 0 rfl) ?_
  refine va_get (D := D) (ci := 9) (v := .ref pl) (C := RX10) (T := TX10) (N := 10) hx hb hts in_X10_alive_X10 hown hK hP 0 rfl rfl 7 (by decide) (hts (.fieldLink RX10 56 "PowerRails" "plan" "LPowerRails$Plan;") (by decide +kernel)) (fun _ h9 => h9) rfl dX10_alive_1 ?_
  have hPc := hP.sub (ws' := [(pl, .inr (2, [.ref pn, .ref pt, .int 0, .int 999, .int 0, .int 5]))]) [1] rfl
  have hDc := hD.sub (ws' := [(pl, .inr (2, [.ref pn, .ref pt, .int 0, .int 999, .int 0, .int 5]))]) [1] (by decide) rfl
  have hFc := va_free (wc := [(pl, .inr (2, [.ref pn, .ref pt, .int 0, .int 999, .int 0, .int 5]))]) hD hS hA [1] rfl
  refine va_calli (va_runV (As := []) (rest := []) ⟨hx, hb, hml, hown, hts⟩ (c_allRails0 l D cI cJ cZ cG cH s.heap.size pl pn pt) (cwV 0 hts gX10_alive_X3_allRails rfl rfl rfl (by decide +kernel) ⟨Nat.le_of_ble_eq_true rfl, Nat.le_of_ble_eq_true rfl⟩) ⟨xPc_blind, va_recv hK hPc (ci := 2) (q0 := 0) rfl rfl, xPc_pre hPc hK hDc⟩ rfl rfl hl.1 rfl (lv_room (Nat.le_of_ble_eq_true rfl)) dX10_alive_4 ⟨Nat.le_of_ble_eq_true rfl, Nat.le_of_ble_eq_true rfl⟩) hS (fun q _ h => hFc q h) hFc (fun r1 u t H1 locs ht hvm hw1 hB hz1 hk1 hS => ?_)
  obtain ⟨hP1, hK1, hD1⟩ := hB
  rw [ht] at hP1
  obtain ⟨hP, hD⟩ := va_join (wr := [(xo, .inr (9, [.ref tp, .ref rd, .ref rn, .ref co, .ref wy, .ref sg, .ref sh, .ref pl, .ref sp, .int 0])), (rn, .inr (4, [.ref hy, .ref rs, .ref ri, .ref ra, .ref rt, .ref rg, .int 0, .int 0, .int 0, .int 0, .int 0, .int 0, .int 0, .int 0]))]) (w1 := [(pl, .inr (2, [.ref pn, .ref pt, .int 0, .int 999, .int 0, .int 5]))]) hP hD [1] [0, 2] rfl rfl (by decide) (by decide) hk1 hFc hP1 hD1
  generalize H1 = H at hP hS ⊢
  have hP : va_P D vwCl [(xo, .inr (9, [.ref tp, .ref rd, .ref rn, .ref co, .ref wy, .ref sg, .ref sh, .ref pl, .ref sp, .int 0])), (rn, .inr (4, [.ref hy, .ref rs, .ref ri, .ref ra, .ref rt, .ref rg, .int 0, .int 0, .int 0, .int 0, .int 0, .int 0, .int 0, .int 0])), (pl, .inr (2, [.ref pn, .ref pt, .int 0, .int 999, .int 0, .int 5]))] H := hP
  have hD : va_D A [(xo, .inr (9, [.ref tp, .ref rd, .ref rn, .ref co, .ref wy, .ref sg, .ref sh, .ref pl, .ref sp, .int 0])), (rn, .inr (4, [.ref hy, .ref rs, .ref ri, .ref ra, .ref rt, .ref rg, .int 0, .int 0, .int 0, .int 0, .int 0, .int 0, .int 0, .int 0])), (pl, .inr (2, [.ref pn, .ref pt, .int 0, .int 999, .int 0, .int 5]))] := hD
  obtain rfl : r1 = 0 := hw1
  refine lv_aload_n hx hb dX10_alive_7 rfl (lv_at hl 0 rfl) ?_
  refine va_get (D := D) (ci := 9) (v := .ref rn) (C := RX10) (T := TX10) (N := 10) hx hb hts in_X10_alive_X10 hown hK hP 0 rfl rfl 2 (by decide) (hts (.fieldLink RX10 19 "PowerRails" "run" "LPowerRails$Run;") (by decide +kernel)) (fun _ h9 => h9) rfl dX10_alive_8 ?_
  refine va_get (D := D) (ci := 4) (v := .int 0) (C := RX5) (T := TX5) (N := 14) hx hb hts in_X10_alive_X5 hown hK hP 1 rfl rfl 6 (by decide) (hts (.fieldLink RX10 147 "PowerRails$Run" "dead" "I") (by decide +kernel)) (fun _ h9 => h9) rfl dX10_alive_11 ?_
  refine lv_iconst (v := (-1)) hx hb dX10_alive_14 (by decide) ?_
  refine lv_ixor hx hb dX10_alive_15 ?_
  refine lv_topi (fun v2 ev2 => ?_)
  obtain rfl : v2 = (-1) := ev2.trans (by decide)
  refine lv_iand hx hb dX10_alive_16 ?_
  refine lv_topi (fun v3 ev3 => ?_)
  obtain rfl : v3 = 0 := ev3.trans (by decide)
  refine W.widen (k := 0) (n := 0) (by decide) (by decide) ?_
  have hP9 := hP.sub (ws' := [(xo, .inr (9, [.ref tp, .ref rd, .ref rn, .ref co, .ref wy, .ref sg, .ref sh, .ref pl, .ref sp, .int 0])), (pl, .inr (2, [.ref pn, .ref pt, .int 0, .int 999, .int 0, .int 5])), (rn, .inr (4, [.ref hy, .ref rs, .ref ri, .ref ra, .ref rt, .ref rg, .int 0, .int 0, .int 0, .int 0, .int 0, .int 0, .int 0, .int 0]))]) [0, 2, 1] rfl
  have hD9 := hD.sub (ws' := [(xo, .inr (9, [.ref tp, .ref rd, .ref rn, .ref co, .ref wy, .ref sg, .ref sh, .ref pl, .ref sp, .int 0])), (pl, .inr (2, [.ref pn, .ref pt, .int 0, .int 999, .int 0, .int 5])), (rn, .inr (4, [.ref hy, .ref rs, .ref ri, .ref ra, .ref rt, .ref rg, .int 0, .int 0, .int 0, .int 0, .int 0, .int 0, .int 0, .int 0]))]) [0, 2, 1] (by decide) rfl
  exact W.iret (v := 0) hx hb hr (fun t ht hW => ⟨⟨0, (), rfl, rfl, xB_of ht hW hP9 hK hD9⟩, hS.F ht⟩) hS.2.2 dX10_alive_17
