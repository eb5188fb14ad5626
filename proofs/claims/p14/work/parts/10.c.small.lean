def K_push_2 (tl : Int32) (tb : Nat → Int32) (jv : Int64) : (Int32) × (Int32) × (Nat → Int32) := ((1 : Int32), ((((((((tl + (1 : Int32)) + (1 : Int32)) + (1 : Int32)) + (1 : Int32)) + (1 : Int32)) + (1 : Int32)) + (1 : Int32)) + (1 : Int32)), (upd (upd (upd (upd (upd (upd (upd (upd tb (tl : Int32).toNatClampNeg ((((((jv : Int64).toUInt64 >>> ((56 : Int32).toInt64.toUInt64 &&& Int64.toUInt64 63)).toInt64) : Int64).toInt32) &&& (255 : Int32))) ((tl + (1 : Int32)) : Int32).toNatClampNeg ((((((jv : Int64).toUInt64 >>> ((48 : Int32).toInt64.toUInt64 &&& Int64.toUInt64 63)).toInt64) : Int64).toInt32) &&& (255 : Int32))) (((tl + (1 : Int32)) + (1 : Int32)) : Int32).toNatClampNeg ((((((jv : Int64).toUInt64 >>> ((40 : Int32).toInt64.toUInt64 &&& Int64.toUInt64 63)).toInt64) : Int64).toInt32) &&& (255 : Int32))) ((((tl + (1 : Int32)) + (1 : Int32)) + (1 : Int32)) : Int32).toNatClampNeg ((((((jv : Int64).toUInt64 >>> ((32 : Int32).toInt64.toUInt64 &&& Int64.toUInt64 63)).toInt64) : Int64).toInt32) &&& (255 : Int32))) (((((tl + (1 : Int32)) + (1 : Int32)) + (1 : Int32)) + (1 : Int32)) : Int32).toNatClampNeg ((((((jv : Int64).toUInt64 >>> ((24 : Int32).toInt64.toUInt64 &&& Int64.toUInt64 63)).toInt64) : Int64).toInt32) &&& (255 : Int32))) ((((((tl + (1 : Int32)) + (1 : Int32)) + (1 : Int32)) + (1 : Int32)) + (1 : Int32)) : Int32).toNatClampNeg ((((((jv : Int64).toUInt64 >>> ((16 : Int32).toInt64.toUInt64 &&& Int64.toUInt64 63)).toInt64) : Int64).toInt32) &&& (255 : Int32))) (((((((tl + (1 : Int32)) + (1 : Int32)) + (1 : Int32)) + (1 : Int32)) + (1 : Int32)) + (1 : Int32)) : Int32).toNatClampNeg ((((((jv : Int64).toUInt64 >>> ((8 : Int32).toInt64.toUInt64 &&& Int64.toUInt64 63)).toInt64) : Int64).toInt32) &&& (255 : Int32))) ((((((((tl + (1 : Int32)) + (1 : Int32)) + (1 : Int32)) + (1 : Int32)) + (1 : Int32)) + (1 : Int32)) + (1 : Int32)) : Int32).toNatClampNeg ((((((jv : Int64).toUInt64 >>> ((0 : Int32).toInt64.toUInt64 &&& Int64.toUInt64 63)).toInt64) : Int64).toInt32) &&& (255 : Int32))))
def K_push_3 (tl : Int32) (tb : Nat → Int32) : (Int32) × (Int32) × (Nat → Int32) := ((0 : Int32), tl, tb)
def K_push_1 (tl : Int32) (tb : Nat → Int32) (jv : Int64) : (Int32) × (Int32) × (Nat → Int32) := (if (tl.toInt + 8) ≤ 400 then (K_push_2 tl tb jv) else (K_push_3 tl tb))
def M_push (tl : Int32) (tb : Nat → Int32) (jv : Int64) : (Int32) × (Int32) × (Nat → Int32) := (K_push_1 tl tb jv)
abbrev W_push (cI cJ cZ cG cH : ClassId) (tp : Nat) (jv : Int64) (tba : Nat) (tl : Int32) (tb : Nat → Int32) : va_W := [oX8 tp tba tl, oAI tba cI 400 tb]
abbrev Q_push (D : va_G) (cI cJ cZ cG cH : ClassId) (tp : Nat) (jv : Int64) (tba : Nat) (tl : Int32) (tb : Nat → Int32) (A : Nat → Prop) : Array Value → State → Outcome → State → Prop := va_Qi (fun (r : Int32) (u9 : Int32) => r = u9 ∧ (0 ≤ r.toInt ∧ r.toInt ≤ 1)) (fun u9 t => ∃ (tl9 : Int32) (tb9 : Nat → Int32), (0 ≤ tl9.toInt ∧ tl9.toInt ≤ 400) ∧ ((u9.toInt = 0 ∧ 392 < tl.toInt ∧ tl9.toInt = tl.toInt) ∨ (u9.toInt = 1 ∧ tl.toInt ≤ 392 ∧ tl9.toInt = tl.toInt + 8)) ∧ (M_push tl tb jv = (u9, tl9, tb9)) ∧ xB D (tyL cI cJ cZ cG cH) [oX8 tp tba tl9, oAI tba cI 400 tb9] A t) A
abbrev rm_push : Room := { frames := 0, cells := 0, slots := 0, locals := 0 }
set_option maxRecDepth 100000 in
set_option maxHeartbeats 40000000 in
theorem c_push (l : Launch) (D : va_G) (cI cJ cZ cG cH : ClassId) (sz : Nat) (tp : Nat) (jv : Int64) (tba : Nat) (tl : Int32) (tb : Nat → Int32) (h_tl : 0 ≤ tl.toInt ∧ tl.toInt ≤ 400) : Met l yX8_push (wt yX8_push cX8_push 4 (some .boolean)) rm_push (xPc [.ref tp, .long jv] D (tyL cI cJ cZ cG cH) (W_push cI cJ cZ cG cH tp jv tba tl tb) sz) (Q_push D cI cJ cZ cG cH tp jv tba tl tb (va_A (W_push cI cJ cZ cG cH tp jv tba tl tb) sz)) 0 0 (va_A (W_push cI cJ cZ cG cH tp jv tba tl tb) sz) := by
  refine xMet (cc := cX8_push) (maxL := 4) (ret := (some .boolean)) (Qf := Q_push D cI cJ cZ cG cH tp jv tba tl tb) (by decide) rfl (Nat.le_of_ble_eq_true rfl) ?_
  intro p e s m below meth c ls A hx hb hr hml hts hown hlocks hnm hsz hP hK hD hA hS hl
  have hown : s.vm.findClass RX8 = some m.cls := hown
  have hP : va_P D vwCl [oX8 tp tba tl, oAI tba cI 400 tb] s.heap := hP
  have hD : va_D A [oX8 tp tba tl, oAI tba cI 400 tb] := hD
  have hl : lv_has ls 4 [(0, .ref tp), (1, .long jv)] := hl
  have hM : M_push tl tb jv = (K_push_1 tl tb jv) := rfl
  refine lv_aload_n hx hb dX8_push_0 rfl (lv_at hl 0 rfl) ?_
  refine va_get (D := D) (ci := 7) (v := .int tl) (C := RX8) (T := TX8) (N := 2) hx hb hts (fun w h => tbC w (tbfX8 w h)) hown hK hP 0 rfl rfl 1 (by decide) (hts (.fieldLink RX8 13 "PowerRails$Tape" "length" "I") (tbC _ wd83)) (fun _ h9 => h9) rfl dX8_push_1 ?_
  refine lv_bipush (v := 8) hx hb dX8_push_4 (by decide) ?_
  refine lv_iadd hx hb dX8_push_6 ?_
  refine lv_topi (fun v1 ev1 => ?_)
  have tv1 : v1.toInt = (tl.toInt + 8) := (congrArg Int32.toInt ev1).trans (xadd rfl (by decide) (by omega) (by omega))
  refine lv_sipush (v := 400) hx hb dX8_push_7 (by decide) ?_
  refine lv_icmp_le (tgt := 15) hx hb dX8_push_10 (by decide) (fun c_2 => ?_) (fun c_2 => ?_)
  · skip
    have i_2 : (tl.toInt + 8) ≤ 400 := (ile tv1 (by decide)).mp c_2
    have hM : M_push tl tb jv = (K_push_2 tl tb jv) := (show M_push tl tb jv = (if (tl.toInt + 8) ≤ 400 then (K_push_2 tl tb jv) else (K_push_3 tl tb)) from hM).trans (if_pos i_2)
    refine lv_bipush (v := 56) hx hb dX8_push_15 (by decide) ?_
    refine lv_istore_n (lv' := [(3, .int 56), (0, .ref tp), (1, .long jv)]) hx hb dX8_push_17 rfl hl (by decide) rfl (fun ls hl => ?_)
    refine lv_iload_n hx hb dX8_push_18 rfl (lv_at hl 0 rfl) ?_
    refine lv_if_lt (tgt := 55) hx hb dX8_push_19 (by decide) (fun c9 => absurd c9 (by decide)) (fun _ => ?_)
    refine lv_aload_n hx hb dX8_push_22 rfl (lv_at hl 1 rfl) ?_
    refine va_get (D := D) (ci := 7) (v := .ref tba) (C := RX8) (T := TX8) (N := 2) hx hb hts (fun w h => tbC w (tbfX8 w h)) hown hK hP 0 rfl rfl 0 (by decide) (hts (.fieldLink RX8 9 "PowerRails$Tape" "bytes" "[I") (tbC _ wd81)) (fun _ h9 => h9) rfl dX8_push_23 ?_
    refine lv_aload_n hx hb dX8_push_26 rfl (lv_at hl 1 rfl) ?_
    refine va_get (D := D) (ci := 7) (v := .int tl) (C := RX8) (T := TX8) (N := 2) hx hb hts (fun w h => tbC w (tbfX8 w h)) hown hK hP 0 rfl rfl 1 (by decide) (hts (.fieldLink RX8 13 "PowerRails$Tape" "length" "I") (tbC _ wd83)) (fun _ h9 => h9) rfl dX8_push_27 ?_
    refine lv_lload_n hx hb dX8_push_30 rfl (lv_at hl 2 rfl) ?_
    refine lv_iload_n hx hb dX8_push_31 rfl (lv_at hl 0 rfl) ?_
    obtain ⟨v3, ev3⟩ : ∃ z : Int64, ((jv : Int64).toUInt64 >>> ((56 : Int32).toInt64.toUInt64 &&& Int64.toUInt64 63)).toInt64 = z := ⟨_, rfl⟩
    refine lv_lushr hx hb dX8_push_32 ev3 ?_
    obtain ⟨v4, ev4⟩ : ∃ z : Int32, (v3 : Int64).toInt32 = z := ⟨_, rfl⟩
    refine lv_l2i hx hb dX8_push_33 ev4 ?_
    refine lv_sipush (v := 255) hx hb dX8_push_34 (by decide) ?_
    refine lv_iand hx hb dX8_push_37 ?_
    refine lv_topi (fun v5 ev5 => ?_)
    have rv5 : 0 ≤ v5.toInt ∧ v5.toInt ≤ 255 := xandL ev5 (show (255 : Int32).toInt = 255 from (by decide)) (by omega)
    refine va_iast hx hb hK hP hD hS 1 0 rfl rfl (vp_in_iff.mpr ⟨by omega, by omega⟩) dX8_push_38 (fun H locs hP hD hS => ?_)
    obtain ⟨f6, ef6⟩ : ∃ fz9 : Nat → Int32, fz9 = upd tb (tl : Int32).toNatClampNeg v5 := ⟨_, rfl⟩
    have hP : va_P D vwCl [oX8 tp tba tl, oAI tba cI 400 f6] H := by rw [ef6]; exact hP
    have hD : va_D A [oX8 tp tba tl, oAI tba cI 400 f6] := by rw [ef6]; exact hD
    refine lv_aload_n hx hb dX8_push_39 rfl (lv_at hl 1 rfl) ?_
    refine lv_dup hx hb dX8_push_40 rfl ?_
    refine va_get (D := D) (ci := 7) (v := .int tl) (C := RX8) (T := TX8) (N := 2) hx hb hts (fun w h => tbC w (tbfX8 w h)) hown hK hP 0 rfl rfl 1 (by decide) (hts (.fieldLink RX8 13 "PowerRails$Tape" "length" "I") (tbC _ wd83)) (fun _ h9 => h9) rfl dX8_push_41 ?_
    refine lv_iconst (v := 1) hx hb dX8_push_44 (by decide) ?_
    refine lv_iadd hx hb dX8_push_45 ?_
    refine lv_topi (fun v7 ev7 => ?_)
    have tv7 : v7.toInt = (tl.toInt + 1) := (congrArg Int32.toInt ev7).trans (xadd rfl (by decide) (by omega) (by omega))
    refine va_put (D := D) (ci := 7) (v := .int v7) (ty := .int) (C := RX8) (T := TX8) (N := 2) hx hb hts (fun w h => tbC w (tbfX8 w h)) tyX8 tyX8_ok nmX8 hown hK hP hD hS 0 rfl rfl 1 (by decide) (hts (.fieldLink RX8 13 "PowerRails$Tape" "length" "I") (tbC _ wd83)) (fun _ h9 => h9) rfl (by decide +kernel) rfl rfl (Nat.le_of_ble_eq_true rfl) dX8_push_46 (fun H locs hP hD hS => ?_)
    obtain ⟨hP, hD⟩ : xPD D A [oX8 tp tba v7, oAI tba cI 400 f6] H := ⟨hP, hD⟩
    refine lv_iinc (v := 48) (lv' := [(3, .int 48), (0, .ref tp), (1, .long jv)]) hx hb dX8_push_49 hl (k := 0) rfl (by decide) (by decide) rfl (fun ls hl => ?_)
    refine lv_goto (tgt := 18) hx hb dX8_push_52 (by decide) ?_
    refine lv_iload_n hx hb dX8_push_18 rfl (lv_at hl 0 rfl) ?_
    refine lv_if_lt (tgt := 55) hx hb dX8_push_19 (by decide) (fun c9 => absurd c9 (by decide)) (fun _ => ?_)
    refine lv_aload_n hx hb dX8_push_22 rfl (lv_at hl 1 rfl) ?_
    refine va_get (D := D) (ci := 7) (v := .ref tba) (C := RX8) (T := TX8) (N := 2) hx hb hts (fun w h => tbC w (tbfX8 w h)) hown hK hP 0 rfl rfl 0 (by decide) (hts (.fieldLink RX8 9 "PowerRails$Tape" "bytes" "[I") (tbC _ wd81)) (fun _ h9 => h9) rfl dX8_push_23 ?_
    refine lv_aload_n hx hb dX8_push_26 rfl (lv_at hl 1 rfl) ?_
    refine va_get (D := D) (ci := 7) (v := .int v7) (C := RX8) (T := TX8) (N := 2) hx hb hts (fun w h => tbC w (tbfX8 w h)) hown hK hP 0 rfl rfl 1 (by decide) (hts (.fieldLink RX8 13 "PowerRails$Tape" "length" "I") (tbC _ wd83)) (fun _ h9 => h9) rfl dX8_push_27 ?_
    refine lv_lload_n hx hb dX8_push_30 rfl (lv_at hl 2 rfl) ?_
    refine lv_iload_n hx hb dX8_push_31 rfl (lv_at hl 0 rfl) ?_
    obtain ⟨v8, ev8⟩ : ∃ z : Int64, ((jv : Int64).toUInt64 >>> ((48 : Int32).toInt64.toUInt64 &&& Int64.toUInt64 63)).toInt64 = z := ⟨_, rfl⟩
    refine lv_lushr hx hb dX8_push_32 ev8 ?_
    obtain ⟨v9, ev9⟩ : ∃ z : Int32, (v8 : Int64).toInt32 = z := ⟨_, rfl⟩
    refine lv_l2i hx hb dX8_push_33 ev9 ?_
    refine lv_sipush (v := 255) hx hb dX8_push_34 (by decide) ?_
    refine lv_iand hx hb dX8_push_37 ?_
    refine lv_topi (fun v10 ev10 => ?_)
    have rv10 : 0 ≤ v10.toInt ∧ v10.toInt ≤ 255 := xandL ev10 (show (255 : Int32).toInt = 255 from (by decide)) (by omega)
    refine va_iast hx hb hK hP hD hS 1 0 rfl rfl (vp_in_iff.mpr (by rw [tv7]; omega)) dX8_push_38 (fun H locs hP hD hS => ?_)
    obtain ⟨f11, ef11⟩ : ∃ fz9 : Nat → Int32, fz9 = upd f6 (v7 : Int32).toNatClampNeg v10 := ⟨_, rfl⟩
    have hP : va_P D vwCl [oX8 tp tba v7, oAI tba cI 400 f11] H := by rw [ef11]; exact hP
    have hD : va_D A [oX8 tp tba v7, oAI tba cI 400 f11] := by rw [ef11]; exact hD
    refine lv_aload_n hx hb dX8_push_39 rfl (lv_at hl 1 rfl) ?_
    refine lv_dup hx hb dX8_push_40 rfl ?_
    refine va_get (D := D) (ci := 7) (v := .int v7) (C := RX8) (T := TX8) (N := 2) hx hb hts (fun w h => tbC w (tbfX8 w h)) hown hK hP 0 rfl rfl 1 (by decide) (hts (.fieldLink RX8 13 "PowerRails$Tape" "length" "I") (tbC _ wd83)) (fun _ h9 => h9) rfl dX8_push_41 ?_
    refine lv_iconst (v := 1) hx hb dX8_push_44 (by decide) ?_
    refine lv_iadd hx hb dX8_push_45 ?_
    refine lv_topi (fun v12 ev12 => ?_)
    have tv12 : v12.toInt = ((tl.toInt + 1) + 1) := (congrArg Int32.toInt ev12).trans (xadd tv7 (by decide) (by omega) (by omega))
    refine va_put (D := D) (ci := 7) (v := .int v12) (ty := .int) (C := RX8) (T := TX8) (N := 2) hx hb hts (fun w h => tbC w (tbfX8 w h)) tyX8 tyX8_ok nmX8 hown hK hP hD hS 0 rfl rfl 1 (by decide) (hts (.fieldLink RX8 13 "PowerRails$Tape" "length" "I") (tbC _ wd83)) (fun _ h9 => h9) rfl (by decide +kernel) rfl rfl (Nat.le_of_ble_eq_true rfl) dX8_push_46 (fun H locs hP hD hS => ?_)
    obtain ⟨hP, hD⟩ : xPD D A [oX8 tp tba v12, oAI tba cI 400 f11] H := ⟨hP, hD⟩
    refine lv_iinc (v := 40) (lv' := [(3, .int 40), (0, .ref tp), (1, .long jv)]) hx hb dX8_push_49 hl (k := 0) rfl (by decide) (by decide) rfl (fun ls hl => ?_)
    refine lv_goto (tgt := 18) hx hb dX8_push_52 (by decide) ?_
    refine lv_iload_n hx hb dX8_push_18 rfl (lv_at hl 0 rfl) ?_
    refine lv_if_lt (tgt := 55) hx hb dX8_push_19 (by decide) (fun c9 => absurd c9 (by decide)) (fun _ => ?_)
    refine lv_aload_n hx hb dX8_push_22 rfl (lv_at hl 1 rfl) ?_
    refine va_get (D := D) (ci := 7) (v := .ref tba) (C := RX8) (T := TX8) (N := 2) hx hb hts (fun w h => tbC w (tbfX8 w h)) hown hK hP 0 rfl rfl 0 (by decide) (hts (.fieldLink RX8 9 "PowerRails$Tape" "bytes" "[I") (tbC _ wd81)) (fun _ h9 => h9) rfl dX8_push_23 ?_
    refine lv_aload_n hx hb dX8_push_26 rfl (lv_at hl 1 rfl) ?_
    refine va_get (D := D) (ci := 7) (v := .int v12) (C := RX8) (T := TX8) (N := 2) hx hb hts (fun w h => tbC w (tbfX8 w h)) hown hK hP 0 rfl rfl 1 (by decide) (hts (.fieldLink RX8 13 "PowerRails$Tape" "length" "I") (tbC _ wd83)) (fun _ h9 => h9) rfl dX8_push_27 ?_
    refine lv_lload_n hx hb dX8_push_30 rfl (lv_at hl 2 rfl) ?_
    refine lv_iload_n hx hb dX8_push_31 rfl (lv_at hl 0 rfl) ?_
    obtain ⟨v13, ev13⟩ : ∃ z : Int64, ((jv : Int64).toUInt64 >>> ((40 : Int32).toInt64.toUInt64 &&& Int64.toUInt64 63)).toInt64 = z := ⟨_, rfl⟩
    refine lv_lushr hx hb dX8_push_32 ev13 ?_
    obtain ⟨v14, ev14⟩ : ∃ z : Int32, (v13 : Int64).toInt32 = z := ⟨_, rfl⟩
    refine lv_l2i hx hb dX8_push_33 ev14 ?_
    refine lv_sipush (v := 255) hx hb dX8_push_34 (by decide) ?_
    refine lv_iand hx hb dX8_push_37 ?_
    refine lv_topi (fun v15 ev15 => ?_)
    have rv15 : 0 ≤ v15.toInt ∧ v15.toInt ≤ 255 := xandL ev15 (show (255 : Int32).toInt = 255 from (by decide)) (by omega)
    refine va_iast hx hb hK hP hD hS 1 0 rfl rfl (vp_in_iff.mpr (by rw [tv12]; omega)) dX8_push_38 (fun H locs hP hD hS => ?_)
    obtain ⟨f16, ef16⟩ : ∃ fz9 : Nat → Int32, fz9 = upd f11 (v12 : Int32).toNatClampNeg v15 := ⟨_, rfl⟩
    have hP : va_P D vwCl [oX8 tp tba v12, oAI tba cI 400 f16] H := by rw [ef16]; exact hP
    have hD : va_D A [oX8 tp tba v12, oAI tba cI 400 f16] := by rw [ef16]; exact hD
    refine lv_aload_n hx hb dX8_push_39 rfl (lv_at hl 1 rfl) ?_
    refine lv_dup hx hb dX8_push_40 rfl ?_
    refine va_get (D := D) (ci := 7) (v := .int v12) (C := RX8) (T := TX8) (N := 2) hx hb hts (fun w h => tbC w (tbfX8 w h)) hown hK hP 0 rfl rfl 1 (by decide) (hts (.fieldLink RX8 13 "PowerRails$Tape" "length" "I") (tbC _ wd83)) (fun _ h9 => h9) rfl dX8_push_41 ?_
    refine lv_iconst (v := 1) hx hb dX8_push_44 (by decide) ?_
    refine lv_iadd hx hb dX8_push_45 ?_
    refine lv_topi (fun v17 ev17 => ?_)
    have tv17 : v17.toInt = (((tl.toInt + 1) + 1) + 1) := (congrArg Int32.toInt ev17).trans (xadd tv12 (by decide) (by omega) (by omega))
    refine va_put (D := D) (ci := 7) (v := .int v17) (ty := .int) (C := RX8) (T := TX8) (N := 2) hx hb hts (fun w h => tbC w (tbfX8 w h)) tyX8 tyX8_ok nmX8 hown hK hP hD hS 0 rfl rfl 1 (by decide) (hts (.fieldLink RX8 13 "PowerRails$Tape" "length" "I") (tbC _ wd83)) (fun _ h9 => h9) rfl (by decide +kernel) rfl rfl (Nat.le_of_ble_eq_true rfl) dX8_push_46 (fun H locs hP hD hS => ?_)
    obtain ⟨hP, hD⟩ : xPD D A [oX8 tp tba v17, oAI tba cI 400 f16] H := ⟨hP, hD⟩
    refine lv_iinc (v := 32) (lv' := [(3, .int 32), (0, .ref tp), (1, .long jv)]) hx hb dX8_push_49 hl (k := 0) rfl (by decide) (by decide) rfl (fun ls hl => ?_)
    refine lv_goto (tgt := 18) hx hb dX8_push_52 (by decide) ?_
    refine lv_iload_n hx hb dX8_push_18 rfl (lv_at hl 0 rfl) ?_
    refine lv_if_lt (tgt := 55) hx hb dX8_push_19 (by decide) (fun c9 => absurd c9 (by decide)) (fun _ => ?_)
    refine lv_aload_n hx hb dX8_push_22 rfl (lv_at hl 1 rfl) ?_
    refine va_get (D := D) (ci := 7) (v := .ref tba) (C := RX8) (T := TX8) (N := 2) hx hb hts (fun w h => tbC w (tbfX8 w h)) hown hK hP 0 rfl rfl 0 (by decide) (hts (.fieldLink RX8 9 "PowerRails$Tape" "bytes" "[I") (tbC _ wd81)) (fun _ h9 => h9) rfl dX8_push_23 ?_
    refine lv_aload_n hx hb dX8_push_26 rfl (lv_at hl 1 rfl) ?_
    refine va_get (D := D) (ci := 7) (v := .int v17) (C := RX8) (T := TX8) (N := 2) hx hb hts (fun w h => tbC w (tbfX8 w h)) hown hK hP 0 rfl rfl 1 (by decide) (hts (.fieldLink RX8 13 "PowerRails$Tape" "length" "I") (tbC _ wd83)) (fun _ h9 => h9) rfl dX8_push_27 ?_
    refine lv_lload_n hx hb dX8_push_30 rfl (lv_at hl 2 rfl) ?_
    refine lv_iload_n hx hb dX8_push_31 rfl (lv_at hl 0 rfl) ?_
    obtain ⟨v18, ev18⟩ : ∃ z : Int64, ((jv : Int64).toUInt64 >>> ((32 : Int32).toInt64.toUInt64 &&& Int64.toUInt64 63)).toInt64 = z := ⟨_, rfl⟩
    refine lv_lushr hx hb dX8_push_32 ev18 ?_
    obtain ⟨v19, ev19⟩ : ∃ z : Int32, (v18 : Int64).toInt32 = z := ⟨_, rfl⟩
    refine lv_l2i hx hb dX8_push_33 ev19 ?_
    refine lv_sipush (v := 255) hx hb dX8_push_34 (by decide) ?_
    refine lv_iand hx hb dX8_push_37 ?_
    refine lv_topi (fun v20 ev20 => ?_)
    have rv20 : 0 ≤ v20.toInt ∧ v20.toInt ≤ 255 := xandL ev20 (show (255 : Int32).toInt = 255 from (by decide)) (by omega)
    refine va_iast hx hb hK hP hD hS 1 0 rfl rfl (vp_in_iff.mpr (by rw [tv17]; omega)) dX8_push_38 (fun H locs hP hD hS => ?_)
    obtain ⟨f21, ef21⟩ : ∃ fz9 : Nat → Int32, fz9 = upd f16 (v17 : Int32).toNatClampNeg v20 := ⟨_, rfl⟩
    have hP : va_P D vwCl [oX8 tp tba v17, oAI tba cI 400 f21] H := by rw [ef21]; exact hP
    have hD : va_D A [oX8 tp tba v17, oAI tba cI 400 f21] := by rw [ef21]; exact hD
    refine lv_aload_n hx hb dX8_push_39 rfl (lv_at hl 1 rfl) ?_
    refine lv_dup hx hb dX8_push_40 rfl ?_
    refine va_get (D := D) (ci := 7) (v := .int v17) (C := RX8) (T := TX8) (N := 2) hx hb hts (fun w h => tbC w (tbfX8 w h)) hown hK hP 0 rfl rfl 1 (by decide) (hts (.fieldLink RX8 13 "PowerRails$Tape" "length" "I") (tbC _ wd83)) (fun _ h9 => h9) rfl dX8_push_41 ?_
    refine lv_iconst (v := 1) hx hb dX8_push_44 (by decide) ?_
    refine lv_iadd hx hb dX8_push_45 ?_
    refine lv_topi (fun v22 ev22 => ?_)
    have tv22 : v22.toInt = ((((tl.toInt + 1) + 1) + 1) + 1) := (congrArg Int32.toInt ev22).trans (xadd tv17 (by decide) (by omega) (by omega))
    refine va_put (D := D) (ci := 7) (v := .int v22) (ty := .int) (C := RX8) (T := TX8) (N := 2) hx hb hts (fun w h => tbC w (tbfX8 w h)) tyX8 tyX8_ok nmX8 hown hK hP hD hS 0 rfl rfl 1 (by decide) (hts (.fieldLink RX8 13 "PowerRails$Tape" "length" "I") (tbC _ wd83)) (fun _ h9 => h9) rfl (by decide +kernel) rfl rfl (Nat.le_of_ble_eq_true rfl) dX8_push_46 (fun H locs hP hD hS => ?_)
    obtain ⟨hP, hD⟩ : xPD D A [oX8 tp tba v22, oAI tba cI 400 f21] H := ⟨hP, hD⟩
    refine lv_iinc (v := 24) (lv' := [(3, .int 24), (0, .ref tp), (1, .long jv)]) hx hb dX8_push_49 hl (k := 0) rfl (by decide) (by decide) rfl (fun ls hl => ?_)
    refine lv_goto (tgt := 18) hx hb dX8_push_52 (by decide) ?_
    refine lv_iload_n hx hb dX8_push_18 rfl (lv_at hl 0 rfl) ?_
    refine lv_if_lt (tgt := 55) hx hb dX8_push_19 (by decide) (fun c9 => absurd c9 (by decide)) (fun _ => ?_)
    refine lv_aload_n hx hb dX8_push_22 rfl (lv_at hl 1 rfl) ?_
    refine va_get (D := D) (ci := 7) (v := .ref tba) (C := RX8) (T := TX8) (N := 2) hx hb hts (fun w h => tbC w (tbfX8 w h)) hown hK hP 0 rfl rfl 0 (by decide) (hts (.fieldLink RX8 9 "PowerRails$Tape" "bytes" "[I") (tbC _ wd81)) (fun _ h9 => h9) rfl dX8_push_23 ?_
    refine lv_aload_n hx hb dX8_push_26 rfl (lv_at hl 1 rfl) ?_
    refine va_get (D := D) (ci := 7) (v := .int v22) (C := RX8) (T := TX8) (N := 2) hx hb hts (fun w h => tbC w (tbfX8 w h)) hown hK hP 0 rfl rfl 1 (by decide) (hts (.fieldLink RX8 13 "PowerRails$Tape" "length" "I") (tbC _ wd83)) (fun _ h9 => h9) rfl dX8_push_27 ?_
    refine lv_lload_n hx hb dX8_push_30 rfl (lv_at hl 2 rfl) ?_
    refine lv_iload_n hx hb dX8_push_31 rfl (lv_at hl 0 rfl) ?_
    obtain ⟨v23, ev23⟩ : ∃ z : Int64, ((jv : Int64).toUInt64 >>> ((24 : Int32).toInt64.toUInt64 &&& Int64.toUInt64 63)).toInt64 = z := ⟨_, rfl⟩
    refine lv_lushr hx hb dX8_push_32 ev23 ?_
    obtain ⟨v24, ev24⟩ : ∃ z : Int32, (v23 : Int64).toInt32 = z := ⟨_, rfl⟩
    refine lv_l2i hx hb dX8_push_33 ev24 ?_
    refine lv_sipush (v := 255) hx hb dX8_push_34 (by decide) ?_
    refine lv_iand hx hb dX8_push_37 ?_
    refine lv_topi (fun v25 ev25 => ?_)
    have rv25 : 0 ≤ v25.toInt ∧ v25.toInt ≤ 255 := xandL ev25 (show (255 : Int32).toInt = 255 from (by decide)) (by omega)
    refine va_iast hx hb hK hP hD hS 1 0 rfl rfl (vp_in_iff.mpr (by rw [tv22]; omega)) dX8_push_38 (fun H locs hP hD hS => ?_)
    obtain ⟨f26, ef26⟩ : ∃ fz9 : Nat → Int32, fz9 = upd f21 (v22 : Int32).toNatClampNeg v25 := ⟨_, rfl⟩
    have hP : va_P D vwCl [oX8 tp tba v22, oAI tba cI 400 f26] H := by rw [ef26]; exact hP
    have hD : va_D A [oX8 tp tba v22, oAI tba cI 400 f26] := by rw [ef26]; exact hD
    refine lv_aload_n hx hb dX8_push_39 rfl (lv_at hl 1 rfl) ?_
    refine lv_dup hx hb dX8_push_40 rfl ?_
    refine va_get (D := D) (ci := 7) (v := .int v22) (C := RX8) (T := TX8) (N := 2) hx hb hts (fun w h => tbC w (tbfX8 w h)) hown hK hP 0 rfl rfl 1 (by decide) (hts (.fieldLink RX8 13 "PowerRails$Tape" "length" "I") (tbC _ wd83)) (fun _ h9 => h9) rfl dX8_push_41 ?_
    refine lv_iconst (v := 1) hx hb dX8_push_44 (by decide) ?_
    refine lv_iadd hx hb dX8_push_45 ?_
    refine lv_topi (fun v27 ev27 => ?_)
    have tv27 : v27.toInt = (((((tl.toInt + 1) + 1) + 1) + 1) + 1) := (congrArg Int32.toInt ev27).trans (xadd tv22 (by decide) (by omega) (by omega))
    refine va_put (D := D) (ci := 7) (v := .int v27) (ty := .int) (C := RX8) (T := TX8) (N := 2) hx hb hts (fun w h => tbC w (tbfX8 w h)) tyX8 tyX8_ok nmX8 hown hK hP hD hS 0 rfl rfl 1 (by decide) (hts (.fieldLink RX8 13 "PowerRails$Tape" "length" "I") (tbC _ wd83)) (fun _ h9 => h9) rfl (by decide +kernel) rfl rfl (Nat.le_of_ble_eq_true rfl) dX8_push_46 (fun H locs hP hD hS => ?_)
    obtain ⟨hP, hD⟩ : xPD D A [oX8 tp tba v27, oAI tba cI 400 f26] H := ⟨hP, hD⟩
    refine lv_iinc (v := 16) (lv' := [(3, .int 16), (0, .ref tp), (1, .long jv)]) hx hb dX8_push_49 hl (k := 0) rfl (by decide) (by decide) rfl (fun ls hl => ?_)
    refine lv_goto (tgt := 18) hx hb dX8_push_52 (by decide) ?_
    refine lv_iload_n hx hb dX8_push_18 rfl (lv_at hl 0 rfl) ?_
    refine lv_if_lt (tgt := 55) hx hb dX8_push_19 (by decide) (fun c9 => absurd c9 (by decide)) (fun _ => ?_)
    refine lv_aload_n hx hb dX8_push_22 rfl (lv_at hl 1 rfl) ?_
    refine va_get (D := D) (ci := 7) (v := .ref tba) (C := RX8) (T := TX8) (N := 2) hx hb hts (fun w h => tbC w (tbfX8 w h)) hown hK hP 0 rfl rfl 0 (by decide) (hts (.fieldLink RX8 9 "PowerRails$Tape" "bytes" "[I") (tbC _ wd81)) (fun _ h9 => h9) rfl dX8_push_23 ?_
    refine lv_aload_n hx hb dX8_push_26 rfl (lv_at hl 1 rfl) ?_
    refine va_get (D := D) (ci := 7) (v := .int v27) (C := RX8) (T := TX8) (N := 2) hx hb hts (fun w h => tbC w (tbfX8 w h)) hown hK hP 0 rfl rfl 1 (by decide) (hts (.fieldLink RX8 13 "PowerRails$Tape" "length" "I") (tbC _ wd83)) (fun _ h9 => h9) rfl dX8_push_27 ?_
    refine lv_lload_n hx hb dX8_push_30 rfl (lv_at hl 2 rfl) ?_
    refine lv_iload_n hx hb dX8_push_31 rfl (lv_at hl 0 rfl) ?_
    obtain ⟨v28, ev28⟩ : ∃ z : Int64, ((jv : Int64).toUInt64 >>> ((16 : Int32).toInt64.toUInt64 &&& Int64.toUInt64 63)).toInt64 = z := ⟨_, rfl⟩
    refine lv_lushr hx hb dX8_push_32 ev28 ?_
    obtain ⟨v29, ev29⟩ : ∃ z : Int32, (v28 : Int64).toInt32 = z := ⟨_, rfl⟩
    refine lv_l2i hx hb dX8_push_33 ev29 ?_
    refine lv_sipush (v := 255) hx hb dX8_push_34 (by decide) ?_
    refine lv_iand hx hb dX8_push_37 ?_
    refine lv_topi (fun v30 ev30 => ?_)
    have rv30 : 0 ≤ v30.toInt ∧ v30.toInt ≤ 255 := xandL ev30 (show (255 : Int32).toInt = 255 from (by decide)) (by omega)
    refine va_iast hx hb hK hP hD hS 1 0 rfl rfl (vp_in_iff.mpr (by rw [tv27]; omega)) dX8_push_38 (fun H locs hP hD hS => ?_)
    obtain ⟨f31, ef31⟩ : ∃ fz9 : Nat → Int32, fz9 = upd f26 (v27 : Int32).toNatClampNeg v30 := ⟨_, rfl⟩
    have hP : va_P D vwCl [oX8 tp tba v27, oAI tba cI 400 f31] H := by rw [ef31]; exact hP
    have hD : va_D A [oX8 tp tba v27, oAI tba cI 400 f31] := by rw [ef31]; exact hD
    refine lv_aload_n hx hb dX8_push_39 rfl (lv_at hl 1 rfl) ?_
    refine lv_dup hx hb dX8_push_40 rfl ?_
    refine va_get (D := D) (ci := 7) (v := .int v27) (C := RX8) (T := TX8) (N := 2) hx hb hts (fun w h => tbC w (tbfX8 w h)) hown hK hP 0 rfl rfl 1 (by decide) (hts (.fieldLink RX8 13 "PowerRails$Tape" "length" "I") (tbC _ wd83)) (fun _ h9 => h9) rfl dX8_push_41 ?_
    refine lv_iconst (v := 1) hx hb dX8_push_44 (by decide) ?_
    refine lv_iadd hx hb dX8_push_45 ?_
    refine lv_topi (fun v32 ev32 => ?_)
    have tv32 : v32.toInt = ((((((tl.toInt + 1) + 1) + 1) + 1) + 1) + 1) := (congrArg Int32.toInt ev32).trans (xadd tv27 (by decide) (by omega) (by omega))
    refine va_put (D := D) (ci := 7) (v := .int v32) (ty := .int) (C := RX8) (T := TX8) (N := 2) hx hb hts (fun w h => tbC w (tbfX8 w h)) tyX8 tyX8_ok nmX8 hown hK hP hD hS 0 rfl rfl 1 (by decide) (hts (.fieldLink RX8 13 "PowerRails$Tape" "length" "I") (tbC _ wd83)) (fun _ h9 => h9) rfl (by decide +kernel) rfl rfl (Nat.le_of_ble_eq_true rfl) dX8_push_46 (fun H locs hP hD hS => ?_)
    obtain ⟨hP, hD⟩ : xPD D A [oX8 tp tba v32, oAI tba cI 400 f31] H := ⟨hP, hD⟩
    refine lv_iinc (v := 8) (lv' := [(3, .int 8), (0, .ref tp), (1, .long jv)]) hx hb dX8_push_49 hl (k := 0) rfl (by decide) (by decide) rfl (fun ls hl => ?_)
    refine lv_goto (tgt := 18) hx hb dX8_push_52 (by decide) ?_
    refine lv_iload_n hx hb dX8_push_18 rfl (lv_at hl 0 rfl) ?_
    refine lv_if_lt (tgt := 55) hx hb dX8_push_19 (by decide) (fun c9 => absurd c9 (by decide)) (fun _ => ?_)
    refine lv_aload_n hx hb dX8_push_22 rfl (lv_at hl 1 rfl) ?_
    refine va_get (D := D) (ci := 7) (v := .ref tba) (C := RX8) (T := TX8) (N := 2) hx hb hts (fun w h => tbC w (tbfX8 w h)) hown hK hP 0 rfl rfl 0 (by decide) (hts (.fieldLink RX8 9 "PowerRails$Tape" "bytes" "[I") (tbC _ wd81)) (fun _ h9 => h9) rfl dX8_push_23 ?_
    refine lv_aload_n hx hb dX8_push_26 rfl (lv_at hl 1 rfl) ?_
    refine va_get (D := D) (ci := 7) (v := .int v32) (C := RX8) (T := TX8) (N := 2) hx hb hts (fun w h => tbC w (tbfX8 w h)) hown hK hP 0 rfl rfl 1 (by decide) (hts (.fieldLink RX8 13 "PowerRails$Tape" "length" "I") (tbC _ wd83)) (fun _ h9 => h9) rfl dX8_push_27 ?_
    refine lv_lload_n hx hb dX8_push_30 rfl (lv_at hl 2 rfl) ?_
    refine lv_iload_n hx hb dX8_push_31 rfl (lv_at hl 0 rfl) ?_
    obtain ⟨v33, ev33⟩ : ∃ z : Int64, ((jv : Int64).toUInt64 >>> ((8 : Int32).toInt64.toUInt64 &&& Int64.toUInt64 63)).toInt64 = z := ⟨_, rfl⟩
    refine lv_lushr hx hb dX8_push_32 ev33 ?_
    obtain ⟨v34, ev34⟩ : ∃ z : Int32, (v33 : Int64).toInt32 = z := ⟨_, rfl⟩
    refine lv_l2i hx hb dX8_push_33 ev34 ?_
    refine lv_sipush (v := 255) hx hb dX8_push_34 (by decide) ?_
    refine lv_iand hx hb dX8_push_37 ?_
    refine lv_topi (fun v35 ev35 => ?_)
    have rv35 : 0 ≤ v35.toInt ∧ v35.toInt ≤ 255 := xandL ev35 (show (255 : Int32).toInt = 255 from (by decide)) (by omega)
    refine va_iast hx hb hK hP hD hS 1 0 rfl rfl (vp_in_iff.mpr (by rw [tv32]; omega)) dX8_push_38 (fun H locs hP hD hS => ?_)
    obtain ⟨f36, ef36⟩ : ∃ fz9 : Nat → Int32, fz9 = upd f31 (v32 : Int32).toNatClampNeg v35 := ⟨_, rfl⟩
    have hP : va_P D vwCl [oX8 tp tba v32, oAI tba cI 400 f36] H := by rw [ef36]; exact hP
    have hD : va_D A [oX8 tp tba v32, oAI tba cI 400 f36] := by rw [ef36]; exact hD
    refine lv_aload_n hx hb dX8_push_39 rfl (lv_at hl 1 rfl) ?_
    refine lv_dup hx hb dX8_push_40 rfl ?_
    refine va_get (D := D) (ci := 7) (v := .int v32) (C := RX8) (T := TX8) (N := 2) hx hb hts (fun w h => tbC w (tbfX8 w h)) hown hK hP 0 rfl rfl 1 (by decide) (hts (.fieldLink RX8 13 "PowerRails$Tape" "length" "I") (tbC _ wd83)) (fun _ h9 => h9) rfl dX8_push_41 ?_
    refine lv_iconst (v := 1) hx hb dX8_push_44 (by decide) ?_
    refine lv_iadd hx hb dX8_push_45 ?_
    refine lv_topi (fun v37 ev37 => ?_)
    have tv37 : v37.toInt = (((((((tl.toInt + 1) + 1) + 1) + 1) + 1) + 1) + 1) := (congrArg Int32.toInt ev37).trans (xadd tv32 (by decide) (by omega) (by omega))
    refine va_put (D := D) (ci := 7) (v := .int v37) (ty := .int) (C := RX8) (T := TX8) (N := 2) hx hb hts (fun w h => tbC w (tbfX8 w h)) tyX8 tyX8_ok nmX8 hown hK hP hD hS 0 rfl rfl 1 (by decide) (hts (.fieldLink RX8 13 "PowerRails$Tape" "length" "I") (tbC _ wd83)) (fun _ h9 => h9) rfl (by decide +kernel) rfl rfl (Nat.le_of_ble_eq_true rfl) dX8_push_46 (fun H locs hP hD hS => ?_)
    obtain ⟨hP, hD⟩ : xPD D A [oX8 tp tba v37, oAI tba cI 400 f36] H := ⟨hP, hD⟩
    refine lv_iinc (v := 0) (lv' := [(3, .int 0), (0, .ref tp), (1, .long jv)]) hx hb dX8_push_49 hl (k := 0) rfl (by decide) (by decide) rfl (fun ls hl => ?_)
    refine lv_goto (tgt := 18) hx hb dX8_push_52 (by decide) ?_
    refine lv_iload_n hx hb dX8_push_18 rfl (lv_at hl 0 rfl) ?_
    refine lv_if_lt (tgt := 55) hx hb dX8_push_19 (by decide) (fun c9 => absurd c9 (by decide)) (fun _ => ?_)
    refine lv_aload_n hx hb dX8_push_22 rfl (lv_at hl 1 rfl) ?_
    refine va_get (D := D) (ci := 7) (v := .ref tba) (C := RX8) (T := TX8) (N := 2) hx hb hts (fun w h => tbC w (tbfX8 w h)) hown hK hP 0 rfl rfl 0 (by decide) (hts (.fieldLink RX8 9 "PowerRails$Tape" "bytes" "[I") (tbC _ wd81)) (fun _ h9 => h9) rfl dX8_push_23 ?_
    refine lv_aload_n hx hb dX8_push_26 rfl (lv_at hl 1 rfl) ?_
    refine va_get (D := D) (ci := 7) (v := .int v37) (C := RX8) (T := TX8) (N := 2) hx hb hts (fun w h => tbC w (tbfX8 w h)) hown hK hP 0 rfl rfl 1 (by decide) (hts (.fieldLink RX8 13 "PowerRails$Tape" "length" "I") (tbC _ wd83)) (fun _ h9 => h9) rfl dX8_push_27 ?_
    refine lv_lload_n hx hb dX8_push_30 rfl (lv_at hl 2 rfl) ?_
    refine lv_iload_n hx hb dX8_push_31 rfl (lv_at hl 0 rfl) ?_
    obtain ⟨v38, ev38⟩ : ∃ z : Int64, ((jv : Int64).toUInt64 >>> ((0 : Int32).toInt64.toUInt64 &&& Int64.toUInt64 63)).toInt64 = z := ⟨_, rfl⟩
    refine lv_lushr hx hb dX8_push_32 ev38 ?_
    obtain ⟨v39, ev39⟩ : ∃ z : Int32, (v38 : Int64).toInt32 = z := ⟨_, rfl⟩
    refine lv_l2i hx hb dX8_push_33 ev39 ?_
    refine lv_sipush (v := 255) hx hb dX8_push_34 (by decide) ?_
    refine lv_iand hx hb dX8_push_37 ?_
    refine lv_topi (fun v40 ev40 => ?_)
    have rv40 : 0 ≤ v40.toInt ∧ v40.toInt ≤ 255 := xandL ev40 (show (255 : Int32).toInt = 255 from (by decide)) (by omega)
    refine va_iast hx hb hK hP hD hS 1 0 rfl rfl (vp_in_iff.mpr (by rw [tv37]; omega)) dX8_push_38 (fun H locs hP hD hS => ?_)
    obtain ⟨f41, ef41⟩ : ∃ fz9 : Nat → Int32, fz9 = upd f36 (v37 : Int32).toNatClampNeg v40 := ⟨_, rfl⟩
    have hP : va_P D vwCl [oX8 tp tba v37, oAI tba cI 400 f41] H := by rw [ef41]; exact hP
    have hD : va_D A [oX8 tp tba v37, oAI tba cI 400 f41] := by rw [ef41]; exact hD
    refine lv_aload_n hx hb dX8_push_39 rfl (lv_at hl 1 rfl) ?_
    refine lv_dup hx hb dX8_push_40 rfl ?_
    refine va_get (D := D) (ci := 7) (v := .int v37) (C := RX8) (T := TX8) (N := 2) hx hb hts (fun w h => tbC w (tbfX8 w h)) hown hK hP 0 rfl rfl 1 (by decide) (hts (.fieldLink RX8 13 "PowerRails$Tape" "length" "I") (tbC _ wd83)) (fun _ h9 => h9) rfl dX8_push_41 ?_
    refine lv_iconst (v := 1) hx hb dX8_push_44 (by decide) ?_
    refine lv_iadd hx hb dX8_push_45 ?_
    refine lv_topi (fun v42 ev42 => ?_)
    have tv42 : v42.toInt = ((((((((tl.toInt + 1) + 1) + 1) + 1) + 1) + 1) + 1) + 1) := (congrArg Int32.toInt ev42).trans (xadd tv37 (by decide) (by omega) (by omega))
    refine va_put (D := D) (ci := 7) (v := .int v42) (ty := .int) (C := RX8) (T := TX8) (N := 2) hx hb hts (fun w h => tbC w (tbfX8 w h)) tyX8 tyX8_ok nmX8 hown hK hP hD hS 0 rfl rfl 1 (by decide) (hts (.fieldLink RX8 13 "PowerRails$Tape" "length" "I") (tbC _ wd83)) (fun _ h9 => h9) rfl (by decide +kernel) rfl rfl (Nat.le_of_ble_eq_true rfl) dX8_push_46 (fun H locs hP hD hS => ?_)
    obtain ⟨hP, hD⟩ : xPD D A [oX8 tp tba v42, oAI tba cI 400 f41] H := ⟨hP, hD⟩
    refine lv_iinc (v := (-8)) (lv' := [(3, .int (-8)), (0, .ref tp), (1, .long jv)]) hx hb dX8_push_49 hl (k := 0) rfl (by decide) (by decide) rfl (fun ls hl => ?_)
    refine lv_goto (tgt := 18) hx hb dX8_push_52 (by decide) ?_
    refine lv_iload_n hx hb dX8_push_18 rfl (lv_at hl 0 rfl) ?_
    refine lv_if_lt (tgt := 55) hx hb dX8_push_19 (by decide) (fun _ => ?_) (fun c9 => absurd c9 (by decide))
    refine lv_iconst (v := 1) hx hb dX8_push_55 (by decide) ?_
    refine W.widen (k := 0) (n := 0) (by decide) (by decide) ?_
    exact W.zret (v := 1) hx hb hr (by decide) (fun t ht hW => ⟨⟨1, 1, rfl, ⟨rfl, ⟨by decide, by decide⟩⟩, ⟨v42, f41, (xrng tv42 (by omega) (by omega)), (by have z9 : (1 : Int32).toInt = 1 := (by decide); have z8 : (0 : Int32).toInt = 0 := (by decide); omega), (by rw [ev42, ef41, ev40, ← ev39, ← ev38, ev37, ef36, ev35, ← ev34, ← ev33, ev32, ef31, ev30, ← ev29, ← ev28, ev27, ef26, ev25, ← ev24, ← ev23, ev22, ef21, ev20, ← ev19, ← ev18, ev17, ef16, ev15, ← ev14, ← ev13, ev12, ef11, ev10, ← ev9, ← ev8, ev7, ef6, ev5, ← ev4, ← ev3]; exact hM), xB_of9 ht hW hP hK hD [0, 1] (by decide +kernel) rfl⟩⟩, hS.F ht⟩) hS.2.2 dX8_push_56
  · skip
    have i_2 : ¬ ((tl.toInt + 8) ≤ 400) := fun h9 => c_2 ((ile tv1 (by decide)).mpr h9)
    have hM : M_push tl tb jv = (K_push_3 tl tb) := (show M_push tl tb jv = (if (tl.toInt + 8) ≤ 400 then (K_push_2 tl tb jv) else (K_push_3 tl tb)) from hM).trans (if_neg i_2)
    refine lv_iconst (v := 0) hx hb dX8_push_13 (by decide) ?_
    refine W.widen (k := 0) (n := 0) (by decide) (by decide) ?_
    exact W.zret (v := 0) hx hb hr (by decide) (fun t ht hW => ⟨⟨0, 0, rfl, ⟨rfl, ⟨by decide, by decide⟩⟩, ⟨tl, tb, (xrng rfl (by omega) (by omega)), (by have z9 : (1 : Int32).toInt = 1 := (by decide); have z8 : (0 : Int32).toInt = 0 := (by decide); omega), hM, xB_of9 ht hW hP hK hD [0, 1] (by decide +kernel) rfl⟩⟩, hS.F ht⟩) hS.2.2 dX8_push_14
def K_note_2 (ysz : Int32) (ya : Nat → Int32) (t0 : Int32) (yb : Nat → Int32) (r0 : Int32) (yc : Nat → Int32) (w0 : Int32) : (Int32) × (Nat → Int32) × (Nat → Int32) × (Nat → Int32) := ((ysz + (1 : Int32)), (upd ya (ysz : Int32).toNatClampNeg t0), (upd yb (ysz : Int32).toNatClampNeg r0), (upd yc (ysz : Int32).toNatClampNeg w0))
def K_note_3 (ysz : Int32) (ya : Nat → Int32) (yb : Nat → Int32) (yc : Nat → Int32) : (Int32) × (Nat → Int32) × (Nat → Int32) × (Nat → Int32) := (ysz, ya, yb, yc)
def K_note_1 (ysz : Int32) (ya : Nat → Int32) (t0 : Int32) (yb : Nat → Int32) (r0 : Int32) (yc : Nat → Int32) (w0 : Int32) : (Int32) × (Nat → Int32) × (Nat → Int32) × (Nat → Int32) := (if ysz.toInt < 64 then (K_note_2 ysz ya t0 yb r0 yc w0) else (K_note_3 ysz ya yb yc))
def M_note (ysz : Int32) (ya : Nat → Int32) (t0 : Int32) (yb : Nat → Int32) (r0 : Int32) (yc : Nat → Int32) (w0 : Int32) : (Int32) × (Nat → Int32) × (Nat → Int32) × (Nat → Int32) := (K_note_1 ysz ya t0 yb r0 yc w0)
abbrev W_note (cI cJ cZ cG cH : ClassId) (hy : Nat) (t0 : Int32) (r0 : Int32) (w0 : Int32) (yaa : Nat) (yba : Nat) (yca : Nat) (ysz : Int32) (ya : Nat → Int32) (yb : Nat → Int32) (yc : Nat → Int32) : va_W := [oX2 hy yaa yba yca ysz, oAI yaa cI 64 ya, oAI yba cI 64 yb, oAI yca cI 64 yc]
abbrev Q_note (D : va_G) (cI cJ cZ cG cH : ClassId) (hy : Nat) (t0 : Int32) (r0 : Int32) (w0 : Int32) (yaa : Nat) (yba : Nat) (yca : Nat) (ysz : Int32) (ya : Nat → Int32) (yb : Nat → Int32) (yc : Nat → Int32) (A : Nat → Prop) : Array Value → State → Outcome → State → Prop := va_Qv (fun (_ : Unit) => True) (fun _ t => ∃ (ysz9 : Int32) (ya9 : Nat → Int32) (yb9 : Nat → Int32) (yc9 : Nat → Int32), (0 ≤ ysz9.toInt ∧ ysz9.toInt ≤ 64) ∧ (M_note ysz ya t0 yb r0 yc w0 = (ysz9, ya9, yb9, yc9)) ∧ xB D (tyL cI cJ cZ cG cH) [oX2 hy yaa yba yca ysz9, oAI yaa cI 64 ya9, oAI yba cI 64 yb9, oAI yca cI 64 yc9] A t) A
abbrev rm_note : Room := { frames := 0, cells := 0, slots := 0, locals := 0 }
set_option maxRecDepth 100000 in
set_option maxHeartbeats 40000000 in
theorem c_note (l : Launch) (D : va_G) (cI cJ cZ cG cH : ClassId) (sz : Nat) (hy : Nat) (t0 : Int32) (r0 : Int32) (w0 : Int32) (yaa : Nat) (yba : Nat) (yca : Nat) (ysz : Int32) (ya : Nat → Int32) (yb : Nat → Int32) (yc : Nat → Int32) (h_ysz : 0 ≤ ysz.toInt ∧ ysz.toInt ≤ 64) : Met l yX2_note (wt yX2_note cX2_note 4 none) rm_note (xPc [.ref hy, .int t0, .int r0, .int w0] D (tyL cI cJ cZ cG cH) (W_note cI cJ cZ cG cH hy t0 r0 w0 yaa yba yca ysz ya yb yc) sz) (Q_note D cI cJ cZ cG cH hy t0 r0 w0 yaa yba yca ysz ya yb yc (va_A (W_note cI cJ cZ cG cH hy t0 r0 w0 yaa yba yca ysz ya yb yc) sz)) 0 0 (va_A (W_note cI cJ cZ cG cH hy t0 r0 w0 yaa yba yca ysz ya yb yc) sz) := by
  refine xMet (cc := cX2_note) (maxL := 4) (ret := none) (Qf := Q_note D cI cJ cZ cG cH hy t0 r0 w0 yaa yba yca ysz ya yb yc) (by decide) rfl (Nat.le_of_ble_eq_true rfl) ?_
  intro p e s m below meth c ls A hx hb hr hml hts hown hlocks hnm hsz hP hK hD hA hS hl
  have hown : s.vm.findClass RX2 = some m.cls := hown
  have hP : va_P D vwCl [oX2 hy yaa yba yca ysz, oAI yaa cI 64 ya, oAI yba cI 64 yb, oAI yca cI 64 yc] s.heap := hP
  have hD : va_D A [oX2 hy yaa yba yca ysz, oAI yaa cI 64 ya, oAI yba cI 64 yb, oAI yca cI 64 yc] := hD
  have hl : lv_has ls 4 [(0, .ref hy), (1, .int t0), (2, .int r0), (3, .int w0)] := hl
  have hM : M_note ysz ya t0 yb r0 yc w0 = (K_note_1 ysz ya t0 yb r0 yc w0) := rfl
  refine lv_aload_n hx hb dX2_note_0 rfl (lv_at hl 0 rfl) ?_
  refine va_get (D := D) (ci := 1) (v := .int ysz) (C := RX2) (T := TX2) (N := 4) hx hb hts (fun w h => tbC w (tbfX2 w h)) hown hK hP 0 rfl rfl 3 (by decide) (hts (.fieldLink RX2 19 "PowerRails$History" "size" "I") (tbC _ wd103)) (fun _ h9 => h9) rfl dX2_note_1 ?_
  refine lv_bipush (v := 64) hx hb dX2_note_4 (by decide) ?_
  refine lv_icmp_lt (tgt := 10) hx hb dX2_note_6 (by decide) (fun c_1 => ?_) (fun c_1 => ?_)
  · skip
    have i_1 : ysz.toInt < 64 := (ilt rfl (by decide)).mp c_1
    have hM : M_note ysz ya t0 yb r0 yc w0 = (K_note_2 ysz ya t0 yb r0 yc w0) := (show M_note ysz ya t0 yb r0 yc w0 = (if ysz.toInt < 64 then (K_note_2 ysz ya t0 yb r0 yc w0) else (K_note_3 ysz ya yb yc)) from hM).trans (if_pos i_1)
    refine lv_aload_n hx hb dX2_note_10 rfl (lv_at hl 0 rfl) ?_
    refine va_get (D := D) (ci := 1) (v := .ref yaa) (C := RX2) (T := TX2) (N := 4) hx hb hts (fun w h => tbC w (tbfX2 w h)) hown hK hP 0 rfl rfl 0 (by decide) (hts (.fieldLink RX2 9 "PowerRails$History" "ticks" "[I") (tbC _ wd97)) (fun _ h9 => h9) rfl dX2_note_11 ?_
    refine lv_aload_n hx hb dX2_note_14 rfl (lv_at hl 0 rfl) ?_
    refine va_get (D := D) (ci := 1) (v := .int ysz) (C := RX2) (T := TX2) (N := 4) hx hb hts (fun w h => tbC w (tbfX2 w h)) hown hK hP 0 rfl rfl 3 (by decide) (hts (.fieldLink RX2 19 "PowerRails$History" "size" "I") (tbC _ wd103)) (fun _ h9 => h9) rfl dX2_note_15 ?_
    refine lv_iload_n hx hb dX2_note_18 rfl (lv_at hl 1 rfl) ?_
    refine va_iast hx hb hK hP hD hS 1 0 rfl rfl (vp_in_iff.mpr ⟨by omega, by omega⟩) dX2_note_19 (fun H locs hP hD hS => ?_)
    obtain ⟨f2, ef2⟩ : ∃ fz9 : Nat → Int32, fz9 = upd ya (ysz : Int32).toNatClampNeg t0 := ⟨_, rfl⟩
    have hP : va_P D vwCl [oX2 hy yaa yba yca ysz, oAI yaa cI 64 f2, oAI yba cI 64 yb, oAI yca cI 64 yc] H := by rw [ef2]; exact hP
    have hD : va_D A [oX2 hy yaa yba yca ysz, oAI yaa cI 64 f2, oAI yba cI 64 yb, oAI yca cI 64 yc] := by rw [ef2]; exact hD
    refine lv_aload_n hx hb dX2_note_20 rfl (lv_at hl 0 rfl) ?_
    refine va_get (D := D) (ci := 1) (v := .ref yba) (C := RX2) (T := TX2) (N := 4) hx hb hts (fun w h => tbC w (tbfX2 w h)) hown hK hP 0 rfl rfl 1 (by decide) (hts (.fieldLink RX2 13 "PowerRails$History" "who" "[I") (tbC _ wd99)) (fun _ h9 => h9) rfl dX2_note_21 ?_
    refine lv_aload_n hx hb dX2_note_24 rfl (lv_at hl 0 rfl) ?_
    refine va_get (D := D) (ci := 1) (v := .int ysz) (C := RX2) (T := TX2) (N := 4) hx hb hts (fun w h => tbC w (tbfX2 w h)) hown hK hP 0 rfl rfl 3 (by decide) (hts (.fieldLink RX2 19 "PowerRails$History" "size" "I") (tbC _ wd103)) (fun _ h9 => h9) rfl dX2_note_25 ?_
    refine lv_iload_n hx hb dX2_note_28 rfl (lv_at hl 2 rfl) ?_
    refine va_iast hx hb hK hP hD hS 2 0 rfl rfl (vp_in_iff.mpr ⟨by omega, by omega⟩) dX2_note_29 (fun H locs hP hD hS => ?_)
    obtain ⟨f3, ef3⟩ : ∃ fz9 : Nat → Int32, fz9 = upd yb (ysz : Int32).toNatClampNeg r0 := ⟨_, rfl⟩
    have hP : va_P D vwCl [oX2 hy yaa yba yca ysz, oAI yaa cI 64 f2, oAI yba cI 64 f3, oAI yca cI 64 yc] H := by rw [ef3]; exact hP
    have hD : va_D A [oX2 hy yaa yba yca ysz, oAI yaa cI 64 f2, oAI yba cI 64 f3, oAI yca cI 64 yc] := by rw [ef3]; exact hD
    refine lv_aload_n hx hb dX2_note_30 rfl (lv_at hl 0 rfl) ?_
    refine va_get (D := D) (ci := 1) (v := .ref yca) (C := RX2) (T := TX2) (N := 4) hx hb hts (fun w h => tbC w (tbfX2 w h)) hown hK hP 0 rfl rfl 2 (by decide) (hts (.fieldLink RX2 16 "PowerRails$History" "became" "[I") (tbC _ wd101)) (fun _ h9 => h9) rfl dX2_note_31 ?_
    refine lv_aload_n hx hb dX2_note_34 rfl (lv_at hl 0 rfl) ?_
    refine va_get (D := D) (ci := 1) (v := .int ysz) (C := RX2) (T := TX2) (N := 4) hx hb hts (fun w h => tbC w (tbfX2 w h)) hown hK hP 0 rfl rfl 3 (by decide) (hts (.fieldLink RX2 19 "PowerRails$History" "size" "I") (tbC _ wd103)) (fun _ h9 => h9) rfl dX2_note_35 ?_
    refine lv_iload_n hx hb dX2_note_38 rfl (lv_at hl 3 rfl) ?_
    refine va_iast hx hb hK hP hD hS 3 0 rfl rfl (vp_in_iff.mpr ⟨by omega, by omega⟩) dX2_note_39 (fun H locs hP hD hS => ?_)
    obtain ⟨f4, ef4⟩ : ∃ fz9 : Nat → Int32, fz9 = upd yc (ysz : Int32).toNatClampNeg w0 := ⟨_, rfl⟩
    have hP : va_P D vwCl [oX2 hy yaa yba yca ysz, oAI yaa cI 64 f2, oAI yba cI 64 f3, oAI yca cI 64 f4] H := by rw [ef4]; exact hP
    have hD : va_D A [oX2 hy yaa yba yca ysz, oAI yaa cI 64 f2, oAI yba cI 64 f3, oAI yca cI 64 f4] := by rw [ef4]; exact hD
    refine lv_aload_n hx hb dX2_note_40 rfl (lv_at hl 0 rfl) ?_
    refine lv_dup hx hb dX2_note_41 rfl ?_
    refine va_get (D := D) (ci := 1) (v := .int ysz) (C := RX2) (T := TX2) (N := 4) hx hb hts (fun w h => tbC w (tbfX2 w h)) hown hK hP 0 rfl rfl 3 (by decide) (hts (.fieldLink RX2 19 "PowerRails$History" "size" "I") (tbC _ wd103)) (fun _ h9 => h9) rfl dX2_note_42 ?_
    refine lv_iconst (v := 1) hx hb dX2_note_45 (by decide) ?_
    refine lv_iadd hx hb dX2_note_46 ?_
    refine lv_topi (fun v5 ev5 => ?_)
    have tv5 : v5.toInt = (ysz.toInt + 1) := (congrArg Int32.toInt ev5).trans (xadd rfl (by decide) (by omega) (by omega))
    refine va_put (D := D) (ci := 1) (v := .int v5) (ty := .int) (C := RX2) (T := TX2) (N := 4) hx hb hts (fun w h => tbC w (tbfX2 w h)) tyX2 tyX2_ok nmX2 hown hK hP hD hS 0 rfl rfl 3 (by decide) (hts (.fieldLink RX2 19 "PowerRails$History" "size" "I") (tbC _ wd103)) (fun _ h9 => h9) rfl (by decide +kernel) rfl rfl (Nat.le_of_ble_eq_true rfl) dX2_note_47 (fun H locs hP hD hS => ?_)
    obtain ⟨hP, hD⟩ : xPD D A [oX2 hy yaa yba yca v5, oAI yaa cI 64 f2, oAI yba cI 64 f3, oAI yca cI 64 f4] H := ⟨hP, hD⟩
    refine W.widen (k := 0) (n := 0) (by decide) (by decide) ?_
    exact W.vret hx hb hr (fun t ht hW => ⟨⟨(), rfl, trivial, ⟨v5, f2, f3, f4, (xrng tv5 (by omega) (by omega)), (by rw [ev5, ef4, ef3, ef2]; exact hM), xB_of9 ht hW hP hK hD [0, 1, 2, 3] (by decide +kernel) rfl⟩⟩, hS.F ht⟩) hS.2.2 dX2_note_50
  · skip
    have i_1 : ¬ (ysz.toInt < 64) := fun h9 => c_1 ((ilt rfl (by decide)).mpr h9)
    have hM : M_note ysz ya t0 yb r0 yc w0 = (K_note_3 ysz ya yb yc) := (show M_note ysz ya t0 yb r0 yc w0 = (if ysz.toInt < 64 then (K_note_2 ysz ya t0 yb r0 yc w0) else (K_note_3 ysz ya yb yc)) from hM).trans (if_neg i_1)
    refine W.widen (k := 0) (n := 0) (by decide) (by decide) ?_
    exact W.vret hx hb hr (fun t ht hW => ⟨⟨(), rfl, trivial, ⟨ysz, ya, yb, yc, (xrng rfl (by omega) (by omega)), hM, xB_of9 ht hW hP hK hD [0, 1, 2, 3] (by decide +kernel) rfl⟩⟩, hS.F ht⟩) hS.2.2 dX2_note_9
abbrev W_hasPlace (cI cJ cZ cG cH : ClassId) (k0 : Int32) : va_W := []
abbrev Q_hasPlace (D : va_G) (cI cJ cZ cG cH : ClassId) (k0 : Int32) (A : Nat → Prop) : Array Value → State → Outcome → State → Prop := va_Qi (fun (r : Int32) (_ : Unit) => r = if 0 ≤ k0.toInt ∧ k0.toInt < 4 then 1 else 0) (fun _ t => xB D (tyL cI cJ cZ cG cH) [] A t) A
abbrev rm_hasPlace : Room := { frames := 0, cells := 0, slots := 0, locals := 0 }
set_option maxRecDepth 100000 in
set_option maxHeartbeats 40000000 in
theorem c_hasPlace (l : Launch) (D : va_G) (cI cJ cZ cG cH : ClassId) (sz : Nat) (k0 : Int32) : Met l yX6_hasPlace (wt yX6_hasPlace cX6_hasPlace 1 (some .boolean)) rm_hasPlace (xPc [.int k0] D (tyL cI cJ cZ cG cH) (W_hasPlace cI cJ cZ cG cH k0) sz) (Q_hasPlace D cI cJ cZ cG cH k0 (va_A (W_hasPlace cI cJ cZ cG cH k0) sz)) 0 0 (va_A (W_hasPlace cI cJ cZ cG cH k0) sz) := by
  refine xMet (cc := cX6_hasPlace) (maxL := 1) (ret := (some .boolean)) (Qf := Q_hasPlace D cI cJ cZ cG cH k0) (by decide) rfl (Nat.le_of_ble_eq_true rfl) ?_
  intro p e s m below meth c ls A hx hb hr hml hts hown hlocks hnm hsz hP hK hD hA hS hl
  have hown : s.vm.findClass RX6 = some m.cls := hown
  have hP : va_P D vwCl [] s.heap := hP
  have hD : va_D A [] := hD
  have hl : lv_has ls 1 [(0, .int k0)] := hl
  refine lv_iload_n hx hb dX6_hasPlace_0 rfl (lv_at hl 0 rfl) ?_
  refine lv_if_lt (tgt := 13) hx hb dX6_hasPlace_1 (by decide) (fun c_1 => ?_) (fun c_1 => ?_)
  · skip
    have i_1 : k0.toInt < 0 := (ilt rfl (by decide)).mp c_1
    refine lv_iconst (v := 0) hx hb dX6_hasPlace_13 (by decide) ?_
    refine W.widen (k := 0) (n := 0) (by decide) (by decide) ?_
    exact W.zret (v := 0) hx hb hr (by decide) (fun t ht hW => ⟨⟨0, (), rfl, (if_neg (by omega)).symm, xB_of9 ht hW hP hK hD [] (by decide +kernel) rfl⟩, hS.F ht⟩) hS.2.2 dX6_hasPlace_14
  · skip
    have i_1 : ¬ (k0.toInt < 0) := fun h9 => c_1 ((ilt rfl (by decide)).mpr h9)
    refine lv_iload_n hx hb dX6_hasPlace_4 rfl (lv_at hl 0 rfl) ?_
    refine lv_iconst (v := 4) hx hb dX6_hasPlace_5 (by decide) ?_
    refine lv_icmp_ge (tgt := 13) hx hb dX6_hasPlace_6 (by decide) (fun c_2 => ?_) (fun c_2 => ?_)
    · skip
      have i_2 : 4 ≤ k0.toInt := (ile (by decide) rfl).mp c_2
      refine lv_iconst (v := 0) hx hb dX6_hasPlace_13 (by decide) ?_
      refine W.widen (k := 0) (n := 0) (by decide) (by decide) ?_
      exact W.zret (v := 0) hx hb hr (by decide) (fun t ht hW => ⟨⟨0, (), rfl, (if_neg (by omega)).symm, xB_of9 ht hW hP hK hD [] (by decide +kernel) rfl⟩, hS.F ht⟩) hS.2.2 dX6_hasPlace_14
    · skip
      have i_2 : ¬ (4 ≤ k0.toInt) := fun h9 => c_2 ((ile (by decide) rfl).mpr h9)
      refine lv_iconst (v := 1) hx hb dX6_hasPlace_9 (by decide) ?_
      refine lv_goto (tgt := 14) hx hb dX6_hasPlace_10 (by decide) ?_
      refine W.widen (k := 0) (n := 0) (by decide) (by decide) ?_
      exact W.zret (v := 1) hx hb hr (by decide) (fun t ht hW => ⟨⟨1, (), rfl, (if_pos (by omega)).symm, xB_of9 ht hW hP hK hD [] (by decide +kernel) rfl⟩, hS.F ht⟩) hS.2.2 dX6_hasPlace_14
abbrev W_isLane (cI cJ cZ cG cH : ClassId) (k0 : Int32) : va_W := []
abbrev Q_isLane (D : va_G) (cI cJ cZ cG cH : ClassId) (k0 : Int32) (A : Nat → Prop) : Array Value → State → Outcome → State → Prop := va_Qi (fun (r : Int32) (_ : Unit) => r = if 0 ≤ k0.toInt ∧ k0.toInt ≤ 2 then 1 else 0) (fun _ t => xB D (tyL cI cJ cZ cG cH) [] A t) A
abbrev rm_isLane : Room := { frames := 0, cells := 0, slots := 0, locals := 0 }
set_option maxRecDepth 100000 in
set_option maxHeartbeats 40000000 in
theorem c_isLane (l : Launch) (D : va_G) (cI cJ cZ cG cH : ClassId) (sz : Nat) (k0 : Int32) : Met l yX6_isLane (wt yX6_isLane cX6_isLane 1 (some .boolean)) rm_isLane (xPc [.int k0] D (tyL cI cJ cZ cG cH) (W_isLane cI cJ cZ cG cH k0) sz) (Q_isLane D cI cJ cZ cG cH k0 (va_A (W_isLane cI cJ cZ cG cH k0) sz)) 0 0 (va_A (W_isLane cI cJ cZ cG cH k0) sz) := by
  refine xMet (cc := cX6_isLane) (maxL := 1) (ret := (some .boolean)) (Qf := Q_isLane D cI cJ cZ cG cH k0) (by decide) rfl (Nat.le_of_ble_eq_true rfl) ?_
  intro p e s m below meth c ls A hx hb hr hml hts hown hlocks hnm hsz hP hK hD hA hS hl
  have hown : s.vm.findClass RX6 = some m.cls := hown
  have hP : va_P D vwCl [] s.heap := hP
  have hD : va_D A [] := hD
  have hl : lv_has ls 1 [(0, .int k0)] := hl
  refine lv_iload_n hx hb dX6_isLane_0 rfl (lv_at hl 0 rfl) ?_
  refine lv_if_lt (tgt := 13) hx hb dX6_isLane_1 (by decide) (fun c_1 => ?_) (fun c_1 => ?_)
  · skip
    have i_1 : k0.toInt < 0 := (ilt rfl (by decide)).mp c_1
    refine lv_iconst (v := 0) hx hb dX6_isLane_13 (by decide) ?_
    refine W.widen (k := 0) (n := 0) (by decide) (by decide) ?_
    exact W.zret (v := 0) hx hb hr (by decide) (fun t ht hW => ⟨⟨0, (), rfl, (if_neg (by omega)).symm, xB_of9 ht hW hP hK hD [] (by decide +kernel) rfl⟩, hS.F ht⟩) hS.2.2 dX6_isLane_14
  · skip
    have i_1 : ¬ (k0.toInt < 0) := fun h9 => c_1 ((ilt rfl (by decide)).mpr h9)
    refine lv_iload_n hx hb dX6_isLane_4 rfl (lv_at hl 0 rfl) ?_
    refine lv_iconst (v := 2) hx hb dX6_isLane_5 (by decide) ?_
    refine lv_icmp_gt (tgt := 13) hx hb dX6_isLane_6 (by decide) (fun c_2 => ?_) (fun c_2 => ?_)
    · skip
      have i_2 : 2 < k0.toInt := (ilt (by decide) rfl).mp c_2
      refine lv_iconst (v := 0) hx hb dX6_isLane_13 (by decide) ?_
      refine W.widen (k := 0) (n := 0) (by decide) (by decide) ?_
      exact W.zret (v := 0) hx hb hr (by decide) (fun t ht hW => ⟨⟨0, (), rfl, (if_neg (by omega)).symm, xB_of9 ht hW hP hK hD [] (by decide +kernel) rfl⟩, hS.F ht⟩) hS.2.2 dX6_isLane_14
    · skip
      have i_2 : ¬ (2 < k0.toInt) := fun h9 => c_2 ((ilt (by decide) rfl).mpr h9)
      refine lv_iconst (v := 1) hx hb dX6_isLane_9 (by decide) ?_
      refine lv_goto (tgt := 14) hx hb dX6_isLane_10 (by decide) ?_
      refine W.widen (k := 0) (n := 0) (by decide) (by decide) ?_
      exact W.zret (v := 1) hx hb hr (by decide) (fun t ht hW => ⟨⟨1, (), rfl, (if_pos (by omega)).symm, xB_of9 ht hW hP hK hD [] (by decide +kernel) rfl⟩, hS.F ht⟩) hS.2.2 dX6_isLane_14
def K_renew_4 (g_5 : Nat → Int32) (sc1 : Nat → Int32) (sc2 : Nat → Int32) (sc3 : Nat → Int32) (f1 : Nat → Int32) (f2 : Nat → Int32) : (Nat → Int32) × (Nat → Int32) × (Nat → Int32) × (Nat → Int32) × (Nat → Int32) × (Nat → Int32) := (g_5, sc1, sc2, sc3, f1, f2)
def K_renew_2 (sc1 : Nat → Int32) (sc2 : Nat → Int32) (sc3 : Nat → Int32) (f1 : Nat → Int32) (f2 : Nat → Int32) (sc0 : Nat → Int32) : (Nat → Int32) × (Nat → Int32) × (Nat → Int32) × (Nat → Int32) × (Nat → Int32) × (Nat → Int32) := ((fun t9 => (K_renew_4 t9 sc1 sc2 sc3 f1 f2)) (M_fillI 40 (0 : Int32) sc0))
def K_renew_7 (sc0 : Nat → Int32) (g_8 : Nat → Int32) (sc2 : Nat → Int32) (sc3 : Nat → Int32) (f1 : Nat → Int32) (f2 : Nat → Int32) : (Nat → Int32) × (Nat → Int32) × (Nat → Int32) × (Nat → Int32) × (Nat → Int32) × (Nat → Int32) := (sc0, g_8, sc2, sc3, f1, f2)
def K_renew_5 (sc0 : Nat → Int32) (sc2 : Nat → Int32) (sc3 : Nat → Int32) (f1 : Nat → Int32) (f2 : Nat → Int32) (sc1 : Nat → Int32) : (Nat → Int32) × (Nat → Int32) × (Nat → Int32) × (Nat → Int32) × (Nat → Int32) × (Nat → Int32) := ((fun t9 => (K_renew_7 sc0 t9 sc2 sc3 f1 f2)) (M_fillI 40 (0 : Int32) sc1))
def K_renew_10 (sc0 : Nat → Int32) (sc1 : Nat → Int32) (g_11 : Nat → Int32) (sc3 : Nat → Int32) (f1 : Nat → Int32) (f2 : Nat → Int32) : (Nat → Int32) × (Nat → Int32) × (Nat → Int32) × (Nat → Int32) × (Nat → Int32) × (Nat → Int32) := (sc0, sc1, g_11, sc3, f1, f2)
def K_renew_8 (sc0 : Nat → Int32) (sc1 : Nat → Int32) (sc3 : Nat → Int32) (f1 : Nat → Int32) (f2 : Nat → Int32) (sc2 : Nat → Int32) : (Nat → Int32) × (Nat → Int32) × (Nat → Int32) × (Nat → Int32) × (Nat → Int32) × (Nat → Int32) := ((fun t9 => (K_renew_10 sc0 sc1 t9 sc3 f1 f2)) (M_fillI 40 (0 : Int32) sc2))
def K_renew_11 (sc0 : Nat → Int32) (sc1 : Nat → Int32) (sc2 : Nat → Int32) (g_14 : Nat → Int32) (f1 : Nat → Int32) (f2 : Nat → Int32) : (Nat → Int32) × (Nat → Int32) × (Nat → Int32) × (Nat → Int32) × (Nat → Int32) × (Nat → Int32) := (sc0, sc1, sc2, g_14, f1, f2)
def K_renew_9 (sc0 : Nat → Int32) (sc1 : Nat → Int32) (sc2 : Nat → Int32) (f1 : Nat → Int32) (f2 : Nat → Int32) (sc3 : Nat → Int32) : (Nat → Int32) × (Nat → Int32) × (Nat → Int32) × (Nat → Int32) × (Nat → Int32) × (Nat → Int32) := ((fun t9 => (K_renew_11 sc0 sc1 sc2 t9 f1 f2)) (M_fillI 40 (0 : Int32) sc3))
def K_renew_6 (k0 : Int32) (sc0 : Nat → Int32) (sc1 : Nat → Int32) (sc3 : Nat → Int32) (f1 : Nat → Int32) (f2 : Nat → Int32) (sc2 : Nat → Int32) : (Nat → Int32) × (Nat → Int32) × (Nat → Int32) × (Nat → Int32) × (Nat → Int32) × (Nat → Int32) := (if k0.toInt = 2 then (K_renew_8 sc0 sc1 sc3 f1 f2 sc2) else (K_renew_9 sc0 sc1 sc2 f1 f2 sc3))
def K_renew_3 (k0 : Int32) (sc0 : Nat → Int32) (sc2 : Nat → Int32) (sc3 : Nat → Int32) (f1 : Nat → Int32) (f2 : Nat → Int32) (sc1 : Nat → Int32) : (Nat → Int32) × (Nat → Int32) × (Nat → Int32) × (Nat → Int32) × (Nat → Int32) × (Nat → Int32) := (if k0.toInt = 1 then (K_renew_5 sc0 sc2 sc3 f1 f2 sc1) else (K_renew_6 k0 sc0 sc1 sc3 f1 f2 sc2))
def K_renew_1 (k0 : Int32) (sc1 : Nat → Int32) (sc2 : Nat → Int32) (sc3 : Nat → Int32) (sl : Nat → Int32) (l0 : Int32) (szs : Nat → Int32) (n0 : Int32) (sc0 : Nat → Int32) : (Nat → Int32) × (Nat → Int32) × (Nat → Int32) × (Nat → Int32) × (Nat → Int32) × (Nat → Int32) := (if k0.toInt = 0 then (K_renew_2 sc1 sc2 sc3 (upd sl (k0 : Int32).toNatClampNeg l0) (upd szs (k0 : Int32).toNatClampNeg n0) sc0) else (K_renew_3 k0 sc0 sc2 sc3 (upd sl (k0 : Int32).toNatClampNeg l0) (upd szs (k0 : Int32).toNatClampNeg n0) sc1))
def M_renew (k0 : Int32) (sc1 : Nat → Int32) (sc2 : Nat → Int32) (sc3 : Nat → Int32) (sl : Nat → Int32) (l0 : Int32) (szs : Nat → Int32) (n0 : Int32) (sc0 : Nat → Int32) : (Nat → Int32) × (Nat → Int32) × (Nat → Int32) × (Nat → Int32) × (Nat → Int32) × (Nat → Int32) := (K_renew_1 k0 sc1 sc2 sc3 sl l0 szs n0 sc0)
abbrev W_renew (cI cJ cZ cG cH : ClassId) (sh : Nat) (k0 : Int32) (l0 : Int32) (n0 : Int32) (sca : Nat) (sla : Nat) (ssa : Nat) (rr : Nat → Nat) (sc0 : Nat → Int32) (sc1 : Nat → Int32) (sc2 : Nat → Int32) (sc3 : Nat → Int32) (sl : Nat → Int32) (szs : Nat → Int32) : va_W := [oX6 sh sca sla ssa, oAM sca cG 4 rr, oAI (rr 0) cI 40 sc0, oAI (rr 1) cI 40 sc1, oAI (rr 2) cI 40 sc2, oAI (rr 3) cI 40 sc3, oAI sla cI 4 sl, oAI ssa cI 4 szs]
abbrev Q_renew (D : va_G) (cI cJ cZ cG cH : ClassId) (sh : Nat) (k0 : Int32) (l0 : Int32) (n0 : Int32) (sca : Nat) (sla : Nat) (ssa : Nat) (rr : Nat → Nat) (sc0 : Nat → Int32) (sc1 : Nat → Int32) (sc2 : Nat → Int32) (sc3 : Nat → Int32) (sl : Nat → Int32) (szs : Nat → Int32) (A : Nat → Prop) : Array Value → State → Outcome → State → Prop := va_Qv (fun (_ : Unit) => True) (fun _ t => ∃ (sc09 : Nat → Int32) (sc19 : Nat → Int32) (sc29 : Nat → Int32) (sc39 : Nat → Int32) (sl9 : Nat → Int32) (szs9 : Nat → Int32), (∀ j, j < 4 → (-4) ≤ (szs9 j).toInt ∧ (szs9 j).toInt ≤ 40) ∧ (szs9 = upd szs k0.toNatClampNeg n0) ∧ (M_renew k0 sc1 sc2 sc3 sl l0 szs n0 sc0 = (sc09, sc19, sc29, sc39, sl9, szs9)) ∧ xB D (tyL cI cJ cZ cG cH) [oX6 sh sca sla ssa, oAM sca cG 4 rr, oAI (rr 0) cI 40 sc09, oAI (rr 1) cI 40 sc19, oAI (rr 2) cI 40 sc29, oAI (rr 3) cI 40 sc39, oAI sla cI 4 sl9, oAI ssa cI 4 szs9] A t) A
abbrev rm_renew : Room := { frames := 1, cells := 0, slots := 0, locals := 23 }
set_option maxRecDepth 100000 in
set_option maxHeartbeats 40000000 in
theorem c_renew (l : Launch) (D : va_G) (cI cJ cZ cG cH : ClassId) (sz : Nat) (sh : Nat) (k0 : Int32) (l0 : Int32) (n0 : Int32) (sca : Nat) (sla : Nat) (ssa : Nat) (rr : Nat → Nat) (sc0 : Nat → Int32) (sc1 : Nat → Int32) (sc2 : Nat → Int32) (sc3 : Nat → Int32) (sl : Nat → Int32) (szs : Nat → Int32) (h_k0 : 0 ≤ k0.toInt ∧ k0.toInt ≤ 3) (h_l0 : 0 ≤ l0.toInt ∧ l0.toInt ≤ 2) (h_n0 : 0 ≤ n0.toInt ∧ n0.toInt ≤ 40) (h_szs : ∀ j, j < 4 → (-4) ≤ (szs j).toInt ∧ (szs j).toInt ≤ 40) : Met l yX6_renew (wt yX6_renew cX6_renew 4 none) rm_renew (xPc [.ref sh, .int k0, .int l0, .int n0] D (tyL cI cJ cZ cG cH) (W_renew cI cJ cZ cG cH sh k0 l0 n0 sca sla ssa rr sc0 sc1 sc2 sc3 sl szs) sz) (Q_renew D cI cJ cZ cG cH sh k0 l0 n0 sca sla ssa rr sc0 sc1 sc2 sc3 sl szs (va_A (W_renew cI cJ cZ cG cH sh k0 l0 n0 sca sla ssa rr sc0 sc1 sc2 sc3 sl szs) sz)) 0 0 (va_A (W_renew cI cJ cZ cG cH sh k0 l0 n0 sca sla ssa rr sc0 sc1 sc2 sc3 sl szs) sz) := by
  refine xMet (cc := cX6_renew) (maxL := 4) (ret := none) (Qf := Q_renew D cI cJ cZ cG cH sh k0 l0 n0 sca sla ssa rr sc0 sc1 sc2 sc3 sl szs) (by decide) rfl (Nat.le_of_ble_eq_true rfl) ?_
  intro p e s m below meth c ls A hx hb hr hml hts hown hlocks hnm hsz hP hK hD hA hS hl
  have hown : s.vm.findClass RX6 = some m.cls := hown
  have hP : va_P D vwCl [oX6 sh sca sla ssa, oAM sca cG 4 rr, oAI (rr 0) cI 40 sc0, oAI (rr 1) cI 40 sc1, oAI (rr 2) cI 40 sc2, oAI (rr 3) cI 40 sc3, oAI sla cI 4 sl, oAI ssa cI 4 szs] s.heap := hP
  have hD : va_D A [oX6 sh sca sla ssa, oAM sca cG 4 rr, oAI (rr 0) cI 40 sc0, oAI (rr 1) cI 40 sc1, oAI (rr 2) cI 40 sc2, oAI (rr 3) cI 40 sc3, oAI sla cI 4 sl, oAI ssa cI 4 szs] := hD
  have hl : lv_has ls 4 [(0, .ref sh), (1, .int k0), (2, .int l0), (3, .int n0)] := hl
  have hM : M_renew k0 sc1 sc2 sc3 sl l0 szs n0 sc0 = (K_renew_1 k0 sc1 sc2 sc3 sl l0 szs n0 sc0) := rfl
  refine lv_aload_n hx hb dX6_renew_0 rfl (lv_at hl 0 rfl) ?_
  refine va_get (D := D) (ci := 5) (v := .ref sla) (C := RX6) (T := TX6) (N := 3) hx hb hts (fun w h => tbC w (tbfX6 w h)) hown hK hP 0 rfl rfl 1 (by decide) (hts (.fieldLink RX6 16 "PowerRails$Sheets" "lanes" "[I") (tbC _ wd193)) (fun _ h9 => h9) rfl dX6_renew_1 ?_
  refine lv_iload_n hx hb dX6_renew_4 rfl (lv_at hl 1 rfl) ?_
  refine lv_iload_n hx hb dX6_renew_5 rfl (lv_at hl 2 rfl) ?_
  refine va_iast hx hb hK hP hD hS 6 0 rfl rfl (vp_in_iff.mpr ⟨by omega, by omega⟩) dX6_renew_6 (fun H locs hP hD hS => ?_)
  obtain ⟨f1, ef1⟩ : ∃ fz9 : Nat → Int32, fz9 = upd sl (k0 : Int32).toNatClampNeg l0 := ⟨_, rfl⟩
  have hP : va_P D vwCl [oX6 sh sca sla ssa, oAM sca cG 4 rr, oAI (rr 0) cI 40 sc0, oAI (rr 1) cI 40 sc1, oAI (rr 2) cI 40 sc2, oAI (rr 3) cI 40 sc3, oAI sla cI 4 f1, oAI ssa cI 4 szs] H := by rw [ef1]; exact hP
  have hD : va_D A [oX6 sh sca sla ssa, oAM sca cG 4 rr, oAI (rr 0) cI 40 sc0, oAI (rr 1) cI 40 sc1, oAI (rr 2) cI 40 sc2, oAI (rr 3) cI 40 sc3, oAI sla cI 4 f1, oAI ssa cI 4 szs] := by rw [ef1]; exact hD
  refine lv_aload_n hx hb dX6_renew_7 rfl (lv_at hl 0 rfl) ?_
  refine va_get (D := D) (ci := 5) (v := .ref ssa) (C := RX6) (T := TX6) (N := 3) hx hb hts (fun w h => tbC w (tbfX6 w h)) hown hK hP 0 rfl rfl 2 (by decide) (hts (.fieldLink RX6 20 "PowerRails$Sheets" "sizes" "[I") (tbC _ wd195)) (fun _ h9 => h9) rfl dX6_renew_8 ?_
  refine lv_iload_n hx hb dX6_renew_11 rfl (lv_at hl 1 rfl) ?_
  refine lv_iload_n hx hb dX6_renew_12 rfl (lv_at hl 3 rfl) ?_
  refine va_iast hx hb hK hP hD hS 7 0 rfl rfl (vp_in_iff.mpr ⟨by omega, by omega⟩) dX6_renew_13 (fun H locs hP hD hS => ?_)
  obtain ⟨f2, ef2⟩ : ∃ fz9 : Nat → Int32, fz9 = upd szs (k0 : Int32).toNatClampNeg n0 := ⟨_, rfl⟩
  have hP : va_P D vwCl [oX6 sh sca sla ssa, oAM sca cG 4 rr, oAI (rr 0) cI 40 sc0, oAI (rr 1) cI 40 sc1, oAI (rr 2) cI 40 sc2, oAI (rr 3) cI 40 sc3, oAI sla cI 4 f1, oAI ssa cI 4 f2] H := by rw [ef2]; exact hP
  have hD : va_D A [oX6 sh sca sla ssa, oAM sca cG 4 rr, oAI (rr 0) cI 40 sc0, oAI (rr 1) cI 40 sc1, oAI (rr 2) cI 40 sc2, oAI (rr 3) cI 40 sc3, oAI sla cI 4 f1, oAI ssa cI 4 f2] := by rw [ef2]; exact hD
  have rf2 : ∀ j, j < 4 → (-4) ≤ (f2 j).toInt ∧ (f2 j).toInt ≤ 40 := by rw [ef2]; exact xup_rng (xwk_rng h_szs (by decide) (by decide)) (xrng rfl (by omega) (by omega))
  refine lv_aload_n hx hb dX6_renew_14 rfl (lv_at hl 0 rfl) ?_
  refine va_get (D := D) (ci := 5) (v := .ref sca) (C := RX6) (T := TX6) (N := 3) hx hb hts (fun w h => tbC w (tbfX6 w h)) hown hK hP 0 rfl rfl 0 (by decide) (hts (.fieldLink RX6 13 "PowerRails$Sheets" "cells" "[[I") (tbC _ wd191)) (fun _ h9 => h9) rfl dX6_renew_15 ?_
  refine lv_iload_n hx hb dX6_renew_18 rfl (lv_at hl 1 rfl) ?_
  by_cases h3 : k0.toInt = 0
  · skip
    have hM : M_renew k0 sc1 sc2 sc3 sl l0 szs n0 sc0 = (K_renew_2 sc1 sc2 sc3 f1 f2 sc0) := (show M_renew k0 sc1 sc2 sc3 sl l0 szs n0 sc0 = (if k0.toInt = 0 then (K_renew_2 sc1 sc2 sc3 f1 f2 sc0) else (K_renew_3 k0 sc0 sc2 sc3 f1 f2 sc1)) from (by rw [ef2, ef1]; exact hM)).trans (if_pos h3)
    refine xaldA hx hb hK hP 1 3 rfl rfl (vp_in_iff.mpr ⟨by omega, by omega⟩) dX6_renew_19 (v := .ref (rr 0)) (by rw [xclamp (j := 0) (rfl.trans h3)]; rfl) ?_
    refine lv_iconst (v := 0) hx hb dX6_renew_20 (by decide) ?_
    obtain ⟨hPc, hDc, hFc, hC9⟩ := xpk (wc := W_fillI cI cJ cZ cG cH (rr 0) (0 : Int32) 40 sc0) hP hD hS hA [2] (by decide +kernel) rfl
    refine va_callv (va_runS (As := [.ref (rr 0), .int 0]) (rest := []) ⟨hx, hb, hml, hown, hts⟩ (c_fillI l D cI cJ cZ cG cH H.size (rr 0) (0 : Int32) 40 sc0 (by decide)) (va_cwS 2 hts (xGS tbC wd189 wd190 wd58 wd957) rfl rfl rfl (by decide +kernel) ⟨Nat.le_of_ble_eq_true rfl, Nat.le_of_ble_eq_true rfl⟩) ⟨xPc_blind, xPc_pre hPc hK hDc⟩ rfl rfl hl.1 rfl (lv_room (Nat.le_of_ble_eq_true rfl)) dX6_renew_21 ⟨Nat.le_of_ble_eq_true rfl, Nat.le_of_ble_eq_true rfl⟩) hS (fun q _ h => hFc q h) hFc (fun u t H1 locs ht hvm hw4 hB hz1 hk1 hS => ?_)
    obtain ⟨g_5, hf5_0, hf5_1, hP1, hK1, hD1⟩ := hB
    rw [ht] at hP1
    obtain ⟨hP, hD⟩ : xPD D A [oX6 sh sca sla ssa, oAM sca cG 4 rr, oAI (rr 1) cI 40 sc1, oAI (rr 2) cI 40 sc2, oAI (rr 3) cI 40 sc3, oAI sla cI 4 f1, oAI ssa cI 4 f2, oAI (rr 0) cI 40 g_5] H1 := xjn 7 hP hD [2] [0, 1, 3, 4, 5, 6, 7] hC9 rfl (by decide +kernel) (by decide +kernel) hk1 hFc hP1 hD1
    generalize H1 = H at hP hS ⊢
    have hf5_0 : ∀ j, j < 40 → g_5 j = (0 : Int32) := hf5_0
    have hf5_1 : M_fillI 40 (0 : Int32) sc0 = g_5 := hf5_1
    have rg_5 : ∀ j, j < 40 → 0 ≤ (g_5 j).toInt ∧ (g_5 j).toInt ≤ 0 := xeq_rng hf5_0 ⟨by decide, by decide⟩
    have h9M := congrArg (fun t9 => (K_renew_4 t9 sc1 sc2 sc3 f1 f2)) hf5_1
    have hM : M_renew k0 sc1 sc2 sc3 sl l0 szs n0 sc0 = (K_renew_4 g_5 sc1 sc2 sc3 f1 f2) := (show M_renew k0 sc1 sc2 sc3 sl l0 szs n0 sc0 = ((fun t9 => (K_renew_4 t9 sc1 sc2 sc3 f1 f2)) (M_fillI 40 (0 : Int32) sc0)) from hM).trans h9M
    refine W.widen (k := 0) (n := 0) (by decide) (by decide) ?_
    exact W.vret hx hb hr (fun t ht hW => ⟨⟨(), rfl, trivial, ⟨g_5, sc1, sc2, sc3, f1, f2, (xwk_rng rf2 (by decide) (by decide)), ef2, hM, xB_of9 ht hW hP hK hD [0, 1, 7, 2, 3, 4, 5, 6] (by decide +kernel) rfl⟩⟩, hS.F ht⟩) hS.2.2 dX6_renew_24
  have hM : M_renew k0 sc1 sc2 sc3 sl l0 szs n0 sc0 = (K_renew_3 k0 sc0 sc2 sc3 f1 f2 sc1) := (show M_renew k0 sc1 sc2 sc3 sl l0 szs n0 sc0 = (if k0.toInt = 0 then (K_renew_2 sc1 sc2 sc3 f1 f2 sc0) else (K_renew_3 k0 sc0 sc2 sc3 f1 f2 sc1)) from (by rw [ef2, ef1]; exact hM)).trans (if_neg h3)
  by_cases h6 : k0.toInt = 1
  · skip
    have hM : M_renew k0 sc1 sc2 sc3 sl l0 szs n0 sc0 = (K_renew_5 sc0 sc2 sc3 f1 f2 sc1) := (show M_renew k0 sc1 sc2 sc3 sl l0 szs n0 sc0 = (if k0.toInt = 1 then (K_renew_5 sc0 sc2 sc3 f1 f2 sc1) else (K_renew_6 k0 sc0 sc1 sc3 f1 f2 sc2)) from hM).trans (if_pos h6)
    refine xaldA hx hb hK hP 1 3 rfl rfl (vp_in_iff.mpr ⟨by omega, by omega⟩) dX6_renew_19 (v := .ref (rr 1)) (by rw [xclamp (j := 1) (rfl.trans h6)]; rfl) ?_
    refine lv_iconst (v := 0) hx hb dX6_renew_20 (by decide) ?_
    obtain ⟨hPc, hDc, hFc, hC9⟩ := xpk (wc := W_fillI cI cJ cZ cG cH (rr 1) (0 : Int32) 40 sc1) hP hD hS hA [3] (by decide +kernel) rfl
    refine va_callv (va_runS (As := [.ref (rr 1), .int 0]) (rest := []) ⟨hx, hb, hml, hown, hts⟩ (c_fillI l D cI cJ cZ cG cH H.size (rr 1) (0 : Int32) 40 sc1 (by decide)) (va_cwS 2 hts (xGS tbC wd189 wd190 wd58 wd957) rfl rfl rfl (by decide +kernel) ⟨Nat.le_of_ble_eq_true rfl, Nat.le_of_ble_eq_true rfl⟩) ⟨xPc_blind, xPc_pre hPc hK hDc⟩ rfl rfl hl.1 rfl (lv_room (Nat.le_of_ble_eq_true rfl)) dX6_renew_21 ⟨Nat.le_of_ble_eq_true rfl, Nat.le_of_ble_eq_true rfl⟩) hS (fun q _ h => hFc q h) hFc (fun u t H1 locs ht hvm hw7 hB hz1 hk1 hS => ?_)
    obtain ⟨g_8, hf8_0, hf8_1, hP1, hK1, hD1⟩ := hB
    rw [ht] at hP1
    obtain ⟨hP, hD⟩ : xPD D A [oX6 sh sca sla ssa, oAM sca cG 4 rr, oAI (rr 0) cI 40 sc0, oAI (rr 2) cI 40 sc2, oAI (rr 3) cI 40 sc3, oAI sla cI 4 f1, oAI ssa cI 4 f2, oAI (rr 1) cI 40 g_8] H1 := xjn 7 hP hD [3] [0, 1, 2, 4, 5, 6, 7] hC9 rfl (by decide +kernel) (by decide +kernel) hk1 hFc hP1 hD1
    generalize H1 = H at hP hS ⊢
    have hf8_0 : ∀ j, j < 40 → g_8 j = (0 : Int32) := hf8_0
    have hf8_1 : M_fillI 40 (0 : Int32) sc1 = g_8 := hf8_1
    have rg_8 : ∀ j, j < 40 → 0 ≤ (g_8 j).toInt ∧ (g_8 j).toInt ≤ 0 := xeq_rng hf8_0 ⟨by decide, by decide⟩
    have h9M := congrArg (fun t9 => (K_renew_7 sc0 t9 sc2 sc3 f1 f2)) hf8_1
    have hM : M_renew k0 sc1 sc2 sc3 sl l0 szs n0 sc0 = (K_renew_7 sc0 g_8 sc2 sc3 f1 f2) := (show M_renew k0 sc1 sc2 sc3 sl l0 szs n0 sc0 = ((fun t9 => (K_renew_7 sc0 t9 sc2 sc3 f1 f2)) (M_fillI 40 (0 : Int32) sc1)) from hM).trans h9M
    refine W.widen (k := 0) (n := 0) (by decide) (by decide) ?_
    exact W.vret hx hb hr (fun t ht hW => ⟨⟨(), rfl, trivial, ⟨sc0, g_8, sc2, sc3, f1, f2, (xwk_rng rf2 (by decide) (by decide)), ef2, hM, xB_of9 ht hW hP hK hD [0, 1, 2, 7, 3, 4, 5, 6] (by decide +kernel) rfl⟩⟩, hS.F ht⟩) hS.2.2 dX6_renew_24
  have hM : M_renew k0 sc1 sc2 sc3 sl l0 szs n0 sc0 = (K_renew_6 k0 sc0 sc1 sc3 f1 f2 sc2) := (show M_renew k0 sc1 sc2 sc3 sl l0 szs n0 sc0 = (if k0.toInt = 1 then (K_renew_5 sc0 sc2 sc3 f1 f2 sc1) else (K_renew_6 k0 sc0 sc1 sc3 f1 f2 sc2)) from hM).trans (if_neg h6)
  by_cases h9 : k0.toInt = 2
  · skip
    have hM : M_renew k0 sc1 sc2 sc3 sl l0 szs n0 sc0 = (K_renew_8 sc0 sc1 sc3 f1 f2 sc2) := (show M_renew k0 sc1 sc2 sc3 sl l0 szs n0 sc0 = (if k0.toInt = 2 then (K_renew_8 sc0 sc1 sc3 f1 f2 sc2) else (K_renew_9 sc0 sc1 sc2 f1 f2 sc3)) from hM).trans (if_pos h9)
    refine xaldA hx hb hK hP 1 3 rfl rfl (vp_in_iff.mpr ⟨by omega, by omega⟩) dX6_renew_19 (v := .ref (rr 2)) (by rw [xclamp (j := 2) (rfl.trans h9)]; rfl) ?_
    refine lv_iconst (v := 0) hx hb dX6_renew_20 (by decide) ?_
    obtain ⟨hPc, hDc, hFc, hC9⟩ := xpk (wc := W_fillI cI cJ cZ cG cH (rr 2) (0 : Int32) 40 sc2) hP hD hS hA [4] (by decide +kernel) rfl
    refine va_callv (va_runS (As := [.ref (rr 2), .int 0]) (rest := []) ⟨hx, hb, hml, hown, hts⟩ (c_fillI l D cI cJ cZ cG cH H.size (rr 2) (0 : Int32) 40 sc2 (by decide)) (va_cwS 2 hts (xGS tbC wd189 wd190 wd58 wd957) rfl rfl rfl (by decide +kernel) ⟨Nat.le_of_ble_eq_true rfl, Nat.le_of_ble_eq_true rfl⟩) ⟨xPc_blind, xPc_pre hPc hK hDc⟩ rfl rfl hl.1 rfl (lv_room (Nat.le_of_ble_eq_true rfl)) dX6_renew_21 ⟨Nat.le_of_ble_eq_true rfl, Nat.le_of_ble_eq_true rfl⟩) hS (fun q _ h => hFc q h) hFc (fun u t H1 locs ht hvm hw10 hB hz1 hk1 hS => ?_)
    obtain ⟨g_11, hf11_0, hf11_1, hP1, hK1, hD1⟩ := hB
    rw [ht] at hP1
    obtain ⟨hP, hD⟩ : xPD D A [oX6 sh sca sla ssa, oAM sca cG 4 rr, oAI (rr 0) cI 40 sc0, oAI (rr 1) cI 40 sc1, oAI (rr 3) cI 40 sc3, oAI sla cI 4 f1, oAI ssa cI 4 f2, oAI (rr 2) cI 40 g_11] H1 := xjn 7 hP hD [4] [0, 1, 2, 3, 5, 6, 7] hC9 rfl (by decide +kernel) (by decide +kernel) hk1 hFc hP1 hD1
    generalize H1 = H at hP hS ⊢
    have hf11_0 : ∀ j, j < 40 → g_11 j = (0 : Int32) := hf11_0
    have hf11_1 : M_fillI 40 (0 : Int32) sc2 = g_11 := hf11_1
    have rg_11 : ∀ j, j < 40 → 0 ≤ (g_11 j).toInt ∧ (g_11 j).toInt ≤ 0 := xeq_rng hf11_0 ⟨by decide, by decide⟩
    have h9M := congrArg (fun t9 => (K_renew_10 sc0 sc1 t9 sc3 f1 f2)) hf11_1
    have hM : M_renew k0 sc1 sc2 sc3 sl l0 szs n0 sc0 = (K_renew_10 sc0 sc1 g_11 sc3 f1 f2) := (show M_renew k0 sc1 sc2 sc3 sl l0 szs n0 sc0 = ((fun t9 => (K_renew_10 sc0 sc1 t9 sc3 f1 f2)) (M_fillI 40 (0 : Int32) sc2)) from hM).trans h9M
    refine W.widen (k := 0) (n := 0) (by decide) (by decide) ?_
    exact W.vret hx hb hr (fun t ht hW => ⟨⟨(), rfl, trivial, ⟨sc0, sc1, g_11, sc3, f1, f2, (xwk_rng rf2 (by decide) (by decide)), ef2, hM, xB_of9 ht hW hP hK hD [0, 1, 2, 3, 7, 4, 5, 6] (by decide +kernel) rfl⟩⟩, hS.F ht⟩) hS.2.2 dX6_renew_24
  have hM : M_renew k0 sc1 sc2 sc3 sl l0 szs n0 sc0 = (K_renew_9 sc0 sc1 sc2 f1 f2 sc3) := (show M_renew k0 sc1 sc2 sc3 sl l0 szs n0 sc0 = (if k0.toInt = 2 then (K_renew_8 sc0 sc1 sc3 f1 f2 sc2) else (K_renew_9 sc0 sc1 sc2 f1 f2 sc3)) from hM).trans (if_neg h9)
  have h12 : k0.toInt = 3 := by omega
  refine xaldA hx hb hK hP 1 3 rfl rfl (vp_in_iff.mpr ⟨by omega, by omega⟩) dX6_renew_19 (v := .ref (rr 3)) (by rw [xclamp (j := 3) (rfl.trans h12)]; rfl) ?_
  refine lv_iconst (v := 0) hx hb dX6_renew_20 (by decide) ?_
  obtain ⟨hPc, hDc, hFc, hC9⟩ := xpk (wc := W_fillI cI cJ cZ cG cH (rr 3) (0 : Int32) 40 sc3) hP hD hS hA [5] (by decide +kernel) rfl
  refine va_callv (va_runS (As := [.ref (rr 3), .int 0]) (rest := []) ⟨hx, hb, hml, hown, hts⟩ (c_fillI l D cI cJ cZ cG cH H.size (rr 3) (0 : Int32) 40 sc3 (by decide)) (va_cwS 2 hts (xGS tbC wd189 wd190 wd58 wd957) rfl rfl rfl (by decide +kernel) ⟨Nat.le_of_ble_eq_true rfl, Nat.le_of_ble_eq_true rfl⟩) ⟨xPc_blind, xPc_pre hPc hK hDc⟩ rfl rfl hl.1 rfl (lv_room (Nat.le_of_ble_eq_true rfl)) dX6_renew_21 ⟨Nat.le_of_ble_eq_true rfl, Nat.le_of_ble_eq_true rfl⟩) hS (fun q _ h => hFc q h) hFc (fun u t H1 locs ht hvm hw13 hB hz1 hk1 hS => ?_)
  obtain ⟨g_14, hf14_0, hf14_1, hP1, hK1, hD1⟩ := hB
  rw [ht] at hP1
  obtain ⟨hP, hD⟩ : xPD D A [oX6 sh sca sla ssa, oAM sca cG 4 rr, oAI (rr 0) cI 40 sc0, oAI (rr 1) cI 40 sc1, oAI (rr 2) cI 40 sc2, oAI sla cI 4 f1, oAI ssa cI 4 f2, oAI (rr 3) cI 40 g_14] H1 := xjn 7 hP hD [5] [0, 1, 2, 3, 4, 6, 7] hC9 rfl (by decide +kernel) (by decide +kernel) hk1 hFc hP1 hD1
  generalize H1 = H at hP hS ⊢
  have hf14_0 : ∀ j, j < 40 → g_14 j = (0 : Int32) := hf14_0
  have hf14_1 : M_fillI 40 (0 : Int32) sc3 = g_14 := hf14_1
  have rg_14 : ∀ j, j < 40 → 0 ≤ (g_14 j).toInt ∧ (g_14 j).toInt ≤ 0 := xeq_rng hf14_0 ⟨by decide, by decide⟩
  have h9M := congrArg (fun t9 => (K_renew_11 sc0 sc1 sc2 t9 f1 f2)) hf14_1
  have hM : M_renew k0 sc1 sc2 sc3 sl l0 szs n0 sc0 = (K_renew_11 sc0 sc1 sc2 g_14 f1 f2) := (show M_renew k0 sc1 sc2 sc3 sl l0 szs n0 sc0 = ((fun t9 => (K_renew_11 sc0 sc1 sc2 t9 f1 f2)) (M_fillI 40 (0 : Int32) sc3)) from hM).trans h9M
  refine W.widen (k := 0) (n := 0) (by decide) (by decide) ?_
  exact W.vret hx hb hr (fun t ht hW => ⟨⟨(), rfl, trivial, ⟨sc0, sc1, sc2, g_14, f1, f2, (xwk_rng rf2 (by decide) (by decide)), ef2, hM, xB_of9 ht hW hP hK hD [0, 1, 2, 3, 4, 7, 5, 6] (by decide +kernel) rfl⟩⟩, hS.F ht⟩) hS.2.2 dX6_renew_24
def K_put_4 (sc0 : Nat → Int32) (i0 : Int32) (v0 : Int32) (sc1 : Nat → Int32) (sc2 : Nat → Int32) (sc3 : Nat → Int32) : (Nat → Int32) × (Nat → Int32) × (Nat → Int32) × (Nat → Int32) := ((upd sc0 (i0 : Int32).toNatClampNeg ((v0).toInt8.toInt32)), sc1, sc2, sc3)
def K_put_6 (sc0 : Nat → Int32) (sc1 : Nat → Int32) (i0 : Int32) (v0 : Int32) (sc2 : Nat → Int32) (sc3 : Nat → Int32) : (Nat → Int32) × (Nat → Int32) × (Nat → Int32) × (Nat → Int32) := (sc0, (upd sc1 (i0 : Int32).toNatClampNeg ((v0).toInt8.toInt32)), sc2, sc3)
def K_put_8 (sc0 : Nat → Int32) (sc1 : Nat → Int32) (sc2 : Nat → Int32) (i0 : Int32) (v0 : Int32) (sc3 : Nat → Int32) : (Nat → Int32) × (Nat → Int32) × (Nat → Int32) × (Nat → Int32) := (sc0, sc1, (upd sc2 (i0 : Int32).toNatClampNeg ((v0).toInt8.toInt32)), sc3)
def K_put_9 (sc0 : Nat → Int32) (sc1 : Nat → Int32) (sc2 : Nat → Int32) (sc3 : Nat → Int32) (i0 : Int32) (v0 : Int32) : (Nat → Int32) × (Nat → Int32) × (Nat → Int32) × (Nat → Int32) := (sc0, sc1, sc2, (upd sc3 (i0 : Int32).toNatClampNeg ((v0).toInt8.toInt32)))
def K_put_7 (k0 : Int32) (sc0 : Nat → Int32) (sc1 : Nat → Int32) (sc2 : Nat → Int32) (i0 : Int32) (v0 : Int32) (sc3 : Nat → Int32) : (Nat → Int32) × (Nat → Int32) × (Nat → Int32) × (Nat → Int32) := (if k0.toInt = 2 then (K_put_8 sc0 sc1 sc2 i0 v0 sc3) else (K_put_9 sc0 sc1 sc2 sc3 i0 v0))
def K_put_5 (k0 : Int32) (sc0 : Nat → Int32) (sc1 : Nat → Int32) (i0 : Int32) (v0 : Int32) (sc2 : Nat → Int32) (sc3 : Nat → Int32) : (Nat → Int32) × (Nat → Int32) × (Nat → Int32) × (Nat → Int32) := (if k0.toInt = 1 then (K_put_6 sc0 sc1 i0 v0 sc2 sc3) else (K_put_7 k0 sc0 sc1 sc2 i0 v0 sc3))
def K_put_2 (k0 : Int32) (sc0 : Nat → Int32) (i0 : Int32) (v0 : Int32) (sc1 : Nat → Int32) (sc2 : Nat → Int32) (sc3 : Nat → Int32) : (Nat → Int32) × (Nat → Int32) × (Nat → Int32) × (Nat → Int32) := (if k0.toInt = 0 then (K_put_4 sc0 i0 v0 sc1 sc2 sc3) else (K_put_5 k0 sc0 sc1 i0 v0 sc2 sc3))
def K_put_12 (sc0 : Nat → Int32) (i0 : Int32) (v0 : Int32) (sc1 : Nat → Int32) (sc2 : Nat → Int32) (sc3 : Nat → Int32) : (Nat → Int32) × (Nat → Int32) × (Nat → Int32) × (Nat → Int32) := ((upd sc0 (i0 : Int32).toNatClampNeg ((v0).toInt16.toInt32)), sc1, sc2, sc3)
def K_put_14 (sc0 : Nat → Int32) (sc1 : Nat → Int32) (i0 : Int32) (v0 : Int32) (sc2 : Nat → Int32) (sc3 : Nat → Int32) : (Nat → Int32) × (Nat → Int32) × (Nat → Int32) × (Nat → Int32) := (sc0, (upd sc1 (i0 : Int32).toNatClampNeg ((v0).toInt16.toInt32)), sc2, sc3)
def K_put_16 (sc0 : Nat → Int32) (sc1 : Nat → Int32) (sc2 : Nat → Int32) (i0 : Int32) (v0 : Int32) (sc3 : Nat → Int32) : (Nat → Int32) × (Nat → Int32) × (Nat → Int32) × (Nat → Int32) := (sc0, sc1, (upd sc2 (i0 : Int32).toNatClampNeg ((v0).toInt16.toInt32)), sc3)
def K_put_17 (sc0 : Nat → Int32) (sc1 : Nat → Int32) (sc2 : Nat → Int32) (sc3 : Nat → Int32) (i0 : Int32) (v0 : Int32) : (Nat → Int32) × (Nat → Int32) × (Nat → Int32) × (Nat → Int32) := (sc0, sc1, sc2, (upd sc3 (i0 : Int32).toNatClampNeg ((v0).toInt16.toInt32)))
def K_put_15 (k0 : Int32) (sc0 : Nat → Int32) (sc1 : Nat → Int32) (sc2 : Nat → Int32) (i0 : Int32) (v0 : Int32) (sc3 : Nat → Int32) : (Nat → Int32) × (Nat → Int32) × (Nat → Int32) × (Nat → Int32) := (if k0.toInt = 2 then (K_put_16 sc0 sc1 sc2 i0 v0 sc3) else (K_put_17 sc0 sc1 sc2 sc3 i0 v0))
def K_put_13 (k0 : Int32) (sc0 : Nat → Int32) (sc1 : Nat → Int32) (i0 : Int32) (v0 : Int32) (sc2 : Nat → Int32) (sc3 : Nat → Int32) : (Nat → Int32) × (Nat → Int32) × (Nat → Int32) × (Nat → Int32) := (if k0.toInt = 1 then (K_put_14 sc0 sc1 i0 v0 sc2 sc3) else (K_put_15 k0 sc0 sc1 sc2 i0 v0 sc3))
def K_put_10 (k0 : Int32) (sc0 : Nat → Int32) (i0 : Int32) (v0 : Int32) (sc1 : Nat → Int32) (sc2 : Nat → Int32) (sc3 : Nat → Int32) : (Nat → Int32) × (Nat → Int32) × (Nat → Int32) × (Nat → Int32) := (if k0.toInt = 0 then (K_put_12 sc0 i0 v0 sc1 sc2 sc3) else (K_put_13 k0 sc0 sc1 i0 v0 sc2 sc3))
def K_put_18 (sc0 : Nat → Int32) (i0 : Int32) (v0 : Int32) (sc1 : Nat → Int32) (sc2 : Nat → Int32) (sc3 : Nat → Int32) : (Nat → Int32) × (Nat → Int32) × (Nat → Int32) × (Nat → Int32) := ((upd sc0 (i0 : Int32).toNatClampNeg v0), sc1, sc2, sc3)
def K_put_20 (sc0 : Nat → Int32) (sc1 : Nat → Int32) (i0 : Int32) (v0 : Int32) (sc2 : Nat → Int32) (sc3 : Nat → Int32) : (Nat → Int32) × (Nat → Int32) × (Nat → Int32) × (Nat → Int32) := (sc0, (upd sc1 (i0 : Int32).toNatClampNeg v0), sc2, sc3)
def K_put_22 (sc0 : Nat → Int32) (sc1 : Nat → Int32) (sc2 : Nat → Int32) (i0 : Int32) (v0 : Int32) (sc3 : Nat → Int32) : (Nat → Int32) × (Nat → Int32) × (Nat → Int32) × (Nat → Int32) := (sc0, sc1, (upd sc2 (i0 : Int32).toNatClampNeg v0), sc3)
def K_put_23 (sc0 : Nat → Int32) (sc1 : Nat → Int32) (sc2 : Nat → Int32) (sc3 : Nat → Int32) (i0 : Int32) (v0 : Int32) : (Nat → Int32) × (Nat → Int32) × (Nat → Int32) × (Nat → Int32) := (sc0, sc1, sc2, (upd sc3 (i0 : Int32).toNatClampNeg v0))
def K_put_21 (k0 : Int32) (sc0 : Nat → Int32) (sc1 : Nat → Int32) (sc2 : Nat → Int32) (i0 : Int32) (v0 : Int32) (sc3 : Nat → Int32) : (Nat → Int32) × (Nat → Int32) × (Nat → Int32) × (Nat → Int32) := (if k0.toInt = 2 then (K_put_22 sc0 sc1 sc2 i0 v0 sc3) else (K_put_23 sc0 sc1 sc2 sc3 i0 v0))
def K_put_19 (k0 : Int32) (sc0 : Nat → Int32) (sc1 : Nat → Int32) (i0 : Int32) (v0 : Int32) (sc2 : Nat → Int32) (sc3 : Nat → Int32) : (Nat → Int32) × (Nat → Int32) × (Nat → Int32) × (Nat → Int32) := (if k0.toInt = 1 then (K_put_20 sc0 sc1 i0 v0 sc2 sc3) else (K_put_21 k0 sc0 sc1 sc2 i0 v0 sc3))
def K_put_11 (k0 : Int32) (sc0 : Nat → Int32) (i0 : Int32) (v0 : Int32) (sc1 : Nat → Int32) (sc2 : Nat → Int32) (sc3 : Nat → Int32) : (Nat → Int32) × (Nat → Int32) × (Nat → Int32) × (Nat → Int32) := (if k0.toInt = 0 then (K_put_18 sc0 i0 v0 sc1 sc2 sc3) else (K_put_19 k0 sc0 sc1 i0 v0 sc2 sc3))
def K_put_3 (v1 : Int32) (k0 : Int32) (sc0 : Nat → Int32) (i0 : Int32) (v0 : Int32) (sc1 : Nat → Int32) (sc2 : Nat → Int32) (sc3 : Nat → Int32) : (Nat → Int32) × (Nat → Int32) × (Nat → Int32) × (Nat → Int32) := (if (v1 : Int32).toInt = 1 then (K_put_10 k0 sc0 i0 v0 sc1 sc2 sc3) else (K_put_11 k0 sc0 i0 v0 sc1 sc2 sc3))
def K_put_1 (sl : Nat → Int32) (k0 : Int32) (sc0 : Nat → Int32) (i0 : Int32) (v0 : Int32) (sc1 : Nat → Int32) (sc2 : Nat → Int32) (sc3 : Nat → Int32) : (Nat → Int32) × (Nat → Int32) × (Nat → Int32) × (Nat → Int32) := (if ((sl k0.toNatClampNeg) : Int32).toInt = 0 then (K_put_2 k0 sc0 i0 v0 sc1 sc2 sc3) else (K_put_3 (sl k0.toNatClampNeg) k0 sc0 i0 v0 sc1 sc2 sc3))
def M_put (sl : Nat → Int32) (k0 : Int32) (sc0 : Nat → Int32) (i0 : Int32) (v0 : Int32) (sc1 : Nat → Int32) (sc2 : Nat → Int32) (sc3 : Nat → Int32) : (Nat → Int32) × (Nat → Int32) × (Nat → Int32) × (Nat → Int32) := (K_put_1 sl k0 sc0 i0 v0 sc1 sc2 sc3)
abbrev W_put (cI cJ cZ cG cH : ClassId) (sh : Nat) (k0 : Int32) (i0 : Int32) (v0 : Int32) (sca : Nat) (sla : Nat) (ssa : Nat) (rr : Nat → Nat) (sc0 : Nat → Int32) (sc1 : Nat → Int32) (sc2 : Nat → Int32) (sc3 : Nat → Int32) (sl : Nat → Int32) : va_W := [oX6 sh sca sla ssa, oAM sca cG 4 rr, oAI (rr 0) cI 40 sc0, oAI (rr 1) cI 40 sc1, oAI (rr 2) cI 40 sc2, oAI (rr 3) cI 40 sc3, oAI sla cI 4 sl]
abbrev Q_put (D : va_G) (cI cJ cZ cG cH : ClassId) (sh : Nat) (k0 : Int32) (i0 : Int32) (v0 : Int32) (sca : Nat) (sla : Nat) (ssa : Nat) (rr : Nat → Nat) (sc0 : Nat → Int32) (sc1 : Nat → Int32) (sc2 : Nat → Int32) (sc3 : Nat → Int32) (sl : Nat → Int32) (A : Nat → Prop) : Array Value → State → Outcome → State → Prop := va_Qv (fun (_ : Unit) => True) (fun _ t => ∃ (sc09 : Nat → Int32) (sc19 : Nat → Int32) (sc29 : Nat → Int32) (sc39 : Nat → Int32), (M_put sl k0 sc0 i0 v0 sc1 sc2 sc3 = (sc09, sc19, sc29, sc39)) ∧ xB D (tyL cI cJ cZ cG cH) [oX6 sh sca sla ssa, oAM sca cG 4 rr, oAI (rr 0) cI 40 sc09, oAI (rr 1) cI 40 sc19, oAI (rr 2) cI 40 sc29, oAI (rr 3) cI 40 sc39, oAI sla cI 4 sl] A t) A
abbrev rm_put : Room := { frames := 0, cells := 0, slots := 0, locals := 0 }
set_option maxRecDepth 100000 in
set_option maxHeartbeats 40000000 in
theorem c_put (l : Launch) (D : va_G) (cI cJ cZ cG cH : ClassId) (sz : Nat) (sh : Nat) (k0 : Int32) (i0 : Int32) (v0 : Int32) (sca : Nat) (sla : Nat) (ssa : Nat) (rr : Nat → Nat) (sc0 : Nat → Int32) (sc1 : Nat → Int32) (sc2 : Nat → Int32) (sc3 : Nat → Int32) (sl : Nat → Int32) (h_k0 : 0 ≤ k0.toInt ∧ k0.toInt ≤ 3) (h_i0 : 0 ≤ i0.toInt ∧ i0.toInt ≤ 39) : Met l yX6_put (wt yX6_put cX6_put 4 none) rm_put (xPc [.ref sh, .int k0, .int i0, .int v0] D (tyL cI cJ cZ cG cH) (W_put cI cJ cZ cG cH sh k0 i0 v0 sca sla ssa rr sc0 sc1 sc2 sc3 sl) sz) (Q_put D cI cJ cZ cG cH sh k0 i0 v0 sca sla ssa rr sc0 sc1 sc2 sc3 sl (va_A (W_put cI cJ cZ cG cH sh k0 i0 v0 sca sla ssa rr sc0 sc1 sc2 sc3 sl) sz)) 0 0 (va_A (W_put cI cJ cZ cG cH sh k0 i0 v0 sca sla ssa rr sc0 sc1 sc2 sc3 sl) sz) := by
  refine xMet (cc := cX6_put) (maxL := 4) (ret := none) (Qf := Q_put D cI cJ cZ cG cH sh k0 i0 v0 sca sla ssa rr sc0 sc1 sc2 sc3 sl) (by decide) rfl (Nat.le_of_ble_eq_true rfl) ?_
  intro p e s m below meth c ls A hx hb hr hml hts hown hlocks hnm hsz hP hK hD hA hS hl
  have hown : s.vm.findClass RX6 = some m.cls := hown
  have hP : va_P D vwCl [oX6 sh sca sla ssa, oAM sca cG 4 rr, oAI (rr 0) cI 40 sc0, oAI (rr 1) cI 40 sc1, oAI (rr 2) cI 40 sc2, oAI (rr 3) cI 40 sc3, oAI sla cI 4 sl] s.heap := hP
  have hD : va_D A [oX6 sh sca sla ssa, oAM sca cG 4 rr, oAI (rr 0) cI 40 sc0, oAI (rr 1) cI 40 sc1, oAI (rr 2) cI 40 sc2, oAI (rr 3) cI 40 sc3, oAI sla cI 4 sl] := hD
  have hl : lv_has ls 4 [(0, .ref sh), (1, .int k0), (2, .int i0), (3, .int v0)] := hl
  have hM : M_put sl k0 sc0 i0 v0 sc1 sc2 sc3 = (K_put_1 sl k0 sc0 i0 v0 sc1 sc2 sc3) := rfl
  refine lv_aload_n hx hb dX6_put_0 rfl (lv_at hl 0 rfl) ?_
  refine va_get (D := D) (ci := 5) (v := .ref sla) (C := RX6) (T := TX6) (N := 3) hx hb hts (fun w h => tbC w (tbfX6 w h)) hown hK hP 0 rfl rfl 1 (by decide) (hts (.fieldLink RX6 16 "PowerRails$Sheets" "lanes" "[I") (tbC _ wd193)) (fun _ h9 => h9) rfl dX6_put_1 ?_
  refine lv_iload_n hx hb dX6_put_4 rfl (lv_at hl 1 rfl) ?_
  refine va_iald hx hb hK hP 6 0 rfl rfl (vp_in_iff.mpr ⟨by omega, by omega⟩) dX6_put_5 ?_
  refine lv_topi (fun v1 ev1 => ?_)
  have i_2_e : (v1 : Int32).toInt = v1.toInt := rfl
  by_cases i_2_0 : (v1 : Int32).toInt = 0
  · skip
    have hM : M_put sl k0 sc0 i0 v0 sc1 sc2 sc3 = (K_put_2 k0 sc0 i0 v0 sc1 sc2 sc3) := (show M_put sl k0 sc0 i0 v0 sc1 sc2 sc3 = (if (v1 : Int32).toInt = 0 then (K_put_2 k0 sc0 i0 v0 sc1 sc2 sc3) else (K_put_3 v1 k0 sc0 i0 v0 sc1 sc2 sc3)) from (by rw [ev1]; exact hM)).trans (if_pos i_2_0)
    refine lv_lookup (off := 26) (tgt := 32) hx hb dX6_put_6 (by decide) (by rw [i_2_0]; rfl) (by decide) ?_
    refine lv_aload_n hx hb dX6_put_32 rfl (lv_at hl 0 rfl) ?_
    refine va_get (D := D) (ci := 5) (v := .ref sca) (C := RX6) (T := TX6) (N := 3) hx hb hts (fun w h => tbC w (tbfX6 w h)) hown hK hP 0 rfl rfl 0 (by decide) (hts (.fieldLink RX6 13 "PowerRails$Sheets" "cells" "[[I") (tbC _ wd191)) (fun _ h9 => h9) rfl dX6_put_33 ?_
    refine lv_iload_n hx hb dX6_put_36 rfl (lv_at hl 1 rfl) ?_
    by_cases h3 : k0.toInt = 0
    · skip
      have hM : M_put sl k0 sc0 i0 v0 sc1 sc2 sc3 = (K_put_4 sc0 i0 v0 sc1 sc2 sc3) := (show M_put sl k0 sc0 i0 v0 sc1 sc2 sc3 = (if k0.toInt = 0 then (K_put_4 sc0 i0 v0 sc1 sc2 sc3) else (K_put_5 k0 sc0 sc1 i0 v0 sc2 sc3)) from hM).trans (if_pos h3)
      refine xaldA hx hb hK hP 1 3 rfl rfl (vp_in_iff.mpr ⟨by omega, by omega⟩) dX6_put_37 (v := .ref (rr 0)) (by rw [xclamp (j := 0) (rfl.trans h3)]; rfl) ?_
      refine lv_iload_n hx hb dX6_put_38 rfl (lv_at hl 2 rfl) ?_
      refine lv_iload_n hx hb dX6_put_39 rfl (lv_at hl 3 rfl) ?_
      obtain ⟨v4, ev4⟩ : ∃ z : Int32, (v0).toInt8.toInt32 = z := ⟨_, rfl⟩
      refine lv_i2b hx hb dX6_put_40 ev4 ?_
      refine va_iast hx hb hK hP hD hS 2 0 rfl rfl (vp_in_iff.mpr ⟨by omega, by omega⟩) dX6_put_41 (fun H locs hP hD hS => ?_)
      obtain ⟨f5, ef5⟩ : ∃ fz9 : Nat → Int32, fz9 = upd sc0 (i0 : Int32).toNatClampNeg v4 := ⟨_, rfl⟩
      have hP : va_P D vwCl [oX6 sh sca sla ssa, oAM sca cG 4 rr, oAI (rr 0) cI 40 f5, oAI (rr 1) cI 40 sc1, oAI (rr 2) cI 40 sc2, oAI (rr 3) cI 40 sc3, oAI sla cI 4 sl] H := by rw [ef5]; exact hP
      have hD : va_D A [oX6 sh sca sla ssa, oAM sca cG 4 rr, oAI (rr 0) cI 40 f5, oAI (rr 1) cI 40 sc1, oAI (rr 2) cI 40 sc2, oAI (rr 3) cI 40 sc3, oAI sla cI 4 sl] := by rw [ef5]; exact hD
      refine lv_goto (tgt := 67) hx hb dX6_put_42 (by decide) ?_
      refine W.widen (k := 0) (n := 0) (by decide) (by decide) ?_
      exact W.vret hx hb hr (fun t ht hW => ⟨⟨(), rfl, trivial, ⟨f5, sc1, sc2, sc3, (by rw [ef5, ← ev4]; exact hM), xB_of9 ht hW hP hK hD [0, 1, 2, 3, 4, 5, 6] (by decide +kernel) rfl⟩⟩, hS.F ht⟩) hS.2.2 dX6_put_67
    have hM : M_put sl k0 sc0 i0 v0 sc1 sc2 sc3 = (K_put_5 k0 sc0 sc1 i0 v0 sc2 sc3) := (show M_put sl k0 sc0 i0 v0 sc1 sc2 sc3 = (if k0.toInt = 0 then (K_put_4 sc0 i0 v0 sc1 sc2 sc3) else (K_put_5 k0 sc0 sc1 i0 v0 sc2 sc3)) from hM).trans (if_neg h3)
    by_cases h6 : k0.toInt = 1
    · skip
      have hM : M_put sl k0 sc0 i0 v0 sc1 sc2 sc3 = (K_put_6 sc0 sc1 i0 v0 sc2 sc3) := (show M_put sl k0 sc0 i0 v0 sc1 sc2 sc3 = (if k0.toInt = 1 then (K_put_6 sc0 sc1 i0 v0 sc2 sc3) else (K_put_7 k0 sc0 sc1 sc2 i0 v0 sc3)) from hM).trans (if_pos h6)
      refine xaldA hx hb hK hP 1 3 rfl rfl (vp_in_iff.mpr ⟨by omega, by omega⟩) dX6_put_37 (v := .ref (rr 1)) (by rw [xclamp (j := 1) (rfl.trans h6)]; rfl) ?_
      refine lv_iload_n hx hb dX6_put_38 rfl (lv_at hl 2 rfl) ?_
      refine lv_iload_n hx hb dX6_put_39 rfl (lv_at hl 3 rfl) ?_
      obtain ⟨v7, ev7⟩ : ∃ z : Int32, (v0).toInt8.toInt32 = z := ⟨_, rfl⟩
      refine lv_i2b hx hb dX6_put_40 ev7 ?_
      refine va_iast hx hb hK hP hD hS 3 0 rfl rfl (vp_in_iff.mpr ⟨by omega, by omega⟩) dX6_put_41 (fun H locs hP hD hS => ?_)
      obtain ⟨f8, ef8⟩ : ∃ fz9 : Nat → Int32, fz9 = upd sc1 (i0 : Int32).toNatClampNeg v7 := ⟨_, rfl⟩
      have hP : va_P D vwCl [oX6 sh sca sla ssa, oAM sca cG 4 rr, oAI (rr 0) cI 40 sc0, oAI (rr 1) cI 40 f8, oAI (rr 2) cI 40 sc2, oAI (rr 3) cI 40 sc3, oAI sla cI 4 sl] H := by rw [ef8]; exact hP
      have hD : va_D A [oX6 sh sca sla ssa, oAM sca cG 4 rr, oAI (rr 0) cI 40 sc0, oAI (rr 1) cI 40 f8, oAI (rr 2) cI 40 sc2, oAI (rr 3) cI 40 sc3, oAI sla cI 4 sl] := by rw [ef8]; exact hD
      refine lv_goto (tgt := 67) hx hb dX6_put_42 (by decide) ?_
      refine W.widen (k := 0) (n := 0) (by decide) (by decide) ?_
      exact W.vret hx hb hr (fun t ht hW => ⟨⟨(), rfl, trivial, ⟨sc0, f8, sc2, sc3, (by rw [ef8, ← ev7]; exact hM), xB_of9 ht hW hP hK hD [0, 1, 2, 3, 4, 5, 6] (by decide +kernel) rfl⟩⟩, hS.F ht⟩) hS.2.2 dX6_put_67
    have hM : M_put sl k0 sc0 i0 v0 sc1 sc2 sc3 = (K_put_7 k0 sc0 sc1 sc2 i0 v0 sc3) := (show M_put sl k0 sc0 i0 v0 sc1 sc2 sc3 = (if k0.toInt = 1 then (K_put_6 sc0 sc1 i0 v0 sc2 sc3) else (K_put_7 k0 sc0 sc1 sc2 i0 v0 sc3)) from hM).trans (if_neg h6)
    by_cases h9 : k0.toInt = 2
    · skip
      have hM : M_put sl k0 sc0 i0 v0 sc1 sc2 sc3 = (K_put_8 sc0 sc1 sc2 i0 v0 sc3) := (show M_put sl k0 sc0 i0 v0 sc1 sc2 sc3 = (if k0.toInt = 2 then (K_put_8 sc0 sc1 sc2 i0 v0 sc3) else (K_put_9 sc0 sc1 sc2 sc3 i0 v0)) from hM).trans (if_pos h9)
      refine xaldA hx hb hK hP 1 3 rfl rfl (vp_in_iff.mpr ⟨by omega, by omega⟩) dX6_put_37 (v := .ref (rr 2)) (by rw [xclamp (j := 2) (rfl.trans h9)]; rfl) ?_
      refine lv_iload_n hx hb dX6_put_38 rfl (lv_at hl 2 rfl) ?_
      refine lv_iload_n hx hb dX6_put_39 rfl (lv_at hl 3 rfl) ?_
      obtain ⟨v10, ev10⟩ : ∃ z : Int32, (v0).toInt8.toInt32 = z := ⟨_, rfl⟩
      refine lv_i2b hx hb dX6_put_40 ev10 ?_
      refine va_iast hx hb hK hP hD hS 4 0 rfl rfl (vp_in_iff.mpr ⟨by omega, by omega⟩) dX6_put_41 (fun H locs hP hD hS => ?_)
      obtain ⟨f11, ef11⟩ : ∃ fz9 : Nat → Int32, fz9 = upd sc2 (i0 : Int32).toNatClampNeg v10 := ⟨_, rfl⟩
      have hP : va_P D vwCl [oX6 sh sca sla ssa, oAM sca cG 4 rr, oAI (rr 0) cI 40 sc0, oAI (rr 1) cI 40 sc1, oAI (rr 2) cI 40 f11, oAI (rr 3) cI 40 sc3, oAI sla cI 4 sl] H := by rw [ef11]; exact hP
      have hD : va_D A [oX6 sh sca sla ssa, oAM sca cG 4 rr, oAI (rr 0) cI 40 sc0, oAI (rr 1) cI 40 sc1, oAI (rr 2) cI 40 f11, oAI (rr 3) cI 40 sc3, oAI sla cI 4 sl] := by rw [ef11]; exact hD
      refine lv_goto (tgt := 67) hx hb dX6_put_42 (by decide) ?_
      refine W.widen (k := 0) (n := 0) (by decide) (by decide) ?_
      exact W.vret hx hb hr (fun t ht hW => ⟨⟨(), rfl, trivial, ⟨sc0, sc1, f11, sc3, (by rw [ef11, ← ev10]; exact hM), xB_of9 ht hW hP hK hD [0, 1, 2, 3, 4, 5, 6] (by decide +kernel) rfl⟩⟩, hS.F ht⟩) hS.2.2 dX6_put_67
    have hM : M_put sl k0 sc0 i0 v0 sc1 sc2 sc3 = (K_put_9 sc0 sc1 sc2 sc3 i0 v0) := (show M_put sl k0 sc0 i0 v0 sc1 sc2 sc3 = (if k0.toInt = 2 then (K_put_8 sc0 sc1 sc2 i0 v0 sc3) else (K_put_9 sc0 sc1 sc2 sc3 i0 v0)) from hM).trans (if_neg h9)
    have h12 : k0.toInt = 3 := by omega
    refine xaldA hx hb hK hP 1 3 rfl rfl (vp_in_iff.mpr ⟨by omega, by omega⟩) dX6_put_37 (v := .ref (rr 3)) (by rw [xclamp (j := 3) (rfl.trans h12)]; rfl) ?_
    refine lv_iload_n hx hb dX6_put_38 rfl (lv_at hl 2 rfl) ?_
    refine lv_iload_n hx hb dX6_put_39 rfl (lv_at hl 3 rfl) ?_
    obtain ⟨v13, ev13⟩ : ∃ z : Int32, (v0).toInt8.toInt32 = z := ⟨_, rfl⟩
    refine lv_i2b hx hb dX6_put_40 ev13 ?_
    refine va_iast hx hb hK hP hD hS 5 0 rfl rfl (vp_in_iff.mpr ⟨by omega, by omega⟩) dX6_put_41 (fun H locs hP hD hS => ?_)
    obtain ⟨f14, ef14⟩ : ∃ fz9 : Nat → Int32, fz9 = upd sc3 (i0 : Int32).toNatClampNeg v13 := ⟨_, rfl⟩
    have hP : va_P D vwCl [oX6 sh sca sla ssa, oAM sca cG 4 rr, oAI (rr 0) cI 40 sc0, oAI (rr 1) cI 40 sc1, oAI (rr 2) cI 40 sc2, oAI (rr 3) cI 40 f14, oAI sla cI 4 sl] H := by rw [ef14]; exact hP
    have hD : va_D A [oX6 sh sca sla ssa, oAM sca cG 4 rr, oAI (rr 0) cI 40 sc0, oAI (rr 1) cI 40 sc1, oAI (rr 2) cI 40 sc2, oAI (rr 3) cI 40 f14, oAI sla cI 4 sl] := by rw [ef14]; exact hD
    refine lv_goto (tgt := 67) hx hb dX6_put_42 (by decide) ?_
    refine W.widen (k := 0) (n := 0) (by decide) (by decide) ?_
    exact W.vret hx hb hr (fun t ht hW => ⟨⟨(), rfl, trivial, ⟨sc0, sc1, sc2, f14, (by rw [ef14, ← ev13]; exact hM), xB_of9 ht hW hP hK hD [0, 1, 2, 3, 4, 5, 6] (by decide +kernel) rfl⟩⟩, hS.F ht⟩) hS.2.2 dX6_put_67
  have hM : M_put sl k0 sc0 i0 v0 sc1 sc2 sc3 = (K_put_3 v1 k0 sc0 i0 v0 sc1 sc2 sc3) := (show M_put sl k0 sc0 i0 v0 sc1 sc2 sc3 = (if (v1 : Int32).toInt = 0 then (K_put_2 k0 sc0 i0 v0 sc1 sc2 sc3) else (K_put_3 v1 k0 sc0 i0 v0 sc1 sc2 sc3)) from (by rw [ev1]; exact hM)).trans (if_neg i_2_0)
  by_cases i_2_1 : (v1 : Int32).toInt = 1
  · skip
    have hM : M_put sl k0 sc0 i0 v0 sc1 sc2 sc3 = (K_put_10 k0 sc0 i0 v0 sc1 sc2 sc3) := (show M_put sl k0 sc0 i0 v0 sc1 sc2 sc3 = (if (v1 : Int32).toInt = 1 then (K_put_10 k0 sc0 i0 v0 sc1 sc2 sc3) else (K_put_11 k0 sc0 i0 v0 sc1 sc2 sc3)) from hM).trans (if_pos i_2_1)
    refine lv_lookup (off := 39) (tgt := 45) hx hb dX6_put_6 (by decide) (by rw [i_2_1]; rfl) (by decide) ?_
    refine lv_aload_n hx hb dX6_put_45 rfl (lv_at hl 0 rfl) ?_
    refine va_get (D := D) (ci := 5) (v := .ref sca) (C := RX6) (T := TX6) (N := 3) hx hb hts (fun w h => tbC w (tbfX6 w h)) hown hK hP 0 rfl rfl 0 (by decide) (hts (.fieldLink RX6 13 "PowerRails$Sheets" "cells" "[[I") (tbC _ wd191)) (fun _ h9 => h9) rfl dX6_put_46 ?_
    refine lv_iload_n hx hb dX6_put_49 rfl (lv_at hl 1 rfl) ?_
    by_cases h15 : k0.toInt = 0
    · skip
      have hM : M_put sl k0 sc0 i0 v0 sc1 sc2 sc3 = (K_put_12 sc0 i0 v0 sc1 sc2 sc3) := (show M_put sl k0 sc0 i0 v0 sc1 sc2 sc3 = (if k0.toInt = 0 then (K_put_12 sc0 i0 v0 sc1 sc2 sc3) else (K_put_13 k0 sc0 sc1 i0 v0 sc2 sc3)) from hM).trans (if_pos h15)
      refine xaldA hx hb hK hP 1 3 rfl rfl (vp_in_iff.mpr ⟨by omega, by omega⟩) dX6_put_50 (v := .ref (rr 0)) (by rw [xclamp (j := 0) (rfl.trans h15)]; rfl) ?_
      refine lv_iload_n hx hb dX6_put_51 rfl (lv_at hl 2 rfl) ?_
      refine lv_iload_n hx hb dX6_put_52 rfl (lv_at hl 3 rfl) ?_
      obtain ⟨v16, ev16⟩ : ∃ z : Int32, (v0).toInt16.toInt32 = z := ⟨_, rfl⟩
      refine lv_i2s hx hb dX6_put_53 ev16 ?_
      refine va_iast hx hb hK hP hD hS 2 0 rfl rfl (vp_in_iff.mpr ⟨by omega, by omega⟩) dX6_put_54 (fun H locs hP hD hS => ?_)
      obtain ⟨f17, ef17⟩ : ∃ fz9 : Nat → Int32, fz9 = upd sc0 (i0 : Int32).toNatClampNeg v16 := ⟨_, rfl⟩
      have hP : va_P D vwCl [oX6 sh sca sla ssa, oAM sca cG 4 rr, oAI (rr 0) cI 40 f17, oAI (rr 1) cI 40 sc1, oAI (rr 2) cI 40 sc2, oAI (rr 3) cI 40 sc3, oAI sla cI 4 sl] H := by rw [ef17]; exact hP
      have hD : va_D A [oX6 sh sca sla ssa, oAM sca cG 4 rr, oAI (rr 0) cI 40 f17, oAI (rr 1) cI 40 sc1, oAI (rr 2) cI 40 sc2, oAI (rr 3) cI 40 sc3, oAI sla cI 4 sl] := by rw [ef17]; exact hD
      refine lv_goto (tgt := 67) hx hb dX6_put_55 (by decide) ?_
      refine W.widen (k := 0) (n := 0) (by decide) (by decide) ?_
      exact W.vret hx hb hr (fun t ht hW => ⟨⟨(), rfl, trivial, ⟨f17, sc1, sc2, sc3, (by rw [ef17, ← ev16]; exact hM), xB_of9 ht hW hP hK hD [0, 1, 2, 3, 4, 5, 6] (by decide +kernel) rfl⟩⟩, hS.F ht⟩) hS.2.2 dX6_put_67
    have hM : M_put sl k0 sc0 i0 v0 sc1 sc2 sc3 = (K_put_13 k0 sc0 sc1 i0 v0 sc2 sc3) := (show M_put sl k0 sc0 i0 v0 sc1 sc2 sc3 = (if k0.toInt = 0 then (K_put_12 sc0 i0 v0 sc1 sc2 sc3) else (K_put_13 k0 sc0 sc1 i0 v0 sc2 sc3)) from hM).trans (if_neg h15)
    by_cases h18 : k0.toInt = 1
    · skip
      have hM : M_put sl k0 sc0 i0 v0 sc1 sc2 sc3 = (K_put_14 sc0 sc1 i0 v0 sc2 sc3) := (show M_put sl k0 sc0 i0 v0 sc1 sc2 sc3 = (if k0.toInt = 1 then (K_put_14 sc0 sc1 i0 v0 sc2 sc3) else (K_put_15 k0 sc0 sc1 sc2 i0 v0 sc3)) from hM).trans (if_pos h18)
      refine xaldA hx hb hK hP 1 3 rfl rfl (vp_in_iff.mpr ⟨by omega, by omega⟩) dX6_put_50 (v := .ref (rr 1)) (by rw [xclamp (j := 1) (rfl.trans h18)]; rfl) ?_
      refine lv_iload_n hx hb dX6_put_51 rfl (lv_at hl 2 rfl) ?_
      refine lv_iload_n hx hb dX6_put_52 rfl (lv_at hl 3 rfl) ?_
      obtain ⟨v19, ev19⟩ : ∃ z : Int32, (v0).toInt16.toInt32 = z := ⟨_, rfl⟩
      refine lv_i2s hx hb dX6_put_53 ev19 ?_
      refine va_iast hx hb hK hP hD hS 3 0 rfl rfl (vp_in_iff.mpr ⟨by omega, by omega⟩) dX6_put_54 (fun H locs hP hD hS => ?_)
      obtain ⟨f20, ef20⟩ : ∃ fz9 : Nat → Int32, fz9 = upd sc1 (i0 : Int32).toNatClampNeg v19 := ⟨_, rfl⟩
      have hP : va_P D vwCl [oX6 sh sca sla ssa, oAM sca cG 4 rr, oAI (rr 0) cI 40 sc0, oAI (rr 1) cI 40 f20, oAI (rr 2) cI 40 sc2, oAI (rr 3) cI 40 sc3, oAI sla cI 4 sl] H := by rw [ef20]; exact hP
      have hD : va_D A [oX6 sh sca sla ssa, oAM sca cG 4 rr, oAI (rr 0) cI 40 sc0, oAI (rr 1) cI 40 f20, oAI (rr 2) cI 40 sc2, oAI (rr 3) cI 40 sc3, oAI sla cI 4 sl] := by rw [ef20]; exact hD
      refine lv_goto (tgt := 67) hx hb dX6_put_55 (by decide) ?_
      refine W.widen (k := 0) (n := 0) (by decide) (by decide) ?_
      exact W.vret hx hb hr (fun t ht hW => ⟨⟨(), rfl, trivial, ⟨sc0, f20, sc2, sc3, (by rw [ef20, ← ev19]; exact hM), xB_of9 ht hW hP hK hD [0, 1, 2, 3, 4, 5, 6] (by decide +kernel) rfl⟩⟩, hS.F ht⟩) hS.2.2 dX6_put_67
    have hM : M_put sl k0 sc0 i0 v0 sc1 sc2 sc3 = (K_put_15 k0 sc0 sc1 sc2 i0 v0 sc3) := (show M_put sl k0 sc0 i0 v0 sc1 sc2 sc3 = (if k0.toInt = 1 then (K_put_14 sc0 sc1 i0 v0 sc2 sc3) else (K_put_15 k0 sc0 sc1 sc2 i0 v0 sc3)) from hM).trans (if_neg h18)
    by_cases h21 : k0.toInt = 2
    · skip
      have hM : M_put sl k0 sc0 i0 v0 sc1 sc2 sc3 = (K_put_16 sc0 sc1 sc2 i0 v0 sc3) := (show M_put sl k0 sc0 i0 v0 sc1 sc2 sc3 = (if k0.toInt = 2 then (K_put_16 sc0 sc1 sc2 i0 v0 sc3) else (K_put_17 sc0 sc1 sc2 sc3 i0 v0)) from hM).trans (if_pos h21)
      refine xaldA hx hb hK hP 1 3 rfl rfl (vp_in_iff.mpr ⟨by omega, by omega⟩) dX6_put_50 (v := .ref (rr 2)) (by rw [xclamp (j := 2) (rfl.trans h21)]; rfl) ?_
      refine lv_iload_n hx hb dX6_put_51 rfl (lv_at hl 2 rfl) ?_
      refine lv_iload_n hx hb dX6_put_52 rfl (lv_at hl 3 rfl) ?_
      obtain ⟨v22, ev22⟩ : ∃ z : Int32, (v0).toInt16.toInt32 = z := ⟨_, rfl⟩
      refine lv_i2s hx hb dX6_put_53 ev22 ?_
      refine va_iast hx hb hK hP hD hS 4 0 rfl rfl (vp_in_iff.mpr ⟨by omega, by omega⟩) dX6_put_54 (fun H locs hP hD hS => ?_)
      obtain ⟨f23, ef23⟩ : ∃ fz9 : Nat → Int32, fz9 = upd sc2 (i0 : Int32).toNatClampNeg v22 := ⟨_, rfl⟩
      have hP : va_P D vwCl [oX6 sh sca sla ssa, oAM sca cG 4 rr, oAI (rr 0) cI 40 sc0, oAI (rr 1) cI 40 sc1, oAI (rr 2) cI 40 f23, oAI (rr 3) cI 40 sc3, oAI sla cI 4 sl] H := by rw [ef23]; exact hP
      have hD : va_D A [oX6 sh sca sla ssa, oAM sca cG 4 rr, oAI (rr 0) cI 40 sc0, oAI (rr 1) cI 40 sc1, oAI (rr 2) cI 40 f23, oAI (rr 3) cI 40 sc3, oAI sla cI 4 sl] := by rw [ef23]; exact hD
      refine lv_goto (tgt := 67) hx hb dX6_put_55 (by decide) ?_
      refine W.widen (k := 0) (n := 0) (by decide) (by decide) ?_
      exact W.vret hx hb hr (fun t ht hW => ⟨⟨(), rfl, trivial, ⟨sc0, sc1, f23, sc3, (by rw [ef23, ← ev22]; exact hM), xB_of9 ht hW hP hK hD [0, 1, 2, 3, 4, 5, 6] (by decide +kernel) rfl⟩⟩, hS.F ht⟩) hS.2.2 dX6_put_67
    have hM : M_put sl k0 sc0 i0 v0 sc1 sc2 sc3 = (K_put_17 sc0 sc1 sc2 sc3 i0 v0) := (show M_put sl k0 sc0 i0 v0 sc1 sc2 sc3 = (if k0.toInt = 2 then (K_put_16 sc0 sc1 sc2 i0 v0 sc3) else (K_put_17 sc0 sc1 sc2 sc3 i0 v0)) from hM).trans (if_neg h21)
    have h24 : k0.toInt = 3 := by omega
    refine xaldA hx hb hK hP 1 3 rfl rfl (vp_in_iff.mpr ⟨by omega, by omega⟩) dX6_put_50 (v := .ref (rr 3)) (by rw [xclamp (j := 3) (rfl.trans h24)]; rfl) ?_
    refine lv_iload_n hx hb dX6_put_51 rfl (lv_at hl 2 rfl) ?_
    refine lv_iload_n hx hb dX6_put_52 rfl (lv_at hl 3 rfl) ?_
    obtain ⟨v25, ev25⟩ : ∃ z : Int32, (v0).toInt16.toInt32 = z := ⟨_, rfl⟩
    refine lv_i2s hx hb dX6_put_53 ev25 ?_
    refine va_iast hx hb hK hP hD hS 5 0 rfl rfl (vp_in_iff.mpr ⟨by omega, by omega⟩) dX6_put_54 (fun H locs hP hD hS => ?_)
    obtain ⟨f26, ef26⟩ : ∃ fz9 : Nat → Int32, fz9 = upd sc3 (i0 : Int32).toNatClampNeg v25 := ⟨_, rfl⟩
    have hP : va_P D vwCl [oX6 sh sca sla ssa, oAM sca cG 4 rr, oAI (rr 0) cI 40 sc0, oAI (rr 1) cI 40 sc1, oAI (rr 2) cI 40 sc2, oAI (rr 3) cI 40 f26, oAI sla cI 4 sl] H := by rw [ef26]; exact hP
    have hD : va_D A [oX6 sh sca sla ssa, oAM sca cG 4 rr, oAI (rr 0) cI 40 sc0, oAI (rr 1) cI 40 sc1, oAI (rr 2) cI 40 sc2, oAI (rr 3) cI 40 f26, oAI sla cI 4 sl] := by rw [ef26]; exact hD
    refine lv_goto (tgt := 67) hx hb dX6_put_55 (by decide) ?_
    refine W.widen (k := 0) (n := 0) (by decide) (by decide) ?_
    exact W.vret hx hb hr (fun t ht hW => ⟨⟨(), rfl, trivial, ⟨sc0, sc1, sc2, f26, (by rw [ef26, ← ev25]; exact hM), xB_of9 ht hW hP hK hD [0, 1, 2, 3, 4, 5, 6] (by decide +kernel) rfl⟩⟩, hS.F ht⟩) hS.2.2 dX6_put_67
  have hM : M_put sl k0 sc0 i0 v0 sc1 sc2 sc3 = (K_put_11 k0 sc0 i0 v0 sc1 sc2 sc3) := (show M_put sl k0 sc0 i0 v0 sc1 sc2 sc3 = (if (v1 : Int32).toInt = 1 then (K_put_10 k0 sc0 i0 v0 sc1 sc2 sc3) else (K_put_11 k0 sc0 i0 v0 sc1 sc2 sc3)) from hM).trans (if_neg i_2_1)
  refine lv_lookup (off := 52) (tgt := 58) hx hb dX6_put_6 (by decide) (by simp [Op.lookupswitch.offset, (show ¬ (0 : Int) = (v1 : Int32).toInt from fun q9 => i_2_0 q9.symm), (show ¬ (1 : Int) = (v1 : Int32).toInt from fun q9 => i_2_1 q9.symm)]) (by decide) ?_
  refine lv_aload_n hx hb dX6_put_58 rfl (lv_at hl 0 rfl) ?_
  refine va_get (D := D) (ci := 5) (v := .ref sca) (C := RX6) (T := TX6) (N := 3) hx hb hts (fun w h => tbC w (tbfX6 w h)) hown hK hP 0 rfl rfl 0 (by decide) (hts (.fieldLink RX6 13 "PowerRails$Sheets" "cells" "[[I") (tbC _ wd191)) (fun _ h9 => h9) rfl dX6_put_59 ?_
  refine lv_iload_n hx hb dX6_put_62 rfl (lv_at hl 1 rfl) ?_
  by_cases h27 : k0.toInt = 0
  · skip
    have hM : M_put sl k0 sc0 i0 v0 sc1 sc2 sc3 = (K_put_18 sc0 i0 v0 sc1 sc2 sc3) := (show M_put sl k0 sc0 i0 v0 sc1 sc2 sc3 = (if k0.toInt = 0 then (K_put_18 sc0 i0 v0 sc1 sc2 sc3) else (K_put_19 k0 sc0 sc1 i0 v0 sc2 sc3)) from hM).trans (if_pos h27)
    refine xaldA hx hb hK hP 1 3 rfl rfl (vp_in_iff.mpr ⟨by omega, by omega⟩) dX6_put_63 (v := .ref (rr 0)) (by rw [xclamp (j := 0) (rfl.trans h27)]; rfl) ?_
    refine lv_iload_n hx hb dX6_put_64 rfl (lv_at hl 2 rfl) ?_
    refine lv_iload_n hx hb dX6_put_65 rfl (lv_at hl 3 rfl) ?_
    refine va_iast hx hb hK hP hD hS 2 0 rfl rfl (vp_in_iff.mpr ⟨by omega, by omega⟩) dX6_put_66 (fun H locs hP hD hS => ?_)
    obtain ⟨f28, ef28⟩ : ∃ fz9 : Nat → Int32, fz9 = upd sc0 (i0 : Int32).toNatClampNeg v0 := ⟨_, rfl⟩
    have hP : va_P D vwCl [oX6 sh sca sla ssa, oAM sca cG 4 rr, oAI (rr 0) cI 40 f28, oAI (rr 1) cI 40 sc1, oAI (rr 2) cI 40 sc2, oAI (rr 3) cI 40 sc3, oAI sla cI 4 sl] H := by rw [ef28]; exact hP
    have hD : va_D A [oX6 sh sca sla ssa, oAM sca cG 4 rr, oAI (rr 0) cI 40 f28, oAI (rr 1) cI 40 sc1, oAI (rr 2) cI 40 sc2, oAI (rr 3) cI 40 sc3, oAI sla cI 4 sl] := by rw [ef28]; exact hD
    refine W.widen (k := 0) (n := 0) (by decide) (by decide) ?_
    exact W.vret hx hb hr (fun t ht hW => ⟨⟨(), rfl, trivial, ⟨f28, sc1, sc2, sc3, (by rw [ef28]; exact hM), xB_of9 ht hW hP hK hD [0, 1, 2, 3, 4, 5, 6] (by decide +kernel) rfl⟩⟩, hS.F ht⟩) hS.2.2 dX6_put_67
  have hM : M_put sl k0 sc0 i0 v0 sc1 sc2 sc3 = (K_put_19 k0 sc0 sc1 i0 v0 sc2 sc3) := (show M_put sl k0 sc0 i0 v0 sc1 sc2 sc3 = (if k0.toInt = 0 then (K_put_18 sc0 i0 v0 sc1 sc2 sc3) else (K_put_19 k0 sc0 sc1 i0 v0 sc2 sc3)) from hM).trans (if_neg h27)
  by_cases h29 : k0.toInt = 1
  · skip
    have hM : M_put sl k0 sc0 i0 v0 sc1 sc2 sc3 = (K_put_20 sc0 sc1 i0 v0 sc2 sc3) := (show M_put sl k0 sc0 i0 v0 sc1 sc2 sc3 = (if k0.toInt = 1 then (K_put_20 sc0 sc1 i0 v0 sc2 sc3) else (K_put_21 k0 sc0 sc1 sc2 i0 v0 sc3)) from hM).trans (if_pos h29)
    refine xaldA hx hb hK hP 1 3 rfl rfl (vp_in_iff.mpr ⟨by omega, by omega⟩) dX6_put_63 (v := .ref (rr 1)) (by rw [xclamp (j := 1) (rfl.trans h29)]; rfl) ?_
    refine lv_iload_n hx hb dX6_put_64 rfl (lv_at hl 2 rfl) ?_
    refine lv_iload_n hx hb dX6_put_65 rfl (lv_at hl 3 rfl) ?_
    refine va_iast hx hb hK hP hD hS 3 0 rfl rfl (vp_in_iff.mpr ⟨by omega, by omega⟩) dX6_put_66 (fun H locs hP hD hS => ?_)
    obtain ⟨f30, ef30⟩ : ∃ fz9 : Nat → Int32, fz9 = upd sc1 (i0 : Int32).toNatClampNeg v0 := ⟨_, rfl⟩
    have hP : va_P D vwCl [oX6 sh sca sla ssa, oAM sca cG 4 rr, oAI (rr 0) cI 40 sc0, oAI (rr 1) cI 40 f30, oAI (rr 2) cI 40 sc2, oAI (rr 3) cI 40 sc3, oAI sla cI 4 sl] H := by rw [ef30]; exact hP
    have hD : va_D A [oX6 sh sca sla ssa, oAM sca cG 4 rr, oAI (rr 0) cI 40 sc0, oAI (rr 1) cI 40 f30, oAI (rr 2) cI 40 sc2, oAI (rr 3) cI 40 sc3, oAI sla cI 4 sl] := by rw [ef30]; exact hD
    refine W.widen (k := 0) (n := 0) (by decide) (by decide) ?_
    exact W.vret hx hb hr (fun t ht hW => ⟨⟨(), rfl, trivial, ⟨sc0, f30, sc2, sc3, (by rw [ef30]; exact hM), xB_of9 ht hW hP hK hD [0, 1, 2, 3, 4, 5, 6] (by decide +kernel) rfl⟩⟩, hS.F ht⟩) hS.2.2 dX6_put_67
  have hM : M_put sl k0 sc0 i0 v0 sc1 sc2 sc3 = (K_put_21 k0 sc0 sc1 sc2 i0 v0 sc3) := (show M_put sl k0 sc0 i0 v0 sc1 sc2 sc3 = (if k0.toInt = 1 then (K_put_20 sc0 sc1 i0 v0 sc2 sc3) else (K_put_21 k0 sc0 sc1 sc2 i0 v0 sc3)) from hM).trans (if_neg h29)
  by_cases h31 : k0.toInt = 2
  · skip
    have hM : M_put sl k0 sc0 i0 v0 sc1 sc2 sc3 = (K_put_22 sc0 sc1 sc2 i0 v0 sc3) := (show M_put sl k0 sc0 i0 v0 sc1 sc2 sc3 = (if k0.toInt = 2 then (K_put_22 sc0 sc1 sc2 i0 v0 sc3) else (K_put_23 sc0 sc1 sc2 sc3 i0 v0)) from hM).trans (if_pos h31)
    refine xaldA hx hb hK hP 1 3 rfl rfl (vp_in_iff.mpr ⟨by omega, by omega⟩) dX6_put_63 (v := .ref (rr 2)) (by rw [xclamp (j := 2) (rfl.trans h31)]; rfl) ?_
    refine lv_iload_n hx hb dX6_put_64 rfl (lv_at hl 2 rfl) ?_
    refine lv_iload_n hx hb dX6_put_65 rfl (lv_at hl 3 rfl) ?_
    refine va_iast hx hb hK hP hD hS 4 0 rfl rfl (vp_in_iff.mpr ⟨by omega, by omega⟩) dX6_put_66 (fun H locs hP hD hS => ?_)
    obtain ⟨f32, ef32⟩ : ∃ fz9 : Nat → Int32, fz9 = upd sc2 (i0 : Int32).toNatClampNeg v0 := ⟨_, rfl⟩
    have hP : va_P D vwCl [oX6 sh sca sla ssa, oAM sca cG 4 rr, oAI (rr 0) cI 40 sc0, oAI (rr 1) cI 40 sc1, oAI (rr 2) cI 40 f32, oAI (rr 3) cI 40 sc3, oAI sla cI 4 sl] H := by rw [ef32]; exact hP
    have hD : va_D A [oX6 sh sca sla ssa, oAM sca cG 4 rr, oAI (rr 0) cI 40 sc0, oAI (rr 1) cI 40 sc1, oAI (rr 2) cI 40 f32, oAI (rr 3) cI 40 sc3, oAI sla cI 4 sl] := by rw [ef32]; exact hD
    refine W.widen (k := 0) (n := 0) (by decide) (by decide) ?_
    exact W.vret hx hb hr (fun t ht hW => ⟨⟨(), rfl, trivial, ⟨sc0, sc1, f32, sc3, (by rw [ef32]; exact hM), xB_of9 ht hW hP hK hD [0, 1, 2, 3, 4, 5, 6] (by decide +kernel) rfl⟩⟩, hS.F ht⟩) hS.2.2 dX6_put_67
  have hM : M_put sl k0 sc0 i0 v0 sc1 sc2 sc3 = (K_put_23 sc0 sc1 sc2 sc3 i0 v0) := (show M_put sl k0 sc0 i0 v0 sc1 sc2 sc3 = (if k0.toInt = 2 then (K_put_22 sc0 sc1 sc2 i0 v0 sc3) else (K_put_23 sc0 sc1 sc2 sc3 i0 v0)) from hM).trans (if_neg h31)
  have h33 : k0.toInt = 3 := by omega
  refine xaldA hx hb hK hP 1 3 rfl rfl (vp_in_iff.mpr ⟨by omega, by omega⟩) dX6_put_63 (v := .ref (rr 3)) (by rw [xclamp (j := 3) (rfl.trans h33)]; rfl) ?_
  refine lv_iload_n hx hb dX6_put_64 rfl (lv_at hl 2 rfl) ?_
  refine lv_iload_n hx hb dX6_put_65 rfl (lv_at hl 3 rfl) ?_
  refine va_iast hx hb hK hP hD hS 5 0 rfl rfl (vp_in_iff.mpr ⟨by omega, by omega⟩) dX6_put_66 (fun H locs hP hD hS => ?_)
  obtain ⟨f34, ef34⟩ : ∃ fz9 : Nat → Int32, fz9 = upd sc3 (i0 : Int32).toNatClampNeg v0 := ⟨_, rfl⟩
  have hP : va_P D vwCl [oX6 sh sca sla ssa, oAM sca cG 4 rr, oAI (rr 0) cI 40 sc0, oAI (rr 1) cI 40 sc1, oAI (rr 2) cI 40 sc2, oAI (rr 3) cI 40 f34, oAI sla cI 4 sl] H := by rw [ef34]; exact hP
  have hD : va_D A [oX6 sh sca sla ssa, oAM sca cG 4 rr, oAI (rr 0) cI 40 sc0, oAI (rr 1) cI 40 sc1, oAI (rr 2) cI 40 sc2, oAI (rr 3) cI 40 f34, oAI sla cI 4 sl] := by rw [ef34]; exact hD
  refine W.widen (k := 0) (n := 0) (by decide) (by decide) ?_
  exact W.vret hx hb hr (fun t ht hW => ⟨⟨(), rfl, trivial, ⟨sc0, sc1, sc2, f34, (by rw [ef34]; exact hM), xB_of9 ht hW hP hK hD [0, 1, 2, 3, 4, 5, 6] (by decide +kernel) rfl⟩⟩, hS.F ht⟩) hS.2.2 dX6_put_67
