def K_x_up_5 (r5 : Int32) : (Int32) := (r5)
def K_x_up_3 (rails : Int32) (v3 : Int32) (pt : Nat → Int64) : (Int32) := ((fun t9 => (K_x_up_5 t9)) (M_upAmong rails v3 pt))
def K_x_up_8 (v3 : Int32) (r6 : Int32) : (Int32) := ((v3 &&& (r6 ^^^ (-1 : Int32))))
def K_x_up_6 (v3 : Int32) (rails : Int32) (pt : Nat → Int64) : (Int32) := ((fun t9 => (K_x_up_8 v3 t9)) (M_upAmong rails v3 pt))
def K_x_up_11 (r1 : Int32) (r9 : Int32) : (Int32) := ((r1 &&& (r9 ^^^ (-1 : Int32))))
def K_x_up_9 (r1 : Int32) (rails : Int32) (pt : Nat → Int64) : (Int32) := ((fun t9 => (K_x_up_11 r1 t9)) (M_upAmong rails r1 pt))
def K_x_up_10  : (Int32) := ((-1 : Int32))
def K_x_up_7 (a0 : Int32) (r1 : Int32) (rails : Int32) (pt : Nat → Int64) : (Int32) := (if (a0 : Int32).toInt = 2 then (K_x_up_9 r1 rails pt) else (K_x_up_10))
def K_x_up_4 (a0 : Int32) (v3 : Int32) (rails : Int32) (pt : Nat → Int64) (r1 : Int32) : (Int32) := (if (a0 : Int32).toInt = 1 then (K_x_up_6 v3 rails pt) else (K_x_up_7 a0 r1 rails pt))
def K_x_up_2 (a0 : Int32) (rails : Int32) (r1 : Int32) (dead : Int32) (pt : Nat → Int64) : (Int32) := (if (a0 : Int32).toInt = 0 then (K_x_up_3 rails (r1 &&& (dead ^^^ (-1 : Int32))) pt) else (K_x_up_4 a0 (r1 &&& (dead ^^^ (-1 : Int32))) rails pt r1))
def K_x_up_1 (a0 : Int32) (rails : Int32) (dead : Int32) (pt : Nat → Int64) : (Int32) := ((fun t9 => (K_x_up_2 a0 rails t9 dead pt)) (M_allRails rails))
def M_x_up (a0 : Int32) (rails : Int32) (dead : Int32) (pt : Nat → Int64) : (Int32) := (K_x_up_1 a0 rails dead pt)
abbrev W_x_up (cI cJ cZ cG cH : ClassId) (xo : Nat) (a0 : Int32) (tp : Nat) (rd : Nat) (rn : Nat) (co : Nat) (wy : Nat) (sg : Nat) (sh : Nat) (pl : Nat) (sp : Nat) (lf : Int32) (pna : Nat) (pta : Nat) (rails : Int32) (limit : Int32) (retry : Int32) (behind : Int32) (pt : Nat → Int64) (hy : Nat) (rsa : Nat) (ria : Nat) (raa : Nat) (rta : Nat) (rga : Nat) (dead : Int32) (key : Int32) (tick : Int32) (held : Int32) (tries : Int32) (trips : Int32) (ldraw : Int32) (gdraw : Int32) : va_W := [oX10 xo tp rd rn co wy sg sh pl sp lf, oX3 pl pna pta rails limit retry behind, oAJ pta cJ 64 pt, oX5 rn hy rsa ria raa rta rga dead key tick held tries trips ldraw gdraw]
abbrev Q_x_up (D : va_G) (cI cJ cZ cG cH : ClassId) (xo : Nat) (a0 : Int32) (tp : Nat) (rd : Nat) (rn : Nat) (co : Nat) (wy : Nat) (sg : Nat) (sh : Nat) (pl : Nat) (sp : Nat) (lf : Int32) (pna : Nat) (pta : Nat) (rails : Int32) (limit : Int32) (retry : Int32) (behind : Int32) (pt : Nat → Int64) (hy : Nat) (rsa : Nat) (ria : Nat) (raa : Nat) (rta : Nat) (rga : Nat) (dead : Int32) (key : Int32) (tick : Int32) (held : Int32) (tries : Int32) (trips : Int32) (ldraw : Int32) (gdraw : Int32) (A : Nat → Prop) : Array Value → State → Outcome → State → Prop := va_Qi (fun (r : Int32) (u9 : Int32) => r = u9 ∧ ((-1) ≤ r.toInt ∧ r.toInt ≤ 255)) (fun u9 t => (M_x_up a0 rails dead pt = (u9)) ∧ xB D (tyL cI cJ cZ cG cH) [oX10 xo tp rd rn co wy sg sh pl sp lf, oX3 pl pna pta rails limit retry behind, oAJ pta cJ 64 pt, oX5 rn hy rsa ria raa rta rga dead key tick held tries trips ldraw gdraw] A t) A
abbrev rm_x_up : Room := { frames := 2, cells := 0, slots := 0, locals := 47 }
set_option maxRecDepth 100000 in
set_option maxHeartbeats 40000000 in
theorem c_x_up (l : Launch) (D : va_G) (cI cJ cZ cG cH : ClassId) (sz : Nat) (xo : Nat) (a0 : Int32) (tp : Nat) (rd : Nat) (rn : Nat) (co : Nat) (wy : Nat) (sg : Nat) (sh : Nat) (pl : Nat) (sp : Nat) (lf : Int32) (pna : Nat) (pta : Nat) (rails : Int32) (limit : Int32) (retry : Int32) (behind : Int32) (pt : Nat → Int64) (hy : Nat) (rsa : Nat) (ria : Nat) (raa : Nat) (rta : Nat) (rga : Nat) (dead : Int32) (key : Int32) (tick : Int32) (held : Int32) (tries : Int32) (trips : Int32) (ldraw : Int32) (gdraw : Int32) (h_rails : 0 ≤ rails.toInt ∧ rails.toInt ≤ 8) (h_key : 0 ≤ key.toInt ∧ key.toInt ≤ 1) : Met l yX10_up (wt yX10_up cX10_up 4 (some .int)) rm_x_up (xPc [.ref xo, .int a0] D (tyL cI cJ cZ cG cH) (W_x_up cI cJ cZ cG cH xo a0 tp rd rn co wy sg sh pl sp lf pna pta rails limit retry behind pt hy rsa ria raa rta rga dead key tick held tries trips ldraw gdraw) sz) (Q_x_up D cI cJ cZ cG cH xo a0 tp rd rn co wy sg sh pl sp lf pna pta rails limit retry behind pt hy rsa ria raa rta rga dead key tick held tries trips ldraw gdraw (va_A (W_x_up cI cJ cZ cG cH xo a0 tp rd rn co wy sg sh pl sp lf pna pta rails limit retry behind pt hy rsa ria raa rta rga dead key tick held tries trips ldraw gdraw) sz)) 0 0 (va_A (W_x_up cI cJ cZ cG cH xo a0 tp rd rn co wy sg sh pl sp lf pna pta rails limit retry behind pt hy rsa ria raa rta rga dead key tick held tries trips ldraw gdraw) sz) := by
  refine xMet (cc := cX10_up) (maxL := 4) (ret := (some .int)) (Qf := Q_x_up D cI cJ cZ cG cH xo a0 tp rd rn co wy sg sh pl sp lf pna pta rails limit retry behind pt hy rsa ria raa rta rga dead key tick held tries trips ldraw gdraw) (by decide) rfl (Nat.le_of_ble_eq_true rfl) ?_
  intro p e s m below meth c ls A hx hb hr hml hts hown hlocks hnm hsz hP hK hD hA hS hl
  have hown : s.vm.findClass RX10 = some m.cls := hown
  have hP : va_P D vwCl [oX10 xo tp rd rn co wy sg sh pl sp lf, oX3 pl pna pta rails limit retry behind, oAJ pta cJ 64 pt, oX5 rn hy rsa ria raa rta rga dead key tick held tries trips ldraw gdraw] s.heap := hP
  have hD : va_D A [oX10 xo tp rd rn co wy sg sh pl sp lf, oX3 pl pna pta rails limit retry behind, oAJ pta cJ 64 pt, oX5 rn hy rsa ria raa rta rga dead key tick held tries trips ldraw gdraw] := hD
  have hl : lv_has ls 4 [(0, .ref xo), (1, .int a0)] := hl
  have hM : M_x_up a0 rails dead pt = (K_x_up_1 a0 rails dead pt) := rfl
  refine lv_aload_n hx hb dX10_up_0 rfl (lv_at hl 0 rfl) ?_
  refine va_get (D := D) (ci := 9) (v := .ref pl) (C := RX10) (T := TX10) (N := 10) hx hb hts (fun w h => tbC w (tbfX10 w h)) hown hK hP 0 rfl rfl 7 (by decide) (hts (.fieldLink RX10 56 "PowerRails" "plan" "LPowerRails$Plan;") (tbC _ wd254)) (fun _ h9 => h9) rfl dX10_up_1 ?_
  obtain ⟨hPc, hDc, hFc, hC9⟩ := xpk (wc := W_allRails cI cJ cZ cG cH pl pna pta rails limit retry behind) hP hD hS hA [1] (by decide +kernel) rfl
  refine va_calli (va_runV (As := []) (rest := []) ⟨hx, hb, hml, hown, hts⟩ (c_allRails l D cI cJ cZ cG cH s.heap.size pl pna pta rails limit retry behind (xrng rfl (by omega) (by omega))) (cwV 0 hts (xGV tbC wd419 wd420 wd421 wd59 wd1012) rfl rfl rfl (by decide +kernel) ⟨Nat.le_of_ble_eq_true rfl, Nat.le_of_ble_eq_true rfl⟩) ⟨xPc_blind, va_recv hK hPc (ci := 2) (q0 := 0) rfl rfl, xPc_pre hPc hK hDc⟩ rfl rfl hl.1 rfl (lv_room (Nat.le_of_ble_eq_true rfl)) dX10_up_4 ⟨Nat.le_of_ble_eq_true rfl, Nat.le_of_ble_eq_true rfl⟩) hS (fun q _ h => hFc q h) hFc (fun r1 u t H1 locs ht hvm hw1 hB hz1 hk1 hS => ?_)
  obtain ⟨hru9, hw1⟩ := hw1
  subst hru9
  obtain ⟨hf1_0, hP1, hK1, hD1⟩ := hB
  rw [ht] at hP1
  obtain ⟨hP, hD⟩ : xPD D A [oX10 xo tp rd rn co wy sg sh pl sp lf, oAJ pta cJ 64 pt, oX5 rn hy rsa ria raa rta rga dead key tick held tries trips ldraw gdraw, oX3 pl pna pta rails limit retry behind] H1 := xjn 3 hP hD [1] [0, 2, 3] hC9 rfl (by decide +kernel) (by decide +kernel) hk1 hFc hP1 hD1
  generalize H1 = H at hP hS ⊢
  have hf1_0 : M_allRails rails = (r1) := hf1_0
  have hw1 : 0 ≤ r1.toInt ∧ r1.toInt ≤ 255 := hw1
  have h9M := congrArg (fun t9 => (K_x_up_2 a0 rails t9 dead pt)) hf1_0
  have hM : M_x_up a0 rails dead pt = (K_x_up_2 a0 rails r1 dead pt) := (show M_x_up a0 rails dead pt = ((fun t9 => (K_x_up_2 a0 rails t9 dead pt)) (M_allRails rails)) from hM).trans h9M
  refine lv_istore_n (lv' := [(2, .int r1), (0, .ref xo), (1, .int a0)]) hx hb dX10_up_7 rfl hl (by decide) rfl (fun ls hl => ?_)
  refine lv_iload_n hx hb dX10_up_8 rfl (lv_at hl 0 rfl) ?_
  refine lv_aload_n hx hb dX10_up_9 rfl (lv_at hl 1 rfl) ?_
  refine va_get (D := D) (ci := 9) (v := .ref rn) (C := RX10) (T := TX10) (N := 10) hx hb hts (fun w h => tbC w (tbfX10 w h)) hown hK hP 0 rfl rfl 2 (by decide) (hts (.fieldLink RX10 19 "PowerRails" "run" "LPowerRails$Run;") (tbC _ wd249)) (fun _ h9 => h9) rfl dX10_up_10 ?_
  refine va_get (D := D) (ci := 4) (v := .int dead) (C := RX5) (T := TX5) (N := 14) hx hb hts (fun w h => tbC w (tbfX5 w h)) hown hK hP 2 rfl rfl 6 (by decide) (hts (.fieldLink RX10 147 "PowerRails$Run" "dead" "I") (tbC _ wd118)) (fun _ h9 => h9) rfl dX10_up_13 ?_
  refine lv_iconst (v := (-1)) hx hb dX10_up_16 (by decide) ?_
  refine lv_ixor hx hb dX10_up_17 ?_
  refine lv_topi (fun v2 ev2 => ?_)
  refine lv_iand hx hb dX10_up_18 ?_
  refine lv_topi (fun v3 ev3 => ?_)
  have rv3 : 0 ≤ v3.toInt ∧ v3.toInt ≤ r1.toInt := xandL' ev3 (show (r1 : Int32).toInt = r1.toInt from rfl) (by omega)
  refine lv_istore_n (lv' := [(3, .int v3), (2, .int r1), (0, .ref xo), (1, .int a0)]) hx hb dX10_up_19 rfl hl (by decide) rfl (fun ls hl => ?_)
  refine lv_iload_n hx hb dX10_up_20 rfl (lv_at hl 3 rfl) ?_
  have i_4_e : (a0 : Int32).toInt = a0.toInt := rfl
  by_cases i_4_0 : (a0 : Int32).toInt = 0
  · skip
    have hM : M_x_up a0 rails dead pt = (K_x_up_3 rails v3 pt) := (show M_x_up a0 rails dead pt = (if (a0 : Int32).toInt = 0 then (K_x_up_3 rails v3 pt) else (K_x_up_4 a0 v3 rails pt r1)) from (by rw [ev3, ev2]; exact hM)).trans (if_pos i_4_0)
    refine lv_tableIn (off := 27) (tgt := 48) hx hb dX10_up_21 (by omega) (by omega) (by rw [i_4_0]; rfl) (by decide) ?_
    refine lv_aload_n hx hb dX10_up_48 rfl (lv_at hl 2 rfl) ?_
    refine va_get (D := D) (ci := 9) (v := .ref pl) (C := RX10) (T := TX10) (N := 10) hx hb hts (fun w h => tbC w (tbfX10 w h)) hown hK hP 0 rfl rfl 7 (by decide) (hts (.fieldLink RX10 56 "PowerRails" "plan" "LPowerRails$Plan;") (tbC _ wd254)) (fun _ h9 => h9) rfl dX10_up_49 ?_
    refine lv_iload_n hx hb dX10_up_52 rfl (lv_at hl 0 rfl) ?_
    obtain ⟨hPc, hDc, hFc, hC9⟩ := xpk (wc := W_upAmong cI cJ cZ cG cH pl v3 pna pta rails limit retry behind pt) hP hD hS hA [3, 1] (by decide +kernel) rfl
    refine va_calli (va_runV (As := [.int v3]) (rest := []) ⟨hx, hb, hml, hown, hts⟩ (c_upAmong l D cI cJ cZ cG cH H.size pl v3 pna pta rails limit retry behind pt (xrng rfl (by omega) (by omega))) (cwV 1 hts (xGV tbC wd507 wd508 wd509 wd59 wd1041) rfl rfl rfl (by decide +kernel) ⟨Nat.le_of_ble_eq_true rfl, Nat.le_of_ble_eq_true rfl⟩) ⟨xPc_blind, va_recv hK hPc (ci := 2) (q0 := 0) rfl rfl, xPc_pre hPc hK hDc⟩ rfl rfl hl.1 rfl (lv_room (Nat.le_of_ble_eq_true rfl)) dX10_up_53 ⟨Nat.le_of_ble_eq_true rfl, Nat.le_of_ble_eq_true rfl⟩) hS (fun q _ h => hFc q h) hFc (fun r5 u t H1 locs ht hvm hw5 hB hz1 hk1 hS => ?_)
    obtain ⟨hru9, hw5⟩ := hw5
    subst hru9
    obtain ⟨hf5_0, hP1, hK1, hD1⟩ := hB
    rw [ht] at hP1
    obtain ⟨hP, hD⟩ : xPD D A [oX10 xo tp rd rn co wy sg sh pl sp lf, oX5 rn hy rsa ria raa rta rga dead key tick held tries trips ldraw gdraw, oX3 pl pna pta rails limit retry behind, oAJ pta cJ 64 pt] H1 := xjn 2 hP hD [3, 1] [0, 2] hC9 rfl (by decide +kernel) (by decide +kernel) hk1 hFc hP1 hD1
    generalize H1 = H at hP hS ⊢
    have hf5_0 : M_upAmong rails v3 pt = (r5) := hf5_0
    have hw5 : 0 ≤ r5.toInt ∧ r5.toInt ≤ 255 := hw5
    have h9M := congrArg (fun t9 => (K_x_up_5 t9)) hf5_0
    have hM : M_x_up a0 rails dead pt = (K_x_up_5 r5) := (show M_x_up a0 rails dead pt = ((fun t9 => (K_x_up_5 t9)) (M_upAmong rails v3 pt)) from hM).trans h9M
    refine W.widen (k := 0) (n := 0) (by decide) (by decide) ?_
    exact W.iret (v := r5) hx hb hr (fun t ht hW => ⟨⟨r5, r5, rfl, ⟨rfl, (xrng rfl (by omega) (by omega))⟩, ⟨hM, xB_of9 ht hW hP hK hD [0, 2, 3, 1] (by decide +kernel) rfl⟩⟩, hS.F ht⟩) hS.2.2 dX10_up_56
  have hM : M_x_up a0 rails dead pt = (K_x_up_4 a0 v3 rails pt r1) := (show M_x_up a0 rails dead pt = (if (a0 : Int32).toInt = 0 then (K_x_up_3 rails v3 pt) else (K_x_up_4 a0 v3 rails pt r1)) from (by rw [ev3, ev2]; exact hM)).trans (if_neg i_4_0)
  by_cases i_4_1 : (a0 : Int32).toInt = 1
  · skip
    have hM : M_x_up a0 rails dead pt = (K_x_up_6 v3 rails pt) := (show M_x_up a0 rails dead pt = (if (a0 : Int32).toInt = 1 then (K_x_up_6 v3 rails pt) else (K_x_up_7 a0 r1 rails pt)) from hM).trans (if_pos i_4_1)
    refine lv_tableIn (off := 36) (tgt := 57) hx hb dX10_up_21 (by omega) (by omega) (by rw [i_4_1]; rfl) (by decide) ?_
    refine lv_iload_n hx hb dX10_up_57 rfl (lv_at hl 0 rfl) ?_
    refine lv_aload_n hx hb dX10_up_58 rfl (lv_at hl 2 rfl) ?_
    refine va_get (D := D) (ci := 9) (v := .ref pl) (C := RX10) (T := TX10) (N := 10) hx hb hts (fun w h => tbC w (tbfX10 w h)) hown hK hP 0 rfl rfl 7 (by decide) (hts (.fieldLink RX10 56 "PowerRails" "plan" "LPowerRails$Plan;") (tbC _ wd254)) (fun _ h9 => h9) rfl dX10_up_59 ?_
    refine lv_iload_n hx hb dX10_up_62 rfl (lv_at hl 0 rfl) ?_
    obtain ⟨hPc, hDc, hFc, hC9⟩ := xpk (wc := W_upAmong cI cJ cZ cG cH pl v3 pna pta rails limit retry behind pt) hP hD hS hA [3, 1] (by decide +kernel) rfl
    refine va_calli (va_runV (As := [.int v3]) (rest := [.int v3]) ⟨hx, hb, hml, hown, hts⟩ (c_upAmong l D cI cJ cZ cG cH H.size pl v3 pna pta rails limit retry behind pt (xrng rfl (by omega) (by omega))) (cwV 1 hts (xGV tbC wd507 wd508 wd509 wd59 wd1041) rfl rfl rfl (by decide +kernel) ⟨Nat.le_of_ble_eq_true rfl, Nat.le_of_ble_eq_true rfl⟩) ⟨xPc_blind, va_recv hK hPc (ci := 2) (q0 := 0) rfl rfl, xPc_pre hPc hK hDc⟩ rfl rfl hl.1 rfl (lv_room (Nat.le_of_ble_eq_true rfl)) dX10_up_63 ⟨Nat.le_of_ble_eq_true rfl, Nat.le_of_ble_eq_true rfl⟩) hS (fun q _ h => hFc q h) hFc (fun r6 u t H1 locs ht hvm hw6 hB hz1 hk1 hS => ?_)
    obtain ⟨hru9, hw6⟩ := hw6
    subst hru9
    obtain ⟨hf6_0, hP1, hK1, hD1⟩ := hB
    rw [ht] at hP1
    obtain ⟨hP, hD⟩ : xPD D A [oX10 xo tp rd rn co wy sg sh pl sp lf, oX5 rn hy rsa ria raa rta rga dead key tick held tries trips ldraw gdraw, oX3 pl pna pta rails limit retry behind, oAJ pta cJ 64 pt] H1 := xjn 2 hP hD [3, 1] [0, 2] hC9 rfl (by decide +kernel) (by decide +kernel) hk1 hFc hP1 hD1
    generalize H1 = H at hP hS ⊢
    have hf6_0 : M_upAmong rails v3 pt = (r6) := hf6_0
    have hw6 : 0 ≤ r6.toInt ∧ r6.toInt ≤ 255 := hw6
    have h9M := congrArg (fun t9 => (K_x_up_8 v3 t9)) hf6_0
    have hM : M_x_up a0 rails dead pt = (K_x_up_8 v3 r6) := (show M_x_up a0 rails dead pt = ((fun t9 => (K_x_up_8 v3 t9)) (M_upAmong rails v3 pt)) from hM).trans h9M
    refine lv_iconst (v := (-1)) hx hb dX10_up_66 (by decide) ?_
    refine lv_ixor hx hb dX10_up_67 ?_
    refine lv_topi (fun v7 ev7 => ?_)
    refine lv_iand hx hb dX10_up_68 ?_
    refine lv_topi (fun v8 ev8 => ?_)
    have rv8 : 0 ≤ v8.toInt ∧ v8.toInt ≤ v3.toInt := xandL' ev8 (show (v3 : Int32).toInt = v3.toInt from rfl) (by omega)
    refine W.widen (k := 0) (n := 0) (by decide) (by decide) ?_
    exact W.iret (v := v8) hx hb hr (fun t ht hW => ⟨⟨v8, v8, rfl, ⟨rfl, (xrng rfl (by omega) (by omega))⟩, ⟨(by rw [ev8, ev7]; exact hM), xB_of9 ht hW hP hK hD [0, 2, 3, 1] (by decide +kernel) rfl⟩⟩, hS.F ht⟩) hS.2.2 dX10_up_69
  have hM : M_x_up a0 rails dead pt = (K_x_up_7 a0 r1 rails pt) := (show M_x_up a0 rails dead pt = (if (a0 : Int32).toInt = 1 then (K_x_up_6 v3 rails pt) else (K_x_up_7 a0 r1 rails pt)) from hM).trans (if_neg i_4_1)
  by_cases i_4_2 : (a0 : Int32).toInt = 2
  · skip
    have hM : M_x_up a0 rails dead pt = (K_x_up_9 r1 rails pt) := (show M_x_up a0 rails dead pt = (if (a0 : Int32).toInt = 2 then (K_x_up_9 r1 rails pt) else (K_x_up_10)) from hM).trans (if_pos i_4_2)
    refine lv_tableIn (off := 49) (tgt := 70) hx hb dX10_up_21 (by omega) (by omega) (by rw [i_4_2]; rfl) (by decide) ?_
    refine lv_iload_n hx hb dX10_up_70 rfl (lv_at hl 1 rfl) ?_
    refine lv_aload_n hx hb dX10_up_71 rfl (lv_at hl 2 rfl) ?_
    refine va_get (D := D) (ci := 9) (v := .ref pl) (C := RX10) (T := TX10) (N := 10) hx hb hts (fun w h => tbC w (tbfX10 w h)) hown hK hP 0 rfl rfl 7 (by decide) (hts (.fieldLink RX10 56 "PowerRails" "plan" "LPowerRails$Plan;") (tbC _ wd254)) (fun _ h9 => h9) rfl dX10_up_72 ?_
    refine lv_iload_n hx hb dX10_up_75 rfl (lv_at hl 1 rfl) ?_
    obtain ⟨hPc, hDc, hFc, hC9⟩ := xpk (wc := W_upAmong cI cJ cZ cG cH pl r1 pna pta rails limit retry behind pt) hP hD hS hA [3, 1] (by decide +kernel) rfl
    refine va_calli (va_runV (As := [.int r1]) (rest := [.int r1]) ⟨hx, hb, hml, hown, hts⟩ (c_upAmong l D cI cJ cZ cG cH H.size pl r1 pna pta rails limit retry behind pt (xrng rfl (by omega) (by omega))) (cwV 1 hts (xGV tbC wd507 wd508 wd509 wd59 wd1041) rfl rfl rfl (by decide +kernel) ⟨Nat.le_of_ble_eq_true rfl, Nat.le_of_ble_eq_true rfl⟩) ⟨xPc_blind, va_recv hK hPc (ci := 2) (q0 := 0) rfl rfl, xPc_pre hPc hK hDc⟩ rfl rfl hl.1 rfl (lv_room (Nat.le_of_ble_eq_true rfl)) dX10_up_76 ⟨Nat.le_of_ble_eq_true rfl, Nat.le_of_ble_eq_true rfl⟩) hS (fun q _ h => hFc q h) hFc (fun r9 u t H1 locs ht hvm hw9 hB hz1 hk1 hS => ?_)
    obtain ⟨hru9, hw9⟩ := hw9
    subst hru9
    obtain ⟨hf9_0, hP1, hK1, hD1⟩ := hB
    rw [ht] at hP1
    obtain ⟨hP, hD⟩ : xPD D A [oX10 xo tp rd rn co wy sg sh pl sp lf, oX5 rn hy rsa ria raa rta rga dead key tick held tries trips ldraw gdraw, oX3 pl pna pta rails limit retry behind, oAJ pta cJ 64 pt] H1 := xjn 2 hP hD [3, 1] [0, 2] hC9 rfl (by decide +kernel) (by decide +kernel) hk1 hFc hP1 hD1
    generalize H1 = H at hP hS ⊢
    have hf9_0 : M_upAmong rails r1 pt = (r9) := hf9_0
    have hw9 : 0 ≤ r9.toInt ∧ r9.toInt ≤ 255 := hw9
    have h9M := congrArg (fun t9 => (K_x_up_11 r1 t9)) hf9_0
    have hM : M_x_up a0 rails dead pt = (K_x_up_11 r1 r9) := (show M_x_up a0 rails dead pt = ((fun t9 => (K_x_up_11 r1 t9)) (M_upAmong rails r1 pt)) from hM).trans h9M
    refine lv_iconst (v := (-1)) hx hb dX10_up_79 (by decide) ?_
    refine lv_ixor hx hb dX10_up_80 ?_
    refine lv_topi (fun v10 ev10 => ?_)
    refine lv_iand hx hb dX10_up_81 ?_
    refine lv_topi (fun v11 ev11 => ?_)
    have rv11 : 0 ≤ v11.toInt ∧ v11.toInt ≤ r1.toInt := xandL' ev11 (show (r1 : Int32).toInt = r1.toInt from rfl) (by omega)
    refine W.widen (k := 0) (n := 0) (by decide) (by decide) ?_
    exact W.iret (v := v11) hx hb hr (fun t ht hW => ⟨⟨v11, v11, rfl, ⟨rfl, (xrng rfl (by omega) (by omega))⟩, ⟨(by rw [ev11, ev10]; exact hM), xB_of9 ht hW hP hK hD [0, 2, 3, 1] (by decide +kernel) rfl⟩⟩, hS.F ht⟩) hS.2.2 dX10_up_82
  have hM : M_x_up a0 rails dead pt = (K_x_up_10) := (show M_x_up a0 rails dead pt = (if (a0 : Int32).toInt = 2 then (K_x_up_9 r1 rails pt) else (K_x_up_10)) from hM).trans (if_neg i_4_2)
  refine lv_tableOut (tgt := 83) hx hb dX10_up_21 (by omega) (by decide) ?_
  refine lv_iconst (v := (-1)) hx hb dX10_up_83 (by decide) ?_
  refine W.widen (k := 0) (n := 0) (by decide) (by decide) ?_
  exact W.iret (v := (-1)) hx hb hr (fun t ht hW => ⟨⟨(-1), (-1), rfl, ⟨rfl, ⟨by decide, by decide⟩⟩, ⟨hM, xB_of9 ht hW hP hK hD [0, 3, 1, 2] (by decide +kernel) rfl⟩⟩, hS.F ht⟩) hS.2.2 dX10_up_84
def K_x_when_4 (cup : Int32) (clast : Int32) (fw : Nat → Int32) (ft : Nat → Int32) (fr : Nat → Int32) (fg : Nat → Int32) : (Int32) × (Int32) × (Int32) × (Nat → Int32) × (Nat → Int32) × (Nat → Int32) × (Nat → Int32) := ((-1 : Int32), cup, clast, fw, ft, fr, fg)
def K_x_when_27 (cup_32 : Int32) (clast_33 : Int32) (fw_34 : Nat → Int32) (ft_35 : Nat → Int32) (fr_36 : Nat → Int32) (fg_37 : Nat → Int32) : (Int32) × (Int32) × (Int32) × (Nat → Int32) × (Nat → Int32) × (Nat → Int32) × (Nat → Int32) := ((-4 : Int32), cup_32, clast_33, fw_34, ft_35, fr_36, fg_37)
def K_x_when_28 (fg_37 : Nat → Int32) (a0 : Int32) (cup_32 : Int32) (clast_33 : Int32) (fw_34 : Nat → Int32) (ft_35 : Nat → Int32) (fr_36 : Nat → Int32) : (Int32) × (Int32) × (Int32) × (Nat → Int32) × (Nat → Int32) × (Nat → Int32) × (Nat → Int32) := ((fg_37 a0.toNatClampNeg), cup_32, clast_33, fw_34, ft_35, fr_36, fg_37)
def K_x_when_26 (r38 : Int32) (cup_32 : Int32) (clast_33 : Int32) (fw_34 : Nat → Int32) (ft_35 : Nat → Int32) (fr_36 : Nat → Int32) (fg_37 : Nat → Int32) (a0 : Int32) : (Int32) × (Int32) × (Int32) × (Nat → Int32) × (Nat → Int32) × (Nat → Int32) × (Nat → Int32) := (if r38.toInt = 0 then (K_x_when_27 cup_32 clast_33 fw_34 ft_35 fr_36 fg_37) else (K_x_when_28 fg_37 a0 cup_32 clast_33 fw_34 ft_35 fr_36))
def K_x_when_25 (cup_32 : Int32) (clast_33 : Int32) (fw_34 : Nat → Int32) (ft_35 : Nat → Int32) (fr_36 : Nat → Int32) (fg_37 : Nat → Int32) (a0 : Int32) : (Int32) × (Int32) × (Int32) × (Nat → Int32) × (Nat → Int32) × (Nat → Int32) × (Nat → Int32) := ((fun t9 => (K_x_when_26 t9 cup_32 clast_33 fw_34 ft_35 fr_36 fg_37 a0)) (M_isUp cup_32 a0))
def K_x_when_9 (a0 : Int32) (rails : Int32) (pt : Nat → Int64) (fr : Nat → Int32) (fg : Nat → Int32) (dead : Int32) (rt : Nat → Int32) (ft : Nat → Int32) (pn : Nat → Int32) (fw : Nat → Int32) : (Int32) × (Int32) × (Int32) × (Nat → Int32) × (Nat → Int32) × (Nat → Int32) × (Nat → Int32) := ((fun t9 => (K_x_when_25 t9.1 t9.2.1 t9.2.2.1 t9.2.2.2.1 t9.2.2.2.2.1 t9.2.2.2.2.2 a0)) (M_followTimes rails pt fr fg dead rt ft pn fw))
def K_x_when_23 (cup_24 : Int32) (clast_25 : Int32) (fw_7 : Nat → Int32) (ft_21 : Nat → Int32) (fr_26 : Nat → Int32) (fg_27 : Nat → Int32) : (Int32) × (Int32) × (Int32) × (Nat → Int32) × (Nat → Int32) × (Nat → Int32) × (Nat → Int32) := ((-4 : Int32), cup_24, clast_25, fw_7, ft_21, fr_26, fg_27)
def K_x_when_24 (fg_27 : Nat → Int32) (a0 : Int32) (cup_24 : Int32) (clast_25 : Int32) (fw_7 : Nat → Int32) (ft_21 : Nat → Int32) (fr_26 : Nat → Int32) : (Int32) × (Int32) × (Int32) × (Nat → Int32) × (Nat → Int32) × (Nat → Int32) × (Nat → Int32) := ((fg_27 a0.toNatClampNeg), cup_24, clast_25, fw_7, ft_21, fr_26, fg_27)
def K_x_when_22 (r28 : Int32) (cup_24 : Int32) (clast_25 : Int32) (fw_7 : Nat → Int32) (ft_21 : Nat → Int32) (fr_26 : Nat → Int32) (fg_27 : Nat → Int32) (a0 : Int32) : (Int32) × (Int32) × (Int32) × (Nat → Int32) × (Nat → Int32) × (Nat → Int32) × (Nat → Int32) := (if r28.toInt = 0 then (K_x_when_23 cup_24 clast_25 fw_7 ft_21 fr_26 fg_27) else (K_x_when_24 fg_27 a0 cup_24 clast_25 fw_7 ft_21 fr_26))
def K_x_when_21 (cup_24 : Int32) (clast_25 : Int32) (fw_7 : Nat → Int32) (ft_21 : Nat → Int32) (fr_26 : Nat → Int32) (fg_27 : Nat → Int32) (a0 : Int32) : (Int32) × (Int32) × (Int32) × (Nat → Int32) × (Nat → Int32) × (Nat → Int32) × (Nat → Int32) := ((fun t9 => (K_x_when_22 t9 cup_24 clast_25 fw_7 ft_21 fr_26 fg_27 a0)) (M_isUp cup_24 a0))
def K_x_when_20 (fw_7 : Nat → Int32) (ft_21 : Nat → Int32) (a0 : Int32) (rails : Int32) (r22 : Int32) (pt : Nat → Int64) (fr : Nat → Int32) (fg : Nat → Int32) : (Int32) × (Int32) × (Int32) × (Nat → Int32) × (Nat → Int32) × (Nat → Int32) × (Nat → Int32) := ((fun t9 => (K_x_when_21 t9.1 t9.2.1 fw_7 ft_21 t9.2.2.1 t9.2.2.2 a0)) (M_follow rails r22 fw_7 ft_21 pt fr fg))
def K_x_when_19 (fw_7 : Nat → Int32) (ft_21 : Nat → Int32) (a0 : Int32) (rails : Int32) (pt : Nat → Int64) (fr : Nat → Int32) (fg : Nat → Int32) (dead : Int32) : (Int32) × (Int32) × (Int32) × (Nat → Int32) × (Nat → Int32) × (Nat → Int32) × (Nat → Int32) := ((fun t9 => (K_x_when_20 fw_7 ft_21 a0 rails t9 pt fr fg)) (M_alive dead rails))
def K_x_when_12 (fw_7 : Nat → Int32) (a0 : Int32) (rails : Int32) (pt : Nat → Int64) (fr : Nat → Int32) (fg : Nat → Int32) (dead : Int32) (pn : Nat → Int32) (ft : Nat → Int32) : (Int32) × (Int32) × (Int32) × (Nat → Int32) × (Nat → Int32) × (Nat → Int32) × (Nat → Int32) := ((fun t9 => (K_x_when_19 fw_7 t9 a0 rails pt fr fg dead)) (M_cSetTakes rails pn (0 : Int32) ft))
def K_x_when_17 (cup_13 : Int32) (clast_14 : Int32) (fw_7 : Nat → Int32) (ft_10 : Nat → Int32) (fr_15 : Nat → Int32) (fg_16 : Nat → Int32) : (Int32) × (Int32) × (Int32) × (Nat → Int32) × (Nat → Int32) × (Nat → Int32) × (Nat → Int32) := ((-4 : Int32), cup_13, clast_14, fw_7, ft_10, fr_15, fg_16)
def K_x_when_18 (fg_16 : Nat → Int32) (a0 : Int32) (cup_13 : Int32) (clast_14 : Int32) (fw_7 : Nat → Int32) (ft_10 : Nat → Int32) (fr_15 : Nat → Int32) : (Int32) × (Int32) × (Int32) × (Nat → Int32) × (Nat → Int32) × (Nat → Int32) × (Nat → Int32) := ((fg_16 a0.toNatClampNeg), cup_13, clast_14, fw_7, ft_10, fr_15, fg_16)
def K_x_when_16 (r17 : Int32) (cup_13 : Int32) (clast_14 : Int32) (fw_7 : Nat → Int32) (ft_10 : Nat → Int32) (fr_15 : Nat → Int32) (fg_16 : Nat → Int32) (a0 : Int32) : (Int32) × (Int32) × (Int32) × (Nat → Int32) × (Nat → Int32) × (Nat → Int32) × (Nat → Int32) := (if r17.toInt = 0 then (K_x_when_17 cup_13 clast_14 fw_7 ft_10 fr_15 fg_16) else (K_x_when_18 fg_16 a0 cup_13 clast_14 fw_7 ft_10 fr_15))
def K_x_when_15 (cup_13 : Int32) (clast_14 : Int32) (fw_7 : Nat → Int32) (ft_10 : Nat → Int32) (fr_15 : Nat → Int32) (fg_16 : Nat → Int32) (a0 : Int32) : (Int32) × (Int32) × (Int32) × (Nat → Int32) × (Nat → Int32) × (Nat → Int32) × (Nat → Int32) := ((fun t9 => (K_x_when_16 t9 cup_13 clast_14 fw_7 ft_10 fr_15 fg_16 a0)) (M_isUp cup_13 a0))
def K_x_when_14 (fw_7 : Nat → Int32) (ft_10 : Nat → Int32) (a0 : Int32) (rails : Int32) (r11 : Int32) (pt : Nat → Int64) (fr : Nat → Int32) (fg : Nat → Int32) : (Int32) × (Int32) × (Int32) × (Nat → Int32) × (Nat → Int32) × (Nat → Int32) × (Nat → Int32) := ((fun t9 => (K_x_when_15 t9.1 t9.2.1 fw_7 ft_10 t9.2.2.1 t9.2.2.2 a0)) (M_follow rails r11 fw_7 ft_10 pt fr fg))
def K_x_when_13 (fw_7 : Nat → Int32) (ft_10 : Nat → Int32) (a0 : Int32) (rails : Int32) (pt : Nat → Int64) (fr : Nat → Int32) (fg : Nat → Int32) (dead : Int32) : (Int32) × (Int32) × (Int32) × (Nat → Int32) × (Nat → Int32) × (Nat → Int32) × (Nat → Int32) := ((fun t9 => (K_x_when_14 fw_7 ft_10 a0 rails t9 pt fr fg)) (M_alive dead rails))
def K_x_when_11 (fw_7 : Nat → Int32) (a0 : Int32) (rails : Int32) (pt : Nat → Int64) (fr : Nat → Int32) (fg : Nat → Int32) (dead : Int32) (pn : Nat → Int32) (ft : Nat → Int32) : (Int32) × (Int32) × (Int32) × (Nat → Int32) × (Nat → Int32) × (Nat → Int32) × (Nat → Int32) := ((fun t9 => (K_x_when_13 fw_7 t9 a0 rails pt fr fg dead)) (M_cSetTakes rails pn (1 : Int32) ft))
def K_x_when_10 (a1 : Int32) (fw_7 : Nat → Int32) (a0 : Int32) (rails : Int32) (pt : Nat → Int64) (fr : Nat → Int32) (fg : Nat → Int32) (dead : Int32) (pn : Nat → Int32) (ft : Nat → Int32) : (Int32) × (Int32) × (Int32) × (Nat → Int32) × (Nat → Int32) × (Nat → Int32) × (Nat → Int32) := (if a1.toInt = 1 then (K_x_when_12 fw_7 a0 rails pt fr fg dead pn ft) else (K_x_when_11 fw_7 a0 rails pt fr fg dead pn ft))
def K_x_when_8 (a1 : Int32) (a0 : Int32) (rails : Int32) (pt : Nat → Int64) (fr : Nat → Int32) (fg : Nat → Int32) (dead : Int32) (pn : Nat → Int32) (ft : Nat → Int32) (fw : Nat → Int32) : (Int32) × (Int32) × (Int32) × (Nat → Int32) × (Nat → Int32) × (Nat → Int32) × (Nat → Int32) := ((fun t9 => (K_x_when_10 a1 t9 a0 rails pt fr fg dead pn ft)) (M_cSetWaits rails pn fw))
def K_x_when_6 (a1 : Int32) (a0 : Int32) (rails : Int32) (pt : Nat → Int64) (fr : Nat → Int32) (fg : Nat → Int32) (dead : Int32) (rt : Nat → Int32) (ft : Nat → Int32) (pn : Nat → Int32) (fw : Nat → Int32) : (Int32) × (Int32) × (Int32) × (Nat → Int32) × (Nat → Int32) × (Nat → Int32) × (Nat → Int32) := (if a1.toInt = 0 then (K_x_when_9 a0 rails pt fr fg dead rt ft pn fw) else (K_x_when_8 a1 a0 rails pt fr fg dead pn ft fw))
def K_x_when_7 (cup : Int32) (clast : Int32) (fw : Nat → Int32) (ft : Nat → Int32) (fr : Nat → Int32) (fg : Nat → Int32) : (Int32) × (Int32) × (Int32) × (Nat → Int32) × (Nat → Int32) × (Nat → Int32) × (Nat → Int32) := ((-1 : Int32), cup, clast, fw, ft, fr, fg)
def K_x_when_5 (a1 : Int32) (a0 : Int32) (rails : Int32) (pt : Nat → Int64) (fr : Nat → Int32) (fg : Nat → Int32) (dead : Int32) (rt : Nat → Int32) (ft : Nat → Int32) (pn : Nat → Int32) (fw : Nat → Int32) (cup : Int32) (clast : Int32) : (Int32) × (Int32) × (Int32) × (Nat → Int32) × (Nat → Int32) × (Nat → Int32) × (Nat → Int32) := (if a1.toInt ≤ 2 then (K_x_when_6 a1 a0 rails pt fr fg dead rt ft pn fw) else (K_x_when_7 cup clast fw ft fr fg))
def K_x_when_3 (a1 : Int32) (cup : Int32) (clast : Int32) (fw : Nat → Int32) (ft : Nat → Int32) (fr : Nat → Int32) (fg : Nat → Int32) (a0 : Int32) (rails : Int32) (pt : Nat → Int64) (dead : Int32) (rt : Nat → Int32) (pn : Nat → Int32) : (Int32) × (Int32) × (Int32) × (Nat → Int32) × (Nat → Int32) × (Nat → Int32) × (Nat → Int32) := (if a1.toInt < 0 then (K_x_when_4 cup clast fw ft fr fg) else (K_x_when_5 a1 a0 rails pt fr fg dead rt ft pn fw cup clast))
def K_x_when_2 (cup : Int32) (clast : Int32) (fw : Nat → Int32) (ft : Nat → Int32) (fr : Nat → Int32) (fg : Nat → Int32) : (Int32) × (Int32) × (Int32) × (Nat → Int32) × (Nat → Int32) × (Nat → Int32) × (Nat → Int32) := ((-1 : Int32), cup, clast, fw, ft, fr, fg)
def K_x_when_1 (a0 : Int32) (rails : Int32) (a1 : Int32) (cup : Int32) (clast : Int32) (fw : Nat → Int32) (ft : Nat → Int32) (fr : Nat → Int32) (fg : Nat → Int32) (pt : Nat → Int64) (dead : Int32) (rt : Nat → Int32) (pn : Nat → Int32) : (Int32) × (Int32) × (Int32) × (Nat → Int32) × (Nat → Int32) × (Nat → Int32) × (Nat → Int32) := (if 0 ≤ a0.toInt ∧ a0.toInt < rails.toInt then (K_x_when_3 a1 cup clast fw ft fr fg a0 rails pt dead rt pn) else (K_x_when_2 cup clast fw ft fr fg))
def M_x_when (a0 : Int32) (rails : Int32) (a1 : Int32) (cup : Int32) (clast : Int32) (fw : Nat → Int32) (ft : Nat → Int32) (fr : Nat → Int32) (fg : Nat → Int32) (pt : Nat → Int64) (dead : Int32) (rt : Nat → Int32) (pn : Nat → Int32) : (Int32) × (Int32) × (Int32) × (Nat → Int32) × (Nat → Int32) × (Nat → Int32) × (Nat → Int32) := (K_x_when_1 a0 rails a1 cup clast fw ft fr fg pt dead rt pn)
abbrev W_x_when (cI cJ cZ cG cH : ClassId) (xo : Nat) (a0 : Int32) (a1 : Int32) (tp : Nat) (rd : Nat) (rn : Nat) (co : Nat) (wy : Nat) (sg : Nat) (sh : Nat) (pl : Nat) (sp : Nat) (lf : Int32) (fwa : Nat) (fta : Nat) (fra : Nat) (fga : Nat) (cxa : Nat) (cup : Int32) (clast : Int32) (cpeak : Int32) (cptick : Int32) (fw : Nat → Int32) (ft : Nat → Int32) (fr : Nat → Int32) (fg : Nat → Int32) (pna : Nat) (pta : Nat) (rails : Int32) (limit : Int32) (retry : Int32) (behind : Int32) (pn : Nat → Int32) (pt : Nat → Int64) (hy : Nat) (rsa : Nat) (ria : Nat) (raa : Nat) (rta : Nat) (rga : Nat) (dead : Int32) (key : Int32) (tick : Int32) (held : Int32) (tries : Int32) (trips : Int32) (ldraw : Int32) (gdraw : Int32) (rt : Nat → Int32) : va_W := [oX10 xo tp rd rn co wy sg sh pl sp lf, oX0 co fwa fta fra fga cxa cup clast cpeak cptick, oAI fwa cI 8 fw, oAI fta cI 8 ft, oAI fra cI 8 fr, oAI fga cI 8 fg, oX3 pl pna pta rails limit retry behind, oAI pna cI 64 pn, oAJ pta cJ 64 pt, oX5 rn hy rsa ria raa rta rga dead key tick held tries trips ldraw gdraw, oAI rta cI 8 rt]
abbrev Q_x_when (D : va_G) (cI cJ cZ cG cH : ClassId) (xo : Nat) (a0 : Int32) (a1 : Int32) (tp : Nat) (rd : Nat) (rn : Nat) (co : Nat) (wy : Nat) (sg : Nat) (sh : Nat) (pl : Nat) (sp : Nat) (lf : Int32) (fwa : Nat) (fta : Nat) (fra : Nat) (fga : Nat) (cxa : Nat) (cup : Int32) (clast : Int32) (cpeak : Int32) (cptick : Int32) (fw : Nat → Int32) (ft : Nat → Int32) (fr : Nat → Int32) (fg : Nat → Int32) (pna : Nat) (pta : Nat) (rails : Int32) (limit : Int32) (retry : Int32) (behind : Int32) (pn : Nat → Int32) (pt : Nat → Int64) (hy : Nat) (rsa : Nat) (ria : Nat) (raa : Nat) (rta : Nat) (rga : Nat) (dead : Int32) (key : Int32) (tick : Int32) (held : Int32) (tries : Int32) (trips : Int32) (ldraw : Int32) (gdraw : Int32) (rt : Nat → Int32) (A : Nat → Prop) : Array Value → State → Outcome → State → Prop := va_Qi (fun (r : Int32) (u9 : Int32) => r = u9 ∧ ((-4) ≤ r.toInt ∧ r.toInt ≤ 1166)) (fun u9 t => ∃ (cup9 : Int32) (clast9 : Int32) (fw9 : Nat → Int32) (ft9 : Nat → Int32) (fr9 : Nat → Int32) (fg9 : Nat → Int32), (0 ≤ clast9.toInt ∧ clast9.toInt ≤ 144) ∧ (∀ j, j < 8 → 0 ≤ (fw9 j).toInt ∧ (fw9 j).toInt ≤ 511) ∧ (∀ j, j < 8 → 0 ≤ (ft9 j).toInt ∧ (ft9 j).toInt ≤ 511) ∧ (∀ j, j < 8 → 0 ≤ (fr9 j).toInt ∧ (fr9 j).toInt ≤ 655) ∧ (∀ j, j < 8 → 0 ≤ (fg9 j).toInt ∧ (fg9 j).toInt ≤ 1166) ∧ (M_x_when a0 rails a1 cup clast fw ft fr fg pt dead rt pn = (u9, cup9, clast9, fw9, ft9, fr9, fg9)) ∧ (∀ j, j < 8 → (fr9 j).toInt ≤ (fg9 j).toInt) ∧ xB D (tyL cI cJ cZ cG cH) [oX10 xo tp rd rn co wy sg sh pl sp lf, oX0 co fwa fta fra fga cxa cup9 clast9 cpeak cptick, oAI fwa cI 8 fw9, oAI fta cI 8 ft9, oAI fra cI 8 fr9, oAI fga cI 8 fg9, oX3 pl pna pta rails limit retry behind, oAI pna cI 64 pn, oAJ pta cJ 64 pt, oX5 rn hy rsa ria raa rta rga dead key tick held tries trips ldraw gdraw, oAI rta cI 8 rt] A t) A
abbrev rm_x_when : Room := { frames := 4, cells := 0, slots := 0, locals := 92 }
set_option maxRecDepth 100000 in
set_option maxHeartbeats 40000000 in
theorem c_x_when (l : Launch) (D : va_G) (cI cJ cZ cG cH : ClassId) (sz : Nat) (xo : Nat) (a0 : Int32) (a1 : Int32) (tp : Nat) (rd : Nat) (rn : Nat) (co : Nat) (wy : Nat) (sg : Nat) (sh : Nat) (pl : Nat) (sp : Nat) (lf : Int32) (fwa : Nat) (fta : Nat) (fra : Nat) (fga : Nat) (cxa : Nat) (cup : Int32) (clast : Int32) (cpeak : Int32) (cptick : Int32) (fw : Nat → Int32) (ft : Nat → Int32) (fr : Nat → Int32) (fg : Nat → Int32) (pna : Nat) (pta : Nat) (rails : Int32) (limit : Int32) (retry : Int32) (behind : Int32) (pn : Nat → Int32) (pt : Nat → Int64) (hy : Nat) (rsa : Nat) (ria : Nat) (raa : Nat) (rta : Nat) (rga : Nat) (dead : Int32) (key : Int32) (tick : Int32) (held : Int32) (tries : Int32) (trips : Int32) (ldraw : Int32) (gdraw : Int32) (rt : Nat → Int32) (h_clast : 0 ≤ clast.toInt ∧ clast.toInt ≤ 144) (h_fw : ∀ j, j < 8 → 0 ≤ (fw j).toInt ∧ (fw j).toInt ≤ 511) (h_ft : ∀ j, j < 8 → 0 ≤ (ft j).toInt ∧ (ft j).toInt ≤ 511) (h_fr : ∀ j, j < 8 → 0 ≤ (fr j).toInt ∧ (fr j).toInt ≤ 655) (h_fg : ∀ j, j < 8 → 0 ≤ (fg j).toInt ∧ (fg j).toInt ≤ 1166) (h_rails : 0 ≤ rails.toInt ∧ rails.toInt ≤ 8) (h_pn : ∀ j, j < 64 → 0 ≤ (pn j).toInt ∧ (pn j).toInt ≤ 511) (h_key : 0 ≤ key.toInt ∧ key.toInt ≤ 1) (h_rt : ∀ j, j < 8 → 0 ≤ (rt j).toInt ∧ (rt j).toInt ≤ 511) (h_le : ∀ j, j < 8 → (fr j).toInt ≤ (fg j).toInt) : Met l yX10_when (wt yX10_when cX10_when 3 (some .int)) rm_x_when (xPc [.ref xo, .int a0, .int a1] D (tyL cI cJ cZ cG cH) (W_x_when cI cJ cZ cG cH xo a0 a1 tp rd rn co wy sg sh pl sp lf fwa fta fra fga cxa cup clast cpeak cptick fw ft fr fg pna pta rails limit retry behind pn pt hy rsa ria raa rta rga dead key tick held tries trips ldraw gdraw rt) sz) (Q_x_when D cI cJ cZ cG cH xo a0 a1 tp rd rn co wy sg sh pl sp lf fwa fta fra fga cxa cup clast cpeak cptick fw ft fr fg pna pta rails limit retry behind pn pt hy rsa ria raa rta rga dead key tick held tries trips ldraw gdraw rt (va_A (W_x_when cI cJ cZ cG cH xo a0 a1 tp rd rn co wy sg sh pl sp lf fwa fta fra fga cxa cup clast cpeak cptick fw ft fr fg pna pta rails limit retry behind pn pt hy rsa ria raa rta rga dead key tick held tries trips ldraw gdraw rt) sz)) 0 0 (va_A (W_x_when cI cJ cZ cG cH xo a0 a1 tp rd rn co wy sg sh pl sp lf fwa fta fra fga cxa cup clast cpeak cptick fw ft fr fg pna pta rails limit retry behind pn pt hy rsa ria raa rta rga dead key tick held tries trips ldraw gdraw rt) sz) := by
  refine xMet (cc := cX10_when) (maxL := 3) (ret := (some .int)) (Qf := Q_x_when D cI cJ cZ cG cH xo a0 a1 tp rd rn co wy sg sh pl sp lf fwa fta fra fga cxa cup clast cpeak cptick fw ft fr fg pna pta rails limit retry behind pn pt hy rsa ria raa rta rga dead key tick held tries trips ldraw gdraw rt) (by decide) rfl (Nat.le_of_ble_eq_true rfl) ?_
  intro p e s m below meth c ls A hx hb hr hml hts hown hlocks hnm hsz hP hK hD hA hS hl
  have hown : s.vm.findClass RX10 = some m.cls := hown
  have hP : va_P D vwCl [oX10 xo tp rd rn co wy sg sh pl sp lf, oX0 co fwa fta fra fga cxa cup clast cpeak cptick, oAI fwa cI 8 fw, oAI fta cI 8 ft, oAI fra cI 8 fr, oAI fga cI 8 fg, oX3 pl pna pta rails limit retry behind, oAI pna cI 64 pn, oAJ pta cJ 64 pt, oX5 rn hy rsa ria raa rta rga dead key tick held tries trips ldraw gdraw, oAI rta cI 8 rt] s.heap := hP
  have hD : va_D A [oX10 xo tp rd rn co wy sg sh pl sp lf, oX0 co fwa fta fra fga cxa cup clast cpeak cptick, oAI fwa cI 8 fw, oAI fta cI 8 ft, oAI fra cI 8 fr, oAI fga cI 8 fg, oX3 pl pna pta rails limit retry behind, oAI pna cI 64 pn, oAJ pta cJ 64 pt, oX5 rn hy rsa ria raa rta rga dead key tick held tries trips ldraw gdraw, oAI rta cI 8 rt] := hD
  have hl : lv_has ls 3 [(0, .ref xo), (1, .int a0), (2, .int a1)] := hl
  have hM : M_x_when a0 rails a1 cup clast fw ft fr fg pt dead rt pn = (K_x_when_1 a0 rails a1 cup clast fw ft fr fg pt dead rt pn) := rfl
  refine lv_aload_n hx hb dX10_when_0 rfl (lv_at hl 0 rfl) ?_
  refine va_get (D := D) (ci := 9) (v := .ref pl) (C := RX10) (T := TX10) (N := 10) hx hb hts (fun w h => tbC w (tbfX10 w h)) hown hK hP 0 rfl rfl 7 (by decide) (hts (.fieldLink RX10 56 "PowerRails" "plan" "LPowerRails$Plan;") (tbC _ wd254)) (fun _ h9 => h9) rfl dX10_when_1 ?_
  refine lv_iload_n hx hb dX10_when_4 rfl (lv_at hl 1 rfl) ?_
  obtain ⟨hPc, hDc, hFc, hC9⟩ := xpk (wc := W_hasRail cI cJ cZ cG cH pl a0 pna pta rails limit retry behind) hP hD hS hA [6] (by decide +kernel) rfl
  refine va_calli (va_runV (As := [.int a0]) (rest := []) ⟨hx, hb, hml, hown, hts⟩ (c_hasRail l D cI cJ cZ cG cH s.heap.size pl a0 pna pta rails limit retry behind (xrng rfl (by omega) (by omega))) (cwV 1 hts (xGV tbC wd409 wd410 wd411 wd59 wd1009) rfl rfl rfl (by decide +kernel) ⟨Nat.le_of_ble_eq_true rfl, Nat.le_of_ble_eq_true rfl⟩) ⟨xPc_blind, va_recv hK hPc (ci := 2) (q0 := 0) rfl rfl, xPc_pre hPc hK hDc⟩ rfl rfl hl.1 rfl (lv_room (Nat.le_of_ble_eq_true rfl)) dX10_when_5 ⟨Nat.le_of_ble_eq_true rfl, Nat.le_of_ble_eq_true rfl⟩) hS (fun q _ h => hFc q h) hFc (fun r1 u t H1 locs ht hvm hw1 hB hz1 hk1 hS => ?_)
  obtain ⟨hP1, hK1, hD1⟩ := hB
  rw [ht] at hP1
  obtain ⟨hP, hD⟩ : xPD D A [oX10 xo tp rd rn co wy sg sh pl sp lf, oX0 co fwa fta fra fga cxa cup clast cpeak cptick, oAI fwa cI 8 fw, oAI fta cI 8 ft, oAI fra cI 8 fr, oAI fga cI 8 fg, oAI pna cI 64 pn, oAJ pta cJ 64 pt, oX5 rn hy rsa ria raa rta rga dead key tick held tries trips ldraw gdraw, oAI rta cI 8 rt, oX3 pl pna pta rails limit retry behind] H1 := xjn 10 hP hD [6] [0, 1, 2, 3, 4, 5, 7, 8, 9, 10] hC9 rfl (by decide +kernel) (by decide +kernel) hk1 hFc hP1 hD1
  generalize H1 = H at hP hS ⊢
  have hw1 : r1 = if 0 ≤ a0.toInt ∧ a0.toInt < rails.toInt then 1 else 0 := hw1
  refine lv_if_eq (tgt := 20) hx hb dX10_when_8 (by decide) (fun c_2 => ?_) (fun c_2 => ?_)
  · skip
    have i_2 : ¬ (0 ≤ a0.toInt ∧ a0.toInt < rails.toInt) := (xbool hw1).1.mp c_2
    have hM : M_x_when a0 rails a1 cup clast fw ft fr fg pt dead rt pn = (K_x_when_2 cup clast fw ft fr fg) := (show M_x_when a0 rails a1 cup clast fw ft fr fg pt dead rt pn = (if 0 ≤ a0.toInt ∧ a0.toInt < rails.toInt then (K_x_when_3 a1 cup clast fw ft fr fg a0 rails pt dead rt pn) else (K_x_when_2 cup clast fw ft fr fg)) from hM).trans (if_neg i_2)
    refine lv_iconst (v := (-1)) hx hb dX10_when_20 (by decide) ?_
    refine W.widen (k := 0) (n := 0) (by decide) (by decide) ?_
    exact W.iret (v := (-1)) hx hb hr (fun t ht hW => ⟨⟨(-1), (-1), rfl, ⟨rfl, ⟨by decide, by decide⟩⟩, ⟨cup, clast, fw, ft, fr, fg, (xrng rfl (by omega) (by omega)), (xwk_rng h_fw (by decide) (by decide)), (xwk_rng h_ft (by decide) (by decide)), (xwk_rng h_fr (by decide) (by decide)), (xwk_rng h_fg (by decide) (by decide)), hM, h_le, xB_of9 ht hW hP hK hD [0, 1, 2, 3, 4, 5, 10, 6, 7, 8, 9] (by decide +kernel) rfl⟩⟩, hS.F ht⟩) hS.2.2 dX10_when_21
  · skip
    have i_2 : 0 ≤ a0.toInt ∧ a0.toInt < rails.toInt := (xbool hw1).2.mp c_2
    have hM : M_x_when a0 rails a1 cup clast fw ft fr fg pt dead rt pn = (K_x_when_3 a1 cup clast fw ft fr fg a0 rails pt dead rt pn) := (show M_x_when a0 rails a1 cup clast fw ft fr fg pt dead rt pn = (if 0 ≤ a0.toInt ∧ a0.toInt < rails.toInt then (K_x_when_3 a1 cup clast fw ft fr fg a0 rails pt dead rt pn) else (K_x_when_2 cup clast fw ft fr fg)) from hM).trans (if_pos i_2)
    refine lv_iload_n hx hb dX10_when_11 rfl (lv_at hl 2 rfl) ?_
    refine lv_if_lt (tgt := 20) hx hb dX10_when_12 (by decide) (fun c_3 => ?_) (fun c_3 => ?_)
    · skip
      have i_3 : a1.toInt < 0 := (ilt rfl (by decide)).mp c_3
      have hM : M_x_when a0 rails a1 cup clast fw ft fr fg pt dead rt pn = (K_x_when_4 cup clast fw ft fr fg) := (show M_x_when a0 rails a1 cup clast fw ft fr fg pt dead rt pn = (if a1.toInt < 0 then (K_x_when_4 cup clast fw ft fr fg) else (K_x_when_5 a1 a0 rails pt fr fg dead rt ft pn fw cup clast)) from hM).trans (if_pos i_3)
      refine lv_iconst (v := (-1)) hx hb dX10_when_20 (by decide) ?_
      refine W.widen (k := 0) (n := 0) (by decide) (by decide) ?_
      exact W.iret (v := (-1)) hx hb hr (fun t ht hW => ⟨⟨(-1), (-1), rfl, ⟨rfl, ⟨by decide, by decide⟩⟩, ⟨cup, clast, fw, ft, fr, fg, (xrng rfl (by omega) (by omega)), (xwk_rng h_fw (by decide) (by decide)), (xwk_rng h_ft (by decide) (by decide)), (xwk_rng h_fr (by decide) (by decide)), (xwk_rng h_fg (by decide) (by decide)), hM, h_le, xB_of9 ht hW hP hK hD [0, 1, 2, 3, 4, 5, 10, 6, 7, 8, 9] (by decide +kernel) rfl⟩⟩, hS.F ht⟩) hS.2.2 dX10_when_21
    · skip
      have i_3 : ¬ (a1.toInt < 0) := fun h9 => c_3 ((ilt rfl (by decide)).mpr h9)
      have hM : M_x_when a0 rails a1 cup clast fw ft fr fg pt dead rt pn = (K_x_when_5 a1 a0 rails pt fr fg dead rt ft pn fw cup clast) := (show M_x_when a0 rails a1 cup clast fw ft fr fg pt dead rt pn = (if a1.toInt < 0 then (K_x_when_4 cup clast fw ft fr fg) else (K_x_when_5 a1 a0 rails pt fr fg dead rt ft pn fw cup clast)) from hM).trans (if_neg i_3)
      refine lv_iload_n hx hb dX10_when_15 rfl (lv_at hl 2 rfl) ?_
      refine lv_iconst (v := 2) hx hb dX10_when_16 (by decide) ?_
      refine lv_icmp_le (tgt := 22) hx hb dX10_when_17 (by decide) (fun c_4 => ?_) (fun c_4 => ?_)
      · skip
        have i_4 : a1.toInt ≤ 2 := (ile rfl (by decide)).mp c_4
        have hM : M_x_when a0 rails a1 cup clast fw ft fr fg pt dead rt pn = (K_x_when_6 a1 a0 rails pt fr fg dead rt ft pn fw) := (show M_x_when a0 rails a1 cup clast fw ft fr fg pt dead rt pn = (if a1.toInt ≤ 2 then (K_x_when_6 a1 a0 rails pt fr fg dead rt ft pn fw) else (K_x_when_7 cup clast fw ft fr fg)) from hM).trans (if_pos i_4)
        refine lv_iload_n hx hb dX10_when_22 rfl (lv_at hl 2 rfl) ?_
        refine lv_if_ne (tgt := 33) hx hb dX10_when_23 (by decide) (fun c_5 => ?_) (fun c_5 => ?_)
        · skip
          have i_5 : ¬ (a1.toInt = 0) := fun h9 => c_5 ((ieq rfl (by decide)).mpr h9)
          have hM : M_x_when a0 rails a1 cup clast fw ft fr fg pt dead rt pn = (K_x_when_8 a1 a0 rails pt fr fg dead pn ft fw) := (show M_x_when a0 rails a1 cup clast fw ft fr fg pt dead rt pn = (if a1.toInt = 0 then (K_x_when_9 a0 rails pt fr fg dead rt ft pn fw) else (K_x_when_8 a1 a0 rails pt fr fg dead pn ft fw)) from hM).trans (if_neg i_5)
          refine lv_aload_n hx hb dX10_when_33 rfl (lv_at hl 0 rfl) ?_
          refine va_get (D := D) (ci := 9) (v := .ref co) (C := RX10) (T := TX10) (N := 10) hx hb hts (fun w h => tbC w (tbfX10 w h)) hown hK hP 0 rfl rfl 3 (by decide) (hts (.fieldLink RX10 26 "PowerRails" "course" "LPowerRails$Course;") (tbC _ wd250)) (fun _ h9 => h9) rfl dX10_when_34 ?_
          refine lv_aload_n hx hb dX10_when_37 rfl (lv_at hl 0 rfl) ?_
          refine va_get (D := D) (ci := 9) (v := .ref pl) (C := RX10) (T := TX10) (N := 10) hx hb hts (fun w h => tbC w (tbfX10 w h)) hown hK hP 0 rfl rfl 7 (by decide) (hts (.fieldLink RX10 56 "PowerRails" "plan" "LPowerRails$Plan;") (tbC _ wd254)) (fun _ h9 => h9) rfl dX10_when_38 ?_
          obtain ⟨hPc, hDc, hFc, hC9⟩ := xpk (wc := W_cSetWaits cI cJ cZ cG cH co pl fwa fta fra fga cxa cup clast cpeak cptick fw pna pta rails limit retry behind pn) hP hD hS hA [1, 2, 10, 6] (by decide +kernel) rfl
          refine va_callv (va_runV (As := [.ref pl]) (rest := []) ⟨hx, hb, hml, hown, hts⟩ (c_cSetWaits l D cI cJ cZ cG cH H.size co pl fwa fta fra fga cxa cup clast cpeak cptick fw pna pta rails limit retry behind pn (xrng rfl (by omega) (by omega)) (xwk_rng h_fw (by decide) (by decide)) (xrng rfl (by omega) (by omega)) (xwk_rng h_pn (by decide) (by decide))) (cwV 1 hts (xGV tbC wd515 wd516 wd517 wd54 wd1044) rfl rfl rfl (by decide +kernel) ⟨Nat.le_of_ble_eq_true rfl, Nat.le_of_ble_eq_true rfl⟩) ⟨xPc_blind, va_recv hK hPc (ci := 0) (q0 := 0) rfl rfl, xPc_pre hPc hK hDc⟩ rfl rfl hl.1 rfl (lv_room (Nat.le_of_ble_eq_true rfl)) dX10_when_41 ⟨Nat.le_of_ble_eq_true rfl, Nat.le_of_ble_eq_true rfl⟩) hS (fun q _ h => hFc q h) hFc (fun u t H1 locs ht hvm hw6 hB hz1 hk1 hS => ?_)
          obtain ⟨fw_7, hf7_0, hf7_1, hP1, hK1, hD1⟩ := hB
          rw [ht] at hP1
          obtain ⟨hP, hD⟩ : xPD D A [oX10 xo tp rd rn co wy sg sh pl sp lf, oAI fta cI 8 ft, oAI fra cI 8 fr, oAI fga cI 8 fg, oAJ pta cJ 64 pt, oX5 rn hy rsa ria raa rta rga dead key tick held tries trips ldraw gdraw, oAI rta cI 8 rt, oX0 co fwa fta fra fga cxa cup clast cpeak cptick, oAI fwa cI 8 fw_7, oX3 pl pna pta rails limit retry behind, oAI pna cI 64 pn] H1 := xjn 7 hP hD [1, 2, 10, 6] [0, 3, 4, 5, 7, 8, 9] hC9 rfl (by decide +kernel) (by decide +kernel) hk1 hFc hP1 hD1
          generalize H1 = H at hP hS ⊢
          have hf7_0 : ∀ j, j < 8 → 0 ≤ (fw_7 j).toInt ∧ (fw_7 j).toInt ≤ 511 := hf7_0
          have hf7_1 : M_cSetWaits rails pn fw = (fw_7) := hf7_1
          have h9M := congrArg (fun t9 => (K_x_when_10 a1 t9 a0 rails pt fr fg dead pn ft)) hf7_1
          have hM : M_x_when a0 rails a1 cup clast fw ft fr fg pt dead rt pn = (K_x_when_10 a1 fw_7 a0 rails pt fr fg dead pn ft) := (show M_x_when a0 rails a1 cup clast fw ft fr fg pt dead rt pn = ((fun t9 => (K_x_when_10 a1 t9 a0 rails pt fr fg dead pn ft)) (M_cSetWaits rails pn fw)) from hM).trans h9M
          refine lv_aload_n hx hb dX10_when_44 rfl (lv_at hl 0 rfl) ?_
          refine va_get (D := D) (ci := 9) (v := .ref co) (C := RX10) (T := TX10) (N := 10) hx hb hts (fun w h => tbC w (tbfX10 w h)) hown hK hP 0 rfl rfl 3 (by decide) (hts (.fieldLink RX10 26 "PowerRails" "course" "LPowerRails$Course;") (tbC _ wd250)) (fun _ h9 => h9) rfl dX10_when_45 ?_
          refine lv_aload_n hx hb dX10_when_48 rfl (lv_at hl 0 rfl) ?_
          refine va_get (D := D) (ci := 9) (v := .ref pl) (C := RX10) (T := TX10) (N := 10) hx hb hts (fun w h => tbC w (tbfX10 w h)) hown hK hP 0 rfl rfl 7 (by decide) (hts (.fieldLink RX10 56 "PowerRails" "plan" "LPowerRails$Plan;") (tbC _ wd254)) (fun _ h9 => h9) rfl dX10_when_49 ?_
          refine lv_iload_n hx hb dX10_when_52 rfl (lv_at hl 2 rfl) ?_
          refine lv_iconst (v := 1) hx hb dX10_when_53 (by decide) ?_
          refine lv_icmp_ne (tgt := 61) hx hb dX10_when_54 (by decide) (fun c_8 => ?_) (fun c_8 => ?_)
          · skip
            have i_8 : ¬ (a1.toInt = 1) := fun h9 => c_8 ((ieq rfl (by decide)).mpr h9)
            have hM : M_x_when a0 rails a1 cup clast fw ft fr fg pt dead rt pn = (K_x_when_11 fw_7 a0 rails pt fr fg dead pn ft) := (show M_x_when a0 rails a1 cup clast fw ft fr fg pt dead rt pn = (if a1.toInt = 1 then (K_x_when_12 fw_7 a0 rails pt fr fg dead pn ft) else (K_x_when_11 fw_7 a0 rails pt fr fg dead pn ft)) from hM).trans (if_neg i_8)
            refine lv_iconst (v := 1) hx hb dX10_when_61 (by decide) ?_
            obtain ⟨hPc, hDc, hFc, hC9⟩ := xpk (wc := W_cSetTakes cI cJ cZ cG cH co pl (1 : Int32) fwa fta fra fga cxa cup clast cpeak cptick ft pna pta rails limit retry behind pn) hP hD hS hA [7, 1, 9, 10] (by decide +kernel) rfl
            refine va_callv (va_runV (As := [.ref pl, .int 1]) (rest := []) ⟨hx, hb, hml, hown, hts⟩ (c_cSetTakes l D cI cJ cZ cG cH H.size co pl (1 : Int32) fwa fta fra fga cxa cup clast cpeak cptick ft pna pta rails limit retry behind pn ⟨by decide, by decide⟩ (xrng rfl (by omega) (by omega)) (xwk_rng h_ft (by decide) (by decide)) (xrng rfl (by omega) (by omega)) (xwk_rng h_pn (by decide) (by decide))) (cwV 2 hts (xGV tbC wd536 wd537 wd538 wd54 wd1050) rfl rfl rfl (by decide +kernel) ⟨Nat.le_of_ble_eq_true rfl, Nat.le_of_ble_eq_true rfl⟩) ⟨xPc_blind, va_recv hK hPc (ci := 0) (q0 := 0) rfl rfl, xPc_pre hPc hK hDc⟩ rfl rfl hl.1 rfl (lv_room (Nat.le_of_ble_eq_true rfl)) dX10_when_62 ⟨Nat.le_of_ble_eq_true rfl, Nat.le_of_ble_eq_true rfl⟩) hS (fun q _ h => hFc q h) hFc (fun u t H1 locs ht hvm hw9 hB hz1 hk1 hS => ?_)
            obtain ⟨ft_10, hf10_0, hf10_1, hP1, hK1, hD1⟩ := hB
            rw [ht] at hP1
            obtain ⟨hP, hD⟩ : xPD D A [oX10 xo tp rd rn co wy sg sh pl sp lf, oAI fra cI 8 fr, oAI fga cI 8 fg, oAJ pta cJ 64 pt, oX5 rn hy rsa ria raa rta rga dead key tick held tries trips ldraw gdraw, oAI rta cI 8 rt, oAI fwa cI 8 fw_7, oX0 co fwa fta fra fga cxa cup clast cpeak cptick, oAI fta cI 8 ft_10, oX3 pl pna pta rails limit retry behind, oAI pna cI 64 pn] H1 := xjn 7 hP hD [7, 1, 9, 10] [0, 2, 3, 4, 5, 6, 8] hC9 rfl (by decide +kernel) (by decide +kernel) hk1 hFc hP1 hD1
            generalize H1 = H at hP hS ⊢
            have hf10_0 : ∀ j, j < 8 → 0 ≤ (ft_10 j).toInt ∧ (ft_10 j).toInt ≤ 511 := hf10_0
            have hf10_1 : M_cSetTakes rails pn (1 : Int32) ft = (ft_10) := hf10_1
            have h9M := congrArg (fun t9 => (K_x_when_13 fw_7 t9 a0 rails pt fr fg dead)) hf10_1
            have hM : M_x_when a0 rails a1 cup clast fw ft fr fg pt dead rt pn = (K_x_when_13 fw_7 ft_10 a0 rails pt fr fg dead) := (show M_x_when a0 rails a1 cup clast fw ft fr fg pt dead rt pn = ((fun t9 => (K_x_when_13 fw_7 t9 a0 rails pt fr fg dead)) (M_cSetTakes rails pn (1 : Int32) ft)) from hM).trans h9M
            refine lv_aload_n hx hb dX10_when_65 rfl (lv_at hl 0 rfl) ?_
            refine va_get (D := D) (ci := 9) (v := .ref co) (C := RX10) (T := TX10) (N := 10) hx hb hts (fun w h => tbC w (tbfX10 w h)) hown hK hP 0 rfl rfl 3 (by decide) (hts (.fieldLink RX10 26 "PowerRails" "course" "LPowerRails$Course;") (tbC _ wd250)) (fun _ h9 => h9) rfl dX10_when_66 ?_
            refine lv_aload_n hx hb dX10_when_69 rfl (lv_at hl 0 rfl) ?_
            refine va_get (D := D) (ci := 9) (v := .ref pl) (C := RX10) (T := TX10) (N := 10) hx hb hts (fun w h => tbC w (tbfX10 w h)) hown hK hP 0 rfl rfl 7 (by decide) (hts (.fieldLink RX10 56 "PowerRails" "plan" "LPowerRails$Plan;") (tbC _ wd254)) (fun _ h9 => h9) rfl dX10_when_70 ?_
            refine lv_aload_n hx hb dX10_when_73 rfl (lv_at hl 0 rfl) ?_
            obtain ⟨hPc, hDc, hFc, hC9⟩ := xpk (wc := W_alive cI cJ cZ cG cH xo tp rd rn co wy sg sh pl sp lf pna pta rails limit retry behind hy rsa ria raa rta rga dead key tick held tries trips ldraw gdraw) hP hD hS hA [0, 9, 4] (by decide +kernel) rfl
            refine va_calli (va_runV (As := []) (rest := [.ref pl, .ref co]) ⟨hx, hb, hml, hown, hts⟩ (c_alive l D cI cJ cZ cG cH H.size xo tp rd rn co wy sg sh pl sp lf pna pta rails limit retry behind hy rsa ria raa rta rga dead key tick held tries trips ldraw gdraw (xrng rfl (by omega) (by omega)) (xrng rfl (by omega) (by omega))) (cwV 0 hts (xGV tbC wd523 wd524 wd2 wd50 wd1046) rfl rfl rfl (by decide +kernel) ⟨Nat.le_of_ble_eq_true rfl, Nat.le_of_ble_eq_true rfl⟩) ⟨xPc_blind, va_recv hK hPc (ci := 9) (q0 := 0) rfl rfl, xPc_pre hPc hK hDc⟩ rfl rfl hl.1 rfl (lv_room (Nat.le_of_ble_eq_true rfl)) dX10_when_74 ⟨Nat.le_of_ble_eq_true rfl, Nat.le_of_ble_eq_true rfl⟩) hS (fun q _ h => hFc q h) hFc (fun r11 u t H1 locs ht hvm hw11 hB hz1 hk1 hS => ?_)
            obtain ⟨hru9, hw11⟩ := hw11
            subst hru9
            obtain ⟨hf11_0, hP1, hK1, hD1⟩ := hB
            rw [ht] at hP1
            obtain ⟨hP, hD⟩ : xPD D A [oAI fra cI 8 fr, oAI fga cI 8 fg, oAJ pta cJ 64 pt, oAI rta cI 8 rt, oAI fwa cI 8 fw_7, oX0 co fwa fta fra fga cxa cup clast cpeak cptick, oAI fta cI 8 ft_10, oAI pna cI 64 pn, oX10 xo tp rd rn co wy sg sh pl sp lf, oX3 pl pna pta rails limit retry behind, oX5 rn hy rsa ria raa rta rga dead key tick held tries trips ldraw gdraw] H1 := xjn 8 hP hD [0, 9, 4] [1, 2, 3, 5, 6, 7, 8, 10] hC9 rfl (by decide +kernel) (by decide +kernel) hk1 hFc hP1 hD1
            generalize H1 = H at hP hS ⊢
            have hf11_0 : M_alive dead rails = (r11) := hf11_0
            have hw11 : 0 ≤ r11.toInt ∧ r11.toInt ≤ 255 := hw11
            have h9M := congrArg (fun t9 => (K_x_when_14 fw_7 ft_10 a0 rails t9 pt fr fg)) hf11_0
            have hM : M_x_when a0 rails a1 cup clast fw ft fr fg pt dead rt pn = (K_x_when_14 fw_7 ft_10 a0 rails r11 pt fr fg) := (show M_x_when a0 rails a1 cup clast fw ft fr fg pt dead rt pn = ((fun t9 => (K_x_when_14 fw_7 ft_10 a0 rails t9 pt fr fg)) (M_alive dead rails)) from hM).trans h9M
            obtain ⟨hPc, hDc, hFc, hC9⟩ := xpk (wc := W_follow cI cJ cZ cG cH co pl r11 fwa fta fra fga cxa cup clast cpeak cptick fw_7 ft_10 fr fg pna pta rails limit retry behind pt) hP hD hS hA [5, 4, 6, 0, 1, 9, 2] (by decide +kernel) rfl
            refine va_callv (va_runV (As := [.ref pl, .int r11]) (rest := []) ⟨hx, hb, hml, hown, hts⟩ (c_follow l D cI cJ cZ cG cH H.size co pl r11 fwa fta fra fga cxa cup clast cpeak cptick fw_7 ft_10 fr fg pna pta rails limit retry behind pt (xrng rfl (by omega) (by omega)) (xwk_rng hf7_0 (by decide) (by decide)) (xwk_rng hf10_0 (by decide) (by decide)) (xwk_rng h_fr (by decide) (by decide)) (xwk_rng h_fg (by decide) (by decide)) (xrng rfl (by omega) (by omega)) h_le) (cwV 2 hts (xGV tbC wd525 wd526 wd527 wd54 wd1047) rfl rfl rfl (by decide +kernel) ⟨Nat.le_of_ble_eq_true rfl, Nat.le_of_ble_eq_true rfl⟩) ⟨xPc_blind, va_recv hK hPc (ci := 0) (q0 := 0) rfl rfl, xPc_pre hPc hK hDc⟩ rfl rfl hl.1 rfl (lv_room (Nat.le_of_ble_eq_true rfl)) dX10_when_77 ⟨Nat.le_of_ble_eq_true rfl, Nat.le_of_ble_eq_true rfl⟩) hS (fun q _ h => hFc q h) hFc (fun u t H1 locs ht hvm hw12 hB hz1 hk1 hS => ?_)
            revert hB
            refine xex4r (fun cup_13 clast_14 fr_15 fg_16 => ?_)
            refine xan8r (fun hf16_0 hf16_1 hf16_2 hf16_3 hf16_4 hf16_5 hP1 => ?_)
            refine xan2r (fun hK1 hD1 => ?_)
            rw [ht] at hP1
            obtain ⟨hP, hD⟩ : xPD D A [oAI rta cI 8 rt, oAI pna cI 64 pn, oX10 xo tp rd rn co wy sg sh pl sp lf, oX5 rn hy rsa ria raa rta rga dead key tick held tries trips ldraw gdraw, oX0 co fwa fta fra fga cxa cup_13 clast_14 cpeak cptick, oAI fwa cI 8 fw_7, oAI fta cI 8 ft_10, oAI fra cI 8 fr_15, oAI fga cI 8 fg_16, oX3 pl pna pta rails limit retry behind, oAJ pta cJ 64 pt] H1 := xjn 4 hP hD [5, 4, 6, 0, 1, 9, 2] [3, 7, 8, 10] hC9 rfl (by decide +kernel) (by decide +kernel) hk1 hFc hP1 hD1
            generalize H1 = H at hP hS ⊢
            have hf16_0 : 0 ≤ cup_13.toInt ∧ cup_13.toInt ≤ 255 := hf16_0
            have hf16_1 : 0 ≤ clast_14.toInt ∧ clast_14.toInt ≤ 144 := hf16_1
            have hf16_2 : ∀ j, j < 8 → 0 ≤ (fr_15 j).toInt ∧ (fr_15 j).toInt ≤ 655 := hf16_2
            have hf16_3 : ∀ j, j < 8 → 0 ≤ (fg_16 j).toInt ∧ (fg_16 j).toInt ≤ 1166 := hf16_3
            have hf16_4 : M_follow rails r11 fw_7 ft_10 pt fr fg = (cup_13, clast_14, fr_15, fg_16) := hf16_4
            have hf16_5 : ∀ j, j < 8 → (fr_15 j).toInt ≤ (fg_16 j).toInt := hf16_5
            have h9M := congrArg (fun t9 => (K_x_when_15 t9.1 t9.2.1 fw_7 ft_10 t9.2.2.1 t9.2.2.2 a0)) hf16_4
            have hM : M_x_when a0 rails a1 cup clast fw ft fr fg pt dead rt pn = (K_x_when_15 cup_13 clast_14 fw_7 ft_10 fr_15 fg_16 a0) := (show M_x_when a0 rails a1 cup clast fw ft fr fg pt dead rt pn = ((fun t9 => (K_x_when_15 t9.1 t9.2.1 fw_7 ft_10 t9.2.2.1 t9.2.2.2 a0)) (M_follow rails r11 fw_7 ft_10 pt fr fg)) from hM).trans h9M
            refine lv_aload_n hx hb dX10_when_80 rfl (lv_at hl 0 rfl) ?_
            refine va_get (D := D) (ci := 9) (v := .ref co) (C := RX10) (T := TX10) (N := 10) hx hb hts (fun w h => tbC w (tbfX10 w h)) hown hK hP 2 rfl rfl 3 (by decide) (hts (.fieldLink RX10 26 "PowerRails" "course" "LPowerRails$Course;") (tbC _ wd250)) (fun _ h9 => h9) rfl dX10_when_81 ?_
            refine lv_iload_n hx hb dX10_when_84 rfl (lv_at hl 1 rfl) ?_
            obtain ⟨hPc, hDc, hFc, hC9⟩ := xpk (wc := W_isUp cI cJ cZ cG cH co a0 fwa fta fra fga cxa cup_13 clast_14 cpeak cptick) hP hD hS hA [4] (by decide +kernel) rfl
            refine va_calli (va_runV (As := [.int a0]) (rest := []) ⟨hx, hb, hml, hown, hts⟩ (c_isUp l D cI cJ cZ cG cH H.size co a0 fwa fta fra fga cxa cup_13 clast_14 cpeak cptick (xrng rfl (by omega) (by omega))) (cwV 1 hts (xGV tbC wd539 wd540 wd541 wd54 wd1051) rfl rfl rfl (by decide +kernel) ⟨Nat.le_of_ble_eq_true rfl, Nat.le_of_ble_eq_true rfl⟩) ⟨xPc_blind, va_recv hK hPc (ci := 0) (q0 := 0) rfl rfl, xPc_pre hPc hK hDc⟩ rfl rfl hl.1 rfl (lv_room (Nat.le_of_ble_eq_true rfl)) dX10_when_85 ⟨Nat.le_of_ble_eq_true rfl, Nat.le_of_ble_eq_true rfl⟩) hS (fun q _ h => hFc q h) hFc (fun r17 u t H1 locs ht hvm hw17 hB hz1 hk1 hS => ?_)
            obtain ⟨hru9, hw17⟩ := hw17
            subst hru9
            obtain ⟨hf17_0, hP1, hK1, hD1⟩ := hB
            rw [ht] at hP1
            obtain ⟨hP, hD⟩ : xPD D A [oAI rta cI 8 rt, oAI pna cI 64 pn, oX10 xo tp rd rn co wy sg sh pl sp lf, oX5 rn hy rsa ria raa rta rga dead key tick held tries trips ldraw gdraw, oAI fwa cI 8 fw_7, oAI fta cI 8 ft_10, oAI fra cI 8 fr_15, oAI fga cI 8 fg_16, oX3 pl pna pta rails limit retry behind, oAJ pta cJ 64 pt, oX0 co fwa fta fra fga cxa cup_13 clast_14 cpeak cptick] H1 := xjn 10 hP hD [4] [0, 1, 2, 3, 5, 6, 7, 8, 9, 10] hC9 rfl (by decide +kernel) (by decide +kernel) hk1 hFc hP1 hD1
            generalize H1 = H at hP hS ⊢
            have hf17_0 : M_isUp cup_13 a0 = (r17) := hf17_0
            have hw17 : 0 ≤ r17.toInt ∧ r17.toInt ≤ 1 := hw17
            have h9M := congrArg (fun t9 => (K_x_when_16 t9 cup_13 clast_14 fw_7 ft_10 fr_15 fg_16 a0)) hf17_0
            have hM : M_x_when a0 rails a1 cup clast fw ft fr fg pt dead rt pn = (K_x_when_16 r17 cup_13 clast_14 fw_7 ft_10 fr_15 fg_16 a0) := (show M_x_when a0 rails a1 cup clast fw ft fr fg pt dead rt pn = ((fun t9 => (K_x_when_16 t9 cup_13 clast_14 fw_7 ft_10 fr_15 fg_16 a0)) (M_isUp cup_13 a0)) from hM).trans h9M
            refine lv_if_eq (tgt := 103) hx hb dX10_when_88 (by decide) (fun c_18 => ?_) (fun c_18 => ?_)
            · skip
              have i_18 : r17.toInt = 0 := (ieq rfl (by decide)).mp c_18
              have hM : M_x_when a0 rails a1 cup clast fw ft fr fg pt dead rt pn = (K_x_when_17 cup_13 clast_14 fw_7 ft_10 fr_15 fg_16) := (show M_x_when a0 rails a1 cup clast fw ft fr fg pt dead rt pn = (if r17.toInt = 0 then (K_x_when_17 cup_13 clast_14 fw_7 ft_10 fr_15 fg_16) else (K_x_when_18 fg_16 a0 cup_13 clast_14 fw_7 ft_10 fr_15)) from hM).trans (if_pos i_18)
              refine lv_bipush (v := (-4)) hx hb dX10_when_103 (by decide) ?_
              refine W.widen (k := 0) (n := 0) (by decide) (by decide) ?_
              exact W.iret (v := (-4)) hx hb hr (fun t ht hW => ⟨⟨(-4), (-4), rfl, ⟨rfl, ⟨by decide, by decide⟩⟩, ⟨cup_13, clast_14, fw_7, ft_10, fr_15, fg_16, (xrng rfl (by omega) (by omega)), (xwk_rng hf7_0 (by decide) (by decide)), (xwk_rng hf10_0 (by decide) (by decide)), (xwk_rng hf16_2 (by decide) (by decide)), (xwk_rng hf16_3 (by decide) (by decide)), hM, hf16_5, xB_of9 ht hW hP hK hD [2, 10, 4, 5, 6, 7, 8, 1, 9, 3, 0] (by decide +kernel) rfl⟩⟩, hS.F ht⟩) hS.2.2 dX10_when_105
            · skip
              have i_18 : ¬ (r17.toInt = 0) := fun h9 => c_18 ((ieq rfl (by decide)).mpr h9)
              have hM : M_x_when a0 rails a1 cup clast fw ft fr fg pt dead rt pn = (K_x_when_18 fg_16 a0 cup_13 clast_14 fw_7 ft_10 fr_15) := (show M_x_when a0 rails a1 cup clast fw ft fr fg pt dead rt pn = (if r17.toInt = 0 then (K_x_when_17 cup_13 clast_14 fw_7 ft_10 fr_15 fg_16) else (K_x_when_18 fg_16 a0 cup_13 clast_14 fw_7 ft_10 fr_15)) from hM).trans (if_neg i_18)
              refine lv_aload_n hx hb dX10_when_91 rfl (lv_at hl 0 rfl) ?_
              refine va_get (D := D) (ci := 9) (v := .ref co) (C := RX10) (T := TX10) (N := 10) hx hb hts (fun w h => tbC w (tbfX10 w h)) hown hK hP 2 rfl rfl 3 (by decide) (hts (.fieldLink RX10 26 "PowerRails" "course" "LPowerRails$Course;") (tbC _ wd250)) (fun _ h9 => h9) rfl dX10_when_92 ?_
              refine va_get (D := D) (ci := 0) (v := .ref fga) (C := RX0) (T := TX0) (N := 9) hx hb hts (fun w h => tbC w (tbfX0 w h)) hown hK hP 10 rfl rfl 3 (by decide) (hts (.fieldLink RX10 227 "PowerRails$Course" "goodAt" "[I") (tbC _ wd145)) (fun _ h9 => h9) rfl dX10_when_95 ?_
              refine lv_iload_n hx hb dX10_when_98 rfl (lv_at hl 1 rfl) ?_
              refine va_iald hx hb hK hP 7 0 rfl rfl (vp_in_iff.mpr ⟨by omega, by omega⟩) dX10_when_99 ?_
              refine lv_topi (fun v19 ev19 => ?_)
              have rv19 : 0 ≤ v19.toInt ∧ v19.toInt ≤ 1166 := xrd ev19 hf16_3 (xinK (vp_in_iff.mpr ⟨by omega, by omega⟩))
              refine lv_goto (tgt := 105) hx hb dX10_when_100 (by decide) ?_
              refine W.widen (k := 0) (n := 0) (by decide) (by decide) ?_
              exact W.iret (v := v19) hx hb hr (fun t ht hW => ⟨⟨v19, v19, rfl, ⟨rfl, (xrng rfl (by omega) (by omega))⟩, ⟨cup_13, clast_14, fw_7, ft_10, fr_15, fg_16, (xrng rfl (by omega) (by omega)), (xwk_rng hf7_0 (by decide) (by decide)), (xwk_rng hf10_0 (by decide) (by decide)), (xwk_rng hf16_2 (by decide) (by decide)), (xwk_rng hf16_3 (by decide) (by decide)), (by rw [ev19]; exact hM), hf16_5, xB_of9 ht hW hP hK hD [2, 10, 4, 5, 6, 7, 8, 1, 9, 3, 0] (by decide +kernel) rfl⟩⟩, hS.F ht⟩) hS.2.2 dX10_when_105
          · skip
            have i_8 : a1.toInt = 1 := (ieq rfl (by decide)).mp c_8
            have hM : M_x_when a0 rails a1 cup clast fw ft fr fg pt dead rt pn = (K_x_when_12 fw_7 a0 rails pt fr fg dead pn ft) := (show M_x_when a0 rails a1 cup clast fw ft fr fg pt dead rt pn = (if a1.toInt = 1 then (K_x_when_12 fw_7 a0 rails pt fr fg dead pn ft) else (K_x_when_11 fw_7 a0 rails pt fr fg dead pn ft)) from hM).trans (if_pos i_8)
            refine lv_iconst (v := 0) hx hb dX10_when_57 (by decide) ?_
            refine lv_goto (tgt := 62) hx hb dX10_when_58 (by decide) ?_
            obtain ⟨hPc, hDc, hFc, hC9⟩ := xpk (wc := W_cSetTakes cI cJ cZ cG cH co pl (0 : Int32) fwa fta fra fga cxa cup clast cpeak cptick ft pna pta rails limit retry behind pn) hP hD hS hA [7, 1, 9, 10] (by decide +kernel) rfl
            refine va_callv (va_runV (As := [.ref pl, .int 0]) (rest := []) ⟨hx, hb, hml, hown, hts⟩ (c_cSetTakes l D cI cJ cZ cG cH H.size co pl (0 : Int32) fwa fta fra fga cxa cup clast cpeak cptick ft pna pta rails limit retry behind pn ⟨by decide, by decide⟩ (xrng rfl (by omega) (by omega)) (xwk_rng h_ft (by decide) (by decide)) (xrng rfl (by omega) (by omega)) (xwk_rng h_pn (by decide) (by decide))) (cwV 2 hts (xGV tbC wd536 wd537 wd538 wd54 wd1050) rfl rfl rfl (by decide +kernel) ⟨Nat.le_of_ble_eq_true rfl, Nat.le_of_ble_eq_true rfl⟩) ⟨xPc_blind, va_recv hK hPc (ci := 0) (q0 := 0) rfl rfl, xPc_pre hPc hK hDc⟩ rfl rfl hl.1 rfl (lv_room (Nat.le_of_ble_eq_true rfl)) dX10_when_62 ⟨Nat.le_of_ble_eq_true rfl, Nat.le_of_ble_eq_true rfl⟩) hS (fun q _ h => hFc q h) hFc (fun u t H1 locs ht hvm hw20 hB hz1 hk1 hS => ?_)
            obtain ⟨ft_21, hf21_0, hf21_1, hP1, hK1, hD1⟩ := hB
            rw [ht] at hP1
            obtain ⟨hP, hD⟩ : xPD D A [oX10 xo tp rd rn co wy sg sh pl sp lf, oAI fra cI 8 fr, oAI fga cI 8 fg, oAJ pta cJ 64 pt, oX5 rn hy rsa ria raa rta rga dead key tick held tries trips ldraw gdraw, oAI rta cI 8 rt, oAI fwa cI 8 fw_7, oX0 co fwa fta fra fga cxa cup clast cpeak cptick, oAI fta cI 8 ft_21, oX3 pl pna pta rails limit retry behind, oAI pna cI 64 pn] H1 := xjn 7 hP hD [7, 1, 9, 10] [0, 2, 3, 4, 5, 6, 8] hC9 rfl (by decide +kernel) (by decide +kernel) hk1 hFc hP1 hD1
            generalize H1 = H at hP hS ⊢
            have hf21_0 : ∀ j, j < 8 → 0 ≤ (ft_21 j).toInt ∧ (ft_21 j).toInt ≤ 511 := hf21_0
            have hf21_1 : M_cSetTakes rails pn (0 : Int32) ft = (ft_21) := hf21_1
            have h9M := congrArg (fun t9 => (K_x_when_19 fw_7 t9 a0 rails pt fr fg dead)) hf21_1
            have hM : M_x_when a0 rails a1 cup clast fw ft fr fg pt dead rt pn = (K_x_when_19 fw_7 ft_21 a0 rails pt fr fg dead) := (show M_x_when a0 rails a1 cup clast fw ft fr fg pt dead rt pn = ((fun t9 => (K_x_when_19 fw_7 t9 a0 rails pt fr fg dead)) (M_cSetTakes rails pn (0 : Int32) ft)) from hM).trans h9M
            refine lv_aload_n hx hb dX10_when_65 rfl (lv_at hl 0 rfl) ?_
            refine va_get (D := D) (ci := 9) (v := .ref co) (C := RX10) (T := TX10) (N := 10) hx hb hts (fun w h => tbC w (tbfX10 w h)) hown hK hP 0 rfl rfl 3 (by decide) (hts (.fieldLink RX10 26 "PowerRails" "course" "LPowerRails$Course;") (tbC _ wd250)) (fun _ h9 => h9) rfl dX10_when_66 ?_
            refine lv_aload_n hx hb dX10_when_69 rfl (lv_at hl 0 rfl) ?_
            refine va_get (D := D) (ci := 9) (v := .ref pl) (C := RX10) (T := TX10) (N := 10) hx hb hts (fun w h => tbC w (tbfX10 w h)) hown hK hP 0 rfl rfl 7 (by decide) (hts (.fieldLink RX10 56 "PowerRails" "plan" "LPowerRails$Plan;") (tbC _ wd254)) (fun _ h9 => h9) rfl dX10_when_70 ?_
            refine lv_aload_n hx hb dX10_when_73 rfl (lv_at hl 0 rfl) ?_
            obtain ⟨hPc, hDc, hFc, hC9⟩ := xpk (wc := W_alive cI cJ cZ cG cH xo tp rd rn co wy sg sh pl sp lf pna pta rails limit retry behind hy rsa ria raa rta rga dead key tick held tries trips ldraw gdraw) hP hD hS hA [0, 9, 4] (by decide +kernel) rfl
            refine va_calli (va_runV (As := []) (rest := [.ref pl, .ref co]) ⟨hx, hb, hml, hown, hts⟩ (c_alive l D cI cJ cZ cG cH H.size xo tp rd rn co wy sg sh pl sp lf pna pta rails limit retry behind hy rsa ria raa rta rga dead key tick held tries trips ldraw gdraw (xrng rfl (by omega) (by omega)) (xrng rfl (by omega) (by omega))) (cwV 0 hts (xGV tbC wd523 wd524 wd2 wd50 wd1046) rfl rfl rfl (by decide +kernel) ⟨Nat.le_of_ble_eq_true rfl, Nat.le_of_ble_eq_true rfl⟩) ⟨xPc_blind, va_recv hK hPc (ci := 9) (q0 := 0) rfl rfl, xPc_pre hPc hK hDc⟩ rfl rfl hl.1 rfl (lv_room (Nat.le_of_ble_eq_true rfl)) dX10_when_74 ⟨Nat.le_of_ble_eq_true rfl, Nat.le_of_ble_eq_true rfl⟩) hS (fun q _ h => hFc q h) hFc (fun r22 u t H1 locs ht hvm hw22 hB hz1 hk1 hS => ?_)
            obtain ⟨hru9, hw22⟩ := hw22
            subst hru9
            obtain ⟨hf22_0, hP1, hK1, hD1⟩ := hB
            rw [ht] at hP1
            obtain ⟨hP, hD⟩ : xPD D A [oAI fra cI 8 fr, oAI fga cI 8 fg, oAJ pta cJ 64 pt, oAI rta cI 8 rt, oAI fwa cI 8 fw_7, oX0 co fwa fta fra fga cxa cup clast cpeak cptick, oAI fta cI 8 ft_21, oAI pna cI 64 pn, oX10 xo tp rd rn co wy sg sh pl sp lf, oX3 pl pna pta rails limit retry behind, oX5 rn hy rsa ria raa rta rga dead key tick held tries trips ldraw gdraw] H1 := xjn 8 hP hD [0, 9, 4] [1, 2, 3, 5, 6, 7, 8, 10] hC9 rfl (by decide +kernel) (by decide +kernel) hk1 hFc hP1 hD1
            generalize H1 = H at hP hS ⊢
            have hf22_0 : M_alive dead rails = (r22) := hf22_0
            have hw22 : 0 ≤ r22.toInt ∧ r22.toInt ≤ 255 := hw22
            have h9M := congrArg (fun t9 => (K_x_when_20 fw_7 ft_21 a0 rails t9 pt fr fg)) hf22_0
            have hM : M_x_when a0 rails a1 cup clast fw ft fr fg pt dead rt pn = (K_x_when_20 fw_7 ft_21 a0 rails r22 pt fr fg) := (show M_x_when a0 rails a1 cup clast fw ft fr fg pt dead rt pn = ((fun t9 => (K_x_when_20 fw_7 ft_21 a0 rails t9 pt fr fg)) (M_alive dead rails)) from hM).trans h9M
            obtain ⟨hPc, hDc, hFc, hC9⟩ := xpk (wc := W_follow cI cJ cZ cG cH co pl r22 fwa fta fra fga cxa cup clast cpeak cptick fw_7 ft_21 fr fg pna pta rails limit retry behind pt) hP hD hS hA [5, 4, 6, 0, 1, 9, 2] (by decide +kernel) rfl
            refine va_callv (va_runV (As := [.ref pl, .int r22]) (rest := []) ⟨hx, hb, hml, hown, hts⟩ (c_follow l D cI cJ cZ cG cH H.size co pl r22 fwa fta fra fga cxa cup clast cpeak cptick fw_7 ft_21 fr fg pna pta rails limit retry behind pt (xrng rfl (by omega) (by omega)) (xwk_rng hf7_0 (by decide) (by decide)) (xwk_rng hf21_0 (by decide) (by decide)) (xwk_rng h_fr (by decide) (by decide)) (xwk_rng h_fg (by decide) (by decide)) (xrng rfl (by omega) (by omega)) h_le) (cwV 2 hts (xGV tbC wd525 wd526 wd527 wd54 wd1047) rfl rfl rfl (by decide +kernel) ⟨Nat.le_of_ble_eq_true rfl, Nat.le_of_ble_eq_true rfl⟩) ⟨xPc_blind, va_recv hK hPc (ci := 0) (q0 := 0) rfl rfl, xPc_pre hPc hK hDc⟩ rfl rfl hl.1 rfl (lv_room (Nat.le_of_ble_eq_true rfl)) dX10_when_77 ⟨Nat.le_of_ble_eq_true rfl, Nat.le_of_ble_eq_true rfl⟩) hS (fun q _ h => hFc q h) hFc (fun u t H1 locs ht hvm hw23 hB hz1 hk1 hS => ?_)
            revert hB
            refine xex4r (fun cup_24 clast_25 fr_26 fg_27 => ?_)
            refine xan8r (fun hf27_0 hf27_1 hf27_2 hf27_3 hf27_4 hf27_5 hP1 => ?_)
            refine xan2r (fun hK1 hD1 => ?_)
            rw [ht] at hP1
            obtain ⟨hP, hD⟩ : xPD D A [oAI rta cI 8 rt, oAI pna cI 64 pn, oX10 xo tp rd rn co wy sg sh pl sp lf, oX5 rn hy rsa ria raa rta rga dead key tick held tries trips ldraw gdraw, oX0 co fwa fta fra fga cxa cup_24 clast_25 cpeak cptick, oAI fwa cI 8 fw_7, oAI fta cI 8 ft_21, oAI fra cI 8 fr_26, oAI fga cI 8 fg_27, oX3 pl pna pta rails limit retry behind, oAJ pta cJ 64 pt] H1 := xjn 4 hP hD [5, 4, 6, 0, 1, 9, 2] [3, 7, 8, 10] hC9 rfl (by decide +kernel) (by decide +kernel) hk1 hFc hP1 hD1
            generalize H1 = H at hP hS ⊢
            have hf27_0 : 0 ≤ cup_24.toInt ∧ cup_24.toInt ≤ 255 := hf27_0
            have hf27_1 : 0 ≤ clast_25.toInt ∧ clast_25.toInt ≤ 144 := hf27_1
            have hf27_2 : ∀ j, j < 8 → 0 ≤ (fr_26 j).toInt ∧ (fr_26 j).toInt ≤ 655 := hf27_2
            have hf27_3 : ∀ j, j < 8 → 0 ≤ (fg_27 j).toInt ∧ (fg_27 j).toInt ≤ 1166 := hf27_3
            have hf27_4 : M_follow rails r22 fw_7 ft_21 pt fr fg = (cup_24, clast_25, fr_26, fg_27) := hf27_4
            have hf27_5 : ∀ j, j < 8 → (fr_26 j).toInt ≤ (fg_27 j).toInt := hf27_5
            have h9M := congrArg (fun t9 => (K_x_when_21 t9.1 t9.2.1 fw_7 ft_21 t9.2.2.1 t9.2.2.2 a0)) hf27_4
            have hM : M_x_when a0 rails a1 cup clast fw ft fr fg pt dead rt pn = (K_x_when_21 cup_24 clast_25 fw_7 ft_21 fr_26 fg_27 a0) := (show M_x_when a0 rails a1 cup clast fw ft fr fg pt dead rt pn = ((fun t9 => (K_x_when_21 t9.1 t9.2.1 fw_7 ft_21 t9.2.2.1 t9.2.2.2 a0)) (M_follow rails r22 fw_7 ft_21 pt fr fg)) from hM).trans h9M
            refine lv_aload_n hx hb dX10_when_80 rfl (lv_at hl 0 rfl) ?_
            refine va_get (D := D) (ci := 9) (v := .ref co) (C := RX10) (T := TX10) (N := 10) hx hb hts (fun w h => tbC w (tbfX10 w h)) hown hK hP 2 rfl rfl 3 (by decide) (hts (.fieldLink RX10 26 "PowerRails" "course" "LPowerRails$Course;") (tbC _ wd250)) (fun _ h9 => h9) rfl dX10_when_81 ?_
            refine lv_iload_n hx hb dX10_when_84 rfl (lv_at hl 1 rfl) ?_
            obtain ⟨hPc, hDc, hFc, hC9⟩ := xpk (wc := W_isUp cI cJ cZ cG cH co a0 fwa fta fra fga cxa cup_24 clast_25 cpeak cptick) hP hD hS hA [4] (by decide +kernel) rfl
            refine va_calli (va_runV (As := [.int a0]) (rest := []) ⟨hx, hb, hml, hown, hts⟩ (c_isUp l D cI cJ cZ cG cH H.size co a0 fwa fta fra fga cxa cup_24 clast_25 cpeak cptick (xrng rfl (by omega) (by omega))) (cwV 1 hts (xGV tbC wd539 wd540 wd541 wd54 wd1051) rfl rfl rfl (by decide +kernel) ⟨Nat.le_of_ble_eq_true rfl, Nat.le_of_ble_eq_true rfl⟩) ⟨xPc_blind, va_recv hK hPc (ci := 0) (q0 := 0) rfl rfl, xPc_pre hPc hK hDc⟩ rfl rfl hl.1 rfl (lv_room (Nat.le_of_ble_eq_true rfl)) dX10_when_85 ⟨Nat.le_of_ble_eq_true rfl, Nat.le_of_ble_eq_true rfl⟩) hS (fun q _ h => hFc q h) hFc (fun r28 u t H1 locs ht hvm hw28 hB hz1 hk1 hS => ?_)
            obtain ⟨hru9, hw28⟩ := hw28
            subst hru9
            obtain ⟨hf28_0, hP1, hK1, hD1⟩ := hB
            rw [ht] at hP1
            obtain ⟨hP, hD⟩ : xPD D A [oAI rta cI 8 rt, oAI pna cI 64 pn, oX10 xo tp rd rn co wy sg sh pl sp lf, oX5 rn hy rsa ria raa rta rga dead key tick held tries trips ldraw gdraw, oAI fwa cI 8 fw_7, oAI fta cI 8 ft_21, oAI fra cI 8 fr_26, oAI fga cI 8 fg_27, oX3 pl pna pta rails limit retry behind, oAJ pta cJ 64 pt, oX0 co fwa fta fra fga cxa cup_24 clast_25 cpeak cptick] H1 := xjn 10 hP hD [4] [0, 1, 2, 3, 5, 6, 7, 8, 9, 10] hC9 rfl (by decide +kernel) (by decide +kernel) hk1 hFc hP1 hD1
            generalize H1 = H at hP hS ⊢
            have hf28_0 : M_isUp cup_24 a0 = (r28) := hf28_0
            have hw28 : 0 ≤ r28.toInt ∧ r28.toInt ≤ 1 := hw28
            have h9M := congrArg (fun t9 => (K_x_when_22 t9 cup_24 clast_25 fw_7 ft_21 fr_26 fg_27 a0)) hf28_0
            have hM : M_x_when a0 rails a1 cup clast fw ft fr fg pt dead rt pn = (K_x_when_22 r28 cup_24 clast_25 fw_7 ft_21 fr_26 fg_27 a0) := (show M_x_when a0 rails a1 cup clast fw ft fr fg pt dead rt pn = ((fun t9 => (K_x_when_22 t9 cup_24 clast_25 fw_7 ft_21 fr_26 fg_27 a0)) (M_isUp cup_24 a0)) from hM).trans h9M
            refine lv_if_eq (tgt := 103) hx hb dX10_when_88 (by decide) (fun c_29 => ?_) (fun c_29 => ?_)
            · skip
              have i_29 : r28.toInt = 0 := (ieq rfl (by decide)).mp c_29
              have hM : M_x_when a0 rails a1 cup clast fw ft fr fg pt dead rt pn = (K_x_when_23 cup_24 clast_25 fw_7 ft_21 fr_26 fg_27) := (show M_x_when a0 rails a1 cup clast fw ft fr fg pt dead rt pn = (if r28.toInt = 0 then (K_x_when_23 cup_24 clast_25 fw_7 ft_21 fr_26 fg_27) else (K_x_when_24 fg_27 a0 cup_24 clast_25 fw_7 ft_21 fr_26)) from hM).trans (if_pos i_29)
              refine lv_bipush (v := (-4)) hx hb dX10_when_103 (by decide) ?_
              refine W.widen (k := 0) (n := 0) (by decide) (by decide) ?_
              exact W.iret (v := (-4)) hx hb hr (fun t ht hW => ⟨⟨(-4), (-4), rfl, ⟨rfl, ⟨by decide, by decide⟩⟩, ⟨cup_24, clast_25, fw_7, ft_21, fr_26, fg_27, (xrng rfl (by omega) (by omega)), (xwk_rng hf7_0 (by decide) (by decide)), (xwk_rng hf21_0 (by decide) (by decide)), (xwk_rng hf27_2 (by decide) (by decide)), (xwk_rng hf27_3 (by decide) (by decide)), hM, hf27_5, xB_of9 ht hW hP hK hD [2, 10, 4, 5, 6, 7, 8, 1, 9, 3, 0] (by decide +kernel) rfl⟩⟩, hS.F ht⟩) hS.2.2 dX10_when_105
            · skip
              have i_29 : ¬ (r28.toInt = 0) := fun h9 => c_29 ((ieq rfl (by decide)).mpr h9)
              have hM : M_x_when a0 rails a1 cup clast fw ft fr fg pt dead rt pn = (K_x_when_24 fg_27 a0 cup_24 clast_25 fw_7 ft_21 fr_26) := (show M_x_when a0 rails a1 cup clast fw ft fr fg pt dead rt pn = (if r28.toInt = 0 then (K_x_when_23 cup_24 clast_25 fw_7 ft_21 fr_26 fg_27) else (K_x_when_24 fg_27 a0 cup_24 clast_25 fw_7 ft_21 fr_26)) from hM).trans (if_neg i_29)
              refine lv_aload_n hx hb dX10_when_91 rfl (lv_at hl 0 rfl) ?_
              refine va_get (D := D) (ci := 9) (v := .ref co) (C := RX10) (T := TX10) (N := 10) hx hb hts (fun w h => tbC w (tbfX10 w h)) hown hK hP 2 rfl rfl 3 (by decide) (hts (.fieldLink RX10 26 "PowerRails" "course" "LPowerRails$Course;") (tbC _ wd250)) (fun _ h9 => h9) rfl dX10_when_92 ?_
              refine va_get (D := D) (ci := 0) (v := .ref fga) (C := RX0) (T := TX0) (N := 9) hx hb hts (fun w h => tbC w (tbfX0 w h)) hown hK hP 10 rfl rfl 3 (by decide) (hts (.fieldLink RX10 227 "PowerRails$Course" "goodAt" "[I") (tbC _ wd145)) (fun _ h9 => h9) rfl dX10_when_95 ?_
              refine lv_iload_n hx hb dX10_when_98 rfl (lv_at hl 1 rfl) ?_
              refine va_iald hx hb hK hP 7 0 rfl rfl (vp_in_iff.mpr ⟨by omega, by omega⟩) dX10_when_99 ?_
              refine lv_topi (fun v30 ev30 => ?_)
              have rv30 : 0 ≤ v30.toInt ∧ v30.toInt ≤ 1166 := xrd ev30 hf27_3 (xinK (vp_in_iff.mpr ⟨by omega, by omega⟩))
              refine lv_goto (tgt := 105) hx hb dX10_when_100 (by decide) ?_
              refine W.widen (k := 0) (n := 0) (by decide) (by decide) ?_
              exact W.iret (v := v30) hx hb hr (fun t ht hW => ⟨⟨v30, v30, rfl, ⟨rfl, (xrng rfl (by omega) (by omega))⟩, ⟨cup_24, clast_25, fw_7, ft_21, fr_26, fg_27, (xrng rfl (by omega) (by omega)), (xwk_rng hf7_0 (by decide) (by decide)), (xwk_rng hf21_0 (by decide) (by decide)), (xwk_rng hf27_2 (by decide) (by decide)), (xwk_rng hf27_3 (by decide) (by decide)), (by rw [ev30]; exact hM), hf27_5, xB_of9 ht hW hP hK hD [2, 10, 4, 5, 6, 7, 8, 1, 9, 3, 0] (by decide +kernel) rfl⟩⟩, hS.F ht⟩) hS.2.2 dX10_when_105
        · skip
          have i_5 : a1.toInt = 0 := (ieq rfl (by decide)).mp c_5
          have hM : M_x_when a0 rails a1 cup clast fw ft fr fg pt dead rt pn = (K_x_when_9 a0 rails pt fr fg dead rt ft pn fw) := (show M_x_when a0 rails a1 cup clast fw ft fr fg pt dead rt pn = (if a1.toInt = 0 then (K_x_when_9 a0 rails pt fr fg dead rt ft pn fw) else (K_x_when_8 a1 a0 rails pt fr fg dead pn ft fw)) from hM).trans (if_pos i_5)
          refine lv_aload_n hx hb dX10_when_26 rfl (lv_at hl 0 rfl) ?_
          obtain ⟨hPc, hDc, hFc, hC9⟩ := xpk (wc := W_followTimes cI cJ cZ cG cH xo tp rd rn co wy sg sh pl sp lf fwa fta fra fga cxa cup clast cpeak cptick fw ft fr fg pna pta rails limit retry behind pn pt hy rsa ria raa rta rga dead key tick held tries trips ldraw gdraw rt) hP hD hS hA [0, 1, 2, 3, 4, 5, 10, 6, 7, 8, 9] (by decide +kernel) rfl
          refine va_callv (va_runV (As := []) (rest := []) ⟨hx, hb, hml, hown, hts⟩ (c_followTimes l D cI cJ cZ cG cH H.size xo tp rd rn co wy sg sh pl sp lf fwa fta fra fga cxa cup clast cpeak cptick fw ft fr fg pna pta rails limit retry behind pn pt hy rsa ria raa rta rga dead key tick held tries trips ldraw gdraw rt (xrng rfl (by omega) (by omega)) (xwk_rng h_fw (by decide) (by decide)) (xwk_rng h_ft (by decide) (by decide)) (xwk_rng h_fr (by decide) (by decide)) (xwk_rng h_fg (by decide) (by decide)) (xrng rfl (by omega) (by omega)) (xwk_rng h_pn (by decide) (by decide)) (xrng rfl (by omega) (by omega)) (xwk_rng h_rt (by decide) (by decide)) h_le) (cwV 0 hts (xGV tbC wd513 wd514 wd1 wd50 wd1043) rfl rfl rfl (by decide +kernel) ⟨Nat.le_of_ble_eq_true rfl, Nat.le_of_ble_eq_true rfl⟩) ⟨xPc_blind, va_recv hK hPc (ci := 9) (q0 := 0) rfl rfl, xPc_pre hPc hK hDc⟩ rfl rfl hl.1 rfl (lv_room (Nat.le_of_ble_eq_true rfl)) dX10_when_27 ⟨Nat.le_of_ble_eq_true rfl, Nat.le_of_ble_eq_true rfl⟩) hS (fun q _ h => hFc q h) hFc (fun u t H1 locs ht hvm hw31 hB hz1 hk1 hS => ?_)
          revert hB
          refine xex6r (fun cup_32 clast_33 fw_34 ft_35 fr_36 fg_37 => ?_)
          refine xan8r (fun hf37_0 hf37_1 hf37_2 hf37_3 hf37_4 hf37_5 hf37_6 => ?_)
          refine xan4r (fun hf37_7 hP1 hK1 hD1 => ?_)
          rw [ht] at hP1
          obtain ⟨hP, hD⟩ : xPD D A [oX10 xo tp rd rn co wy sg sh pl sp lf, oX0 co fwa fta fra fga cxa cup_32 clast_33 cpeak cptick, oAI fwa cI 8 fw_34, oAI fta cI 8 ft_35, oAI fra cI 8 fr_36, oAI fga cI 8 fg_37, oX3 pl pna pta rails limit retry behind, oAI pna cI 64 pn, oAJ pta cJ 64 pt, oX5 rn hy rsa ria raa rta rga dead key tick held tries trips ldraw gdraw, oAI rta cI 8 rt] H1 := xjn 0 hP hD [0, 1, 2, 3, 4, 5, 10, 6, 7, 8, 9] [] hC9 rfl (by decide +kernel) (by decide +kernel) hk1 hFc hP1 hD1
          generalize H1 = H at hP hS ⊢
          have hf37_0 : 0 ≤ cup_32.toInt ∧ cup_32.toInt ≤ 255 := hf37_0
          have hf37_1 : 0 ≤ clast_33.toInt ∧ clast_33.toInt ≤ 144 := hf37_1
          have hf37_2 : ∀ j, j < 8 → 0 ≤ (fw_34 j).toInt ∧ (fw_34 j).toInt ≤ 511 := hf37_2
          have hf37_3 : ∀ j, j < 8 → 0 ≤ (ft_35 j).toInt ∧ (ft_35 j).toInt ≤ 511 := hf37_3
          have hf37_4 : ∀ j, j < 8 → 0 ≤ (fr_36 j).toInt ∧ (fr_36 j).toInt ≤ 655 := hf37_4
          have hf37_5 : ∀ j, j < 8 → 0 ≤ (fg_37 j).toInt ∧ (fg_37 j).toInt ≤ 1166 := hf37_5
          have hf37_6 : M_followTimes rails pt fr fg dead rt ft pn fw = (cup_32, clast_33, fw_34, ft_35, fr_36, fg_37) := hf37_6
          have hf37_7 : ∀ j, j < 8 → (fr_36 j).toInt ≤ (fg_37 j).toInt := hf37_7
          have h9M := congrArg (fun t9 => (K_x_when_25 t9.1 t9.2.1 t9.2.2.1 t9.2.2.2.1 t9.2.2.2.2.1 t9.2.2.2.2.2 a0)) hf37_6
          have hM : M_x_when a0 rails a1 cup clast fw ft fr fg pt dead rt pn = (K_x_when_25 cup_32 clast_33 fw_34 ft_35 fr_36 fg_37 a0) := (show M_x_when a0 rails a1 cup clast fw ft fr fg pt dead rt pn = ((fun t9 => (K_x_when_25 t9.1 t9.2.1 t9.2.2.1 t9.2.2.2.1 t9.2.2.2.2.1 t9.2.2.2.2.2 a0)) (M_followTimes rails pt fr fg dead rt ft pn fw)) from hM).trans h9M
          refine lv_goto (tgt := 80) hx hb dX10_when_30 (by decide) ?_
          refine lv_aload_n hx hb dX10_when_80 rfl (lv_at hl 0 rfl) ?_
          refine va_get (D := D) (ci := 9) (v := .ref co) (C := RX10) (T := TX10) (N := 10) hx hb hts (fun w h => tbC w (tbfX10 w h)) hown hK hP 0 rfl rfl 3 (by decide) (hts (.fieldLink RX10 26 "PowerRails" "course" "LPowerRails$Course;") (tbC _ wd250)) (fun _ h9 => h9) rfl dX10_when_81 ?_
          refine lv_iload_n hx hb dX10_when_84 rfl (lv_at hl 1 rfl) ?_
          obtain ⟨hPc, hDc, hFc, hC9⟩ := xpk (wc := W_isUp cI cJ cZ cG cH co a0 fwa fta fra fga cxa cup_32 clast_33 cpeak cptick) hP hD hS hA [1] (by decide +kernel) rfl
          refine va_calli (va_runV (As := [.int a0]) (rest := []) ⟨hx, hb, hml, hown, hts⟩ (c_isUp l D cI cJ cZ cG cH H.size co a0 fwa fta fra fga cxa cup_32 clast_33 cpeak cptick (xrng rfl (by omega) (by omega))) (cwV 1 hts (xGV tbC wd539 wd540 wd541 wd54 wd1051) rfl rfl rfl (by decide +kernel) ⟨Nat.le_of_ble_eq_true rfl, Nat.le_of_ble_eq_true rfl⟩) ⟨xPc_blind, va_recv hK hPc (ci := 0) (q0 := 0) rfl rfl, xPc_pre hPc hK hDc⟩ rfl rfl hl.1 rfl (lv_room (Nat.le_of_ble_eq_true rfl)) dX10_when_85 ⟨Nat.le_of_ble_eq_true rfl, Nat.le_of_ble_eq_true rfl⟩) hS (fun q _ h => hFc q h) hFc (fun r38 u t H1 locs ht hvm hw38 hB hz1 hk1 hS => ?_)
          obtain ⟨hru9, hw38⟩ := hw38
          subst hru9
          obtain ⟨hf38_0, hP1, hK1, hD1⟩ := hB
          rw [ht] at hP1
          obtain ⟨hP, hD⟩ : xPD D A [oX10 xo tp rd rn co wy sg sh pl sp lf, oAI fwa cI 8 fw_34, oAI fta cI 8 ft_35, oAI fra cI 8 fr_36, oAI fga cI 8 fg_37, oX3 pl pna pta rails limit retry behind, oAI pna cI 64 pn, oAJ pta cJ 64 pt, oX5 rn hy rsa ria raa rta rga dead key tick held tries trips ldraw gdraw, oAI rta cI 8 rt, oX0 co fwa fta fra fga cxa cup_32 clast_33 cpeak cptick] H1 := xjn 10 hP hD [1] [0, 2, 3, 4, 5, 6, 7, 8, 9, 10] hC9 rfl (by decide +kernel) (by decide +kernel) hk1 hFc hP1 hD1
          generalize H1 = H at hP hS ⊢
          have hf38_0 : M_isUp cup_32 a0 = (r38) := hf38_0
          have hw38 : 0 ≤ r38.toInt ∧ r38.toInt ≤ 1 := hw38
          have h9M := congrArg (fun t9 => (K_x_when_26 t9 cup_32 clast_33 fw_34 ft_35 fr_36 fg_37 a0)) hf38_0
          have hM : M_x_when a0 rails a1 cup clast fw ft fr fg pt dead rt pn = (K_x_when_26 r38 cup_32 clast_33 fw_34 ft_35 fr_36 fg_37 a0) := (show M_x_when a0 rails a1 cup clast fw ft fr fg pt dead rt pn = ((fun t9 => (K_x_when_26 t9 cup_32 clast_33 fw_34 ft_35 fr_36 fg_37 a0)) (M_isUp cup_32 a0)) from hM).trans h9M
          refine lv_if_eq (tgt := 103) hx hb dX10_when_88 (by decide) (fun c_39 => ?_) (fun c_39 => ?_)
          · skip
            have i_39 : r38.toInt = 0 := (ieq rfl (by decide)).mp c_39
            have hM : M_x_when a0 rails a1 cup clast fw ft fr fg pt dead rt pn = (K_x_when_27 cup_32 clast_33 fw_34 ft_35 fr_36 fg_37) := (show M_x_when a0 rails a1 cup clast fw ft fr fg pt dead rt pn = (if r38.toInt = 0 then (K_x_when_27 cup_32 clast_33 fw_34 ft_35 fr_36 fg_37) else (K_x_when_28 fg_37 a0 cup_32 clast_33 fw_34 ft_35 fr_36)) from hM).trans (if_pos i_39)
            refine lv_bipush (v := (-4)) hx hb dX10_when_103 (by decide) ?_
            refine W.widen (k := 0) (n := 0) (by decide) (by decide) ?_
            exact W.iret (v := (-4)) hx hb hr (fun t ht hW => ⟨⟨(-4), (-4), rfl, ⟨rfl, ⟨by decide, by decide⟩⟩, ⟨cup_32, clast_33, fw_34, ft_35, fr_36, fg_37, (xrng rfl (by omega) (by omega)), (xwk_rng hf37_2 (by decide) (by decide)), (xwk_rng hf37_3 (by decide) (by decide)), (xwk_rng hf37_4 (by decide) (by decide)), (xwk_rng hf37_5 (by decide) (by decide)), hM, hf37_7, xB_of9 ht hW hP hK hD [0, 10, 1, 2, 3, 4, 5, 6, 7, 8, 9] (by decide +kernel) rfl⟩⟩, hS.F ht⟩) hS.2.2 dX10_when_105
          · skip
            have i_39 : ¬ (r38.toInt = 0) := fun h9 => c_39 ((ieq rfl (by decide)).mpr h9)
            have hM : M_x_when a0 rails a1 cup clast fw ft fr fg pt dead rt pn = (K_x_when_28 fg_37 a0 cup_32 clast_33 fw_34 ft_35 fr_36) := (show M_x_when a0 rails a1 cup clast fw ft fr fg pt dead rt pn = (if r38.toInt = 0 then (K_x_when_27 cup_32 clast_33 fw_34 ft_35 fr_36 fg_37) else (K_x_when_28 fg_37 a0 cup_32 clast_33 fw_34 ft_35 fr_36)) from hM).trans (if_neg i_39)
            refine lv_aload_n hx hb dX10_when_91 rfl (lv_at hl 0 rfl) ?_
            refine va_get (D := D) (ci := 9) (v := .ref co) (C := RX10) (T := TX10) (N := 10) hx hb hts (fun w h => tbC w (tbfX10 w h)) hown hK hP 0 rfl rfl 3 (by decide) (hts (.fieldLink RX10 26 "PowerRails" "course" "LPowerRails$Course;") (tbC _ wd250)) (fun _ h9 => h9) rfl dX10_when_92 ?_
            refine va_get (D := D) (ci := 0) (v := .ref fga) (C := RX0) (T := TX0) (N := 9) hx hb hts (fun w h => tbC w (tbfX0 w h)) hown hK hP 10 rfl rfl 3 (by decide) (hts (.fieldLink RX10 227 "PowerRails$Course" "goodAt" "[I") (tbC _ wd145)) (fun _ h9 => h9) rfl dX10_when_95 ?_
            refine lv_iload_n hx hb dX10_when_98 rfl (lv_at hl 1 rfl) ?_
            refine va_iald hx hb hK hP 4 0 rfl rfl (vp_in_iff.mpr ⟨by omega, by omega⟩) dX10_when_99 ?_
            refine lv_topi (fun v40 ev40 => ?_)
            have rv40 : 0 ≤ v40.toInt ∧ v40.toInt ≤ 1166 := xrd ev40 hf37_5 (xinK (vp_in_iff.mpr ⟨by omega, by omega⟩))
            refine lv_goto (tgt := 105) hx hb dX10_when_100 (by decide) ?_
            refine W.widen (k := 0) (n := 0) (by decide) (by decide) ?_
            exact W.iret (v := v40) hx hb hr (fun t ht hW => ⟨⟨v40, v40, rfl, ⟨rfl, (xrng rfl (by omega) (by omega))⟩, ⟨cup_32, clast_33, fw_34, ft_35, fr_36, fg_37, (xrng rfl (by omega) (by omega)), (xwk_rng hf37_2 (by decide) (by decide)), (xwk_rng hf37_3 (by decide) (by decide)), (xwk_rng hf37_4 (by decide) (by decide)), (xwk_rng hf37_5 (by decide) (by decide)), (by rw [ev40]; exact hM), hf37_7, xB_of9 ht hW hP hK hD [0, 10, 1, 2, 3, 4, 5, 6, 7, 8, 9] (by decide +kernel) rfl⟩⟩, hS.F ht⟩) hS.2.2 dX10_when_105
      · skip
        have i_4 : ¬ (a1.toInt ≤ 2) := fun h9 => c_4 ((ile rfl (by decide)).mpr h9)
        have hM : M_x_when a0 rails a1 cup clast fw ft fr fg pt dead rt pn = (K_x_when_7 cup clast fw ft fr fg) := (show M_x_when a0 rails a1 cup clast fw ft fr fg pt dead rt pn = (if a1.toInt ≤ 2 then (K_x_when_6 a1 a0 rails pt fr fg dead rt ft pn fw) else (K_x_when_7 cup clast fw ft fr fg)) from hM).trans (if_neg i_4)
        refine lv_iconst (v := (-1)) hx hb dX10_when_20 (by decide) ?_
        refine W.widen (k := 0) (n := 0) (by decide) (by decide) ?_
        exact W.iret (v := (-1)) hx hb hr (fun t ht hW => ⟨⟨(-1), (-1), rfl, ⟨rfl, ⟨by decide, by decide⟩⟩, ⟨cup, clast, fw, ft, fr, fg, (xrng rfl (by omega) (by omega)), (xwk_rng h_fw (by decide) (by decide)), (xwk_rng h_ft (by decide) (by decide)), (xwk_rng h_fr (by decide) (by decide)), (xwk_rng h_fg (by decide) (by decide)), hM, h_le, xB_of9 ht hW hP hK hD [0, 1, 2, 3, 4, 5, 10, 6, 7, 8, 9] (by decide +kernel) rfl⟩⟩, hS.F ht⟩) hS.2.2 dX10_when_21
def K_x_ahead_6 (wb : Nat → Int32) (wk : Nat → Int32) (cup : Int32) (clast : Int32) (fw : Nat → Int32) (ft : Nat → Int32) (fr : Nat → Int32) (fg : Nat → Int32) : (Int32) × (Nat → Int32) × (Nat → Int32) × (Int32) × (Int32) × (Nat → Int32) × (Nat → Int32) × (Nat → Int32) × (Nat → Int32) := ((-1000 : Int32), wb, wk, cup, clast, fw, ft, fr, fg)
def K_x_ahead_8 (wb : Nat → Int32) (wk : Nat → Int32) (cup : Int32) (clast : Int32) (fw : Nat → Int32) (ft : Nat → Int32) (fr : Nat → Int32) (fg : Nat → Int32) : (Int32) × (Nat → Int32) × (Nat → Int32) × (Int32) × (Int32) × (Nat → Int32) × (Nat → Int32) × (Nat → Int32) × (Nat → Int32) := ((-1000 : Int32), wb, wk, cup, clast, fw, ft, fr, fg)
def K_x_ahead_22 (r18 : Int32) (wb_19 : Nat → Int32) (wk_20 : Nat → Int32) (cup_21 : Int32) (clast_22 : Int32) (fw_23 : Nat → Int32) (ft_24 : Nat → Int32) (fr_25 : Nat → Int32) (fg_26 : Nat → Int32) : (Int32) × (Nat → Int32) × (Nat → Int32) × (Int32) × (Int32) × (Nat → Int32) × (Nat → Int32) × (Nat → Int32) × (Nat → Int32) := (r18, wb_19, wk_20, cup_21, clast_22, fw_23, ft_24, fr_25, fg_26)
def K_x_ahead_26 (wb_19 : Nat → Int32) (wk_20 : Nat → Int32) (cup_21 : Int32) (clast_22 : Int32) (fw_23 : Nat → Int32) (ft_24 : Nat → Int32) (fr_25 : Nat → Int32) (fg_26 : Nat → Int32) : (Int32) × (Nat → Int32) × (Nat → Int32) × (Int32) × (Int32) × (Nat → Int32) × (Nat → Int32) × (Nat → Int32) × (Nat → Int32) := ((1 : Int32), wb_19, wk_20, cup_21, clast_22, fw_23, ft_24, fr_25, fg_26)
def K_x_ahead_25 (wb_19 : Nat → Int32) (wk_20 : Nat → Int32) (cup_21 : Int32) (clast_22 : Int32) (fw_23 : Nat → Int32) (ft_24 : Nat → Int32) (fr_25 : Nat → Int32) (fg_26 : Nat → Int32) : (Int32) × (Nat → Int32) × (Nat → Int32) × (Int32) × (Int32) × (Nat → Int32) × (Nat → Int32) × (Nat → Int32) × (Nat → Int32) := ((0 : Int32), wb_19, wk_20, cup_21, clast_22, fw_23, ft_24, fr_25, fg_26)
def K_x_ahead_23 (r18 : Int32) (wb_19 : Nat → Int32) (wk_20 : Nat → Int32) (cup_21 : Int32) (clast_22 : Int32) (fw_23 : Nat → Int32) (ft_24 : Nat → Int32) (fr_25 : Nat → Int32) (fg_26 : Nat → Int32) : (Int32) × (Nat → Int32) × (Nat → Int32) × (Int32) × (Int32) × (Nat → Int32) × (Nat → Int32) × (Nat → Int32) × (Nat → Int32) := (if r18.toInt = 0 then (K_x_ahead_26 wb_19 wk_20 cup_21 clast_22 fw_23 ft_24 fr_25 fg_26) else (K_x_ahead_25 wb_19 wk_20 cup_21 clast_22 fw_23 ft_24 fr_25 fg_26))
def K_x_ahead_24 (wb_19 : Nat → Int32) (wk_20 : Nat → Int32) (cup_21 : Int32) (clast_22 : Int32) (fw_23 : Nat → Int32) (ft_24 : Nat → Int32) (fr_25 : Nat → Int32) (fg_26 : Nat → Int32) : (Int32) × (Nat → Int32) × (Nat → Int32) × (Int32) × (Int32) × (Nat → Int32) × (Nat → Int32) × (Nat → Int32) × (Nat → Int32) := ((2 : Int32), wb_19, wk_20, cup_21, clast_22, fw_23, ft_24, fr_25, fg_26)
def K_x_ahead_21 (r18 : Int32) (wb_19 : Nat → Int32) (wk_20 : Nat → Int32) (cup_21 : Int32) (clast_22 : Int32) (fw_23 : Nat → Int32) (ft_24 : Nat → Int32) (fr_25 : Nat → Int32) (fg_26 : Nat → Int32) : (Int32) × (Nat → Int32) × (Nat → Int32) × (Int32) × (Int32) × (Nat → Int32) × (Nat → Int32) × (Nat → Int32) × (Nat → Int32) := (if 0 ≤ r18.toInt then (K_x_ahead_23 r18 wb_19 wk_20 cup_21 clast_22 fw_23 ft_24 fr_25 fg_26) else (K_x_ahead_24 wb_19 wk_20 cup_21 clast_22 fw_23 ft_24 fr_25 fg_26))
def K_x_ahead_20 (a2 : Int32) (r18 : Int32) (wb_19 : Nat → Int32) (wk_20 : Nat → Int32) (cup_21 : Int32) (clast_22 : Int32) (fw_23 : Nat → Int32) (ft_24 : Nat → Int32) (fr_25 : Nat → Int32) (fg_26 : Nat → Int32) : (Int32) × (Nat → Int32) × (Nat → Int32) × (Int32) × (Int32) × (Nat → Int32) × (Nat → Int32) × (Nat → Int32) × (Nat → Int32) := (if a2.toInt = 1 then (K_x_ahead_22 r18 wb_19 wk_20 cup_21 clast_22 fw_23 ft_24 fr_25 fg_26) else (K_x_ahead_21 r18 wb_19 wk_20 cup_21 clast_22 fw_23 ft_24 fr_25 fg_26))
def K_x_ahead_19 (a2 : Int32) (wk : Nat → Int32) (a0 : Int32) (a1 : Int32) (wb : Nat → Int32) (rails : Int32) (pn : Nat → Int32) (pt : Nat → Int64) (fr : Nat → Int32) (fg : Nat → Int32) (cup : Int32) (clast : Int32) (ft : Nat → Int32) (fw : Nat → Int32) (r17 : Int32) : (Int32) × (Nat → Int32) × (Nat → Int32) × (Int32) × (Int32) × (Nat → Int32) × (Nat → Int32) × (Nat → Int32) × (Nat → Int32) := ((fun t9 => (K_x_ahead_20 a2 t9.1 t9.2.1 t9.2.2.1 t9.2.2.2.1 t9.2.2.2.2.1 t9.2.2.2.2.2.1 t9.2.2.2.2.2.2.1 t9.2.2.2.2.2.2.2.1 t9.2.2.2.2.2.2.2.2)) (M_mostBehind wk a0 a1 wb rails pn pt fr fg cup clast ft fw r17))
def K_x_ahead_17 (a2 : Int32) (wk : Nat → Int32) (a0 : Int32) (a1 : Int32) (wb : Nat → Int32) (rails : Int32) (pn : Nat → Int32) (pt : Nat → Int64) (fr : Nat → Int32) (fg : Nat → Int32) (cup : Int32) (clast : Int32) (ft : Nat → Int32) (fw : Nat → Int32) (dead : Int32) : (Int32) × (Nat → Int32) × (Nat → Int32) × (Int32) × (Int32) × (Nat → Int32) × (Nat → Int32) × (Nat → Int32) × (Nat → Int32) := ((fun t9 => (K_x_ahead_19 a2 wk a0 a1 wb rails pn pt fr fg cup clast ft fw t9)) (M_alive dead rails))
def K_x_ahead_18 (wb : Nat → Int32) (wk : Nat → Int32) (cup : Int32) (clast : Int32) (fw : Nat → Int32) (ft : Nat → Int32) (fr : Nat → Int32) (fg : Nat → Int32) : (Int32) × (Nat → Int32) × (Nat → Int32) × (Int32) × (Int32) × (Nat → Int32) × (Nat → Int32) × (Nat → Int32) × (Nat → Int32) := ((-1004 : Int32), wb, wk, cup, clast, fw, ft, fr, fg)
def K_x_ahead_16 (r14 : Int32) (v12 : Int32) (a2 : Int32) (wk : Nat → Int32) (a0 : Int32) (a1 : Int32) (wb : Nat → Int32) (rails : Int32) (pn : Nat → Int32) (pt : Nat → Int64) (fr : Nat → Int32) (fg : Nat → Int32) (cup : Int32) (clast : Int32) (ft : Nat → Int32) (fw : Nat → Int32) (dead : Int32) : (Int32) × (Nat → Int32) × (Nat → Int32) × (Int32) × (Int32) × (Nat → Int32) × (Nat → Int32) × (Nat → Int32) × (Nat → Int32) := (if (r14 &&& v12).toInt = v12.toInt then (K_x_ahead_17 a2 wk a0 a1 wb rails pn pt fr fg cup clast ft fw dead) else (K_x_ahead_18 wb wk cup clast fw ft fr fg))
def K_x_ahead_15 (v12 : Int32) (a2 : Int32) (wk : Nat → Int32) (a0 : Int32) (a1 : Int32) (wb : Nat → Int32) (rails : Int32) (pn : Nat → Int32) (pt : Nat → Int64) (fr : Nat → Int32) (fg : Nat → Int32) (cup : Int32) (clast : Int32) (ft : Nat → Int32) (fw : Nat → Int32) (dead : Int32) (r13 : Int32) : (Int32) × (Nat → Int32) × (Nat → Int32) × (Int32) × (Int32) × (Nat → Int32) × (Nat → Int32) × (Nat → Int32) × (Nat → Int32) := ((fun t9 => (K_x_ahead_16 t9 v12 a2 wk a0 a1 wb rails pn pt fr fg cup clast ft fw dead)) (M_upAmong rails r13 pt))
def K_x_ahead_13 (a0 : Int32) (a1 : Int32) (a2 : Int32) (wk : Nat → Int32) (wb : Nat → Int32) (rails : Int32) (pn : Nat → Int32) (pt : Nat → Int64) (fr : Nat → Int32) (fg : Nat → Int32) (cup : Int32) (clast : Int32) (ft : Nat → Int32) (fw : Nat → Int32) (dead : Int32) : (Int32) × (Nat → Int32) × (Nat → Int32) × (Int32) × (Int32) × (Nat → Int32) × (Nat → Int32) × (Nat → Int32) × (Nat → Int32) := ((fun t9 => (K_x_ahead_15 (((1 : Int32) <<< (a0 &&& 31)) ||| ((1 : Int32) <<< (a1 &&& 31))) a2 wk a0 a1 wb rails pn pt fr fg cup clast ft fw dead t9)) (M_alive dead rails))
def K_x_ahead_14 (wb : Nat → Int32) (wk : Nat → Int32) (cup : Int32) (clast : Int32) (fw : Nat → Int32) (ft : Nat → Int32) (fr : Nat → Int32) (fg : Nat → Int32) : (Int32) × (Nat → Int32) × (Nat → Int32) × (Int32) × (Int32) × (Nat → Int32) × (Nat → Int32) × (Nat → Int32) × (Nat → Int32) := ((-1002 : Int32), wb, wk, cup, clast, fw, ft, fr, fg)
def K_x_ahead_12 (r8 : Int32) (a0 : Int32) (a1 : Int32) (a2 : Int32) (wk : Nat → Int32) (wb : Nat → Int32) (rails : Int32) (pn : Nat → Int32) (pt : Nat → Int64) (fr : Nat → Int32) (fg : Nat → Int32) (cup : Int32) (clast : Int32) (ft : Nat → Int32) (fw : Nat → Int32) (dead : Int32) : (Int32) × (Nat → Int32) × (Nat → Int32) × (Int32) × (Int32) × (Nat → Int32) × (Nat → Int32) × (Nat → Int32) × (Nat → Int32) := (if r8.toInt ≤ 20000 then (K_x_ahead_13 a0 a1 a2 wk wb rails pn pt fr fg cup clast ft fw dead) else (K_x_ahead_14 wb wk cup clast fw ft fr fg))
def K_x_ahead_10 (a0 : Int32) (a1 : Int32) (a2 : Int32) (wk : Nat → Int32) (wb : Nat → Int32) (rails : Int32) (pn : Nat → Int32) (pt : Nat → Int64) (fr : Nat → Int32) (fg : Nat → Int32) (cup : Int32) (clast : Int32) (ft : Nat → Int32) (fw : Nat → Int32) (dead : Int32) : (Int32) × (Nat → Int32) × (Nat → Int32) × (Int32) × (Int32) × (Nat → Int32) × (Nat → Int32) × (Nat → Int32) × (Nat → Int32) := ((fun t9 => (K_x_ahead_12 t9 a0 a1 a2 wk wb rails pn pt fr fg cup clast ft fw dead)) (M_countWays rails pn))
def K_x_ahead_11 (wb : Nat → Int32) (wk : Nat → Int32) (cup : Int32) (clast : Int32) (fw : Nat → Int32) (ft : Nat → Int32) (fr : Nat → Int32) (fg : Nat → Int32) : (Int32) × (Nat → Int32) × (Nat → Int32) × (Int32) × (Int32) × (Nat → Int32) × (Nat → Int32) × (Nat → Int32) × (Nat → Int32) := ((-1000 : Int32), wb, wk, cup, clast, fw, ft, fr, fg)
def K_x_ahead_9 (a2 : Int32) (a0 : Int32) (a1 : Int32) (wk : Nat → Int32) (wb : Nat → Int32) (rails : Int32) (pn : Nat → Int32) (pt : Nat → Int64) (fr : Nat → Int32) (fg : Nat → Int32) (cup : Int32) (clast : Int32) (ft : Nat → Int32) (fw : Nat → Int32) (dead : Int32) : (Int32) × (Nat → Int32) × (Nat → Int32) × (Int32) × (Int32) × (Nat → Int32) × (Nat → Int32) × (Nat → Int32) × (Nat → Int32) := (if a2.toInt ≤ 1 then (K_x_ahead_10 a0 a1 a2 wk wb rails pn pt fr fg cup clast ft fw dead) else (K_x_ahead_11 wb wk cup clast fw ft fr fg))
def K_x_ahead_7 (a2 : Int32) (wb : Nat → Int32) (wk : Nat → Int32) (cup : Int32) (clast : Int32) (fw : Nat → Int32) (ft : Nat → Int32) (fr : Nat → Int32) (fg : Nat → Int32) (a0 : Int32) (a1 : Int32) (rails : Int32) (pn : Nat → Int32) (pt : Nat → Int64) (dead : Int32) : (Int32) × (Nat → Int32) × (Nat → Int32) × (Int32) × (Int32) × (Nat → Int32) × (Nat → Int32) × (Nat → Int32) × (Nat → Int32) := (if a2.toInt < 0 then (K_x_ahead_8 wb wk cup clast fw ft fr fg) else (K_x_ahead_9 a2 a0 a1 wk wb rails pn pt fr fg cup clast ft fw dead))
def K_x_ahead_5 (a0 : Int32) (a1 : Int32) (wb : Nat → Int32) (wk : Nat → Int32) (cup : Int32) (clast : Int32) (fw : Nat → Int32) (ft : Nat → Int32) (fr : Nat → Int32) (fg : Nat → Int32) (a2 : Int32) (rails : Int32) (pn : Nat → Int32) (pt : Nat → Int64) (dead : Int32) : (Int32) × (Nat → Int32) × (Nat → Int32) × (Int32) × (Int32) × (Nat → Int32) × (Nat → Int32) × (Nat → Int32) × (Nat → Int32) := (if a0.toInt = a1.toInt then (K_x_ahead_6 wb wk cup clast fw ft fr fg) else (K_x_ahead_7 a2 wb wk cup clast fw ft fr fg a0 a1 rails pn pt dead))
def K_x_ahead_4 (wb : Nat → Int32) (wk : Nat → Int32) (cup : Int32) (clast : Int32) (fw : Nat → Int32) (ft : Nat → Int32) (fr : Nat → Int32) (fg : Nat → Int32) : (Int32) × (Nat → Int32) × (Nat → Int32) × (Int32) × (Int32) × (Nat → Int32) × (Nat → Int32) × (Nat → Int32) × (Nat → Int32) := ((-1000 : Int32), wb, wk, cup, clast, fw, ft, fr, fg)
def K_x_ahead_3 (a1 : Int32) (rails : Int32) (a0 : Int32) (wb : Nat → Int32) (wk : Nat → Int32) (cup : Int32) (clast : Int32) (fw : Nat → Int32) (ft : Nat → Int32) (fr : Nat → Int32) (fg : Nat → Int32) (a2 : Int32) (pn : Nat → Int32) (pt : Nat → Int64) (dead : Int32) : (Int32) × (Nat → Int32) × (Nat → Int32) × (Int32) × (Int32) × (Nat → Int32) × (Nat → Int32) × (Nat → Int32) × (Nat → Int32) := (if 0 ≤ a1.toInt ∧ a1.toInt < rails.toInt then (K_x_ahead_5 a0 a1 wb wk cup clast fw ft fr fg a2 rails pn pt dead) else (K_x_ahead_4 wb wk cup clast fw ft fr fg))
def K_x_ahead_2 (wb : Nat → Int32) (wk : Nat → Int32) (cup : Int32) (clast : Int32) (fw : Nat → Int32) (ft : Nat → Int32) (fr : Nat → Int32) (fg : Nat → Int32) : (Int32) × (Nat → Int32) × (Nat → Int32) × (Int32) × (Int32) × (Nat → Int32) × (Nat → Int32) × (Nat → Int32) × (Nat → Int32) := ((-1000 : Int32), wb, wk, cup, clast, fw, ft, fr, fg)
def K_x_ahead_1 (a0 : Int32) (rails : Int32) (a1 : Int32) (wb : Nat → Int32) (wk : Nat → Int32) (cup : Int32) (clast : Int32) (fw : Nat → Int32) (ft : Nat → Int32) (fr : Nat → Int32) (fg : Nat → Int32) (a2 : Int32) (pn : Nat → Int32) (pt : Nat → Int64) (dead : Int32) : (Int32) × (Nat → Int32) × (Nat → Int32) × (Int32) × (Int32) × (Nat → Int32) × (Nat → Int32) × (Nat → Int32) × (Nat → Int32) := (if 0 ≤ a0.toInt ∧ a0.toInt < rails.toInt then (K_x_ahead_3 a1 rails a0 wb wk cup clast fw ft fr fg a2 pn pt dead) else (K_x_ahead_2 wb wk cup clast fw ft fr fg))
def M_x_ahead (a0 : Int32) (rails : Int32) (a1 : Int32) (wb : Nat → Int32) (wk : Nat → Int32) (cup : Int32) (clast : Int32) (fw : Nat → Int32) (ft : Nat → Int32) (fr : Nat → Int32) (fg : Nat → Int32) (a2 : Int32) (pn : Nat → Int32) (pt : Nat → Int64) (dead : Int32) : (Int32) × (Nat → Int32) × (Nat → Int32) × (Int32) × (Int32) × (Nat → Int32) × (Nat → Int32) × (Nat → Int32) × (Nat → Int32) := (K_x_ahead_1 a0 rails a1 wb wk cup clast fw ft fr fg a2 pn pt dead)
abbrev W_x_ahead (cI cJ cZ cG cH : ClassId) (xo : Nat) (a0 : Int32) (a1 : Int32) (a2 : Int32) (tp : Nat) (rd : Nat) (rn : Nat) (co : Nat) (wy : Nat) (sg : Nat) (sh : Nat) (pl : Nat) (sp : Nat) (lf : Int32) (wba : Nat) (wka : Nat) (pk : Int32) (gpk : Int32) (lpk : Int32) (wb : Nat → Int32) (wk : Nat → Int32) (fwa : Nat) (fta : Nat) (fra : Nat) (fga : Nat) (cxa : Nat) (cup : Int32) (clast : Int32) (cpeak : Int32) (cptick : Int32) (fw : Nat → Int32) (ft : Nat → Int32) (fr : Nat → Int32) (fg : Nat → Int32) (pna : Nat) (pta : Nat) (rails : Int32) (limit : Int32) (retry : Int32) (behind : Int32) (pn : Nat → Int32) (pt : Nat → Int64) (hy : Nat) (rsa : Nat) (ria : Nat) (raa : Nat) (rta : Nat) (rga : Nat) (dead : Int32) (key : Int32) (tick : Int32) (held : Int32) (tries : Int32) (trips : Int32) (ldraw : Int32) (gdraw : Int32) : va_W := [oX10 xo tp rd rn co wy sg sh pl sp lf, oX9 wy co wba wka pk gpk lpk, oAI wba cI 64 wb, oAI wka cZ 64 wk, oX0 co fwa fta fra fga cxa cup clast cpeak cptick, oAI fwa cI 8 fw, oAI fta cI 8 ft, oAI fra cI 8 fr, oAI fga cI 8 fg, oX3 pl pna pta rails limit retry behind, oAI pna cI 64 pn, oAJ pta cJ 64 pt, oX5 rn hy rsa ria raa rta rga dead key tick held tries trips ldraw gdraw]
abbrev Q_x_ahead (D : va_G) (cI cJ cZ cG cH : ClassId) (xo : Nat) (a0 : Int32) (a1 : Int32) (a2 : Int32) (tp : Nat) (rd : Nat) (rn : Nat) (co : Nat) (wy : Nat) (sg : Nat) (sh : Nat) (pl : Nat) (sp : Nat) (lf : Int32) (wba : Nat) (wka : Nat) (pk : Int32) (gpk : Int32) (lpk : Int32) (wb : Nat → Int32) (wk : Nat → Int32) (fwa : Nat) (fta : Nat) (fra : Nat) (fga : Nat) (cxa : Nat) (cup : Int32) (clast : Int32) (cpeak : Int32) (cptick : Int32) (fw : Nat → Int32) (ft : Nat → Int32) (fr : Nat → Int32) (fg : Nat → Int32) (pna : Nat) (pta : Nat) (rails : Int32) (limit : Int32) (retry : Int32) (behind : Int32) (pn : Nat → Int32) (pt : Nat → Int64) (hy : Nat) (rsa : Nat) (ria : Nat) (raa : Nat) (rta : Nat) (rga : Nat) (dead : Int32) (key : Int32) (tick : Int32) (held : Int32) (tries : Int32) (trips : Int32) (ldraw : Int32) (gdraw : Int32) (A : Nat → Prop) : Array Value → State → Outcome → State → Prop := va_Qi (fun (r : Int32) (u9 : Int32) => r = u9 ∧ (True)) (fun u9 t => ∃ (wb9 : Nat → Int32) (wk9 : Nat → Int32) (cup9 : Int32) (clast9 : Int32) (fw9 : Nat → Int32) (ft9 : Nat → Int32) (fr9 : Nat → Int32) (fg9 : Nat → Int32), (∀ j, j < 64 → 0 ≤ (wk9 j).toInt ∧ (wk9 j).toInt ≤ 1) ∧ (0 ≤ clast9.toInt ∧ clast9.toInt ≤ 144) ∧ (∀ j, j < 8 → 0 ≤ (fw9 j).toInt ∧ (fw9 j).toInt ≤ 511) ∧ (∀ j, j < 8 → 0 ≤ (ft9 j).toInt ∧ (ft9 j).toInt ≤ 511) ∧ (∀ j, j < 8 → 0 ≤ (fr9 j).toInt ∧ (fr9 j).toInt ≤ 655) ∧ (∀ j, j < 8 → 0 ≤ (fg9 j).toInt ∧ (fg9 j).toInt ≤ 1166) ∧ (M_x_ahead a0 rails a1 wb wk cup clast fw ft fr fg a2 pn pt dead = (u9, wb9, wk9, cup9, clast9, fw9, ft9, fr9, fg9)) ∧ (∀ j, j < 8 → (fr9 j).toInt ≤ (fg9 j).toInt) ∧ xB D (tyL cI cJ cZ cG cH) [oX10 xo tp rd rn co wy sg sh pl sp lf, oX9 wy co wba wka pk gpk lpk, oAI wba cI 64 wb9, oAI wka cZ 64 wk9, oX0 co fwa fta fra fga cxa cup9 clast9 cpeak cptick, oAI fwa cI 8 fw9, oAI fta cI 8 ft9, oAI fra cI 8 fr9, oAI fga cI 8 fg9, oX3 pl pna pta rails limit retry behind, oAI pna cI 64 pn, oAJ pta cJ 64 pt, oX5 rn hy rsa ria raa rta rga dead key tick held tries trips ldraw gdraw] A t) A
abbrev rm_x_ahead : Room := { frames := 4, cells := 0, slots := 0, locals := 101 }
set_option maxRecDepth 100000 in
set_option maxHeartbeats 40000000 in
theorem c_x_ahead (l : Launch) (D : va_G) (cI cJ cZ cG cH : ClassId) (sz : Nat) (xo : Nat) (a0 : Int32) (a1 : Int32) (a2 : Int32) (tp : Nat) (rd : Nat) (rn : Nat) (co : Nat) (wy : Nat) (sg : Nat) (sh : Nat) (pl : Nat) (sp : Nat) (lf : Int32) (wba : Nat) (wka : Nat) (pk : Int32) (gpk : Int32) (lpk : Int32) (wb : Nat → Int32) (wk : Nat → Int32) (fwa : Nat) (fta : Nat) (fra : Nat) (fga : Nat) (cxa : Nat) (cup : Int32) (clast : Int32) (cpeak : Int32) (cptick : Int32) (fw : Nat → Int32) (ft : Nat → Int32) (fr : Nat → Int32) (fg : Nat → Int32) (pna : Nat) (pta : Nat) (rails : Int32) (limit : Int32) (retry : Int32) (behind : Int32) (pn : Nat → Int32) (pt : Nat → Int64) (hy : Nat) (rsa : Nat) (ria : Nat) (raa : Nat) (rta : Nat) (rga : Nat) (dead : Int32) (key : Int32) (tick : Int32) (held : Int32) (tries : Int32) (trips : Int32) (ldraw : Int32) (gdraw : Int32) (h_pk : 0 ≤ pk.toInt ∧ pk.toInt ≤ 1) (h_wk : ∀ j, j < 64 → 0 ≤ (wk j).toInt ∧ (wk j).toInt ≤ 1) (h_clast : 0 ≤ clast.toInt ∧ clast.toInt ≤ 144) (h_fw : ∀ j, j < 8 → 0 ≤ (fw j).toInt ∧ (fw j).toInt ≤ 511) (h_ft : ∀ j, j < 8 → 0 ≤ (ft j).toInt ∧ (ft j).toInt ≤ 511) (h_fr : ∀ j, j < 8 → 0 ≤ (fr j).toInt ∧ (fr j).toInt ≤ 655) (h_fg : ∀ j, j < 8 → 0 ≤ (fg j).toInt ∧ (fg j).toInt ≤ 1166) (h_rails : 0 ≤ rails.toInt ∧ rails.toInt ≤ 8) (h_pn : ∀ j, j < 64 → 0 ≤ (pn j).toInt ∧ (pn j).toInt ≤ 511) (h_key : 0 ≤ key.toInt ∧ key.toInt ≤ 1) (h_le : ∀ j, j < 8 → (fr j).toInt ≤ (fg j).toInt) : Met l yX10_ahead (wt yX10_ahead cX10_ahead 6 (some .int)) rm_x_ahead (xPc [.ref xo, .int a0, .int a1, .int a2] D (tyL cI cJ cZ cG cH) (W_x_ahead cI cJ cZ cG cH xo a0 a1 a2 tp rd rn co wy sg sh pl sp lf wba wka pk gpk lpk wb wk fwa fta fra fga cxa cup clast cpeak cptick fw ft fr fg pna pta rails limit retry behind pn pt hy rsa ria raa rta rga dead key tick held tries trips ldraw gdraw) sz) (Q_x_ahead D cI cJ cZ cG cH xo a0 a1 a2 tp rd rn co wy sg sh pl sp lf wba wka pk gpk lpk wb wk fwa fta fra fga cxa cup clast cpeak cptick fw ft fr fg pna pta rails limit retry behind pn pt hy rsa ria raa rta rga dead key tick held tries trips ldraw gdraw (va_A (W_x_ahead cI cJ cZ cG cH xo a0 a1 a2 tp rd rn co wy sg sh pl sp lf wba wka pk gpk lpk wb wk fwa fta fra fga cxa cup clast cpeak cptick fw ft fr fg pna pta rails limit retry behind pn pt hy rsa ria raa rta rga dead key tick held tries trips ldraw gdraw) sz)) 0 0 (va_A (W_x_ahead cI cJ cZ cG cH xo a0 a1 a2 tp rd rn co wy sg sh pl sp lf wba wka pk gpk lpk wb wk fwa fta fra fga cxa cup clast cpeak cptick fw ft fr fg pna pta rails limit retry behind pn pt hy rsa ria raa rta rga dead key tick held tries trips ldraw gdraw) sz) := by
  refine xMet (cc := cX10_ahead) (maxL := 6) (ret := (some .int)) (Qf := Q_x_ahead D cI cJ cZ cG cH xo a0 a1 a2 tp rd rn co wy sg sh pl sp lf wba wka pk gpk lpk wb wk fwa fta fra fga cxa cup clast cpeak cptick fw ft fr fg pna pta rails limit retry behind pn pt hy rsa ria raa rta rga dead key tick held tries trips ldraw gdraw) (by decide) rfl (Nat.le_of_ble_eq_true rfl) ?_
  intro p e s m below meth c ls A hx hb hr hml hts hown hlocks hnm hsz hP hK hD hA hS hl
  have hown : s.vm.findClass RX10 = some m.cls := hown
  have hP : va_P D vwCl [oX10 xo tp rd rn co wy sg sh pl sp lf, oX9 wy co wba wka pk gpk lpk, oAI wba cI 64 wb, oAI wka cZ 64 wk, oX0 co fwa fta fra fga cxa cup clast cpeak cptick, oAI fwa cI 8 fw, oAI fta cI 8 ft, oAI fra cI 8 fr, oAI fga cI 8 fg, oX3 pl pna pta rails limit retry behind, oAI pna cI 64 pn, oAJ pta cJ 64 pt, oX5 rn hy rsa ria raa rta rga dead key tick held tries trips ldraw gdraw] s.heap := hP
  have hD : va_D A [oX10 xo tp rd rn co wy sg sh pl sp lf, oX9 wy co wba wka pk gpk lpk, oAI wba cI 64 wb, oAI wka cZ 64 wk, oX0 co fwa fta fra fga cxa cup clast cpeak cptick, oAI fwa cI 8 fw, oAI fta cI 8 ft, oAI fra cI 8 fr, oAI fga cI 8 fg, oX3 pl pna pta rails limit retry behind, oAI pna cI 64 pn, oAJ pta cJ 64 pt, oX5 rn hy rsa ria raa rta rga dead key tick held tries trips ldraw gdraw] := hD
  have hl : lv_has ls 6 [(0, .ref xo), (1, .int a0), (2, .int a1), (3, .int a2)] := hl
  have hM : M_x_ahead a0 rails a1 wb wk cup clast fw ft fr fg a2 pn pt dead = (K_x_ahead_1 a0 rails a1 wb wk cup clast fw ft fr fg a2 pn pt dead) := rfl
  refine lv_aload_n hx hb dX10_ahead_0 rfl (lv_at hl 0 rfl) ?_
  refine va_get (D := D) (ci := 9) (v := .ref pl) (C := RX10) (T := TX10) (N := 10) hx hb hts (fun w h => tbC w (tbfX10 w h)) hown hK hP 0 rfl rfl 7 (by decide) (hts (.fieldLink RX10 56 "PowerRails" "plan" "LPowerRails$Plan;") (tbC _ wd254)) (fun _ h9 => h9) rfl dX10_ahead_1 ?_
  refine lv_iload_n hx hb dX10_ahead_4 rfl (lv_at hl 1 rfl) ?_
  obtain ⟨hPc, hDc, hFc, hC9⟩ := xpk (wc := W_hasRail cI cJ cZ cG cH pl a0 pna pta rails limit retry behind) hP hD hS hA [9] (by decide +kernel) rfl
  refine va_calli (va_runV (As := [.int a0]) (rest := []) ⟨hx, hb, hml, hown, hts⟩ (c_hasRail l D cI cJ cZ cG cH s.heap.size pl a0 pna pta rails limit retry behind (xrng rfl (by omega) (by omega))) (cwV 1 hts (xGV tbC wd409 wd410 wd411 wd59 wd1009) rfl rfl rfl (by decide +kernel) ⟨Nat.le_of_ble_eq_true rfl, Nat.le_of_ble_eq_true rfl⟩) ⟨xPc_blind, va_recv hK hPc (ci := 2) (q0 := 0) rfl rfl, xPc_pre hPc hK hDc⟩ rfl rfl hl.1 rfl (lv_room (Nat.le_of_ble_eq_true rfl)) dX10_ahead_5 ⟨Nat.le_of_ble_eq_true rfl, Nat.le_of_ble_eq_true rfl⟩) hS (fun q _ h => hFc q h) hFc (fun r1 u t H1 locs ht hvm hw1 hB hz1 hk1 hS => ?_)
  obtain ⟨hP1, hK1, hD1⟩ := hB
  rw [ht] at hP1
  obtain ⟨hP, hD⟩ : xPD D A [oX10 xo tp rd rn co wy sg sh pl sp lf, oX9 wy co wba wka pk gpk lpk, oAI wba cI 64 wb, oAI wka cZ 64 wk, oX0 co fwa fta fra fga cxa cup clast cpeak cptick, oAI fwa cI 8 fw, oAI fta cI 8 ft, oAI fra cI 8 fr, oAI fga cI 8 fg, oAI pna cI 64 pn, oAJ pta cJ 64 pt, oX5 rn hy rsa ria raa rta rga dead key tick held tries trips ldraw gdraw, oX3 pl pna pta rails limit retry behind] H1 := xjn 12 hP hD [9] [0, 1, 2, 3, 4, 5, 6, 7, 8, 10, 11, 12] hC9 rfl (by decide +kernel) (by decide +kernel) hk1 hFc hP1 hD1
  generalize H1 = H at hP hS ⊢
  have hw1 : r1 = if 0 ≤ a0.toInt ∧ a0.toInt < rails.toInt then 1 else 0 := hw1
  refine lv_if_eq (tgt := 36) hx hb dX10_ahead_8 (by decide) (fun c_2 => ?_) (fun c_2 => ?_)
  · skip
    have i_2 : ¬ (0 ≤ a0.toInt ∧ a0.toInt < rails.toInt) := (xbool hw1).1.mp c_2
    have hM : M_x_ahead a0 rails a1 wb wk cup clast fw ft fr fg a2 pn pt dead = (K_x_ahead_2 wb wk cup clast fw ft fr fg) := (show M_x_ahead a0 rails a1 wb wk cup clast fw ft fr fg a2 pn pt dead = (if 0 ≤ a0.toInt ∧ a0.toInt < rails.toInt then (K_x_ahead_3 a1 rails a0 wb wk cup clast fw ft fr fg a2 pn pt dead) else (K_x_ahead_2 wb wk cup clast fw ft fr fg)) from hM).trans (if_neg i_2)
    refine lv_sipush (v := (-1000)) hx hb dX10_ahead_36 (by decide) ?_
    refine W.widen (k := 0) (n := 0) (by decide) (by decide) ?_
    exact W.iret (v := (-1000)) hx hb hr (fun t ht hW => ⟨⟨(-1000), (-1000), rfl, ⟨rfl, trivial⟩, ⟨wb, wk, cup, clast, fw, ft, fr, fg, (xwk_rng h_wk (by decide) (by decide)), (xrng rfl (by omega) (by omega)), (xwk_rng h_fw (by decide) (by decide)), (xwk_rng h_ft (by decide) (by decide)), (xwk_rng h_fr (by decide) (by decide)), (xwk_rng h_fg (by decide) (by decide)), hM, h_le, xB_of9 ht hW hP hK hD [0, 1, 2, 3, 4, 5, 6, 7, 8, 12, 9, 10, 11] (by decide +kernel) rfl⟩⟩, hS.F ht⟩) hS.2.2 dX10_ahead_39
  · skip
    have i_2 : 0 ≤ a0.toInt ∧ a0.toInt < rails.toInt := (xbool hw1).2.mp c_2
    have hM : M_x_ahead a0 rails a1 wb wk cup clast fw ft fr fg a2 pn pt dead = (K_x_ahead_3 a1 rails a0 wb wk cup clast fw ft fr fg a2 pn pt dead) := (show M_x_ahead a0 rails a1 wb wk cup clast fw ft fr fg a2 pn pt dead = (if 0 ≤ a0.toInt ∧ a0.toInt < rails.toInt then (K_x_ahead_3 a1 rails a0 wb wk cup clast fw ft fr fg a2 pn pt dead) else (K_x_ahead_2 wb wk cup clast fw ft fr fg)) from hM).trans (if_pos i_2)
    refine lv_aload_n hx hb dX10_ahead_11 rfl (lv_at hl 0 rfl) ?_
    refine va_get (D := D) (ci := 9) (v := .ref pl) (C := RX10) (T := TX10) (N := 10) hx hb hts (fun w h => tbC w (tbfX10 w h)) hown hK hP 0 rfl rfl 7 (by decide) (hts (.fieldLink RX10 56 "PowerRails" "plan" "LPowerRails$Plan;") (tbC _ wd254)) (fun _ h9 => h9) rfl dX10_ahead_12 ?_
    refine lv_iload_n hx hb dX10_ahead_15 rfl (lv_at hl 2 rfl) ?_
    obtain ⟨hPc, hDc, hFc, hC9⟩ := xpk (wc := W_hasRail cI cJ cZ cG cH pl a1 pna pta rails limit retry behind) hP hD hS hA [12] (by decide +kernel) rfl
    refine va_calli (va_runV (As := [.int a1]) (rest := []) ⟨hx, hb, hml, hown, hts⟩ (c_hasRail l D cI cJ cZ cG cH H.size pl a1 pna pta rails limit retry behind (xrng rfl (by omega) (by omega))) (cwV 1 hts (xGV tbC wd409 wd410 wd411 wd59 wd1009) rfl rfl rfl (by decide +kernel) ⟨Nat.le_of_ble_eq_true rfl, Nat.le_of_ble_eq_true rfl⟩) ⟨xPc_blind, va_recv hK hPc (ci := 2) (q0 := 0) rfl rfl, xPc_pre hPc hK hDc⟩ rfl rfl hl.1 rfl (lv_room (Nat.le_of_ble_eq_true rfl)) dX10_ahead_16 ⟨Nat.le_of_ble_eq_true rfl, Nat.le_of_ble_eq_true rfl⟩) hS (fun q _ h => hFc q h) hFc (fun r3 u t H1 locs ht hvm hw3 hB hz1 hk1 hS => ?_)
    obtain ⟨hP1, hK1, hD1⟩ := hB
    rw [ht] at hP1
    obtain ⟨hP, hD⟩ : xPD D A [oX10 xo tp rd rn co wy sg sh pl sp lf, oX9 wy co wba wka pk gpk lpk, oAI wba cI 64 wb, oAI wka cZ 64 wk, oX0 co fwa fta fra fga cxa cup clast cpeak cptick, oAI fwa cI 8 fw, oAI fta cI 8 ft, oAI fra cI 8 fr, oAI fga cI 8 fg, oAI pna cI 64 pn, oAJ pta cJ 64 pt, oX5 rn hy rsa ria raa rta rga dead key tick held tries trips ldraw gdraw, oX3 pl pna pta rails limit retry behind] H1 := xjn 12 hP hD [12] [0, 1, 2, 3, 4, 5, 6, 7, 8, 9, 10, 11] hC9 rfl (by decide +kernel) (by decide +kernel) hk1 hFc hP1 hD1
    generalize H1 = H at hP hS ⊢
    have hw3 : r3 = if 0 ≤ a1.toInt ∧ a1.toInt < rails.toInt then 1 else 0 := hw3
    refine lv_if_eq (tgt := 36) hx hb dX10_ahead_19 (by decide) (fun c_4 => ?_) (fun c_4 => ?_)
    · skip
      have i_4 : ¬ (0 ≤ a1.toInt ∧ a1.toInt < rails.toInt) := (xbool hw3).1.mp c_4
      have hM : M_x_ahead a0 rails a1 wb wk cup clast fw ft fr fg a2 pn pt dead = (K_x_ahead_4 wb wk cup clast fw ft fr fg) := (show M_x_ahead a0 rails a1 wb wk cup clast fw ft fr fg a2 pn pt dead = (if 0 ≤ a1.toInt ∧ a1.toInt < rails.toInt then (K_x_ahead_5 a0 a1 wb wk cup clast fw ft fr fg a2 rails pn pt dead) else (K_x_ahead_4 wb wk cup clast fw ft fr fg)) from hM).trans (if_neg i_4)
      refine lv_sipush (v := (-1000)) hx hb dX10_ahead_36 (by decide) ?_
      refine W.widen (k := 0) (n := 0) (by decide) (by decide) ?_
      exact W.iret (v := (-1000)) hx hb hr (fun t ht hW => ⟨⟨(-1000), (-1000), rfl, ⟨rfl, trivial⟩, ⟨wb, wk, cup, clast, fw, ft, fr, fg, (xwk_rng h_wk (by decide) (by decide)), (xrng rfl (by omega) (by omega)), (xwk_rng h_fw (by decide) (by decide)), (xwk_rng h_ft (by decide) (by decide)), (xwk_rng h_fr (by decide) (by decide)), (xwk_rng h_fg (by decide) (by decide)), hM, h_le, xB_of9 ht hW hP hK hD [0, 1, 2, 3, 4, 5, 6, 7, 8, 12, 9, 10, 11] (by decide +kernel) rfl⟩⟩, hS.F ht⟩) hS.2.2 dX10_ahead_39
    · skip
      have i_4 : 0 ≤ a1.toInt ∧ a1.toInt < rails.toInt := (xbool hw3).2.mp c_4
      have hM : M_x_ahead a0 rails a1 wb wk cup clast fw ft fr fg a2 pn pt dead = (K_x_ahead_5 a0 a1 wb wk cup clast fw ft fr fg a2 rails pn pt dead) := (show M_x_ahead a0 rails a1 wb wk cup clast fw ft fr fg a2 pn pt dead = (if 0 ≤ a1.toInt ∧ a1.toInt < rails.toInt then (K_x_ahead_5 a0 a1 wb wk cup clast fw ft fr fg a2 rails pn pt dead) else (K_x_ahead_4 wb wk cup clast fw ft fr fg)) from hM).trans (if_pos i_4)
      refine lv_iload_n hx hb dX10_ahead_22 rfl (lv_at hl 1 rfl) ?_
      refine lv_iload_n hx hb dX10_ahead_23 rfl (lv_at hl 2 rfl) ?_
      refine lv_icmp_eq (tgt := 36) hx hb dX10_ahead_24 (by decide) (fun c_5 => ?_) (fun c_5 => ?_)
      · skip
        have i_5 : a0.toInt = a1.toInt := (ieq rfl rfl).mp c_5
        have hM : M_x_ahead a0 rails a1 wb wk cup clast fw ft fr fg a2 pn pt dead = (K_x_ahead_6 wb wk cup clast fw ft fr fg) := (show M_x_ahead a0 rails a1 wb wk cup clast fw ft fr fg a2 pn pt dead = (if a0.toInt = a1.toInt then (K_x_ahead_6 wb wk cup clast fw ft fr fg) else (K_x_ahead_7 a2 wb wk cup clast fw ft fr fg a0 a1 rails pn pt dead)) from hM).trans (if_pos i_5)
        refine lv_sipush (v := (-1000)) hx hb dX10_ahead_36 (by decide) ?_
        refine W.widen (k := 0) (n := 0) (by decide) (by decide) ?_
        exact W.iret (v := (-1000)) hx hb hr (fun t ht hW => ⟨⟨(-1000), (-1000), rfl, ⟨rfl, trivial⟩, ⟨wb, wk, cup, clast, fw, ft, fr, fg, (xwk_rng h_wk (by decide) (by decide)), (xrng rfl (by omega) (by omega)), (xwk_rng h_fw (by decide) (by decide)), (xwk_rng h_ft (by decide) (by decide)), (xwk_rng h_fr (by decide) (by decide)), (xwk_rng h_fg (by decide) (by decide)), hM, h_le, xB_of9 ht hW hP hK hD [0, 1, 2, 3, 4, 5, 6, 7, 8, 12, 9, 10, 11] (by decide +kernel) rfl⟩⟩, hS.F ht⟩) hS.2.2 dX10_ahead_39
      · skip
        have i_5 : ¬ (a0.toInt = a1.toInt) := fun h9 => c_5 ((ieq rfl rfl).mpr h9)
        have hM : M_x_ahead a0 rails a1 wb wk cup clast fw ft fr fg a2 pn pt dead = (K_x_ahead_7 a2 wb wk cup clast fw ft fr fg a0 a1 rails pn pt dead) := (show M_x_ahead a0 rails a1 wb wk cup clast fw ft fr fg a2 pn pt dead = (if a0.toInt = a1.toInt then (K_x_ahead_6 wb wk cup clast fw ft fr fg) else (K_x_ahead_7 a2 wb wk cup clast fw ft fr fg a0 a1 rails pn pt dead)) from hM).trans (if_neg i_5)
        refine lv_iload_n hx hb dX10_ahead_27 rfl (lv_at hl 3 rfl) ?_
        refine lv_if_lt (tgt := 36) hx hb dX10_ahead_28 (by decide) (fun c_6 => ?_) (fun c_6 => ?_)
        · skip
          have i_6 : a2.toInt < 0 := (ilt rfl (by decide)).mp c_6
          have hM : M_x_ahead a0 rails a1 wb wk cup clast fw ft fr fg a2 pn pt dead = (K_x_ahead_8 wb wk cup clast fw ft fr fg) := (show M_x_ahead a0 rails a1 wb wk cup clast fw ft fr fg a2 pn pt dead = (if a2.toInt < 0 then (K_x_ahead_8 wb wk cup clast fw ft fr fg) else (K_x_ahead_9 a2 a0 a1 wk wb rails pn pt fr fg cup clast ft fw dead)) from hM).trans (if_pos i_6)
          refine lv_sipush (v := (-1000)) hx hb dX10_ahead_36 (by decide) ?_
          refine W.widen (k := 0) (n := 0) (by decide) (by decide) ?_
          exact W.iret (v := (-1000)) hx hb hr (fun t ht hW => ⟨⟨(-1000), (-1000), rfl, ⟨rfl, trivial⟩, ⟨wb, wk, cup, clast, fw, ft, fr, fg, (xwk_rng h_wk (by decide) (by decide)), (xrng rfl (by omega) (by omega)), (xwk_rng h_fw (by decide) (by decide)), (xwk_rng h_ft (by decide) (by decide)), (xwk_rng h_fr (by decide) (by decide)), (xwk_rng h_fg (by decide) (by decide)), hM, h_le, xB_of9 ht hW hP hK hD [0, 1, 2, 3, 4, 5, 6, 7, 8, 12, 9, 10, 11] (by decide +kernel) rfl⟩⟩, hS.F ht⟩) hS.2.2 dX10_ahead_39
        · skip
          have i_6 : ¬ (a2.toInt < 0) := fun h9 => c_6 ((ilt rfl (by decide)).mpr h9)
          have hM : M_x_ahead a0 rails a1 wb wk cup clast fw ft fr fg a2 pn pt dead = (K_x_ahead_9 a2 a0 a1 wk wb rails pn pt fr fg cup clast ft fw dead) := (show M_x_ahead a0 rails a1 wb wk cup clast fw ft fr fg a2 pn pt dead = (if a2.toInt < 0 then (K_x_ahead_8 wb wk cup clast fw ft fr fg) else (K_x_ahead_9 a2 a0 a1 wk wb rails pn pt fr fg cup clast ft fw dead)) from hM).trans (if_neg i_6)
          refine lv_iload_n hx hb dX10_ahead_31 rfl (lv_at hl 3 rfl) ?_
          refine lv_iconst (v := 1) hx hb dX10_ahead_32 (by decide) ?_
          refine lv_icmp_le (tgt := 40) hx hb dX10_ahead_33 (by decide) (fun c_7 => ?_) (fun c_7 => ?_)
          · skip
            have i_7 : a2.toInt ≤ 1 := (ile rfl (by decide)).mp c_7
            have hM : M_x_ahead a0 rails a1 wb wk cup clast fw ft fr fg a2 pn pt dead = (K_x_ahead_10 a0 a1 a2 wk wb rails pn pt fr fg cup clast ft fw dead) := (show M_x_ahead a0 rails a1 wb wk cup clast fw ft fr fg a2 pn pt dead = (if a2.toInt ≤ 1 then (K_x_ahead_10 a0 a1 a2 wk wb rails pn pt fr fg cup clast ft fw dead) else (K_x_ahead_11 wb wk cup clast fw ft fr fg)) from hM).trans (if_pos i_7)
            refine lv_aload_n hx hb dX10_ahead_40 rfl (lv_at hl 0 rfl) ?_
            refine va_get (D := D) (ci := 9) (v := .ref pl) (C := RX10) (T := TX10) (N := 10) hx hb hts (fun w h => tbC w (tbfX10 w h)) hown hK hP 0 rfl rfl 7 (by decide) (hts (.fieldLink RX10 56 "PowerRails" "plan" "LPowerRails$Plan;") (tbC _ wd254)) (fun _ h9 => h9) rfl dX10_ahead_41 ?_
            obtain ⟨hPc, hDc, hFc, hC9⟩ := xpk (wc := W_countWays cI cJ cZ cG cH pl pna pta rails limit retry behind pn) hP hD hS hA [12, 9] (by decide +kernel) rfl
            refine va_calli (va_runV (As := []) (rest := []) ⟨hx, hb, hml, hown, hts⟩ (c_countWays l D cI cJ cZ cG cH H.size pl pna pta rails limit retry behind pn (xrng rfl (by omega) (by omega)) (xwk_rng h_pn (by decide) (by decide))) (cwV 0 hts (xGV tbC wd545 wd546 wd547 wd59 wd1053) rfl rfl rfl (by decide +kernel) ⟨Nat.le_of_ble_eq_true rfl, Nat.le_of_ble_eq_true rfl⟩) ⟨xPc_blind, va_recv hK hPc (ci := 2) (q0 := 0) rfl rfl, xPc_pre hPc hK hDc⟩ rfl rfl hl.1 rfl (lv_room (Nat.le_of_ble_eq_true rfl)) dX10_ahead_44 ⟨Nat.le_of_ble_eq_true rfl, Nat.le_of_ble_eq_true rfl⟩) hS (fun q _ h => hFc q h) hFc (fun r8 u t H1 locs ht hvm hw8 hB hz1 hk1 hS => ?_)
            obtain ⟨hru9, hw8⟩ := hw8
            subst hru9
            obtain ⟨hf8_0, hP1, hK1, hD1⟩ := hB
            rw [ht] at hP1
            obtain ⟨hP, hD⟩ : xPD D A [oX10 xo tp rd rn co wy sg sh pl sp lf, oX9 wy co wba wka pk gpk lpk, oAI wba cI 64 wb, oAI wka cZ 64 wk, oX0 co fwa fta fra fga cxa cup clast cpeak cptick, oAI fwa cI 8 fw, oAI fta cI 8 ft, oAI fra cI 8 fr, oAI fga cI 8 fg, oAJ pta cJ 64 pt, oX5 rn hy rsa ria raa rta rga dead key tick held tries trips ldraw gdraw, oX3 pl pna pta rails limit retry behind, oAI pna cI 64 pn] H1 := xjn 11 hP hD [12, 9] [0, 1, 2, 3, 4, 5, 6, 7, 8, 10, 11] hC9 rfl (by decide +kernel) (by decide +kernel) hk1 hFc hP1 hD1
            generalize H1 = H at hP hS ⊢
            have hf8_0 : M_countWays rails pn = (r8) := hf8_0
            have h9M := congrArg (fun t9 => (K_x_ahead_12 t9 a0 a1 a2 wk wb rails pn pt fr fg cup clast ft fw dead)) hf8_0
            have hM : M_x_ahead a0 rails a1 wb wk cup clast fw ft fr fg a2 pn pt dead = (K_x_ahead_12 r8 a0 a1 a2 wk wb rails pn pt fr fg cup clast ft fw dead) := (show M_x_ahead a0 rails a1 wb wk cup clast fw ft fr fg a2 pn pt dead = ((fun t9 => (K_x_ahead_12 t9 a0 a1 a2 wk wb rails pn pt fr fg cup clast ft fw dead)) (M_countWays rails pn)) from hM).trans h9M
            refine lv_sipush (v := 20000) hx hb dX10_ahead_47 (by decide) ?_
            refine lv_icmp_le (tgt := 57) hx hb dX10_ahead_50 (by decide) (fun c_9 => ?_) (fun c_9 => ?_)
            · skip
              have i_9 : r8.toInt ≤ 20000 := (ile rfl (by decide)).mp c_9
              have hM : M_x_ahead a0 rails a1 wb wk cup clast fw ft fr fg a2 pn pt dead = (K_x_ahead_13 a0 a1 a2 wk wb rails pn pt fr fg cup clast ft fw dead) := (show M_x_ahead a0 rails a1 wb wk cup clast fw ft fr fg a2 pn pt dead = (if r8.toInt ≤ 20000 then (K_x_ahead_13 a0 a1 a2 wk wb rails pn pt fr fg cup clast ft fw dead) else (K_x_ahead_14 wb wk cup clast fw ft fr fg)) from hM).trans (if_pos i_9)
              refine lv_iconst (v := 1) hx hb dX10_ahead_57 (by decide) ?_
              refine lv_iload_n hx hb dX10_ahead_58 rfl (lv_at hl 1 rfl) ?_
              refine lv_ishl hx hb dX10_ahead_59 ?_
              refine lv_topi (fun v10 ev10 => ?_)
              have rv10 : 1 ≤ v10.toInt ∧ v10.toInt ≤ 128 := xshl1 7 ev10 (show (a0 : Int32).toInt = a0.toInt from rfl) (by omega) (by omega) (by decide)
              refine lv_iconst (v := 1) hx hb dX10_ahead_60 (by decide) ?_
              refine lv_iload_n hx hb dX10_ahead_61 rfl (lv_at hl 2 rfl) ?_
              refine lv_ishl hx hb dX10_ahead_62 ?_
              refine lv_topi (fun v11 ev11 => ?_)
              have rv11 : 1 ≤ v11.toInt ∧ v11.toInt ≤ 128 := xshl1 7 ev11 (show (a1 : Int32).toInt = a1.toInt from rfl) (by omega) (by omega) (by decide)
              refine lv_ior hx hb dX10_ahead_63 ?_
              refine lv_topi (fun v12 ev12 => ?_)
              have rv12 : 0 ≤ v12.toInt ∧ v12.toInt ≤ 255 := xorL 8 ev12 (show (v10 : Int32).toInt = v10.toInt from rfl) (show (v11 : Int32).toInt = v11.toInt from rfl) (by decide) (by decide) (by omega) (by omega) (by omega) (by omega)
              refine lv_istore (lv' := [(4, .int v12), (0, .ref xo), (1, .int a0), (2, .int a1), (3, .int a2)]) hx hb dX10_ahead_64 hl (by decide) rfl (fun ls hl => ?_)
              refine lv_aload_n hx hb dX10_ahead_66 rfl (lv_at hl 1 rfl) ?_
              refine va_get (D := D) (ci := 9) (v := .ref pl) (C := RX10) (T := TX10) (N := 10) hx hb hts (fun w h => tbC w (tbfX10 w h)) hown hK hP 0 rfl rfl 7 (by decide) (hts (.fieldLink RX10 56 "PowerRails" "plan" "LPowerRails$Plan;") (tbC _ wd254)) (fun _ h9 => h9) rfl dX10_ahead_67 ?_
              refine lv_aload_n hx hb dX10_ahead_70 rfl (lv_at hl 1 rfl) ?_
              obtain ⟨hPc, hDc, hFc, hC9⟩ := xpk (wc := W_alive cI cJ cZ cG cH xo tp rd rn co wy sg sh pl sp lf pna pta rails limit retry behind hy rsa ria raa rta rga dead key tick held tries trips ldraw gdraw) hP hD hS hA [0, 11, 10] (by decide +kernel) rfl
              refine va_calli (va_runV (As := []) (rest := [.ref pl]) ⟨hx, hb, hml, hown, hts⟩ (c_alive l D cI cJ cZ cG cH H.size xo tp rd rn co wy sg sh pl sp lf pna pta rails limit retry behind hy rsa ria raa rta rga dead key tick held tries trips ldraw gdraw (xrng rfl (by omega) (by omega)) (xrng rfl (by omega) (by omega))) (cwV 0 hts (xGV tbC wd523 wd524 wd2 wd50 wd1046) rfl rfl rfl (by decide +kernel) ⟨Nat.le_of_ble_eq_true rfl, Nat.le_of_ble_eq_true rfl⟩) ⟨xPc_blind, va_recv hK hPc (ci := 9) (q0 := 0) rfl rfl, xPc_pre hPc hK hDc⟩ rfl rfl hl.1 rfl (lv_room (Nat.le_of_ble_eq_true rfl)) dX10_ahead_71 ⟨Nat.le_of_ble_eq_true rfl, Nat.le_of_ble_eq_true rfl⟩) hS (fun q _ h => hFc q h) hFc (fun r13 u t H1 locs ht hvm hw13 hB hz1 hk1 hS => ?_)
              obtain ⟨hru9, hw13⟩ := hw13
              subst hru9
              obtain ⟨hf13_0, hP1, hK1, hD1⟩ := hB
              rw [ht] at hP1
              obtain ⟨hP, hD⟩ : xPD D A [oX9 wy co wba wka pk gpk lpk, oAI wba cI 64 wb, oAI wka cZ 64 wk, oX0 co fwa fta fra fga cxa cup clast cpeak cptick, oAI fwa cI 8 fw, oAI fta cI 8 ft, oAI fra cI 8 fr, oAI fga cI 8 fg, oAJ pta cJ 64 pt, oAI pna cI 64 pn, oX10 xo tp rd rn co wy sg sh pl sp lf, oX3 pl pna pta rails limit retry behind, oX5 rn hy rsa ria raa rta rga dead key tick held tries trips ldraw gdraw] H1 := xjn 10 hP hD [0, 11, 10] [1, 2, 3, 4, 5, 6, 7, 8, 9, 12] hC9 rfl (by decide +kernel) (by decide +kernel) hk1 hFc hP1 hD1
              generalize H1 = H at hP hS ⊢
              have hf13_0 : M_alive dead rails = (r13) := hf13_0
              have hw13 : 0 ≤ r13.toInt ∧ r13.toInt ≤ 255 := hw13
              have h9M := congrArg (fun t9 => (K_x_ahead_15 v12 a2 wk a0 a1 wb rails pn pt fr fg cup clast ft fw dead t9)) hf13_0
              have hM : M_x_ahead a0 rails a1 wb wk cup clast fw ft fr fg a2 pn pt dead = (K_x_ahead_15 v12 a2 wk a0 a1 wb rails pn pt fr fg cup clast ft fw dead r13) := (show M_x_ahead a0 rails a1 wb wk cup clast fw ft fr fg a2 pn pt dead = ((fun t9 => (K_x_ahead_15 v12 a2 wk a0 a1 wb rails pn pt fr fg cup clast ft fw dead t9)) (M_alive dead rails)) from (by rw [ev12, ev11, ev10]; exact hM)).trans h9M
              obtain ⟨hPc, hDc, hFc, hC9⟩ := xpk (wc := W_upAmong cI cJ cZ cG cH pl r13 pna pta rails limit retry behind pt) hP hD hS hA [11, 8] (by decide +kernel) rfl
              refine va_calli (va_runV (As := [.int r13]) (rest := []) ⟨hx, hb, hml, hown, hts⟩ (c_upAmong l D cI cJ cZ cG cH H.size pl r13 pna pta rails limit retry behind pt (xrng rfl (by omega) (by omega))) (cwV 1 hts (xGV tbC wd507 wd508 wd509 wd59 wd1041) rfl rfl rfl (by decide +kernel) ⟨Nat.le_of_ble_eq_true rfl, Nat.le_of_ble_eq_true rfl⟩) ⟨xPc_blind, va_recv hK hPc (ci := 2) (q0 := 0) rfl rfl, xPc_pre hPc hK hDc⟩ rfl rfl hl.1 rfl (lv_room (Nat.le_of_ble_eq_true rfl)) dX10_ahead_74 ⟨Nat.le_of_ble_eq_true rfl, Nat.le_of_ble_eq_true rfl⟩) hS (fun q _ h => hFc q h) hFc (fun r14 u t H1 locs ht hvm hw14 hB hz1 hk1 hS => ?_)
              obtain ⟨hru9, hw14⟩ := hw14
              subst hru9
              obtain ⟨hf14_0, hP1, hK1, hD1⟩ := hB
              rw [ht] at hP1
              obtain ⟨hP, hD⟩ : xPD D A [oX9 wy co wba wka pk gpk lpk, oAI wba cI 64 wb, oAI wka cZ 64 wk, oX0 co fwa fta fra fga cxa cup clast cpeak cptick, oAI fwa cI 8 fw, oAI fta cI 8 ft, oAI fra cI 8 fr, oAI fga cI 8 fg, oAI pna cI 64 pn, oX10 xo tp rd rn co wy sg sh pl sp lf, oX5 rn hy rsa ria raa rta rga dead key tick held tries trips ldraw gdraw, oX3 pl pna pta rails limit retry behind, oAJ pta cJ 64 pt] H1 := xjn 11 hP hD [11, 8] [0, 1, 2, 3, 4, 5, 6, 7, 9, 10, 12] hC9 rfl (by decide +kernel) (by decide +kernel) hk1 hFc hP1 hD1
              generalize H1 = H at hP hS ⊢
              have hf14_0 : M_upAmong rails r13 pt = (r14) := hf14_0
              have hw14 : 0 ≤ r14.toInt ∧ r14.toInt ≤ 255 := hw14
              have h9M := congrArg (fun t9 => (K_x_ahead_16 t9 v12 a2 wk a0 a1 wb rails pn pt fr fg cup clast ft fw dead)) hf14_0
              have hM : M_x_ahead a0 rails a1 wb wk cup clast fw ft fr fg a2 pn pt dead = (K_x_ahead_16 r14 v12 a2 wk a0 a1 wb rails pn pt fr fg cup clast ft fw dead) := (show M_x_ahead a0 rails a1 wb wk cup clast fw ft fr fg a2 pn pt dead = ((fun t9 => (K_x_ahead_16 t9 v12 a2 wk a0 a1 wb rails pn pt fr fg cup clast ft fw dead)) (M_upAmong rails r13 pt)) from hM).trans h9M
              refine lv_iload hx hb dX10_ahead_77 (lv_at hl 0 rfl) ?_
              refine lv_iand hx hb dX10_ahead_79 ?_
              refine lv_topi (fun v15 ev15 => ?_)
              have rv15 : 0 ≤ v15.toInt ∧ v15.toInt ≤ v12.toInt := xandL ev15 (show (v12 : Int32).toInt = v12.toInt from rfl) (by omega)
              refine lv_iload hx hb dX10_ahead_80 (lv_at hl 0 rfl) ?_
              refine lv_icmp_eq (tgt := 89) hx hb dX10_ahead_82 (by decide) (fun c_16 => ?_) (fun c_16 => ?_)
              · skip
                have i_16 : v15.toInt = v12.toInt := (ieq rfl rfl).mp c_16
                have hM : M_x_ahead a0 rails a1 wb wk cup clast fw ft fr fg a2 pn pt dead = (K_x_ahead_17 a2 wk a0 a1 wb rails pn pt fr fg cup clast ft fw dead) := (show M_x_ahead a0 rails a1 wb wk cup clast fw ft fr fg a2 pn pt dead = (if v15.toInt = v12.toInt then (K_x_ahead_17 a2 wk a0 a1 wb rails pn pt fr fg cup clast ft fw dead) else (K_x_ahead_18 wb wk cup clast fw ft fr fg)) from (by rw [ev15]; exact hM)).trans (if_pos i_16)
                refine lv_aload_n hx hb dX10_ahead_89 rfl (lv_at hl 1 rfl) ?_
                refine va_get (D := D) (ci := 9) (v := .ref wy) (C := RX10) (T := TX10) (N := 10) hx hb hts (fun w h => tbC w (tbfX10 w h)) hown hK hP 9 rfl rfl 4 (by decide) (hts (.fieldLink RX10 35 "PowerRails" "ways" "LPowerRails$Ways;") (tbC _ wd251)) (fun _ h9 => h9) rfl dX10_ahead_90 ?_
                refine lv_aload_n hx hb dX10_ahead_93 rfl (lv_at hl 1 rfl) ?_
                refine va_get (D := D) (ci := 9) (v := .ref pl) (C := RX10) (T := TX10) (N := 10) hx hb hts (fun w h => tbC w (tbfX10 w h)) hown hK hP 9 rfl rfl 7 (by decide) (hts (.fieldLink RX10 56 "PowerRails" "plan" "LPowerRails$Plan;") (tbC _ wd254)) (fun _ h9 => h9) rfl dX10_ahead_94 ?_
                refine lv_aload_n hx hb dX10_ahead_97 rfl (lv_at hl 1 rfl) ?_
                obtain ⟨hPc, hDc, hFc, hC9⟩ := xpk (wc := W_alive cI cJ cZ cG cH xo tp rd rn co wy sg sh pl sp lf pna pta rails limit retry behind hy rsa ria raa rta rga dead key tick held tries trips ldraw gdraw) hP hD hS hA [9, 11, 10] (by decide +kernel) rfl
                refine va_calli (va_runV (As := []) (rest := [.ref pl, .ref wy]) ⟨hx, hb, hml, hown, hts⟩ (c_alive l D cI cJ cZ cG cH H.size xo tp rd rn co wy sg sh pl sp lf pna pta rails limit retry behind hy rsa ria raa rta rga dead key tick held tries trips ldraw gdraw (xrng rfl (by omega) (by omega)) (xrng rfl (by omega) (by omega))) (cwV 0 hts (xGV tbC wd523 wd524 wd2 wd50 wd1046) rfl rfl rfl (by decide +kernel) ⟨Nat.le_of_ble_eq_true rfl, Nat.le_of_ble_eq_true rfl⟩) ⟨xPc_blind, va_recv hK hPc (ci := 9) (q0 := 0) rfl rfl, xPc_pre hPc hK hDc⟩ rfl rfl hl.1 rfl (lv_room (Nat.le_of_ble_eq_true rfl)) dX10_ahead_98 ⟨Nat.le_of_ble_eq_true rfl, Nat.le_of_ble_eq_true rfl⟩) hS (fun q _ h => hFc q h) hFc (fun r17 u t H1 locs ht hvm hw17 hB hz1 hk1 hS => ?_)
                obtain ⟨hru9, hw17⟩ := hw17
                subst hru9
                obtain ⟨hf17_0, hP1, hK1, hD1⟩ := hB
                rw [ht] at hP1
                obtain ⟨hP, hD⟩ : xPD D A [oX9 wy co wba wka pk gpk lpk, oAI wba cI 64 wb, oAI wka cZ 64 wk, oX0 co fwa fta fra fga cxa cup clast cpeak cptick, oAI fwa cI 8 fw, oAI fta cI 8 ft, oAI fra cI 8 fr, oAI fga cI 8 fg, oAI pna cI 64 pn, oAJ pta cJ 64 pt, oX10 xo tp rd rn co wy sg sh pl sp lf, oX3 pl pna pta rails limit retry behind, oX5 rn hy rsa ria raa rta rga dead key tick held tries trips ldraw gdraw] H1 := xjn 10 hP hD [9, 11, 10] [0, 1, 2, 3, 4, 5, 6, 7, 8, 12] hC9 rfl (by decide +kernel) (by decide +kernel) hk1 hFc hP1 hD1
                generalize H1 = H at hP hS ⊢
                have hf17_0 : M_alive dead rails = (r17) := hf17_0
                have hw17 : 0 ≤ r17.toInt ∧ r17.toInt ≤ 255 := hw17
                have h9M := congrArg (fun t9 => (K_x_ahead_19 a2 wk a0 a1 wb rails pn pt fr fg cup clast ft fw t9)) hf17_0
                have hM : M_x_ahead a0 rails a1 wb wk cup clast fw ft fr fg a2 pn pt dead = (K_x_ahead_19 a2 wk a0 a1 wb rails pn pt fr fg cup clast ft fw r17) := (show M_x_ahead a0 rails a1 wb wk cup clast fw ft fr fg a2 pn pt dead = ((fun t9 => (K_x_ahead_19 a2 wk a0 a1 wb rails pn pt fr fg cup clast ft fw t9)) (M_alive dead rails)) from hM).trans h9M
                refine lv_iload_n hx hb dX10_ahead_101 rfl (lv_at hl 2 rfl) ?_
                refine lv_iload_n hx hb dX10_ahead_102 rfl (lv_at hl 3 rfl) ?_
                obtain ⟨hPc, hDc, hFc, hC9⟩ := xpk (wc := W_mostBehind cI cJ cZ cG cH wy pl r17 a0 a1 co wba wka pk gpk lpk wb wk fwa fta fra fga cxa cup clast cpeak cptick fw ft fr fg pna pta rails limit retry behind pn pt) hP hD hS hA [0, 1, 2, 3, 4, 5, 6, 7, 11, 8, 9] (by decide +kernel) rfl
                refine va_calli (va_runV (As := [.ref pl, .int r17, .int a0, .int a1]) (rest := []) ⟨hx, hb, hml, hown, hts⟩ (c_mostBehind l D cI cJ cZ cG cH H.size wy pl r17 a0 a1 co wba wka pk gpk lpk wb wk fwa fta fra fga cxa cup clast cpeak cptick fw ft fr fg pna pta rails limit retry behind pn pt (xrng rfl (by omega) (by omega)) (xrng rfl (by omega) (by omega)) (xrng rfl (by omega) (by omega)) (xwk_rng h_wk (by decide) (by decide)) (xrng rfl (by omega) (by omega)) (xwk_rng h_fw (by decide) (by decide)) (xwk_rng h_ft (by decide) (by decide)) (xwk_rng h_fr (by decide) (by decide)) (xwk_rng h_fg (by decide) (by decide)) (xrng rfl (by omega) (by omega)) (xwk_rng h_pn (by decide) (by decide)) h_le) (cwV 4 hts (xGV tbC wd549 wd550 wd551 wd55 wd1054) rfl rfl rfl (by decide +kernel) ⟨Nat.le_of_ble_eq_true rfl, Nat.le_of_ble_eq_true rfl⟩) ⟨xPc_blind, va_recv hK hPc (ci := 8) (q0 := 0) rfl rfl, xPc_pre hPc hK hDc⟩ rfl rfl hl.1 rfl (lv_room (Nat.le_of_ble_eq_true rfl)) dX10_ahead_103 ⟨Nat.le_of_ble_eq_true rfl, Nat.le_of_ble_eq_true rfl⟩) hS (fun q _ h => hFc q h) hFc (fun r18 u t H1 locs ht hvm hw18 hB hz1 hk1 hS => ?_)
                obtain ⟨hru9, hw18⟩ := hw18
                subst hru9
                revert hB
                refine xex8r (fun wb_19 wk_20 cup_21 clast_22 fw_23 ft_24 fr_25 fg_26 => ?_)
                refine xan8r (fun hf26_0 hf26_1 hf26_2 hf26_3 hf26_4 hf26_5 hf26_6 => ?_)
                refine xan4r (fun hf26_7 hP1 hK1 hD1 => ?_)
                rw [ht] at hP1
                obtain ⟨hP, hD⟩ : xPD D A [oX10 xo tp rd rn co wy sg sh pl sp lf, oX5 rn hy rsa ria raa rta rga dead key tick held tries trips ldraw gdraw, oX9 wy co wba wka pk gpk lpk, oAI wba cI 64 wb_19, oAI wka cZ 64 wk_20, oX0 co fwa fta fra fga cxa cup_21 clast_22 cpeak cptick, oAI fwa cI 8 fw_23, oAI fta cI 8 ft_24, oAI fra cI 8 fr_25, oAI fga cI 8 fg_26, oX3 pl pna pta rails limit retry behind, oAI pna cI 64 pn, oAJ pta cJ 64 pt] H1 := xjn 2 hP hD [0, 1, 2, 3, 4, 5, 6, 7, 11, 8, 9] [10, 12] hC9 rfl (by decide +kernel) (by decide +kernel) hk1 hFc hP1 hD1
                generalize H1 = H at hP hS ⊢
                have hf26_0 : ∀ j, j < 64 → 0 ≤ (wk_20 j).toInt ∧ (wk_20 j).toInt ≤ 1 := hf26_0
                have hf26_1 : 0 ≤ clast_22.toInt ∧ clast_22.toInt ≤ 144 := hf26_1
                have hf26_2 : ∀ j, j < 8 → 0 ≤ (fw_23 j).toInt ∧ (fw_23 j).toInt ≤ 511 := hf26_2
                have hf26_3 : ∀ j, j < 8 → 0 ≤ (ft_24 j).toInt ∧ (ft_24 j).toInt ≤ 511 := hf26_3
                have hf26_4 : ∀ j, j < 8 → 0 ≤ (fr_25 j).toInt ∧ (fr_25 j).toInt ≤ 655 := hf26_4
                have hf26_5 : ∀ j, j < 8 → 0 ≤ (fg_26 j).toInt ∧ (fg_26 j).toInt ≤ 1166 := hf26_5
                have hf26_6 : M_mostBehind wk a0 a1 wb rails pn pt fr fg cup clast ft fw r17 = (r18, wb_19, wk_20, cup_21, clast_22, fw_23, ft_24, fr_25, fg_26) := hf26_6
                have hf26_7 : ∀ j, j < 8 → (fr_25 j).toInt ≤ (fg_26 j).toInt := hf26_7
                have h9M := congrArg (fun t9 => (K_x_ahead_20 a2 t9.1 t9.2.1 t9.2.2.1 t9.2.2.2.1 t9.2.2.2.2.1 t9.2.2.2.2.2.1 t9.2.2.2.2.2.2.1 t9.2.2.2.2.2.2.2.1 t9.2.2.2.2.2.2.2.2)) hf26_6
                have hM : M_x_ahead a0 rails a1 wb wk cup clast fw ft fr fg a2 pn pt dead = (K_x_ahead_20 a2 r18 wb_19 wk_20 cup_21 clast_22 fw_23 ft_24 fr_25 fg_26) := (show M_x_ahead a0 rails a1 wb wk cup clast fw ft fr fg a2 pn pt dead = ((fun t9 => (K_x_ahead_20 a2 t9.1 t9.2.1 t9.2.2.1 t9.2.2.2.1 t9.2.2.2.2.1 t9.2.2.2.2.2.1 t9.2.2.2.2.2.2.1 t9.2.2.2.2.2.2.2.1 t9.2.2.2.2.2.2.2.2)) (M_mostBehind wk a0 a1 wb rails pn pt fr fg cup clast ft fw r17)) from hM).trans h9M
                refine lv_istore (lv' := [(5, .int r18), (4, .int v12), (0, .ref xo), (1, .int a0), (2, .int a1), (3, .int a2)]) hx hb dX10_ahead_106 hl (by decide) rfl (fun ls hl => ?_)
                refine lv_iload_n hx hb dX10_ahead_108 rfl (lv_at hl 5 rfl) ?_
                refine lv_iconst (v := 1) hx hb dX10_ahead_109 (by decide) ?_
                refine lv_icmp_ne (tgt := 116) hx hb dX10_ahead_110 (by decide) (fun c_27 => ?_) (fun c_27 => ?_)
                · skip
                  have i_27 : ¬ (a2.toInt = 1) := fun h9 => c_27 ((ieq rfl (by decide)).mpr h9)
                  have hM : M_x_ahead a0 rails a1 wb wk cup clast fw ft fr fg a2 pn pt dead = (K_x_ahead_21 r18 wb_19 wk_20 cup_21 clast_22 fw_23 ft_24 fr_25 fg_26) := (show M_x_ahead a0 rails a1 wb wk cup clast fw ft fr fg a2 pn pt dead = (if a2.toInt = 1 then (K_x_ahead_22 r18 wb_19 wk_20 cup_21 clast_22 fw_23 ft_24 fr_25 fg_26) else (K_x_ahead_21 r18 wb_19 wk_20 cup_21 clast_22 fw_23 ft_24 fr_25 fg_26)) from hM).trans (if_neg i_27)
                  refine lv_iload hx hb dX10_ahead_116 (lv_at hl 0 rfl) ?_
                  refine lv_if_ge (tgt := 125) hx hb dX10_ahead_118 (by decide) (fun c_28 => ?_) (fun c_28 => ?_)
                  · skip
                    have i_28 : 0 ≤ r18.toInt := (ile (by decide) rfl).mp c_28
                    have hM : M_x_ahead a0 rails a1 wb wk cup clast fw ft fr fg a2 pn pt dead = (K_x_ahead_23 r18 wb_19 wk_20 cup_21 clast_22 fw_23 ft_24 fr_25 fg_26) := (show M_x_ahead a0 rails a1 wb wk cup clast fw ft fr fg a2 pn pt dead = (if 0 ≤ r18.toInt then (K_x_ahead_23 r18 wb_19 wk_20 cup_21 clast_22 fw_23 ft_24 fr_25 fg_26) else (K_x_ahead_24 wb_19 wk_20 cup_21 clast_22 fw_23 ft_24 fr_25 fg_26)) from hM).trans (if_pos i_28)
                    refine lv_iload hx hb dX10_ahead_125 (lv_at hl 0 rfl) ?_
                    refine lv_if_ne (tgt := 134) hx hb dX10_ahead_127 (by decide) (fun c_29 => ?_) (fun c_29 => ?_)
                    · skip
                      have i_29 : ¬ (r18.toInt = 0) := fun h9 => c_29 ((ieq rfl (by decide)).mpr h9)
                      have hM : M_x_ahead a0 rails a1 wb wk cup clast fw ft fr fg a2 pn pt dead = (K_x_ahead_25 wb_19 wk_20 cup_21 clast_22 fw_23 ft_24 fr_25 fg_26) := (show M_x_ahead a0 rails a1 wb wk cup clast fw ft fr fg a2 pn pt dead = (if r18.toInt = 0 then (K_x_ahead_26 wb_19 wk_20 cup_21 clast_22 fw_23 ft_24 fr_25 fg_26) else (K_x_ahead_25 wb_19 wk_20 cup_21 clast_22 fw_23 ft_24 fr_25 fg_26)) from hM).trans (if_neg i_29)
                      refine lv_iconst (v := 0) hx hb dX10_ahead_134 (by decide) ?_
                      refine W.widen (k := 0) (n := 0) (by decide) (by decide) ?_
                      exact W.iret (v := 0) hx hb hr (fun t ht hW => ⟨⟨0, 0, rfl, ⟨rfl, trivial⟩, ⟨wb_19, wk_20, cup_21, clast_22, fw_23, ft_24, fr_25, fg_26, (xwk_rng hf26_0 (by decide) (by decide)), (xrng rfl (by omega) (by omega)), (xwk_rng hf26_2 (by decide) (by decide)), (xwk_rng hf26_3 (by decide) (by decide)), (xwk_rng hf26_4 (by decide) (by decide)), (xwk_rng hf26_5 (by decide) (by decide)), hM, hf26_7, xB_of9 ht hW hP hK hD [0, 2, 3, 4, 5, 6, 7, 8, 9, 10, 11, 12, 1] (by decide +kernel) rfl⟩⟩, hS.F ht⟩) hS.2.2 dX10_ahead_135
                    · skip
                      have i_29 : r18.toInt = 0 := (ieq rfl (by decide)).mp c_29
                      have hM : M_x_ahead a0 rails a1 wb wk cup clast fw ft fr fg a2 pn pt dead = (K_x_ahead_26 wb_19 wk_20 cup_21 clast_22 fw_23 ft_24 fr_25 fg_26) := (show M_x_ahead a0 rails a1 wb wk cup clast fw ft fr fg a2 pn pt dead = (if r18.toInt = 0 then (K_x_ahead_26 wb_19 wk_20 cup_21 clast_22 fw_23 ft_24 fr_25 fg_26) else (K_x_ahead_25 wb_19 wk_20 cup_21 clast_22 fw_23 ft_24 fr_25 fg_26)) from hM).trans (if_pos i_29)
                      refine lv_iconst (v := 1) hx hb dX10_ahead_130 (by decide) ?_
                      refine lv_goto (tgt := 135) hx hb dX10_ahead_131 (by decide) ?_
                      refine W.widen (k := 0) (n := 0) (by decide) (by decide) ?_
                      exact W.iret (v := 1) hx hb hr (fun t ht hW => ⟨⟨1, 1, rfl, ⟨rfl, trivial⟩, ⟨wb_19, wk_20, cup_21, clast_22, fw_23, ft_24, fr_25, fg_26, (xwk_rng hf26_0 (by decide) (by decide)), (xrng rfl (by omega) (by omega)), (xwk_rng hf26_2 (by decide) (by decide)), (xwk_rng hf26_3 (by decide) (by decide)), (xwk_rng hf26_4 (by decide) (by decide)), (xwk_rng hf26_5 (by decide) (by decide)), hM, hf26_7, xB_of9 ht hW hP hK hD [0, 2, 3, 4, 5, 6, 7, 8, 9, 10, 11, 12, 1] (by decide +kernel) rfl⟩⟩, hS.F ht⟩) hS.2.2 dX10_ahead_135
                  · skip
                    have i_28 : ¬ (0 ≤ r18.toInt) := fun h9 => c_28 ((ile (by decide) rfl).mpr h9)
                    have hM : M_x_ahead a0 rails a1 wb wk cup clast fw ft fr fg a2 pn pt dead = (K_x_ahead_24 wb_19 wk_20 cup_21 clast_22 fw_23 ft_24 fr_25 fg_26) := (show M_x_ahead a0 rails a1 wb wk cup clast fw ft fr fg a2 pn pt dead = (if 0 ≤ r18.toInt then (K_x_ahead_23 r18 wb_19 wk_20 cup_21 clast_22 fw_23 ft_24 fr_25 fg_26) else (K_x_ahead_24 wb_19 wk_20 cup_21 clast_22 fw_23 ft_24 fr_25 fg_26)) from hM).trans (if_neg i_28)
                    refine lv_iconst (v := 2) hx hb dX10_ahead_121 (by decide) ?_
                    refine lv_goto (tgt := 135) hx hb dX10_ahead_122 (by decide) ?_
                    refine W.widen (k := 0) (n := 0) (by decide) (by decide) ?_
                    exact W.iret (v := 2) hx hb hr (fun t ht hW => ⟨⟨2, 2, rfl, ⟨rfl, trivial⟩, ⟨wb_19, wk_20, cup_21, clast_22, fw_23, ft_24, fr_25, fg_26, (xwk_rng hf26_0 (by decide) (by decide)), (xrng rfl (by omega) (by omega)), (xwk_rng hf26_2 (by decide) (by decide)), (xwk_rng hf26_3 (by decide) (by decide)), (xwk_rng hf26_4 (by decide) (by decide)), (xwk_rng hf26_5 (by decide) (by decide)), hM, hf26_7, xB_of9 ht hW hP hK hD [0, 2, 3, 4, 5, 6, 7, 8, 9, 10, 11, 12, 1] (by decide +kernel) rfl⟩⟩, hS.F ht⟩) hS.2.2 dX10_ahead_135
                · skip
                  have i_27 : a2.toInt = 1 := (ieq rfl (by decide)).mp c_27
                  have hM : M_x_ahead a0 rails a1 wb wk cup clast fw ft fr fg a2 pn pt dead = (K_x_ahead_22 r18 wb_19 wk_20 cup_21 clast_22 fw_23 ft_24 fr_25 fg_26) := (show M_x_ahead a0 rails a1 wb wk cup clast fw ft fr fg a2 pn pt dead = (if a2.toInt = 1 then (K_x_ahead_22 r18 wb_19 wk_20 cup_21 clast_22 fw_23 ft_24 fr_25 fg_26) else (K_x_ahead_21 r18 wb_19 wk_20 cup_21 clast_22 fw_23 ft_24 fr_25 fg_26)) from hM).trans (if_pos i_27)
                  refine lv_iload hx hb dX10_ahead_113 (lv_at hl 0 rfl) ?_
                  refine W.widen (k := 0) (n := 0) (by decide) (by decide) ?_
                  exact W.iret (v := r18) hx hb hr (fun t ht hW => ⟨⟨r18, r18, rfl, ⟨rfl, trivial⟩, ⟨wb_19, wk_20, cup_21, clast_22, fw_23, ft_24, fr_25, fg_26, (xwk_rng hf26_0 (by decide) (by decide)), (xrng rfl (by omega) (by omega)), (xwk_rng hf26_2 (by decide) (by decide)), (xwk_rng hf26_3 (by decide) (by decide)), (xwk_rng hf26_4 (by decide) (by decide)), (xwk_rng hf26_5 (by decide) (by decide)), hM, hf26_7, xB_of9 ht hW hP hK hD [0, 2, 3, 4, 5, 6, 7, 8, 9, 10, 11, 12, 1] (by decide +kernel) rfl⟩⟩, hS.F ht⟩) hS.2.2 dX10_ahead_115
              · skip
                have i_16 : ¬ (v15.toInt = v12.toInt) := fun h9 => c_16 ((ieq rfl rfl).mpr h9)
                have hM : M_x_ahead a0 rails a1 wb wk cup clast fw ft fr fg a2 pn pt dead = (K_x_ahead_18 wb wk cup clast fw ft fr fg) := (show M_x_ahead a0 rails a1 wb wk cup clast fw ft fr fg a2 pn pt dead = (if v15.toInt = v12.toInt then (K_x_ahead_17 a2 wk a0 a1 wb rails pn pt fr fg cup clast ft fw dead) else (K_x_ahead_18 wb wk cup clast fw ft fr fg)) from (by rw [ev15]; exact hM)).trans (if_neg i_16)
                refine lv_sipush (v := (-1004)) hx hb dX10_ahead_85 (by decide) ?_
                refine W.widen (k := 0) (n := 0) (by decide) (by decide) ?_
                exact W.iret (v := (-1004)) hx hb hr (fun t ht hW => ⟨⟨(-1004), (-1004), rfl, ⟨rfl, trivial⟩, ⟨wb, wk, cup, clast, fw, ft, fr, fg, (xwk_rng h_wk (by decide) (by decide)), (xrng rfl (by omega) (by omega)), (xwk_rng h_fw (by decide) (by decide)), (xwk_rng h_ft (by decide) (by decide)), (xwk_rng h_fr (by decide) (by decide)), (xwk_rng h_fg (by decide) (by decide)), hM, h_le, xB_of9 ht hW hP hK hD [9, 0, 1, 2, 3, 4, 5, 6, 7, 11, 8, 12, 10] (by decide +kernel) rfl⟩⟩, hS.F ht⟩) hS.2.2 dX10_ahead_88
            · skip
              have i_9 : ¬ (r8.toInt ≤ 20000) := fun h9 => c_9 ((ile rfl (by decide)).mpr h9)
              have hM : M_x_ahead a0 rails a1 wb wk cup clast fw ft fr fg a2 pn pt dead = (K_x_ahead_14 wb wk cup clast fw ft fr fg) := (show M_x_ahead a0 rails a1 wb wk cup clast fw ft fr fg a2 pn pt dead = (if r8.toInt ≤ 20000 then (K_x_ahead_13 a0 a1 a2 wk wb rails pn pt fr fg cup clast ft fw dead) else (K_x_ahead_14 wb wk cup clast fw ft fr fg)) from hM).trans (if_neg i_9)
              refine lv_sipush (v := (-1002)) hx hb dX10_ahead_53 (by decide) ?_
              refine W.widen (k := 0) (n := 0) (by decide) (by decide) ?_
              exact W.iret (v := (-1002)) hx hb hr (fun t ht hW => ⟨⟨(-1002), (-1002), rfl, ⟨rfl, trivial⟩, ⟨wb, wk, cup, clast, fw, ft, fr, fg, (xwk_rng h_wk (by decide) (by decide)), (xrng rfl (by omega) (by omega)), (xwk_rng h_fw (by decide) (by decide)), (xwk_rng h_ft (by decide) (by decide)), (xwk_rng h_fr (by decide) (by decide)), (xwk_rng h_fg (by decide) (by decide)), hM, h_le, xB_of9 ht hW hP hK hD [0, 1, 2, 3, 4, 5, 6, 7, 8, 11, 12, 9, 10] (by decide +kernel) rfl⟩⟩, hS.F ht⟩) hS.2.2 dX10_ahead_56
          · skip
            have i_7 : ¬ (a2.toInt ≤ 1) := fun h9 => c_7 ((ile rfl (by decide)).mpr h9)
            have hM : M_x_ahead a0 rails a1 wb wk cup clast fw ft fr fg a2 pn pt dead = (K_x_ahead_11 wb wk cup clast fw ft fr fg) := (show M_x_ahead a0 rails a1 wb wk cup clast fw ft fr fg a2 pn pt dead = (if a2.toInt ≤ 1 then (K_x_ahead_10 a0 a1 a2 wk wb rails pn pt fr fg cup clast ft fw dead) else (K_x_ahead_11 wb wk cup clast fw ft fr fg)) from hM).trans (if_neg i_7)
            refine lv_sipush (v := (-1000)) hx hb dX10_ahead_36 (by decide) ?_
            refine W.widen (k := 0) (n := 0) (by decide) (by decide) ?_
            exact W.iret (v := (-1000)) hx hb hr (fun t ht hW => ⟨⟨(-1000), (-1000), rfl, ⟨rfl, trivial⟩, ⟨wb, wk, cup, clast, fw, ft, fr, fg, (xwk_rng h_wk (by decide) (by decide)), (xrng rfl (by omega) (by omega)), (xwk_rng h_fw (by decide) (by decide)), (xwk_rng h_ft (by decide) (by decide)), (xwk_rng h_fr (by decide) (by decide)), (xwk_rng h_fg (by decide) (by decide)), hM, h_le, xB_of9 ht hW hP hK hD [0, 1, 2, 3, 4, 5, 6, 7, 8, 12, 9, 10, 11] (by decide +kernel) rfl⟩⟩, hS.F ht⟩) hS.2.2 dX10_ahead_39
def K_x_drawn_2 (cup : Int32) (clast : Int32) (fw : Nat → Int32) (ft : Nat → Int32) (fr : Nat → Int32) (fg : Nat → Int32) : (Int32) × (Int32) × (Int32) × (Nat → Int32) × (Nat → Int32) × (Nat → Int32) × (Nat → Int32) := ((-1 : Int32), cup, clast, fw, ft, fr, fg)
def K_x_drawn_7 (r10 : Int32) (cup_4 : Int32) (clast_5 : Int32) (fw_6 : Nat → Int32) (ft_7 : Nat → Int32) (fr_8 : Nat → Int32) (fg_9 : Nat → Int32) : (Int32) × (Int32) × (Int32) × (Nat → Int32) × (Nat → Int32) × (Nat → Int32) × (Nat → Int32) := (r10, cup_4, clast_5, fw_6, ft_7, fr_8, fg_9)
def K_x_drawn_6 (cup_4 : Int32) (clast_5 : Int32) (fw_6 : Nat → Int32) (ft_7 : Nat → Int32) (fr_8 : Nat → Int32) (fg_9 : Nat → Int32) (rails : Int32) (a0 : Int32) (pn : Nat → Int32) : (Int32) × (Int32) × (Int32) × (Nat → Int32) × (Nat → Int32) × (Nat → Int32) × (Nat → Int32) := ((fun t9 => (K_x_drawn_7 t9 cup_4 clast_5 fw_6 ft_7 fr_8 fg_9)) (M_drawnAt rails a0 fg_9 fr_8 pn cup_4))
def K_x_drawn_4 (rails : Int32) (a0 : Int32) (pn : Nat → Int32) (pt : Nat → Int64) (fr : Nat → Int32) (fg : Nat → Int32) (dead : Int32) (rt : Nat → Int32) (ft : Nat → Int32) (fw : Nat → Int32) : (Int32) × (Int32) × (Int32) × (Nat → Int32) × (Nat → Int32) × (Nat → Int32) × (Nat → Int32) := ((fun t9 => (K_x_drawn_6 t9.1 t9.2.1 t9.2.2.1 t9.2.2.2.1 t9.2.2.2.2.1 t9.2.2.2.2.2 rails a0 pn)) (M_followTimes rails pt fr fg dead rt ft pn fw))
def K_x_drawn_5 (cup : Int32) (clast : Int32) (fw : Nat → Int32) (ft : Nat → Int32) (fr : Nat → Int32) (fg : Nat → Int32) : (Int32) × (Int32) × (Int32) × (Nat → Int32) × (Nat → Int32) × (Nat → Int32) × (Nat → Int32) := ((-1 : Int32), cup, clast, fw, ft, fr, fg)
def K_x_drawn_3 (a0 : Int32) (rails : Int32) (pn : Nat → Int32) (pt : Nat → Int64) (fr : Nat → Int32) (fg : Nat → Int32) (dead : Int32) (rt : Nat → Int32) (ft : Nat → Int32) (fw : Nat → Int32) (cup : Int32) (clast : Int32) : (Int32) × (Int32) × (Int32) × (Nat → Int32) × (Nat → Int32) × (Nat → Int32) × (Nat → Int32) := (if a0.toInt ≤ 999 then (K_x_drawn_4 rails a0 pn pt fr fg dead rt ft fw) else (K_x_drawn_5 cup clast fw ft fr fg))
def K_x_drawn_1 (a0 : Int32) (cup : Int32) (clast : Int32) (fw : Nat → Int32) (ft : Nat → Int32) (fr : Nat → Int32) (fg : Nat → Int32) (rails : Int32) (pn : Nat → Int32) (pt : Nat → Int64) (dead : Int32) (rt : Nat → Int32) : (Int32) × (Int32) × (Int32) × (Nat → Int32) × (Nat → Int32) × (Nat → Int32) × (Nat → Int32) := (if a0.toInt < 0 then (K_x_drawn_2 cup clast fw ft fr fg) else (K_x_drawn_3 a0 rails pn pt fr fg dead rt ft fw cup clast))
def M_x_drawn (a0 : Int32) (cup : Int32) (clast : Int32) (fw : Nat → Int32) (ft : Nat → Int32) (fr : Nat → Int32) (fg : Nat → Int32) (rails : Int32) (pn : Nat → Int32) (pt : Nat → Int64) (dead : Int32) (rt : Nat → Int32) : (Int32) × (Int32) × (Int32) × (Nat → Int32) × (Nat → Int32) × (Nat → Int32) × (Nat → Int32) := (K_x_drawn_1 a0 cup clast fw ft fr fg rails pn pt dead rt)
abbrev W_x_drawn (cI cJ cZ cG cH : ClassId) (xo : Nat) (a0 : Int32) (tp : Nat) (rd : Nat) (rn : Nat) (co : Nat) (wy : Nat) (sg : Nat) (sh : Nat) (pl : Nat) (sp : Nat) (lf : Int32) (fwa : Nat) (fta : Nat) (fra : Nat) (fga : Nat) (cxa : Nat) (cup : Int32) (clast : Int32) (cpeak : Int32) (cptick : Int32) (fw : Nat → Int32) (ft : Nat → Int32) (fr : Nat → Int32) (fg : Nat → Int32) (pna : Nat) (pta : Nat) (rails : Int32) (limit : Int32) (retry : Int32) (behind : Int32) (pn : Nat → Int32) (pt : Nat → Int64) (hy : Nat) (rsa : Nat) (ria : Nat) (raa : Nat) (rta : Nat) (rga : Nat) (dead : Int32) (key : Int32) (tick : Int32) (held : Int32) (tries : Int32) (trips : Int32) (ldraw : Int32) (gdraw : Int32) (rt : Nat → Int32) : va_W := [oX10 xo tp rd rn co wy sg sh pl sp lf, oX0 co fwa fta fra fga cxa cup clast cpeak cptick, oAI fwa cI 8 fw, oAI fta cI 8 ft, oAI fra cI 8 fr, oAI fga cI 8 fg, oX3 pl pna pta rails limit retry behind, oAI pna cI 64 pn, oAJ pta cJ 64 pt, oX5 rn hy rsa ria raa rta rga dead key tick held tries trips ldraw gdraw, oAI rta cI 8 rt]
abbrev Q_x_drawn (D : va_G) (cI cJ cZ cG cH : ClassId) (xo : Nat) (a0 : Int32) (tp : Nat) (rd : Nat) (rn : Nat) (co : Nat) (wy : Nat) (sg : Nat) (sh : Nat) (pl : Nat) (sp : Nat) (lf : Int32) (fwa : Nat) (fta : Nat) (fra : Nat) (fga : Nat) (cxa : Nat) (cup : Int32) (clast : Int32) (cpeak : Int32) (cptick : Int32) (fw : Nat → Int32) (ft : Nat → Int32) (fr : Nat → Int32) (fg : Nat → Int32) (pna : Nat) (pta : Nat) (rails : Int32) (limit : Int32) (retry : Int32) (behind : Int32) (pn : Nat → Int32) (pt : Nat → Int64) (hy : Nat) (rsa : Nat) (ria : Nat) (raa : Nat) (rta : Nat) (rga : Nat) (dead : Int32) (key : Int32) (tick : Int32) (held : Int32) (tries : Int32) (trips : Int32) (ldraw : Int32) (gdraw : Int32) (rt : Nat → Int32) (A : Nat → Prop) : Array Value → State → Outcome → State → Prop := va_Qi (fun (r : Int32) (u9 : Int32) => r = u9 ∧ (True)) (fun u9 t => ∃ (cup9 : Int32) (clast9 : Int32) (fw9 : Nat → Int32) (ft9 : Nat → Int32) (fr9 : Nat → Int32) (fg9 : Nat → Int32), (0 ≤ clast9.toInt ∧ clast9.toInt ≤ 144) ∧ (∀ j, j < 8 → 0 ≤ (fw9 j).toInt ∧ (fw9 j).toInt ≤ 511) ∧ (∀ j, j < 8 → 0 ≤ (ft9 j).toInt ∧ (ft9 j).toInt ≤ 511) ∧ (∀ j, j < 8 → 0 ≤ (fr9 j).toInt ∧ (fr9 j).toInt ≤ 655) ∧ (∀ j, j < 8 → 0 ≤ (fg9 j).toInt ∧ (fg9 j).toInt ≤ 1166) ∧ (M_x_drawn a0 cup clast fw ft fr fg rails pn pt dead rt = (u9, cup9, clast9, fw9, ft9, fr9, fg9)) ∧ (∀ j, j < 8 → (fr9 j).toInt ≤ (fg9 j).toInt) ∧ xB D (tyL cI cJ cZ cG cH) [oX10 xo tp rd rn co wy sg sh pl sp lf, oX0 co fwa fta fra fga cxa cup9 clast9 cpeak cptick, oAI fwa cI 8 fw9, oAI fta cI 8 ft9, oAI fra cI 8 fr9, oAI fga cI 8 fg9, oX3 pl pna pta rails limit retry behind, oAI pna cI 64 pn, oAJ pta cJ 64 pt, oX5 rn hy rsa ria raa rta rga dead key tick held tries trips ldraw gdraw, oAI rta cI 8 rt] A t) A
abbrev rm_x_drawn : Room := { frames := 4, cells := 0, slots := 0, locals := 92 }
set_option maxRecDepth 100000 in
set_option maxHeartbeats 40000000 in
theorem c_x_drawn (l : Launch) (D : va_G) (cI cJ cZ cG cH : ClassId) (sz : Nat) (xo : Nat) (a0 : Int32) (tp : Nat) (rd : Nat) (rn : Nat) (co : Nat) (wy : Nat) (sg : Nat) (sh : Nat) (pl : Nat) (sp : Nat) (lf : Int32) (fwa : Nat) (fta : Nat) (fra : Nat) (fga : Nat) (cxa : Nat) (cup : Int32) (clast : Int32) (cpeak : Int32) (cptick : Int32) (fw : Nat → Int32) (ft : Nat → Int32) (fr : Nat → Int32) (fg : Nat → Int32) (pna : Nat) (pta : Nat) (rails : Int32) (limit : Int32) (retry : Int32) (behind : Int32) (pn : Nat → Int32) (pt : Nat → Int64) (hy : Nat) (rsa : Nat) (ria : Nat) (raa : Nat) (rta : Nat) (rga : Nat) (dead : Int32) (key : Int32) (tick : Int32) (held : Int32) (tries : Int32) (trips : Int32) (ldraw : Int32) (gdraw : Int32) (rt : Nat → Int32) (h_clast : 0 ≤ clast.toInt ∧ clast.toInt ≤ 144) (h_fw : ∀ j, j < 8 → 0 ≤ (fw j).toInt ∧ (fw j).toInt ≤ 511) (h_ft : ∀ j, j < 8 → 0 ≤ (ft j).toInt ∧ (ft j).toInt ≤ 511) (h_fr : ∀ j, j < 8 → 0 ≤ (fr j).toInt ∧ (fr j).toInt ≤ 655) (h_fg : ∀ j, j < 8 → 0 ≤ (fg j).toInt ∧ (fg j).toInt ≤ 1166) (h_rails : 0 ≤ rails.toInt ∧ rails.toInt ≤ 8) (h_pn : ∀ j, j < 64 → 0 ≤ (pn j).toInt ∧ (pn j).toInt ≤ 511) (h_key : 0 ≤ key.toInt ∧ key.toInt ≤ 1) (h_rt : ∀ j, j < 8 → 0 ≤ (rt j).toInt ∧ (rt j).toInt ≤ 511) (h_le : ∀ j, j < 8 → (fr j).toInt ≤ (fg j).toInt) : Met l yX10_drawn (wt yX10_drawn cX10_drawn 2 (some .int)) rm_x_drawn (xPc [.ref xo, .int a0] D (tyL cI cJ cZ cG cH) (W_x_drawn cI cJ cZ cG cH xo a0 tp rd rn co wy sg sh pl sp lf fwa fta fra fga cxa cup clast cpeak cptick fw ft fr fg pna pta rails limit retry behind pn pt hy rsa ria raa rta rga dead key tick held tries trips ldraw gdraw rt) sz) (Q_x_drawn D cI cJ cZ cG cH xo a0 tp rd rn co wy sg sh pl sp lf fwa fta fra fga cxa cup clast cpeak cptick fw ft fr fg pna pta rails limit retry behind pn pt hy rsa ria raa rta rga dead key tick held tries trips ldraw gdraw rt (va_A (W_x_drawn cI cJ cZ cG cH xo a0 tp rd rn co wy sg sh pl sp lf fwa fta fra fga cxa cup clast cpeak cptick fw ft fr fg pna pta rails limit retry behind pn pt hy rsa ria raa rta rga dead key tick held tries trips ldraw gdraw rt) sz)) 0 0 (va_A (W_x_drawn cI cJ cZ cG cH xo a0 tp rd rn co wy sg sh pl sp lf fwa fta fra fga cxa cup clast cpeak cptick fw ft fr fg pna pta rails limit retry behind pn pt hy rsa ria raa rta rga dead key tick held tries trips ldraw gdraw rt) sz) := by
  refine xMet (cc := cX10_drawn) (maxL := 2) (ret := (some .int)) (Qf := Q_x_drawn D cI cJ cZ cG cH xo a0 tp rd rn co wy sg sh pl sp lf fwa fta fra fga cxa cup clast cpeak cptick fw ft fr fg pna pta rails limit retry behind pn pt hy rsa ria raa rta rga dead key tick held tries trips ldraw gdraw rt) (by decide) rfl (Nat.le_of_ble_eq_true rfl) ?_
  intro p e s m below meth c ls A hx hb hr hml hts hown hlocks hnm hsz hP hK hD hA hS hl
  have hown : s.vm.findClass RX10 = some m.cls := hown
  have hP : va_P D vwCl [oX10 xo tp rd rn co wy sg sh pl sp lf, oX0 co fwa fta fra fga cxa cup clast cpeak cptick, oAI fwa cI 8 fw, oAI fta cI 8 ft, oAI fra cI 8 fr, oAI fga cI 8 fg, oX3 pl pna pta rails limit retry behind, oAI pna cI 64 pn, oAJ pta cJ 64 pt, oX5 rn hy rsa ria raa rta rga dead key tick held tries trips ldraw gdraw, oAI rta cI 8 rt] s.heap := hP
  have hD : va_D A [oX10 xo tp rd rn co wy sg sh pl sp lf, oX0 co fwa fta fra fga cxa cup clast cpeak cptick, oAI fwa cI 8 fw, oAI fta cI 8 ft, oAI fra cI 8 fr, oAI fga cI 8 fg, oX3 pl pna pta rails limit retry behind, oAI pna cI 64 pn, oAJ pta cJ 64 pt, oX5 rn hy rsa ria raa rta rga dead key tick held tries trips ldraw gdraw, oAI rta cI 8 rt] := hD
  have hl : lv_has ls 2 [(0, .ref xo), (1, .int a0)] := hl
  have hM : M_x_drawn a0 cup clast fw ft fr fg rails pn pt dead rt = (K_x_drawn_1 a0 cup clast fw ft fr fg rails pn pt dead rt) := rfl
  refine lv_iload_n hx hb dX10_drawn_0 rfl (lv_at hl 1 rfl) ?_
  refine lv_if_lt (tgt := 11) hx hb dX10_drawn_1 (by decide) (fun c_1 => ?_) (fun c_1 => ?_)
  · skip
    have i_1 : a0.toInt < 0 := (ilt rfl (by decide)).mp c_1
    have hM : M_x_drawn a0 cup clast fw ft fr fg rails pn pt dead rt = (K_x_drawn_2 cup clast fw ft fr fg) := (show M_x_drawn a0 cup clast fw ft fr fg rails pn pt dead rt = (if a0.toInt < 0 then (K_x_drawn_2 cup clast fw ft fr fg) else (K_x_drawn_3 a0 rails pn pt fr fg dead rt ft fw cup clast)) from hM).trans (if_pos i_1)
    refine lv_iconst (v := (-1)) hx hb dX10_drawn_11 (by decide) ?_
    refine W.widen (k := 0) (n := 0) (by decide) (by decide) ?_
    exact W.iret (v := (-1)) hx hb hr (fun t ht hW => ⟨⟨(-1), (-1), rfl, ⟨rfl, trivial⟩, ⟨cup, clast, fw, ft, fr, fg, (xrng rfl (by omega) (by omega)), (xwk_rng h_fw (by decide) (by decide)), (xwk_rng h_ft (by decide) (by decide)), (xwk_rng h_fr (by decide) (by decide)), (xwk_rng h_fg (by decide) (by decide)), hM, h_le, xB_of9 ht hW hP hK hD [0, 1, 2, 3, 4, 5, 6, 7, 8, 9, 10] (by decide +kernel) rfl⟩⟩, hS.F ht⟩) hS.2.2 dX10_drawn_12
  · skip
    have i_1 : ¬ (a0.toInt < 0) := fun h9 => c_1 ((ilt rfl (by decide)).mpr h9)
    have hM : M_x_drawn a0 cup clast fw ft fr fg rails pn pt dead rt = (K_x_drawn_3 a0 rails pn pt fr fg dead rt ft fw cup clast) := (show M_x_drawn a0 cup clast fw ft fr fg rails pn pt dead rt = (if a0.toInt < 0 then (K_x_drawn_2 cup clast fw ft fr fg) else (K_x_drawn_3 a0 rails pn pt fr fg dead rt ft fw cup clast)) from hM).trans (if_neg i_1)
    refine lv_iload_n hx hb dX10_drawn_4 rfl (lv_at hl 1 rfl) ?_
    refine lv_sipush (v := 999) hx hb dX10_drawn_5 (by decide) ?_
    refine lv_icmp_le (tgt := 13) hx hb dX10_drawn_8 (by decide) (fun c_2 => ?_) (fun c_2 => ?_)
    · skip
      have i_2 : a0.toInt ≤ 999 := (ile rfl (by decide)).mp c_2
      have hM : M_x_drawn a0 cup clast fw ft fr fg rails pn pt dead rt = (K_x_drawn_4 rails a0 pn pt fr fg dead rt ft fw) := (show M_x_drawn a0 cup clast fw ft fr fg rails pn pt dead rt = (if a0.toInt ≤ 999 then (K_x_drawn_4 rails a0 pn pt fr fg dead rt ft fw) else (K_x_drawn_5 cup clast fw ft fr fg)) from hM).trans (if_pos i_2)
      refine lv_aload_n hx hb dX10_drawn_13 rfl (lv_at hl 0 rfl) ?_
      obtain ⟨hPc, hDc, hFc, hC9⟩ := xpk (wc := W_followTimes cI cJ cZ cG cH xo tp rd rn co wy sg sh pl sp lf fwa fta fra fga cxa cup clast cpeak cptick fw ft fr fg pna pta rails limit retry behind pn pt hy rsa ria raa rta rga dead key tick held tries trips ldraw gdraw rt) hP hD hS hA [0, 1, 2, 3, 4, 5, 6, 7, 8, 9, 10] (by decide +kernel) rfl
      refine va_callv (va_runV (As := []) (rest := []) ⟨hx, hb, hml, hown, hts⟩ (c_followTimes l D cI cJ cZ cG cH s.heap.size xo tp rd rn co wy sg sh pl sp lf fwa fta fra fga cxa cup clast cpeak cptick fw ft fr fg pna pta rails limit retry behind pn pt hy rsa ria raa rta rga dead key tick held tries trips ldraw gdraw rt (xrng rfl (by omega) (by omega)) (xwk_rng h_fw (by decide) (by decide)) (xwk_rng h_ft (by decide) (by decide)) (xwk_rng h_fr (by decide) (by decide)) (xwk_rng h_fg (by decide) (by decide)) (xrng rfl (by omega) (by omega)) (xwk_rng h_pn (by decide) (by decide)) (xrng rfl (by omega) (by omega)) (xwk_rng h_rt (by decide) (by decide)) h_le) (cwV 0 hts (xGV tbC wd513 wd514 wd1 wd50 wd1043) rfl rfl rfl (by decide +kernel) ⟨Nat.le_of_ble_eq_true rfl, Nat.le_of_ble_eq_true rfl⟩) ⟨xPc_blind, va_recv hK hPc (ci := 9) (q0 := 0) rfl rfl, xPc_pre hPc hK hDc⟩ rfl rfl hl.1 rfl (lv_room (Nat.le_of_ble_eq_true rfl)) dX10_drawn_14 ⟨Nat.le_of_ble_eq_true rfl, Nat.le_of_ble_eq_true rfl⟩) hS (fun q _ h => hFc q h) hFc (fun u t H1 locs ht hvm hw3 hB hz1 hk1 hS => ?_)
      revert hB
      refine xex6r (fun cup_4 clast_5 fw_6 ft_7 fr_8 fg_9 => ?_)
      refine xan8r (fun hf9_0 hf9_1 hf9_2 hf9_3 hf9_4 hf9_5 hf9_6 => ?_)
      refine xan4r (fun hf9_7 hP1 hK1 hD1 => ?_)
      rw [ht] at hP1
      obtain ⟨hP, hD⟩ : xPD D A [oX10 xo tp rd rn co wy sg sh pl sp lf, oX0 co fwa fta fra fga cxa cup_4 clast_5 cpeak cptick, oAI fwa cI 8 fw_6, oAI fta cI 8 ft_7, oAI fra cI 8 fr_8, oAI fga cI 8 fg_9, oX3 pl pna pta rails limit retry behind, oAI pna cI 64 pn, oAJ pta cJ 64 pt, oX5 rn hy rsa ria raa rta rga dead key tick held tries trips ldraw gdraw, oAI rta cI 8 rt] H1 := xjn 0 hP hD [0, 1, 2, 3, 4, 5, 6, 7, 8, 9, 10] [] hC9 rfl (by decide +kernel) (by decide +kernel) hk1 hFc hP1 hD1
      generalize H1 = H at hP hS ⊢
      have hf9_0 : 0 ≤ cup_4.toInt ∧ cup_4.toInt ≤ 255 := hf9_0
      have hf9_1 : 0 ≤ clast_5.toInt ∧ clast_5.toInt ≤ 144 := hf9_1
      have hf9_2 : ∀ j, j < 8 → 0 ≤ (fw_6 j).toInt ∧ (fw_6 j).toInt ≤ 511 := hf9_2
      have hf9_3 : ∀ j, j < 8 → 0 ≤ (ft_7 j).toInt ∧ (ft_7 j).toInt ≤ 511 := hf9_3
      have hf9_4 : ∀ j, j < 8 → 0 ≤ (fr_8 j).toInt ∧ (fr_8 j).toInt ≤ 655 := hf9_4
      have hf9_5 : ∀ j, j < 8 → 0 ≤ (fg_9 j).toInt ∧ (fg_9 j).toInt ≤ 1166 := hf9_5
      have hf9_6 : M_followTimes rails pt fr fg dead rt ft pn fw = (cup_4, clast_5, fw_6, ft_7, fr_8, fg_9) := hf9_6
      have hf9_7 : ∀ j, j < 8 → (fr_8 j).toInt ≤ (fg_9 j).toInt := hf9_7
      have h9M := congrArg (fun t9 => (K_x_drawn_6 t9.1 t9.2.1 t9.2.2.1 t9.2.2.2.1 t9.2.2.2.2.1 t9.2.2.2.2.2 rails a0 pn)) hf9_6
      have hM : M_x_drawn a0 cup clast fw ft fr fg rails pn pt dead rt = (K_x_drawn_6 cup_4 clast_5 fw_6 ft_7 fr_8 fg_9 rails a0 pn) := (show M_x_drawn a0 cup clast fw ft fr fg rails pn pt dead rt = ((fun t9 => (K_x_drawn_6 t9.1 t9.2.1 t9.2.2.1 t9.2.2.2.1 t9.2.2.2.2.1 t9.2.2.2.2.2 rails a0 pn)) (M_followTimes rails pt fr fg dead rt ft pn fw)) from hM).trans h9M
      refine lv_aload_n hx hb dX10_drawn_17 rfl (lv_at hl 0 rfl) ?_
      refine va_get (D := D) (ci := 9) (v := .ref co) (C := RX10) (T := TX10) (N := 10) hx hb hts (fun w h => tbC w (tbfX10 w h)) hown hK hP 0 rfl rfl 3 (by decide) (hts (.fieldLink RX10 26 "PowerRails" "course" "LPowerRails$Course;") (tbC _ wd250)) (fun _ h9 => h9) rfl dX10_drawn_18 ?_
      refine lv_aload_n hx hb dX10_drawn_21 rfl (lv_at hl 0 rfl) ?_
      refine va_get (D := D) (ci := 9) (v := .ref pl) (C := RX10) (T := TX10) (N := 10) hx hb hts (fun w h => tbC w (tbfX10 w h)) hown hK hP 0 rfl rfl 7 (by decide) (hts (.fieldLink RX10 56 "PowerRails" "plan" "LPowerRails$Plan;") (tbC _ wd254)) (fun _ h9 => h9) rfl dX10_drawn_22 ?_
      refine lv_iload_n hx hb dX10_drawn_25 rfl (lv_at hl 1 rfl) ?_
      obtain ⟨hPc, hDc, hFc, hC9⟩ := xpk (wc := W_drawnAt cI cJ cZ cG cH co pl a0 fwa fta fra fga cxa cup_4 clast_5 cpeak cptick fr_8 fg_9 pna pta rails limit retry behind pn) hP hD hS hA [1, 4, 5, 6, 7] (by decide +kernel) rfl
      refine va_calli (va_runV (As := [.ref pl, .int a0]) (rest := []) ⟨hx, hb, hml, hown, hts⟩ (c_drawnAt l D cI cJ cZ cG cH H.size co pl a0 fwa fta fra fga cxa cup_4 clast_5 cpeak cptick fr_8 fg_9 pna pta rails limit retry behind pn (xrng rfl (by omega) (by omega)) (xwk_rng hf9_4 (by decide) (by decide)) (xwk_rng hf9_5 (by decide) (by decide)) (xrng rfl (by omega) (by omega)) (xwk_rng h_pn (by decide) (by decide)) hf9_7) (cwV 2 hts (xGV tbC wd571 wd572 wd573 wd54 wd1059) rfl rfl rfl (by decide +kernel) ⟨Nat.le_of_ble_eq_true rfl, Nat.le_of_ble_eq_true rfl⟩) ⟨xPc_blind, va_recv hK hPc (ci := 0) (q0 := 0) rfl rfl, xPc_pre hPc hK hDc⟩ rfl rfl hl.1 rfl (lv_room (Nat.le_of_ble_eq_true rfl)) dX10_drawn_26 ⟨Nat.le_of_ble_eq_true rfl, Nat.le_of_ble_eq_true rfl⟩) hS (fun q _ h => hFc q h) hFc (fun r10 u t H1 locs ht hvm hw10 hB hz1 hk1 hS => ?_)
      obtain ⟨hru9, hw10⟩ := hw10
      subst hru9
      obtain ⟨hf10_0, hP1, hK1, hD1⟩ := hB
      rw [ht] at hP1
      obtain ⟨hP, hD⟩ : xPD D A [oX10 xo tp rd rn co wy sg sh pl sp lf, oAI fwa cI 8 fw_6, oAI fta cI 8 ft_7, oAJ pta cJ 64 pt, oX5 rn hy rsa ria raa rta rga dead key tick held tries trips ldraw gdraw, oAI rta cI 8 rt, oX0 co fwa fta fra fga cxa cup_4 clast_5 cpeak cptick, oAI fra cI 8 fr_8, oAI fga cI 8 fg_9, oX3 pl pna pta rails limit retry behind, oAI pna cI 64 pn] H1 := xjn 6 hP hD [1, 4, 5, 6, 7] [0, 2, 3, 8, 9, 10] hC9 rfl (by decide +kernel) (by decide +kernel) hk1 hFc hP1 hD1
      generalize H1 = H at hP hS ⊢
      have hf10_0 : M_drawnAt rails a0 fg_9 fr_8 pn cup_4 = (r10) := hf10_0
      have h9M := congrArg (fun t9 => (K_x_drawn_7 t9 cup_4 clast_5 fw_6 ft_7 fr_8 fg_9)) hf10_0
      have hM : M_x_drawn a0 cup clast fw ft fr fg rails pn pt dead rt = (K_x_drawn_7 r10 cup_4 clast_5 fw_6 ft_7 fr_8 fg_9) := (show M_x_drawn a0 cup clast fw ft fr fg rails pn pt dead rt = ((fun t9 => (K_x_drawn_7 t9 cup_4 clast_5 fw_6 ft_7 fr_8 fg_9)) (M_drawnAt rails a0 fg_9 fr_8 pn cup_4)) from hM).trans h9M
      refine W.widen (k := 0) (n := 0) (by decide) (by decide) ?_
      exact W.iret (v := r10) hx hb hr (fun t ht hW => ⟨⟨r10, r10, rfl, ⟨rfl, trivial⟩, ⟨cup_4, clast_5, fw_6, ft_7, fr_8, fg_9, (xrng rfl (by omega) (by omega)), (xwk_rng hf9_2 (by decide) (by decide)), (xwk_rng hf9_3 (by decide) (by decide)), (xwk_rng hf9_4 (by decide) (by decide)), (xwk_rng hf9_5 (by decide) (by decide)), hM, hf9_7, xB_of9 ht hW hP hK hD [0, 6, 1, 2, 7, 8, 9, 10, 3, 4, 5] (by decide +kernel) rfl⟩⟩, hS.F ht⟩) hS.2.2 dX10_drawn_29
    · skip
      have i_2 : ¬ (a0.toInt ≤ 999) := fun h9 => c_2 ((ile rfl (by decide)).mpr h9)
      have hM : M_x_drawn a0 cup clast fw ft fr fg rails pn pt dead rt = (K_x_drawn_5 cup clast fw ft fr fg) := (show M_x_drawn a0 cup clast fw ft fr fg rails pn pt dead rt = (if a0.toInt ≤ 999 then (K_x_drawn_4 rails a0 pn pt fr fg dead rt ft fw) else (K_x_drawn_5 cup clast fw ft fr fg)) from hM).trans (if_neg i_2)
      refine lv_iconst (v := (-1)) hx hb dX10_drawn_11 (by decide) ?_
      refine W.widen (k := 0) (n := 0) (by decide) (by decide) ?_
      exact W.iret (v := (-1)) hx hb hr (fun t ht hW => ⟨⟨(-1), (-1), rfl, ⟨rfl, trivial⟩, ⟨cup, clast, fw, ft, fr, fg, (xrng rfl (by omega) (by omega)), (xwk_rng h_fw (by decide) (by decide)), (xwk_rng h_ft (by decide) (by decide)), (xwk_rng h_fr (by decide) (by decide)), (xwk_rng h_fg (by decide) (by decide)), hM, h_le, xB_of9 ht hW hP hK hD [0, 1, 2, 3, 4, 5, 6, 7, 8, 9, 10] (by decide +kernel) rfl⟩⟩, hS.F ht⟩) hS.2.2 dX10_drawn_12
def K_x_peak_2 (pk : Int32) (gpk : Int32) (lpk : Int32) (cup : Int32) (clast : Int32) (cpeak : Int32) (cptick : Int32) (fw : Nat → Int32) (ft : Nat → Int32) (fr : Nat → Int32) (fg : Nat → Int32) (cx : Nat → Int32) : (Int32) × (Int32) × (Int32) × (Int32) × (Int32) × (Int32) × (Int32) × (Int32) × (Nat → Int32) × (Nat → Int32) × (Nat → Int32) × (Nat → Int32) × (Nat → Int32) := ((-1 : Int32), pk, gpk, lpk, cup, clast, cpeak, cptick, fw, ft, fr, fg, cx)
def K_x_peak_11 (pk : Int32) (gpk : Int32) (lpk : Int32) (cup : Int32) (clast : Int32) (cpeak : Int32) (cptick : Int32) (fw : Nat → Int32) (ft : Nat → Int32) (fr : Nat → Int32) (fg : Nat → Int32) (cx : Nat → Int32) : (Int32) × (Int32) × (Int32) × (Int32) × (Int32) × (Int32) × (Int32) × (Int32) × (Nat → Int32) × (Nat → Int32) × (Nat → Int32) × (Nat → Int32) × (Nat → Int32) := ((-4 : Int32), pk, gpk, lpk, cup, clast, cpeak, cptick, fw, ft, fr, fg, cx)
def K_x_peak_15 (cpeak_16 : Int32) (pk : Int32) (gpk : Int32) (lpk : Int32) (cup_9 : Int32) (clast_10 : Int32) (cptick_17 : Int32) (fw_11 : Nat → Int32) (ft_12 : Nat → Int32) (fr_13 : Nat → Int32) (fg_14 : Nat → Int32) (cx_18 : Nat → Int32) : (Int32) × (Int32) × (Int32) × (Int32) × (Int32) × (Int32) × (Int32) × (Int32) × (Nat → Int32) × (Nat → Int32) × (Nat → Int32) × (Nat → Int32) × (Nat → Int32) := (cpeak_16, pk, gpk, lpk, cup_9, clast_10, cpeak_16, cptick_17, fw_11, ft_12, fr_13, fg_14, cx_18)
def K_x_peak_14 (cptick_17 : Int32) (pk : Int32) (gpk : Int32) (lpk : Int32) (cup_9 : Int32) (clast_10 : Int32) (cpeak_16 : Int32) (fw_11 : Nat → Int32) (ft_12 : Nat → Int32) (fr_13 : Nat → Int32) (fg_14 : Nat → Int32) (cx_18 : Nat → Int32) : (Int32) × (Int32) × (Int32) × (Int32) × (Int32) × (Int32) × (Int32) × (Int32) × (Nat → Int32) × (Nat → Int32) × (Nat → Int32) × (Nat → Int32) × (Nat → Int32) := (cptick_17, pk, gpk, lpk, cup_9, clast_10, cpeak_16, cptick_17, fw_11, ft_12, fr_13, fg_14, cx_18)
def K_x_peak_13 (a0 : Int32) (cpeak_16 : Int32) (pk : Int32) (gpk : Int32) (lpk : Int32) (cup_9 : Int32) (clast_10 : Int32) (cptick_17 : Int32) (fw_11 : Nat → Int32) (ft_12 : Nat → Int32) (fr_13 : Nat → Int32) (fg_14 : Nat → Int32) (cx_18 : Nat → Int32) : (Int32) × (Int32) × (Int32) × (Int32) × (Int32) × (Int32) × (Int32) × (Int32) × (Nat → Int32) × (Nat → Int32) × (Nat → Int32) × (Nat → Int32) × (Nat → Int32) := (if a0.toInt = 0 then (K_x_peak_15 cpeak_16 pk gpk lpk cup_9 clast_10 cptick_17 fw_11 ft_12 fr_13 fg_14 cx_18) else (K_x_peak_14 cptick_17 pk gpk lpk cup_9 clast_10 cpeak_16 fw_11 ft_12 fr_13 fg_14 cx_18))
def K_x_peak_12 (a0 : Int32) (pk : Int32) (gpk : Int32) (lpk : Int32) (cup_9 : Int32) (clast_10 : Int32) (fw_11 : Nat → Int32) (ft_12 : Nat → Int32) (fr_13 : Nat → Int32) (fg_14 : Nat → Int32) (rails : Int32) (pn : Nat → Int32) (cx : Nat → Int32) : (Int32) × (Int32) × (Int32) × (Int32) × (Int32) × (Int32) × (Int32) × (Int32) × (Nat → Int32) × (Nat → Int32) × (Nat → Int32) × (Nat → Int32) × (Nat → Int32) := ((fun t9 => (K_x_peak_13 a0 t9.1 pk gpk lpk cup_9 clast_10 t9.2.1 fw_11 ft_12 fr_13 fg_14 t9.2.2)) (M_findPeak rails clast_10 fg_14 fr_13 pn cup_9 cx))
def K_x_peak_10 (a0 : Int32) (pk : Int32) (gpk : Int32) (lpk : Int32) (rails : Int32) (pn : Nat → Int32) (cx : Nat → Int32) (pt : Nat → Int64) (fr : Nat → Int32) (fg : Nat → Int32) (dead : Int32) (rt : Nat → Int32) (ft : Nat → Int32) (fw : Nat → Int32) : (Int32) × (Int32) × (Int32) × (Int32) × (Int32) × (Int32) × (Int32) × (Int32) × (Nat → Int32) × (Nat → Int32) × (Nat → Int32) × (Nat → Int32) × (Nat → Int32) := ((fun t9 => (K_x_peak_12 a0 pk gpk lpk t9.1 t9.2.1 t9.2.2.1 t9.2.2.2.1 t9.2.2.2.2.1 t9.2.2.2.2.2 rails pn cx)) (M_followTimes rails pt fr fg dead rt ft pn fw))
def K_x_peak_9 (r5 : Int32) (pk : Int32) (gpk : Int32) (lpk : Int32) (cup : Int32) (clast : Int32) (cpeak : Int32) (cptick : Int32) (fw : Nat → Int32) (ft : Nat → Int32) (fr : Nat → Int32) (fg : Nat → Int32) (cx : Nat → Int32) (a0 : Int32) (rails : Int32) (pn : Nat → Int32) (pt : Nat → Int64) (dead : Int32) (rt : Nat → Int32) : (Int32) × (Int32) × (Int32) × (Int32) × (Int32) × (Int32) × (Int32) × (Int32) × (Nat → Int32) × (Nat → Int32) × (Nat → Int32) × (Nat → Int32) × (Nat → Int32) := (if r5.toInt = 0 then (K_x_peak_11 pk gpk lpk cup clast cpeak cptick fw ft fr fg cx) else (K_x_peak_10 a0 pk gpk lpk rails pn cx pt fr fg dead rt ft fw))
def K_x_peak_8 (pk : Int32) (gpk : Int32) (lpk : Int32) (cup : Int32) (clast : Int32) (cpeak : Int32) (cptick : Int32) (fw : Nat → Int32) (ft : Nat → Int32) (fr : Nat → Int32) (fg : Nat → Int32) (cx : Nat → Int32) (a0 : Int32) (rails : Int32) (pn : Nat → Int32) (pt : Nat → Int64) (dead : Int32) (rt : Nat → Int32) (r4 : Int32) : (Int32) × (Int32) × (Int32) × (Int32) × (Int32) × (Int32) × (Int32) × (Int32) × (Nat → Int32) × (Nat → Int32) × (Nat → Int32) × (Nat → Int32) × (Nat → Int32) := ((fun t9 => (K_x_peak_9 t9 pk gpk lpk cup clast cpeak cptick fw ft fr fg cx a0 rails pn pt dead rt)) (M_upAmong rails r4 pt))
def K_x_peak_6 (pk : Int32) (gpk : Int32) (lpk : Int32) (cup : Int32) (clast : Int32) (cpeak : Int32) (cptick : Int32) (fw : Nat → Int32) (ft : Nat → Int32) (fr : Nat → Int32) (fg : Nat → Int32) (cx : Nat → Int32) (a0 : Int32) (rails : Int32) (pn : Nat → Int32) (pt : Nat → Int64) (dead : Int32) (rt : Nat → Int32) : (Int32) × (Int32) × (Int32) × (Int32) × (Int32) × (Int32) × (Int32) × (Int32) × (Nat → Int32) × (Nat → Int32) × (Nat → Int32) × (Nat → Int32) × (Nat → Int32) := ((fun t9 => (K_x_peak_8 pk gpk lpk cup clast cpeak cptick fw ft fr fg cx a0 rails pn pt dead rt t9)) (M_alive dead rails))
def K_x_peak_22 (pk : Int32) (gpk : Int32) (lpk : Int32) (cup : Int32) (clast : Int32) (cpeak : Int32) (cptick : Int32) (fw : Nat → Int32) (ft : Nat → Int32) (fr : Nat → Int32) (fg : Nat → Int32) (cx : Nat → Int32) : (Int32) × (Int32) × (Int32) × (Int32) × (Int32) × (Int32) × (Int32) × (Int32) × (Nat → Int32) × (Nat → Int32) × (Nat → Int32) × (Nat → Int32) × (Nat → Int32) := ((-4 : Int32), pk, gpk, lpk, cup, clast, cpeak, cptick, fw, ft, fr, fg, cx)
def K_x_peak_26 (gpk_29 : Int32) (pk_28 : Int32) (lpk_30 : Int32) (cup_31 : Int32) (clast_32 : Int32) (cpeak_33 : Int32) (cptick_34 : Int32) (fw_35 : Nat → Int32) (ft_36 : Nat → Int32) (fr_37 : Nat → Int32) (fg_38 : Nat → Int32) (cx_39 : Nat → Int32) : (Int32) × (Int32) × (Int32) × (Int32) × (Int32) × (Int32) × (Int32) × (Int32) × (Nat → Int32) × (Nat → Int32) × (Nat → Int32) × (Nat → Int32) × (Nat → Int32) := (gpk_29, pk_28, gpk_29, lpk_30, cup_31, clast_32, cpeak_33, cptick_34, fw_35, ft_36, fr_37, fg_38, cx_39)
def K_x_peak_25 (lpk_30 : Int32) (pk_28 : Int32) (gpk_29 : Int32) (cup_31 : Int32) (clast_32 : Int32) (cpeak_33 : Int32) (cptick_34 : Int32) (fw_35 : Nat → Int32) (ft_36 : Nat → Int32) (fr_37 : Nat → Int32) (fg_38 : Nat → Int32) (cx_39 : Nat → Int32) : (Int32) × (Int32) × (Int32) × (Int32) × (Int32) × (Int32) × (Int32) × (Int32) × (Nat → Int32) × (Nat → Int32) × (Nat → Int32) × (Nat → Int32) × (Nat → Int32) := (lpk_30, pk_28, gpk_29, lpk_30, cup_31, clast_32, cpeak_33, cptick_34, fw_35, ft_36, fr_37, fg_38, cx_39)
def K_x_peak_24 (a0 : Int32) (gpk_29 : Int32) (pk_28 : Int32) (lpk_30 : Int32) (cup_31 : Int32) (clast_32 : Int32) (cpeak_33 : Int32) (cptick_34 : Int32) (fw_35 : Nat → Int32) (ft_36 : Nat → Int32) (fr_37 : Nat → Int32) (fg_38 : Nat → Int32) (cx_39 : Nat → Int32) : (Int32) × (Int32) × (Int32) × (Int32) × (Int32) × (Int32) × (Int32) × (Int32) × (Nat → Int32) × (Nat → Int32) × (Nat → Int32) × (Nat → Int32) × (Nat → Int32) := (if a0.toInt = 2 then (K_x_peak_26 gpk_29 pk_28 lpk_30 cup_31 clast_32 cpeak_33 cptick_34 fw_35 ft_36 fr_37 fg_38 cx_39) else (K_x_peak_25 lpk_30 pk_28 gpk_29 cup_31 clast_32 cpeak_33 cptick_34 fw_35 ft_36 fr_37 fg_38 cx_39))
def K_x_peak_23 (a0 : Int32) (pk : Int32) (rails : Int32) (pn : Nat → Int32) (pt : Nat → Int64) (cx : Nat → Int32) (fr : Nat → Int32) (fg : Nat → Int32) (ft : Nat → Int32) (fw : Nat → Int32) (r26 : Int32) (gpk : Int32) (lpk : Int32) (cup : Int32) (clast : Int32) (cpeak : Int32) (cptick : Int32) : (Int32) × (Int32) × (Int32) × (Int32) × (Int32) × (Int32) × (Int32) × (Int32) × (Nat → Int32) × (Nat → Int32) × (Nat → Int32) × (Nat → Int32) × (Nat → Int32) := ((fun t9 => (K_x_peak_24 a0 t9.2.1 t9.1 t9.2.2.1 t9.2.2.2.1 t9.2.2.2.2.1 t9.2.2.2.2.2.1 t9.2.2.2.2.2.2.1 t9.2.2.2.2.2.2.2.1 t9.2.2.2.2.2.2.2.2.1 t9.2.2.2.2.2.2.2.2.2.1 t9.2.2.2.2.2.2.2.2.2.2.1 t9.2.2.2.2.2.2.2.2.2.2.2)) (M_findPeaks pk rails pn pt cx fr fg ft fw r26 gpk lpk cup clast cpeak cptick))
def K_x_peak_21 (a0 : Int32) (pk : Int32) (rails : Int32) (pn : Nat → Int32) (pt : Nat → Int64) (cx : Nat → Int32) (fr : Nat → Int32) (fg : Nat → Int32) (ft : Nat → Int32) (fw : Nat → Int32) (gpk : Int32) (lpk : Int32) (cup : Int32) (clast : Int32) (cpeak : Int32) (cptick : Int32) (dead : Int32) : (Int32) × (Int32) × (Int32) × (Int32) × (Int32) × (Int32) × (Int32) × (Int32) × (Nat → Int32) × (Nat → Int32) × (Nat → Int32) × (Nat → Int32) × (Nat → Int32) := ((fun t9 => (K_x_peak_23 a0 pk rails pn pt cx fr fg ft fw t9 gpk lpk cup clast cpeak cptick)) (M_alive dead rails))
def K_x_peak_20 (r23 : Int32) (pk : Int32) (gpk : Int32) (lpk : Int32) (cup : Int32) (clast : Int32) (cpeak : Int32) (cptick : Int32) (fw : Nat → Int32) (ft : Nat → Int32) (fr : Nat → Int32) (fg : Nat → Int32) (cx : Nat → Int32) (a0 : Int32) (rails : Int32) (pn : Nat → Int32) (pt : Nat → Int64) (dead : Int32) : (Int32) × (Int32) × (Int32) × (Int32) × (Int32) × (Int32) × (Int32) × (Int32) × (Nat → Int32) × (Nat → Int32) × (Nat → Int32) × (Nat → Int32) × (Nat → Int32) := (if r23.toInt = 0 then (K_x_peak_22 pk gpk lpk cup clast cpeak cptick fw ft fr fg cx) else (K_x_peak_21 a0 pk rails pn pt cx fr fg ft fw gpk lpk cup clast cpeak cptick dead))
def K_x_peak_19 (pk : Int32) (gpk : Int32) (lpk : Int32) (cup : Int32) (clast : Int32) (cpeak : Int32) (cptick : Int32) (fw : Nat → Int32) (ft : Nat → Int32) (fr : Nat → Int32) (fg : Nat → Int32) (cx : Nat → Int32) (a0 : Int32) (rails : Int32) (pn : Nat → Int32) (pt : Nat → Int64) (dead : Int32) (r22 : Int32) : (Int32) × (Int32) × (Int32) × (Int32) × (Int32) × (Int32) × (Int32) × (Int32) × (Nat → Int32) × (Nat → Int32) × (Nat → Int32) × (Nat → Int32) × (Nat → Int32) := ((fun t9 => (K_x_peak_20 t9 pk gpk lpk cup clast cpeak cptick fw ft fr fg cx a0 rails pn pt dead)) (M_upAmong rails r22 pt))
def K_x_peak_17 (pk : Int32) (gpk : Int32) (lpk : Int32) (cup : Int32) (clast : Int32) (cpeak : Int32) (cptick : Int32) (fw : Nat → Int32) (ft : Nat → Int32) (fr : Nat → Int32) (fg : Nat → Int32) (cx : Nat → Int32) (a0 : Int32) (rails : Int32) (pn : Nat → Int32) (pt : Nat → Int64) (dead : Int32) : (Int32) × (Int32) × (Int32) × (Int32) × (Int32) × (Int32) × (Int32) × (Int32) × (Nat → Int32) × (Nat → Int32) × (Nat → Int32) × (Nat → Int32) × (Nat → Int32) := ((fun t9 => (K_x_peak_19 pk gpk lpk cup clast cpeak cptick fw ft fr fg cx a0 rails pn pt dead t9)) (M_alive dead rails))
def K_x_peak_18 (pk : Int32) (gpk : Int32) (lpk : Int32) (cup : Int32) (clast : Int32) (cpeak : Int32) (cptick : Int32) (fw : Nat → Int32) (ft : Nat → Int32) (fr : Nat → Int32) (fg : Nat → Int32) (cx : Nat → Int32) : (Int32) × (Int32) × (Int32) × (Int32) × (Int32) × (Int32) × (Int32) × (Int32) × (Nat → Int32) × (Nat → Int32) × (Nat → Int32) × (Nat → Int32) × (Nat → Int32) := ((-2 : Int32), pk, gpk, lpk, cup, clast, cpeak, cptick, fw, ft, fr, fg, cx)
def K_x_peak_16 (r20 : Int32) (pk : Int32) (gpk : Int32) (lpk : Int32) (cup : Int32) (clast : Int32) (cpeak : Int32) (cptick : Int32) (fw : Nat → Int32) (ft : Nat → Int32) (fr : Nat → Int32) (fg : Nat → Int32) (cx : Nat → Int32) (a0 : Int32) (rails : Int32) (pn : Nat → Int32) (pt : Nat → Int64) (dead : Int32) : (Int32) × (Int32) × (Int32) × (Int32) × (Int32) × (Int32) × (Int32) × (Int32) × (Nat → Int32) × (Nat → Int32) × (Nat → Int32) × (Nat → Int32) × (Nat → Int32) := (if r20.toInt ≤ 20000 then (K_x_peak_17 pk gpk lpk cup clast cpeak cptick fw ft fr fg cx a0 rails pn pt dead) else (K_x_peak_18 pk gpk lpk cup clast cpeak cptick fw ft fr fg cx))
def K_x_peak_7 (pk : Int32) (gpk : Int32) (lpk : Int32) (cup : Int32) (clast : Int32) (cpeak : Int32) (cptick : Int32) (fw : Nat → Int32) (ft : Nat → Int32) (fr : Nat → Int32) (fg : Nat → Int32) (cx : Nat → Int32) (a0 : Int32) (rails : Int32) (pn : Nat → Int32) (pt : Nat → Int64) (dead : Int32) : (Int32) × (Int32) × (Int32) × (Int32) × (Int32) × (Int32) × (Int32) × (Int32) × (Nat → Int32) × (Nat → Int32) × (Nat → Int32) × (Nat → Int32) × (Nat → Int32) := ((fun t9 => (K_x_peak_16 t9 pk gpk lpk cup clast cpeak cptick fw ft fr fg cx a0 rails pn pt dead)) (M_countWays rails pn))
def K_x_peak_4 (a0 : Int32) (pk : Int32) (gpk : Int32) (lpk : Int32) (cup : Int32) (clast : Int32) (cpeak : Int32) (cptick : Int32) (fw : Nat → Int32) (ft : Nat → Int32) (fr : Nat → Int32) (fg : Nat → Int32) (cx : Nat → Int32) (rails : Int32) (pn : Nat → Int32) (pt : Nat → Int64) (dead : Int32) (rt : Nat → Int32) : (Int32) × (Int32) × (Int32) × (Int32) × (Int32) × (Int32) × (Int32) × (Int32) × (Nat → Int32) × (Nat → Int32) × (Nat → Int32) × (Nat → Int32) × (Nat → Int32) := (if a0.toInt < 2 then (K_x_peak_6 pk gpk lpk cup clast cpeak cptick fw ft fr fg cx a0 rails pn pt dead rt) else (K_x_peak_7 pk gpk lpk cup clast cpeak cptick fw ft fr fg cx a0 rails pn pt dead))
def K_x_peak_5 (pk : Int32) (gpk : Int32) (lpk : Int32) (cup : Int32) (clast : Int32) (cpeak : Int32) (cptick : Int32) (fw : Nat → Int32) (ft : Nat → Int32) (fr : Nat → Int32) (fg : Nat → Int32) (cx : Nat → Int32) : (Int32) × (Int32) × (Int32) × (Int32) × (Int32) × (Int32) × (Int32) × (Int32) × (Nat → Int32) × (Nat → Int32) × (Nat → Int32) × (Nat → Int32) × (Nat → Int32) := ((-1 : Int32), pk, gpk, lpk, cup, clast, cpeak, cptick, fw, ft, fr, fg, cx)
def K_x_peak_3 (a0 : Int32) (pk : Int32) (gpk : Int32) (lpk : Int32) (cup : Int32) (clast : Int32) (cpeak : Int32) (cptick : Int32) (fw : Nat → Int32) (ft : Nat → Int32) (fr : Nat → Int32) (fg : Nat → Int32) (cx : Nat → Int32) (rails : Int32) (pn : Nat → Int32) (pt : Nat → Int64) (dead : Int32) (rt : Nat → Int32) : (Int32) × (Int32) × (Int32) × (Int32) × (Int32) × (Int32) × (Int32) × (Int32) × (Nat → Int32) × (Nat → Int32) × (Nat → Int32) × (Nat → Int32) × (Nat → Int32) := (if a0.toInt ≤ 3 then (K_x_peak_4 a0 pk gpk lpk cup clast cpeak cptick fw ft fr fg cx rails pn pt dead rt) else (K_x_peak_5 pk gpk lpk cup clast cpeak cptick fw ft fr fg cx))
def K_x_peak_1 (a0 : Int32) (pk : Int32) (gpk : Int32) (lpk : Int32) (cup : Int32) (clast : Int32) (cpeak : Int32) (cptick : Int32) (fw : Nat → Int32) (ft : Nat → Int32) (fr : Nat → Int32) (fg : Nat → Int32) (cx : Nat → Int32) (rails : Int32) (pn : Nat → Int32) (pt : Nat → Int64) (dead : Int32) (rt : Nat → Int32) : (Int32) × (Int32) × (Int32) × (Int32) × (Int32) × (Int32) × (Int32) × (Int32) × (Nat → Int32) × (Nat → Int32) × (Nat → Int32) × (Nat → Int32) × (Nat → Int32) := (if a0.toInt < 0 then (K_x_peak_2 pk gpk lpk cup clast cpeak cptick fw ft fr fg cx) else (K_x_peak_3 a0 pk gpk lpk cup clast cpeak cptick fw ft fr fg cx rails pn pt dead rt))
def M_x_peak (a0 : Int32) (pk : Int32) (gpk : Int32) (lpk : Int32) (cup : Int32) (clast : Int32) (cpeak : Int32) (cptick : Int32) (fw : Nat → Int32) (ft : Nat → Int32) (fr : Nat → Int32) (fg : Nat → Int32) (cx : Nat → Int32) (rails : Int32) (pn : Nat → Int32) (pt : Nat → Int64) (dead : Int32) (rt : Nat → Int32) : (Int32) × (Int32) × (Int32) × (Int32) × (Int32) × (Int32) × (Int32) × (Int32) × (Nat → Int32) × (Nat → Int32) × (Nat → Int32) × (Nat → Int32) × (Nat → Int32) := (K_x_peak_1 a0 pk gpk lpk cup clast cpeak cptick fw ft fr fg cx rails pn pt dead rt)
abbrev W_x_peak (cI cJ cZ cG cH : ClassId) (xo : Nat) (a0 : Int32) (tp : Nat) (rd : Nat) (rn : Nat) (co : Nat) (wy : Nat) (sg : Nat) (sh : Nat) (pl : Nat) (sp : Nat) (lf : Int32) (wba : Nat) (wka : Nat) (pk : Int32) (gpk : Int32) (lpk : Int32) (fwa : Nat) (fta : Nat) (fra : Nat) (fga : Nat) (cxa : Nat) (cup : Int32) (clast : Int32) (cpeak : Int32) (cptick : Int32) (fw : Nat → Int32) (ft : Nat → Int32) (fr : Nat → Int32) (fg : Nat → Int32) (cx : Nat → Int32) (pna : Nat) (pta : Nat) (rails : Int32) (limit : Int32) (retry : Int32) (behind : Int32) (pn : Nat → Int32) (pt : Nat → Int64) (hy : Nat) (rsa : Nat) (ria : Nat) (raa : Nat) (rta : Nat) (rga : Nat) (dead : Int32) (key : Int32) (tick : Int32) (held : Int32) (tries : Int32) (trips : Int32) (ldraw : Int32) (gdraw : Int32) (rt : Nat → Int32) : va_W := [oX10 xo tp rd rn co wy sg sh pl sp lf, oX9 wy co wba wka pk gpk lpk, oX0 co fwa fta fra fga cxa cup clast cpeak cptick, oAI fwa cI 8 fw, oAI fta cI 8 ft, oAI fra cI 8 fr, oAI fga cI 8 fg, oAI cxa cI 145 cx, oX3 pl pna pta rails limit retry behind, oAI pna cI 64 pn, oAJ pta cJ 64 pt, oX5 rn hy rsa ria raa rta rga dead key tick held tries trips ldraw gdraw, oAI rta cI 8 rt]
abbrev Q_x_peak (D : va_G) (cI cJ cZ cG cH : ClassId) (xo : Nat) (a0 : Int32) (tp : Nat) (rd : Nat) (rn : Nat) (co : Nat) (wy : Nat) (sg : Nat) (sh : Nat) (pl : Nat) (sp : Nat) (lf : Int32) (wba : Nat) (wka : Nat) (pk : Int32) (gpk : Int32) (lpk : Int32) (fwa : Nat) (fta : Nat) (fra : Nat) (fga : Nat) (cxa : Nat) (cup : Int32) (clast : Int32) (cpeak : Int32) (cptick : Int32) (fw : Nat → Int32) (ft : Nat → Int32) (fr : Nat → Int32) (fg : Nat → Int32) (cx : Nat → Int32) (pna : Nat) (pta : Nat) (rails : Int32) (limit : Int32) (retry : Int32) (behind : Int32) (pn : Nat → Int32) (pt : Nat → Int64) (hy : Nat) (rsa : Nat) (ria : Nat) (raa : Nat) (rta : Nat) (rga : Nat) (dead : Int32) (key : Int32) (tick : Int32) (held : Int32) (tries : Int32) (trips : Int32) (ldraw : Int32) (gdraw : Int32) (rt : Nat → Int32) (A : Nat → Prop) : Array Value → State → Outcome → State → Prop := va_Qi (fun (r : Int32) (u9 : Int32) => r = u9 ∧ (True)) (fun u9 t => ∃ (pk9 : Int32) (gpk9 : Int32) (lpk9 : Int32) (cup9 : Int32) (clast9 : Int32) (cpeak9 : Int32) (cptick9 : Int32) (fw9 : Nat → Int32) (ft9 : Nat → Int32) (fr9 : Nat → Int32) (fg9 : Nat → Int32) (cx9 : Nat → Int32), (0 ≤ pk9.toInt ∧ pk9.toInt ≤ 1) ∧ (0 ≤ clast9.toInt ∧ clast9.toInt ≤ 144) ∧ (∀ j, j < 8 → 0 ≤ (fw9 j).toInt ∧ (fw9 j).toInt ≤ 511) ∧ (∀ j, j < 8 → 0 ≤ (ft9 j).toInt ∧ (ft9 j).toInt ≤ 511) ∧ (∀ j, j < 8 → 0 ≤ (fr9 j).toInt ∧ (fr9 j).toInt ≤ 655) ∧ (∀ j, j < 8 → 0 ≤ (fg9 j).toInt ∧ (fg9 j).toInt ≤ 1166) ∧ (M_x_peak a0 pk gpk lpk cup clast cpeak cptick fw ft fr fg cx rails pn pt dead rt = (u9, pk9, gpk9, lpk9, cup9, clast9, cpeak9, cptick9, fw9, ft9, fr9, fg9, cx9)) ∧ (∀ j, j < 8 → (fr9 j).toInt ≤ (fg9 j).toInt) ∧ xB D (tyL cI cJ cZ cG cH) [oX10 xo tp rd rn co wy sg sh pl sp lf, oX9 wy co wba wka pk9 gpk9 lpk9, oX0 co fwa fta fra fga cxa cup9 clast9 cpeak9 cptick9, oAI fwa cI 8 fw9, oAI fta cI 8 ft9, oAI fra cI 8 fr9, oAI fga cI 8 fg9, oAI cxa cI 145 cx9, oX3 pl pna pta rails limit retry behind, oAI pna cI 64 pn, oAJ pta cJ 64 pt, oX5 rn hy rsa ria raa rta rga dead key tick held tries trips ldraw gdraw, oAI rta cI 8 rt] A t) A
abbrev rm_x_peak : Room := { frames := 4, cells := 0, slots := 0, locals := 97 }
set_option maxRecDepth 100000 in
set_option maxHeartbeats 40000000 in
theorem c_x_peak (l : Launch) (D : va_G) (cI cJ cZ cG cH : ClassId) (sz : Nat) (xo : Nat) (a0 : Int32) (tp : Nat) (rd : Nat) (rn : Nat) (co : Nat) (wy : Nat) (sg : Nat) (sh : Nat) (pl : Nat) (sp : Nat) (lf : Int32) (wba : Nat) (wka : Nat) (pk : Int32) (gpk : Int32) (lpk : Int32) (fwa : Nat) (fta : Nat) (fra : Nat) (fga : Nat) (cxa : Nat) (cup : Int32) (clast : Int32) (cpeak : Int32) (cptick : Int32) (fw : Nat → Int32) (ft : Nat → Int32) (fr : Nat → Int32) (fg : Nat → Int32) (cx : Nat → Int32) (pna : Nat) (pta : Nat) (rails : Int32) (limit : Int32) (retry : Int32) (behind : Int32) (pn : Nat → Int32) (pt : Nat → Int64) (hy : Nat) (rsa : Nat) (ria : Nat) (raa : Nat) (rta : Nat) (rga : Nat) (dead : Int32) (key : Int32) (tick : Int32) (held : Int32) (tries : Int32) (trips : Int32) (ldraw : Int32) (gdraw : Int32) (rt : Nat → Int32) (h_pk : 0 ≤ pk.toInt ∧ pk.toInt ≤ 1) (h_clast : 0 ≤ clast.toInt ∧ clast.toInt ≤ 144) (h_fw : ∀ j, j < 8 → 0 ≤ (fw j).toInt ∧ (fw j).toInt ≤ 511) (h_ft : ∀ j, j < 8 → 0 ≤ (ft j).toInt ∧ (ft j).toInt ≤ 511) (h_fr : ∀ j, j < 8 → 0 ≤ (fr j).toInt ∧ (fr j).toInt ≤ 655) (h_fg : ∀ j, j < 8 → 0 ≤ (fg j).toInt ∧ (fg j).toInt ≤ 1166) (h_rails : 0 ≤ rails.toInt ∧ rails.toInt ≤ 8) (h_pn : ∀ j, j < 64 → 0 ≤ (pn j).toInt ∧ (pn j).toInt ≤ 511) (h_key : 0 ≤ key.toInt ∧ key.toInt ≤ 1) (h_rt : ∀ j, j < 8 → 0 ≤ (rt j).toInt ∧ (rt j).toInt ≤ 511) (h_le : ∀ j, j < 8 → (fr j).toInt ≤ (fg j).toInt) : Met l yX10_peak (wt yX10_peak cX10_peak 2 (some .int)) rm_x_peak (xPc [.ref xo, .int a0] D (tyL cI cJ cZ cG cH) (W_x_peak cI cJ cZ cG cH xo a0 tp rd rn co wy sg sh pl sp lf wba wka pk gpk lpk fwa fta fra fga cxa cup clast cpeak cptick fw ft fr fg cx pna pta rails limit retry behind pn pt hy rsa ria raa rta rga dead key tick held tries trips ldraw gdraw rt) sz) (Q_x_peak D cI cJ cZ cG cH xo a0 tp rd rn co wy sg sh pl sp lf wba wka pk gpk lpk fwa fta fra fga cxa cup clast cpeak cptick fw ft fr fg cx pna pta rails limit retry behind pn pt hy rsa ria raa rta rga dead key tick held tries trips ldraw gdraw rt (va_A (W_x_peak cI cJ cZ cG cH xo a0 tp rd rn co wy sg sh pl sp lf wba wka pk gpk lpk fwa fta fra fga cxa cup clast cpeak cptick fw ft fr fg cx pna pta rails limit retry behind pn pt hy rsa ria raa rta rga dead key tick held tries trips ldraw gdraw rt) sz)) 0 0 (va_A (W_x_peak cI cJ cZ cG cH xo a0 tp rd rn co wy sg sh pl sp lf wba wka pk gpk lpk fwa fta fra fga cxa cup clast cpeak cptick fw ft fr fg cx pna pta rails limit retry behind pn pt hy rsa ria raa rta rga dead key tick held tries trips ldraw gdraw rt) sz) := by
  refine xMet (cc := cX10_peak) (maxL := 2) (ret := (some .int)) (Qf := Q_x_peak D cI cJ cZ cG cH xo a0 tp rd rn co wy sg sh pl sp lf wba wka pk gpk lpk fwa fta fra fga cxa cup clast cpeak cptick fw ft fr fg cx pna pta rails limit retry behind pn pt hy rsa ria raa rta rga dead key tick held tries trips ldraw gdraw rt) (by decide) rfl (Nat.le_of_ble_eq_true rfl) ?_
  intro p e s m below meth c ls A hx hb hr hml hts hown hlocks hnm hsz hP hK hD hA hS hl
  have hown : s.vm.findClass RX10 = some m.cls := hown
  have hP : va_P D vwCl [oX10 xo tp rd rn co wy sg sh pl sp lf, oX9 wy co wba wka pk gpk lpk, oX0 co fwa fta fra fga cxa cup clast cpeak cptick, oAI fwa cI 8 fw, oAI fta cI 8 ft, oAI fra cI 8 fr, oAI fga cI 8 fg, oAI cxa cI 145 cx, oX3 pl pna pta rails limit retry behind, oAI pna cI 64 pn, oAJ pta cJ 64 pt, oX5 rn hy rsa ria raa rta rga dead key tick held tries trips ldraw gdraw, oAI rta cI 8 rt] s.heap := hP
  have hD : va_D A [oX10 xo tp rd rn co wy sg sh pl sp lf, oX9 wy co wba wka pk gpk lpk, oX0 co fwa fta fra fga cxa cup clast cpeak cptick, oAI fwa cI 8 fw, oAI fta cI 8 ft, oAI fra cI 8 fr, oAI fga cI 8 fg, oAI cxa cI 145 cx, oX3 pl pna pta rails limit retry behind, oAI pna cI 64 pn, oAJ pta cJ 64 pt, oX5 rn hy rsa ria raa rta rga dead key tick held tries trips ldraw gdraw, oAI rta cI 8 rt] := hD
  have hl : lv_has ls 2 [(0, .ref xo), (1, .int a0)] := hl
  have hM : M_x_peak a0 pk gpk lpk cup clast cpeak cptick fw ft fr fg cx rails pn pt dead rt = (K_x_peak_1 a0 pk gpk lpk cup clast cpeak cptick fw ft fr fg cx rails pn pt dead rt) := rfl
  refine lv_iload_n hx hb dX10_peak_0 rfl (lv_at hl 1 rfl) ?_
  refine lv_if_lt (tgt := 9) hx hb dX10_peak_1 (by decide) (fun c_1 => ?_) (fun c_1 => ?_)
  · skip
    have i_1 : a0.toInt < 0 := (ilt rfl (by decide)).mp c_1
    have hM : M_x_peak a0 pk gpk lpk cup clast cpeak cptick fw ft fr fg cx rails pn pt dead rt = (K_x_peak_2 pk gpk lpk cup clast cpeak cptick fw ft fr fg cx) := (show M_x_peak a0 pk gpk lpk cup clast cpeak cptick fw ft fr fg cx rails pn pt dead rt = (if a0.toInt < 0 then (K_x_peak_2 pk gpk lpk cup clast cpeak cptick fw ft fr fg cx) else (K_x_peak_3 a0 pk gpk lpk cup clast cpeak cptick fw ft fr fg cx rails pn pt dead rt)) from hM).trans (if_pos i_1)
    refine lv_iconst (v := (-1)) hx hb dX10_peak_9 (by decide) ?_
    refine W.widen (k := 0) (n := 0) (by decide) (by decide) ?_
    exact W.iret (v := (-1)) hx hb hr (fun t ht hW => ⟨⟨(-1), (-1), rfl, ⟨rfl, trivial⟩, ⟨pk, gpk, lpk, cup, clast, cpeak, cptick, fw, ft, fr, fg, cx, (xrng rfl (by omega) (by omega)), (xrng rfl (by omega) (by omega)), (xwk_rng h_fw (by decide) (by decide)), (xwk_rng h_ft (by decide) (by decide)), (xwk_rng h_fr (by decide) (by decide)), (xwk_rng h_fg (by decide) (by decide)), hM, h_le, xB_of9 ht hW hP hK hD [0, 1, 2, 3, 4, 5, 6, 7, 8, 9, 10, 11, 12] (by decide +kernel) rfl⟩⟩, hS.F ht⟩) hS.2.2 dX10_peak_10
  · skip
    have i_1 : ¬ (a0.toInt < 0) := fun h9 => c_1 ((ilt rfl (by decide)).mpr h9)
    have hM : M_x_peak a0 pk gpk lpk cup clast cpeak cptick fw ft fr fg cx rails pn pt dead rt = (K_x_peak_3 a0 pk gpk lpk cup clast cpeak cptick fw ft fr fg cx rails pn pt dead rt) := (show M_x_peak a0 pk gpk lpk cup clast cpeak cptick fw ft fr fg cx rails pn pt dead rt = (if a0.toInt < 0 then (K_x_peak_2 pk gpk lpk cup clast cpeak cptick fw ft fr fg cx) else (K_x_peak_3 a0 pk gpk lpk cup clast cpeak cptick fw ft fr fg cx rails pn pt dead rt)) from hM).trans (if_neg i_1)
    refine lv_iload_n hx hb dX10_peak_4 rfl (lv_at hl 1 rfl) ?_
    refine lv_iconst (v := 3) hx hb dX10_peak_5 (by decide) ?_
    refine lv_icmp_le (tgt := 11) hx hb dX10_peak_6 (by decide) (fun c_2 => ?_) (fun c_2 => ?_)
    · skip
      have i_2 : a0.toInt ≤ 3 := (ile rfl (by decide)).mp c_2
      have hM : M_x_peak a0 pk gpk lpk cup clast cpeak cptick fw ft fr fg cx rails pn pt dead rt = (K_x_peak_4 a0 pk gpk lpk cup clast cpeak cptick fw ft fr fg cx rails pn pt dead rt) := (show M_x_peak a0 pk gpk lpk cup clast cpeak cptick fw ft fr fg cx rails pn pt dead rt = (if a0.toInt ≤ 3 then (K_x_peak_4 a0 pk gpk lpk cup clast cpeak cptick fw ft fr fg cx rails pn pt dead rt) else (K_x_peak_5 pk gpk lpk cup clast cpeak cptick fw ft fr fg cx)) from hM).trans (if_pos i_2)
      refine lv_iload_n hx hb dX10_peak_11 rfl (lv_at hl 1 rfl) ?_
      refine lv_iconst (v := 2) hx hb dX10_peak_12 (by decide) ?_
      refine lv_icmp_lt (tgt := 32) hx hb dX10_peak_13 (by decide) (fun c_3 => ?_) (fun c_3 => ?_)
      · skip
        have i_3 : a0.toInt < 2 := (ilt rfl (by decide)).mp c_3
        have hM : M_x_peak a0 pk gpk lpk cup clast cpeak cptick fw ft fr fg cx rails pn pt dead rt = (K_x_peak_6 pk gpk lpk cup clast cpeak cptick fw ft fr fg cx a0 rails pn pt dead rt) := (show M_x_peak a0 pk gpk lpk cup clast cpeak cptick fw ft fr fg cx rails pn pt dead rt = (if a0.toInt < 2 then (K_x_peak_6 pk gpk lpk cup clast cpeak cptick fw ft fr fg cx a0 rails pn pt dead rt) else (K_x_peak_7 pk gpk lpk cup clast cpeak cptick fw ft fr fg cx a0 rails pn pt dead)) from hM).trans (if_pos i_3)
        refine lv_aload_n hx hb dX10_peak_32 rfl (lv_at hl 0 rfl) ?_
        refine va_get (D := D) (ci := 9) (v := .ref pl) (C := RX10) (T := TX10) (N := 10) hx hb hts (fun w h => tbC w (tbfX10 w h)) hown hK hP 0 rfl rfl 7 (by decide) (hts (.fieldLink RX10 56 "PowerRails" "plan" "LPowerRails$Plan;") (tbC _ wd254)) (fun _ h9 => h9) rfl dX10_peak_33 ?_
        refine lv_aload_n hx hb dX10_peak_36 rfl (lv_at hl 0 rfl) ?_
        obtain ⟨hPc, hDc, hFc, hC9⟩ := xpk (wc := W_alive cI cJ cZ cG cH xo tp rd rn co wy sg sh pl sp lf pna pta rails limit retry behind hy rsa ria raa rta rga dead key tick held tries trips ldraw gdraw) hP hD hS hA [0, 8, 11] (by decide +kernel) rfl
        refine va_calli (va_runV (As := []) (rest := [.ref pl]) ⟨hx, hb, hml, hown, hts⟩ (c_alive l D cI cJ cZ cG cH s.heap.size xo tp rd rn co wy sg sh pl sp lf pna pta rails limit retry behind hy rsa ria raa rta rga dead key tick held tries trips ldraw gdraw (xrng rfl (by omega) (by omega)) (xrng rfl (by omega) (by omega))) (cwV 0 hts (xGV tbC wd523 wd524 wd2 wd50 wd1046) rfl rfl rfl (by decide +kernel) ⟨Nat.le_of_ble_eq_true rfl, Nat.le_of_ble_eq_true rfl⟩) ⟨xPc_blind, va_recv hK hPc (ci := 9) (q0 := 0) rfl rfl, xPc_pre hPc hK hDc⟩ rfl rfl hl.1 rfl (lv_room (Nat.le_of_ble_eq_true rfl)) dX10_peak_37 ⟨Nat.le_of_ble_eq_true rfl, Nat.le_of_ble_eq_true rfl⟩) hS (fun q _ h => hFc q h) hFc (fun r4 u t H1 locs ht hvm hw4 hB hz1 hk1 hS => ?_)
        obtain ⟨hru9, hw4⟩ := hw4
        subst hru9
        obtain ⟨hf4_0, hP1, hK1, hD1⟩ := hB
        rw [ht] at hP1
        obtain ⟨hP, hD⟩ : xPD D A [oX9 wy co wba wka pk gpk lpk, oX0 co fwa fta fra fga cxa cup clast cpeak cptick, oAI fwa cI 8 fw, oAI fta cI 8 ft, oAI fra cI 8 fr, oAI fga cI 8 fg, oAI cxa cI 145 cx, oAI pna cI 64 pn, oAJ pta cJ 64 pt, oAI rta cI 8 rt, oX10 xo tp rd rn co wy sg sh pl sp lf, oX3 pl pna pta rails limit retry behind, oX5 rn hy rsa ria raa rta rga dead key tick held tries trips ldraw gdraw] H1 := xjn 10 hP hD [0, 8, 11] [1, 2, 3, 4, 5, 6, 7, 9, 10, 12] hC9 rfl (by decide +kernel) (by decide +kernel) hk1 hFc hP1 hD1
        generalize H1 = H at hP hS ⊢
        have hf4_0 : M_alive dead rails = (r4) := hf4_0
        have hw4 : 0 ≤ r4.toInt ∧ r4.toInt ≤ 255 := hw4
        have h9M := congrArg (fun t9 => (K_x_peak_8 pk gpk lpk cup clast cpeak cptick fw ft fr fg cx a0 rails pn pt dead rt t9)) hf4_0
        have hM : M_x_peak a0 pk gpk lpk cup clast cpeak cptick fw ft fr fg cx rails pn pt dead rt = (K_x_peak_8 pk gpk lpk cup clast cpeak cptick fw ft fr fg cx a0 rails pn pt dead rt r4) := (show M_x_peak a0 pk gpk lpk cup clast cpeak cptick fw ft fr fg cx rails pn pt dead rt = ((fun t9 => (K_x_peak_8 pk gpk lpk cup clast cpeak cptick fw ft fr fg cx a0 rails pn pt dead rt t9)) (M_alive dead rails)) from hM).trans h9M
        obtain ⟨hPc, hDc, hFc, hC9⟩ := xpk (wc := W_upAmong cI cJ cZ cG cH pl r4 pna pta rails limit retry behind pt) hP hD hS hA [11, 8] (by decide +kernel) rfl
        refine va_calli (va_runV (As := [.int r4]) (rest := []) ⟨hx, hb, hml, hown, hts⟩ (c_upAmong l D cI cJ cZ cG cH H.size pl r4 pna pta rails limit retry behind pt (xrng rfl (by omega) (by omega))) (cwV 1 hts (xGV tbC wd507 wd508 wd509 wd59 wd1041) rfl rfl rfl (by decide +kernel) ⟨Nat.le_of_ble_eq_true rfl, Nat.le_of_ble_eq_true rfl⟩) ⟨xPc_blind, va_recv hK hPc (ci := 2) (q0 := 0) rfl rfl, xPc_pre hPc hK hDc⟩ rfl rfl hl.1 rfl (lv_room (Nat.le_of_ble_eq_true rfl)) dX10_peak_40 ⟨Nat.le_of_ble_eq_true rfl, Nat.le_of_ble_eq_true rfl⟩) hS (fun q _ h => hFc q h) hFc (fun r5 u t H1 locs ht hvm hw5 hB hz1 hk1 hS => ?_)
        obtain ⟨hru9, hw5⟩ := hw5
        subst hru9
        obtain ⟨hf5_0, hP1, hK1, hD1⟩ := hB
        rw [ht] at hP1
        obtain ⟨hP, hD⟩ : xPD D A [oX9 wy co wba wka pk gpk lpk, oX0 co fwa fta fra fga cxa cup clast cpeak cptick, oAI fwa cI 8 fw, oAI fta cI 8 ft, oAI fra cI 8 fr, oAI fga cI 8 fg, oAI cxa cI 145 cx, oAI pna cI 64 pn, oAI rta cI 8 rt, oX10 xo tp rd rn co wy sg sh pl sp lf, oX5 rn hy rsa ria raa rta rga dead key tick held tries trips ldraw gdraw, oX3 pl pna pta rails limit retry behind, oAJ pta cJ 64 pt] H1 := xjn 11 hP hD [11, 8] [0, 1, 2, 3, 4, 5, 6, 7, 9, 10, 12] hC9 rfl (by decide +kernel) (by decide +kernel) hk1 hFc hP1 hD1
        generalize H1 = H at hP hS ⊢
        have hf5_0 : M_upAmong rails r4 pt = (r5) := hf5_0
        have hw5 : 0 ≤ r5.toInt ∧ r5.toInt ≤ 255 := hw5
        have h9M := congrArg (fun t9 => (K_x_peak_9 t9 pk gpk lpk cup clast cpeak cptick fw ft fr fg cx a0 rails pn pt dead rt)) hf5_0
        have hM : M_x_peak a0 pk gpk lpk cup clast cpeak cptick fw ft fr fg cx rails pn pt dead rt = (K_x_peak_9 r5 pk gpk lpk cup clast cpeak cptick fw ft fr fg cx a0 rails pn pt dead rt) := (show M_x_peak a0 pk gpk lpk cup clast cpeak cptick fw ft fr fg cx rails pn pt dead rt = ((fun t9 => (K_x_peak_9 t9 pk gpk lpk cup clast cpeak cptick fw ft fr fg cx a0 rails pn pt dead rt)) (M_upAmong rails r4 pt)) from hM).trans h9M
        refine lv_if_ne (tgt := 49) hx hb dX10_peak_43 (by decide) (fun c_6 => ?_) (fun c_6 => ?_)
        · skip
          have i_6 : ¬ (r5.toInt = 0) := fun h9 => c_6 ((ieq rfl (by decide)).mpr h9)
          have hM : M_x_peak a0 pk gpk lpk cup clast cpeak cptick fw ft fr fg cx rails pn pt dead rt = (K_x_peak_10 a0 pk gpk lpk rails pn cx pt fr fg dead rt ft fw) := (show M_x_peak a0 pk gpk lpk cup clast cpeak cptick fw ft fr fg cx rails pn pt dead rt = (if r5.toInt = 0 then (K_x_peak_11 pk gpk lpk cup clast cpeak cptick fw ft fr fg cx) else (K_x_peak_10 a0 pk gpk lpk rails pn cx pt fr fg dead rt ft fw)) from hM).trans (if_neg i_6)
          refine lv_iload_n hx hb dX10_peak_49 rfl (lv_at hl 1 rfl) ?_
          refine lv_iconst (v := 2) hx hb dX10_peak_50 (by decide) ?_
          refine lv_icmp_lt (tgt := 92) hx hb dX10_peak_51 (by decide) (fun c_7 => ?_) (fun c_7 => ?_)
          · skip
            have i_7 : a0.toInt < 2 := (ilt rfl (by decide)).mp c_7
            refine lv_aload_n hx hb dX10_peak_92 rfl (lv_at hl 0 rfl) ?_
            obtain ⟨hPc, hDc, hFc, hC9⟩ := xpk (wc := W_followTimes cI cJ cZ cG cH xo tp rd rn co wy sg sh pl sp lf fwa fta fra fga cxa cup clast cpeak cptick fw ft fr fg pna pta rails limit retry behind pn pt hy rsa ria raa rta rga dead key tick held tries trips ldraw gdraw rt) hP hD hS hA [9, 1, 2, 3, 4, 5, 11, 7, 12, 10, 8] (by decide +kernel) rfl
            refine va_callv (va_runV (As := []) (rest := []) ⟨hx, hb, hml, hown, hts⟩ (c_followTimes l D cI cJ cZ cG cH H.size xo tp rd rn co wy sg sh pl sp lf fwa fta fra fga cxa cup clast cpeak cptick fw ft fr fg pna pta rails limit retry behind pn pt hy rsa ria raa rta rga dead key tick held tries trips ldraw gdraw rt (xrng rfl (by omega) (by omega)) (xwk_rng h_fw (by decide) (by decide)) (xwk_rng h_ft (by decide) (by decide)) (xwk_rng h_fr (by decide) (by decide)) (xwk_rng h_fg (by decide) (by decide)) (xrng rfl (by omega) (by omega)) (xwk_rng h_pn (by decide) (by decide)) (xrng rfl (by omega) (by omega)) (xwk_rng h_rt (by decide) (by decide)) h_le) (cwV 0 hts (xGV tbC wd513 wd514 wd1 wd50 wd1043) rfl rfl rfl (by decide +kernel) ⟨Nat.le_of_ble_eq_true rfl, Nat.le_of_ble_eq_true rfl⟩) ⟨xPc_blind, va_recv hK hPc (ci := 9) (q0 := 0) rfl rfl, xPc_pre hPc hK hDc⟩ rfl rfl hl.1 rfl (lv_room (Nat.le_of_ble_eq_true rfl)) dX10_peak_93 ⟨Nat.le_of_ble_eq_true rfl, Nat.le_of_ble_eq_true rfl⟩) hS (fun q _ h => hFc q h) hFc (fun u t H1 locs ht hvm hw8 hB hz1 hk1 hS => ?_)
            revert hB
            refine xex6r (fun cup_9 clast_10 fw_11 ft_12 fr_13 fg_14 => ?_)
            refine xan8r (fun hf14_0 hf14_1 hf14_2 hf14_3 hf14_4 hf14_5 hf14_6 => ?_)
            refine xan4r (fun hf14_7 hP1 hK1 hD1 => ?_)
            rw [ht] at hP1
            obtain ⟨hP, hD⟩ : xPD D A [oX9 wy co wba wka pk gpk lpk, oAI cxa cI 145 cx, oX10 xo tp rd rn co wy sg sh pl sp lf, oX0 co fwa fta fra fga cxa cup_9 clast_10 cpeak cptick, oAI fwa cI 8 fw_11, oAI fta cI 8 ft_12, oAI fra cI 8 fr_13, oAI fga cI 8 fg_14, oX3 pl pna pta rails limit retry behind, oAI pna cI 64 pn, oAJ pta cJ 64 pt, oX5 rn hy rsa ria raa rta rga dead key tick held tries trips ldraw gdraw, oAI rta cI 8 rt] H1 := xjn 2 hP hD [9, 1, 2, 3, 4, 5, 11, 7, 12, 10, 8] [0, 6] hC9 rfl (by decide +kernel) (by decide +kernel) hk1 hFc hP1 hD1
            generalize H1 = H at hP hS ⊢
            have hf14_0 : 0 ≤ cup_9.toInt ∧ cup_9.toInt ≤ 255 := hf14_0
            have hf14_1 : 0 ≤ clast_10.toInt ∧ clast_10.toInt ≤ 144 := hf14_1
            have hf14_2 : ∀ j, j < 8 → 0 ≤ (fw_11 j).toInt ∧ (fw_11 j).toInt ≤ 511 := hf14_2
            have hf14_3 : ∀ j, j < 8 → 0 ≤ (ft_12 j).toInt ∧ (ft_12 j).toInt ≤ 511 := hf14_3
            have hf14_4 : ∀ j, j < 8 → 0 ≤ (fr_13 j).toInt ∧ (fr_13 j).toInt ≤ 655 := hf14_4
            have hf14_5 : ∀ j, j < 8 → 0 ≤ (fg_14 j).toInt ∧ (fg_14 j).toInt ≤ 1166 := hf14_5
            have hf14_6 : M_followTimes rails pt fr fg dead rt ft pn fw = (cup_9, clast_10, fw_11, ft_12, fr_13, fg_14) := hf14_6
            have hf14_7 : ∀ j, j < 8 → (fr_13 j).toInt ≤ (fg_14 j).toInt := hf14_7
            have h9M := congrArg (fun t9 => (K_x_peak_12 a0 pk gpk lpk t9.1 t9.2.1 t9.2.2.1 t9.2.2.2.1 t9.2.2.2.2.1 t9.2.2.2.2.2 rails pn cx)) hf14_6
            have hM : M_x_peak a0 pk gpk lpk cup clast cpeak cptick fw ft fr fg cx rails pn pt dead rt = (K_x_peak_12 a0 pk gpk lpk cup_9 clast_10 fw_11 ft_12 fr_13 fg_14 rails pn cx) := (show M_x_peak a0 pk gpk lpk cup clast cpeak cptick fw ft fr fg cx rails pn pt dead rt = ((fun t9 => (K_x_peak_12 a0 pk gpk lpk t9.1 t9.2.1 t9.2.2.1 t9.2.2.2.1 t9.2.2.2.2.1 t9.2.2.2.2.2 rails pn cx)) (M_followTimes rails pt fr fg dead rt ft pn fw)) from hM).trans h9M
            refine lv_aload_n hx hb dX10_peak_96 rfl (lv_at hl 0 rfl) ?_
            refine va_get (D := D) (ci := 9) (v := .ref co) (C := RX10) (T := TX10) (N := 10) hx hb hts (fun w h => tbC w (tbfX10 w h)) hown hK hP 2 rfl rfl 3 (by decide) (hts (.fieldLink RX10 26 "PowerRails" "course" "LPowerRails$Course;") (tbC _ wd250)) (fun _ h9 => h9) rfl dX10_peak_97 ?_
            refine lv_aload_n hx hb dX10_peak_100 rfl (lv_at hl 0 rfl) ?_
            refine va_get (D := D) (ci := 9) (v := .ref pl) (C := RX10) (T := TX10) (N := 10) hx hb hts (fun w h => tbC w (tbfX10 w h)) hown hK hP 2 rfl rfl 7 (by decide) (hts (.fieldLink RX10 56 "PowerRails" "plan" "LPowerRails$Plan;") (tbC _ wd254)) (fun _ h9 => h9) rfl dX10_peak_101 ?_
            obtain ⟨hPc, hDc, hFc, hC9⟩ := xpk (wc := W_findPeak cI cJ cZ cG cH co pl fwa fta fra fga cxa cup_9 clast_10 cpeak cptick fr_13 fg_14 cx pna pta rails limit retry behind pn) hP hD hS hA [3, 6, 7, 1, 8, 9] (by decide +kernel) rfl
            refine va_callv (va_runV (As := [.ref pl]) (rest := []) ⟨hx, hb, hml, hown, hts⟩ (c_findPeak l D cI cJ cZ cG cH H.size co pl fwa fta fra fga cxa cup_9 clast_10 cpeak cptick fr_13 fg_14 cx pna pta rails limit retry behind pn (xrng rfl (by omega) (by omega)) (xwk_rng hf14_4 (by decide) (by decide)) (xwk_rng hf14_5 (by decide) (by decide)) (xrng rfl (by omega) (by omega)) (xwk_rng h_pn (by decide) (by decide)) hf14_7) (cwV 1 hts (xGV tbC wd585 wd582 wd583 wd54 wd1062) rfl rfl rfl (by decide +kernel) ⟨Nat.le_of_ble_eq_true rfl, Nat.le_of_ble_eq_true rfl⟩) ⟨xPc_blind, va_recv hK hPc (ci := 0) (q0 := 0) rfl rfl, xPc_pre hPc hK hDc⟩ rfl rfl hl.1 rfl (lv_room (Nat.le_of_ble_eq_true rfl)) dX10_peak_104 ⟨Nat.le_of_ble_eq_true rfl, Nat.le_of_ble_eq_true rfl⟩) hS (fun q _ h => hFc q h) hFc (fun u t H1 locs ht hvm hw15 hB hz1 hk1 hS => ?_)
            obtain ⟨cpeak_16, cptick_17, cx_18, hf18_0, hf18_1, hP1, hK1, hD1⟩ := hB
            rw [ht] at hP1
            obtain ⟨hP, hD⟩ : xPD D A [oX9 wy co wba wka pk gpk lpk, oX10 xo tp rd rn co wy sg sh pl sp lf, oAI fwa cI 8 fw_11, oAI fta cI 8 ft_12, oAJ pta cJ 64 pt, oX5 rn hy rsa ria raa rta rga dead key tick held tries trips ldraw gdraw, oAI rta cI 8 rt, oX0 co fwa fta fra fga cxa cup_9 clast_10 cpeak_16 cptick_17, oAI fra cI 8 fr_13, oAI fga cI 8 fg_14, oAI cxa cI 145 cx_18, oX3 pl pna pta rails limit retry behind, oAI pna cI 64 pn] H1 := xjn 7 hP hD [3, 6, 7, 1, 8, 9] [0, 2, 4, 5, 10, 11, 12] hC9 rfl (by decide +kernel) (by decide +kernel) hk1 hFc hP1 hD1
            generalize H1 = H at hP hS ⊢
            have hf18_0 : (-4) ≤ cptick_17.toInt ∧ cptick_17.toInt ≤ 144 := hf18_0
            have hf18_1 : M_findPeak rails clast_10 fg_14 fr_13 pn cup_9 cx = (cpeak_16, cptick_17, cx_18) := hf18_1
            have h9M := congrArg (fun t9 => (K_x_peak_13 a0 t9.1 pk gpk lpk cup_9 clast_10 t9.2.1 fw_11 ft_12 fr_13 fg_14 t9.2.2)) hf18_1
            have hM : M_x_peak a0 pk gpk lpk cup clast cpeak cptick fw ft fr fg cx rails pn pt dead rt = (K_x_peak_13 a0 cpeak_16 pk gpk lpk cup_9 clast_10 cptick_17 fw_11 ft_12 fr_13 fg_14 cx_18) := (show M_x_peak a0 pk gpk lpk cup clast cpeak cptick fw ft fr fg cx rails pn pt dead rt = ((fun t9 => (K_x_peak_13 a0 t9.1 pk gpk lpk cup_9 clast_10 t9.2.1 fw_11 ft_12 fr_13 fg_14 t9.2.2)) (M_findPeak rails clast_10 fg_14 fr_13 pn cup_9 cx)) from hM).trans h9M
            refine lv_iload_n hx hb dX10_peak_107 rfl (lv_at hl 1 rfl) ?_
            refine lv_if_ne (tgt := 121) hx hb dX10_peak_108 (by decide) (fun c_19 => ?_) (fun c_19 => ?_)
            · skip
              have i_19 : ¬ (a0.toInt = 0) := fun h9 => c_19 ((ieq rfl (by decide)).mpr h9)
              have hM : M_x_peak a0 pk gpk lpk cup clast cpeak cptick fw ft fr fg cx rails pn pt dead rt = (K_x_peak_14 cptick_17 pk gpk lpk cup_9 clast_10 cpeak_16 fw_11 ft_12 fr_13 fg_14 cx_18) := (show M_x_peak a0 pk gpk lpk cup clast cpeak cptick fw ft fr fg cx rails pn pt dead rt = (if a0.toInt = 0 then (K_x_peak_15 cpeak_16 pk gpk lpk cup_9 clast_10 cptick_17 fw_11 ft_12 fr_13 fg_14 cx_18) else (K_x_peak_14 cptick_17 pk gpk lpk cup_9 clast_10 cpeak_16 fw_11 ft_12 fr_13 fg_14 cx_18)) from hM).trans (if_neg i_19)
              refine lv_aload_n hx hb dX10_peak_121 rfl (lv_at hl 0 rfl) ?_
              refine va_get (D := D) (ci := 9) (v := .ref co) (C := RX10) (T := TX10) (N := 10) hx hb hts (fun w h => tbC w (tbfX10 w h)) hown hK hP 1 rfl rfl 3 (by decide) (hts (.fieldLink RX10 26 "PowerRails" "course" "LPowerRails$Course;") (tbC _ wd250)) (fun _ h9 => h9) rfl dX10_peak_122 ?_
              refine va_get (D := D) (ci := 0) (v := .int cptick_17) (C := RX0) (T := TX0) (N := 9) hx hb hts (fun w h => tbC w (tbfX0 w h)) hown hK hP 7 rfl rfl 8 (by decide) (hts (.fieldLink RX10 256 "PowerRails$Course" "peakTick" "I") (tbC _ wd156)) (fun _ h9 => h9) rfl dX10_peak_125 ?_
              refine W.widen (k := 0) (n := 0) (by decide) (by decide) ?_
              exact W.iret (v := cptick_17) hx hb hr (fun t ht hW => ⟨⟨cptick_17, cptick_17, rfl, ⟨rfl, trivial⟩, ⟨pk, gpk, lpk, cup_9, clast_10, cpeak_16, cptick_17, fw_11, ft_12, fr_13, fg_14, cx_18, (xrng rfl (by omega) (by omega)), (xrng rfl (by omega) (by omega)), (xwk_rng hf14_2 (by decide) (by decide)), (xwk_rng hf14_3 (by decide) (by decide)), (xwk_rng hf14_4 (by decide) (by decide)), (xwk_rng hf14_5 (by decide) (by decide)), hM, hf14_7, xB_of9 ht hW hP hK hD [1, 0, 7, 2, 3, 8, 9, 10, 11, 12, 4, 5, 6] (by decide +kernel) rfl⟩⟩, hS.F ht⟩) hS.2.2 dX10_peak_128
            · skip
              have i_19 : a0.toInt = 0 := (ieq rfl (by decide)).mp c_19
              have hM : M_x_peak a0 pk gpk lpk cup clast cpeak cptick fw ft fr fg cx rails pn pt dead rt = (K_x_peak_15 cpeak_16 pk gpk lpk cup_9 clast_10 cptick_17 fw_11 ft_12 fr_13 fg_14 cx_18) := (show M_x_peak a0 pk gpk lpk cup clast cpeak cptick fw ft fr fg cx rails pn pt dead rt = (if a0.toInt = 0 then (K_x_peak_15 cpeak_16 pk gpk lpk cup_9 clast_10 cptick_17 fw_11 ft_12 fr_13 fg_14 cx_18) else (K_x_peak_14 cptick_17 pk gpk lpk cup_9 clast_10 cpeak_16 fw_11 ft_12 fr_13 fg_14 cx_18)) from hM).trans (if_pos i_19)
              refine lv_aload_n hx hb dX10_peak_111 rfl (lv_at hl 0 rfl) ?_
              refine va_get (D := D) (ci := 9) (v := .ref co) (C := RX10) (T := TX10) (N := 10) hx hb hts (fun w h => tbC w (tbfX10 w h)) hown hK hP 1 rfl rfl 3 (by decide) (hts (.fieldLink RX10 26 "PowerRails" "course" "LPowerRails$Course;") (tbC _ wd250)) (fun _ h9 => h9) rfl dX10_peak_112 ?_
              refine va_get (D := D) (ci := 0) (v := .int cpeak_16) (C := RX0) (T := TX0) (N := 9) hx hb hts (fun w h => tbC w (tbfX0 w h)) hown hK hP 7 rfl rfl 7 (by decide) (hts (.fieldLink RX10 253 "PowerRails$Course" "peak" "I") (tbC _ wd154)) (fun _ h9 => h9) rfl dX10_peak_115 ?_
              refine lv_goto (tgt := 128) hx hb dX10_peak_118 (by decide) ?_
              refine W.widen (k := 0) (n := 0) (by decide) (by decide) ?_
              exact W.iret (v := cpeak_16) hx hb hr (fun t ht hW => ⟨⟨cpeak_16, cpeak_16, rfl, ⟨rfl, trivial⟩, ⟨pk, gpk, lpk, cup_9, clast_10, cpeak_16, cptick_17, fw_11, ft_12, fr_13, fg_14, cx_18, (xrng rfl (by omega) (by omega)), (xrng rfl (by omega) (by omega)), (xwk_rng hf14_2 (by decide) (by decide)), (xwk_rng hf14_3 (by decide) (by decide)), (xwk_rng hf14_4 (by decide) (by decide)), (xwk_rng hf14_5 (by decide) (by decide)), hM, hf14_7, xB_of9 ht hW hP hK hD [1, 0, 7, 2, 3, 8, 9, 10, 11, 12, 4, 5, 6] (by decide +kernel) rfl⟩⟩, hS.F ht⟩) hS.2.2 dX10_peak_128
          · skip
            have i_7 : ¬ (a0.toInt < 2) := fun h9 => c_7 ((ilt rfl (by decide)).mpr h9)
            exfalso
            omega
        · skip
          have i_6 : r5.toInt = 0 := (ieq rfl (by decide)).mp c_6
          have hM : M_x_peak a0 pk gpk lpk cup clast cpeak cptick fw ft fr fg cx rails pn pt dead rt = (K_x_peak_11 pk gpk lpk cup clast cpeak cptick fw ft fr fg cx) := (show M_x_peak a0 pk gpk lpk cup clast cpeak cptick fw ft fr fg cx rails pn pt dead rt = (if r5.toInt = 0 then (K_x_peak_11 pk gpk lpk cup clast cpeak cptick fw ft fr fg cx) else (K_x_peak_10 a0 pk gpk lpk rails pn cx pt fr fg dead rt ft fw)) from hM).trans (if_pos i_6)
          refine lv_bipush (v := (-4)) hx hb dX10_peak_46 (by decide) ?_
          refine W.widen (k := 0) (n := 0) (by decide) (by decide) ?_
          exact W.iret (v := (-4)) hx hb hr (fun t ht hW => ⟨⟨(-4), (-4), rfl, ⟨rfl, trivial⟩, ⟨pk, gpk, lpk, cup, clast, cpeak, cptick, fw, ft, fr, fg, cx, (xrng rfl (by omega) (by omega)), (xrng rfl (by omega) (by omega)), (xwk_rng h_fw (by decide) (by decide)), (xwk_rng h_ft (by decide) (by decide)), (xwk_rng h_fr (by decide) (by decide)), (xwk_rng h_fg (by decide) (by decide)), hM, h_le, xB_of9 ht hW hP hK hD [9, 0, 1, 2, 3, 4, 5, 6, 11, 7, 12, 10, 8] (by decide +kernel) rfl⟩⟩, hS.F ht⟩) hS.2.2 dX10_peak_48
      · skip
        have i_3 : ¬ (a0.toInt < 2) := fun h9 => c_3 ((ilt rfl (by decide)).mpr h9)
        have hM : M_x_peak a0 pk gpk lpk cup clast cpeak cptick fw ft fr fg cx rails pn pt dead rt = (K_x_peak_7 pk gpk lpk cup clast cpeak cptick fw ft fr fg cx a0 rails pn pt dead) := (show M_x_peak a0 pk gpk lpk cup clast cpeak cptick fw ft fr fg cx rails pn pt dead rt = (if a0.toInt < 2 then (K_x_peak_6 pk gpk lpk cup clast cpeak cptick fw ft fr fg cx a0 rails pn pt dead rt) else (K_x_peak_7 pk gpk lpk cup clast cpeak cptick fw ft fr fg cx a0 rails pn pt dead)) from hM).trans (if_neg i_3)
        refine lv_aload_n hx hb dX10_peak_16 rfl (lv_at hl 0 rfl) ?_
        refine va_get (D := D) (ci := 9) (v := .ref pl) (C := RX10) (T := TX10) (N := 10) hx hb hts (fun w h => tbC w (tbfX10 w h)) hown hK hP 0 rfl rfl 7 (by decide) (hts (.fieldLink RX10 56 "PowerRails" "plan" "LPowerRails$Plan;") (tbC _ wd254)) (fun _ h9 => h9) rfl dX10_peak_17 ?_
        obtain ⟨hPc, hDc, hFc, hC9⟩ := xpk (wc := W_countWays cI cJ cZ cG cH pl pna pta rails limit retry behind pn) hP hD hS hA [8, 9] (by decide +kernel) rfl
        refine va_calli (va_runV (As := []) (rest := []) ⟨hx, hb, hml, hown, hts⟩ (c_countWays l D cI cJ cZ cG cH s.heap.size pl pna pta rails limit retry behind pn (xrng rfl (by omega) (by omega)) (xwk_rng h_pn (by decide) (by decide))) (cwV 0 hts (xGV tbC wd545 wd546 wd547 wd59 wd1053) rfl rfl rfl (by decide +kernel) ⟨Nat.le_of_ble_eq_true rfl, Nat.le_of_ble_eq_true rfl⟩) ⟨xPc_blind, va_recv hK hPc (ci := 2) (q0 := 0) rfl rfl, xPc_pre hPc hK hDc⟩ rfl rfl hl.1 rfl (lv_room (Nat.le_of_ble_eq_true rfl)) dX10_peak_20 ⟨Nat.le_of_ble_eq_true rfl, Nat.le_of_ble_eq_true rfl⟩) hS (fun q _ h => hFc q h) hFc (fun r20 u t H1 locs ht hvm hw20 hB hz1 hk1 hS => ?_)
        obtain ⟨hru9, hw20⟩ := hw20
        subst hru9
        obtain ⟨hf20_0, hP1, hK1, hD1⟩ := hB
        rw [ht] at hP1
        obtain ⟨hP, hD⟩ : xPD D A [oX10 xo tp rd rn co wy sg sh pl sp lf, oX9 wy co wba wka pk gpk lpk, oX0 co fwa fta fra fga cxa cup clast cpeak cptick, oAI fwa cI 8 fw, oAI fta cI 8 ft, oAI fra cI 8 fr, oAI fga cI 8 fg, oAI cxa cI 145 cx, oAJ pta cJ 64 pt, oX5 rn hy rsa ria raa rta rga dead key tick held tries trips ldraw gdraw, oAI rta cI 8 rt, oX3 pl pna pta rails limit retry behind, oAI pna cI 64 pn] H1 := xjn 11 hP hD [8, 9] [0, 1, 2, 3, 4, 5, 6, 7, 10, 11, 12] hC9 rfl (by decide +kernel) (by decide +kernel) hk1 hFc hP1 hD1
        generalize H1 = H at hP hS ⊢
        have hf20_0 : M_countWays rails pn = (r20) := hf20_0
        have h9M := congrArg (fun t9 => (K_x_peak_16 t9 pk gpk lpk cup clast cpeak cptick fw ft fr fg cx a0 rails pn pt dead)) hf20_0
        have hM : M_x_peak a0 pk gpk lpk cup clast cpeak cptick fw ft fr fg cx rails pn pt dead rt = (K_x_peak_16 r20 pk gpk lpk cup clast cpeak cptick fw ft fr fg cx a0 rails pn pt dead) := (show M_x_peak a0 pk gpk lpk cup clast cpeak cptick fw ft fr fg cx rails pn pt dead rt = ((fun t9 => (K_x_peak_16 t9 pk gpk lpk cup clast cpeak cptick fw ft fr fg cx a0 rails pn pt dead)) (M_countWays rails pn)) from hM).trans h9M
        refine lv_sipush (v := 20000) hx hb dX10_peak_23 (by decide) ?_
        refine lv_icmp_le (tgt := 32) hx hb dX10_peak_26 (by decide) (fun c_21 => ?_) (fun c_21 => ?_)
        · skip
          have i_21 : r20.toInt ≤ 20000 := (ile rfl (by decide)).mp c_21
          have hM : M_x_peak a0 pk gpk lpk cup clast cpeak cptick fw ft fr fg cx rails pn pt dead rt = (K_x_peak_17 pk gpk lpk cup clast cpeak cptick fw ft fr fg cx a0 rails pn pt dead) := (show M_x_peak a0 pk gpk lpk cup clast cpeak cptick fw ft fr fg cx rails pn pt dead rt = (if r20.toInt ≤ 20000 then (K_x_peak_17 pk gpk lpk cup clast cpeak cptick fw ft fr fg cx a0 rails pn pt dead) else (K_x_peak_18 pk gpk lpk cup clast cpeak cptick fw ft fr fg cx)) from hM).trans (if_pos i_21)
          refine lv_aload_n hx hb dX10_peak_32 rfl (lv_at hl 0 rfl) ?_
          refine va_get (D := D) (ci := 9) (v := .ref pl) (C := RX10) (T := TX10) (N := 10) hx hb hts (fun w h => tbC w (tbfX10 w h)) hown hK hP 0 rfl rfl 7 (by decide) (hts (.fieldLink RX10 56 "PowerRails" "plan" "LPowerRails$Plan;") (tbC _ wd254)) (fun _ h9 => h9) rfl dX10_peak_33 ?_
          refine lv_aload_n hx hb dX10_peak_36 rfl (lv_at hl 0 rfl) ?_
          obtain ⟨hPc, hDc, hFc, hC9⟩ := xpk (wc := W_alive cI cJ cZ cG cH xo tp rd rn co wy sg sh pl sp lf pna pta rails limit retry behind hy rsa ria raa rta rga dead key tick held tries trips ldraw gdraw) hP hD hS hA [0, 11, 9] (by decide +kernel) rfl
          refine va_calli (va_runV (As := []) (rest := [.ref pl]) ⟨hx, hb, hml, hown, hts⟩ (c_alive l D cI cJ cZ cG cH H.size xo tp rd rn co wy sg sh pl sp lf pna pta rails limit retry behind hy rsa ria raa rta rga dead key tick held tries trips ldraw gdraw (xrng rfl (by omega) (by omega)) (xrng rfl (by omega) (by omega))) (cwV 0 hts (xGV tbC wd523 wd524 wd2 wd50 wd1046) rfl rfl rfl (by decide +kernel) ⟨Nat.le_of_ble_eq_true rfl, Nat.le_of_ble_eq_true rfl⟩) ⟨xPc_blind, va_recv hK hPc (ci := 9) (q0 := 0) rfl rfl, xPc_pre hPc hK hDc⟩ rfl rfl hl.1 rfl (lv_room (Nat.le_of_ble_eq_true rfl)) dX10_peak_37 ⟨Nat.le_of_ble_eq_true rfl, Nat.le_of_ble_eq_true rfl⟩) hS (fun q _ h => hFc q h) hFc (fun r22 u t H1 locs ht hvm hw22 hB hz1 hk1 hS => ?_)
          obtain ⟨hru9, hw22⟩ := hw22
          subst hru9
          obtain ⟨hf22_0, hP1, hK1, hD1⟩ := hB
          rw [ht] at hP1
          obtain ⟨hP, hD⟩ : xPD D A [oX9 wy co wba wka pk gpk lpk, oX0 co fwa fta fra fga cxa cup clast cpeak cptick, oAI fwa cI 8 fw, oAI fta cI 8 ft, oAI fra cI 8 fr, oAI fga cI 8 fg, oAI cxa cI 145 cx, oAJ pta cJ 64 pt, oAI rta cI 8 rt, oAI pna cI 64 pn, oX10 xo tp rd rn co wy sg sh pl sp lf, oX3 pl pna pta rails limit retry behind, oX5 rn hy rsa ria raa rta rga dead key tick held tries trips ldraw gdraw] H1 := xjn 10 hP hD [0, 11, 9] [1, 2, 3, 4, 5, 6, 7, 8, 10, 12] hC9 rfl (by decide +kernel) (by decide +kernel) hk1 hFc hP1 hD1
          generalize H1 = H at hP hS ⊢
          have hf22_0 : M_alive dead rails = (r22) := hf22_0
          have hw22 : 0 ≤ r22.toInt ∧ r22.toInt ≤ 255 := hw22
          have h9M := congrArg (fun t9 => (K_x_peak_19 pk gpk lpk cup clast cpeak cptick fw ft fr fg cx a0 rails pn pt dead t9)) hf22_0
          have hM : M_x_peak a0 pk gpk lpk cup clast cpeak cptick fw ft fr fg cx rails pn pt dead rt = (K_x_peak_19 pk gpk lpk cup clast cpeak cptick fw ft fr fg cx a0 rails pn pt dead r22) := (show M_x_peak a0 pk gpk lpk cup clast cpeak cptick fw ft fr fg cx rails pn pt dead rt = ((fun t9 => (K_x_peak_19 pk gpk lpk cup clast cpeak cptick fw ft fr fg cx a0 rails pn pt dead t9)) (M_alive dead rails)) from hM).trans h9M
          obtain ⟨hPc, hDc, hFc, hC9⟩ := xpk (wc := W_upAmong cI cJ cZ cG cH pl r22 pna pta rails limit retry behind pt) hP hD hS hA [11, 7] (by decide +kernel) rfl
          refine va_calli (va_runV (As := [.int r22]) (rest := []) ⟨hx, hb, hml, hown, hts⟩ (c_upAmong l D cI cJ cZ cG cH H.size pl r22 pna pta rails limit retry behind pt (xrng rfl (by omega) (by omega))) (cwV 1 hts (xGV tbC wd507 wd508 wd509 wd59 wd1041) rfl rfl rfl (by decide +kernel) ⟨Nat.le_of_ble_eq_true rfl, Nat.le_of_ble_eq_true rfl⟩) ⟨xPc_blind, va_recv hK hPc (ci := 2) (q0 := 0) rfl rfl, xPc_pre hPc hK hDc⟩ rfl rfl hl.1 rfl (lv_room (Nat.le_of_ble_eq_true rfl)) dX10_peak_40 ⟨Nat.le_of_ble_eq_true rfl, Nat.le_of_ble_eq_true rfl⟩) hS (fun q _ h => hFc q h) hFc (fun r23 u t H1 locs ht hvm hw23 hB hz1 hk1 hS => ?_)
          obtain ⟨hru9, hw23⟩ := hw23
          subst hru9
          obtain ⟨hf23_0, hP1, hK1, hD1⟩ := hB
          rw [ht] at hP1
          obtain ⟨hP, hD⟩ : xPD D A [oX9 wy co wba wka pk gpk lpk, oX0 co fwa fta fra fga cxa cup clast cpeak cptick, oAI fwa cI 8 fw, oAI fta cI 8 ft, oAI fra cI 8 fr, oAI fga cI 8 fg, oAI cxa cI 145 cx, oAI rta cI 8 rt, oAI pna cI 64 pn, oX10 xo tp rd rn co wy sg sh pl sp lf, oX5 rn hy rsa ria raa rta rga dead key tick held tries trips ldraw gdraw, oX3 pl pna pta rails limit retry behind, oAJ pta cJ 64 pt] H1 := xjn 11 hP hD [11, 7] [0, 1, 2, 3, 4, 5, 6, 8, 9, 10, 12] hC9 rfl (by decide +kernel) (by decide +kernel) hk1 hFc hP1 hD1
          generalize H1 = H at hP hS ⊢
          have hf23_0 : M_upAmong rails r22 pt = (r23) := hf23_0
          have hw23 : 0 ≤ r23.toInt ∧ r23.toInt ≤ 255 := hw23
          have h9M := congrArg (fun t9 => (K_x_peak_20 t9 pk gpk lpk cup clast cpeak cptick fw ft fr fg cx a0 rails pn pt dead)) hf23_0
          have hM : M_x_peak a0 pk gpk lpk cup clast cpeak cptick fw ft fr fg cx rails pn pt dead rt = (K_x_peak_20 r23 pk gpk lpk cup clast cpeak cptick fw ft fr fg cx a0 rails pn pt dead) := (show M_x_peak a0 pk gpk lpk cup clast cpeak cptick fw ft fr fg cx rails pn pt dead rt = ((fun t9 => (K_x_peak_20 t9 pk gpk lpk cup clast cpeak cptick fw ft fr fg cx a0 rails pn pt dead)) (M_upAmong rails r22 pt)) from hM).trans h9M
          refine lv_if_ne (tgt := 49) hx hb dX10_peak_43 (by decide) (fun c_24 => ?_) (fun c_24 => ?_)
          · skip
            have i_24 : ¬ (r23.toInt = 0) := fun h9 => c_24 ((ieq rfl (by decide)).mpr h9)
            have hM : M_x_peak a0 pk gpk lpk cup clast cpeak cptick fw ft fr fg cx rails pn pt dead rt = (K_x_peak_21 a0 pk rails pn pt cx fr fg ft fw gpk lpk cup clast cpeak cptick dead) := (show M_x_peak a0 pk gpk lpk cup clast cpeak cptick fw ft fr fg cx rails pn pt dead rt = (if r23.toInt = 0 then (K_x_peak_22 pk gpk lpk cup clast cpeak cptick fw ft fr fg cx) else (K_x_peak_21 a0 pk rails pn pt cx fr fg ft fw gpk lpk cup clast cpeak cptick dead)) from hM).trans (if_neg i_24)
            refine lv_iload_n hx hb dX10_peak_49 rfl (lv_at hl 1 rfl) ?_
            refine lv_iconst (v := 2) hx hb dX10_peak_50 (by decide) ?_
            refine lv_icmp_lt (tgt := 92) hx hb dX10_peak_51 (by decide) (fun c_25 => ?_) (fun c_25 => ?_)
            · skip
              have i_25 : a0.toInt < 2 := (ilt rfl (by decide)).mp c_25
              exfalso
              omega
            · skip
              have i_25 : ¬ (a0.toInt < 2) := fun h9 => c_25 ((ilt rfl (by decide)).mpr h9)
              refine lv_aload_n hx hb dX10_peak_54 rfl (lv_at hl 0 rfl) ?_
              refine va_get (D := D) (ci := 9) (v := .ref wy) (C := RX10) (T := TX10) (N := 10) hx hb hts (fun w h => tbC w (tbfX10 w h)) hown hK hP 9 rfl rfl 4 (by decide) (hts (.fieldLink RX10 35 "PowerRails" "ways" "LPowerRails$Ways;") (tbC _ wd251)) (fun _ h9 => h9) rfl dX10_peak_55 ?_
              refine lv_aload_n hx hb dX10_peak_58 rfl (lv_at hl 0 rfl) ?_
              refine va_get (D := D) (ci := 9) (v := .ref pl) (C := RX10) (T := TX10) (N := 10) hx hb hts (fun w h => tbC w (tbfX10 w h)) hown hK hP 9 rfl rfl 7 (by decide) (hts (.fieldLink RX10 56 "PowerRails" "plan" "LPowerRails$Plan;") (tbC _ wd254)) (fun _ h9 => h9) rfl dX10_peak_59 ?_
              refine lv_aload_n hx hb dX10_peak_62 rfl (lv_at hl 0 rfl) ?_
              obtain ⟨hPc, hDc, hFc, hC9⟩ := xpk (wc := W_alive cI cJ cZ cG cH xo tp rd rn co wy sg sh pl sp lf pna pta rails limit retry behind hy rsa ria raa rta rga dead key tick held tries trips ldraw gdraw) hP hD hS hA [9, 11, 10] (by decide +kernel) rfl
              refine va_calli (va_runV (As := []) (rest := [.ref pl, .ref wy]) ⟨hx, hb, hml, hown, hts⟩ (c_alive l D cI cJ cZ cG cH H.size xo tp rd rn co wy sg sh pl sp lf pna pta rails limit retry behind hy rsa ria raa rta rga dead key tick held tries trips ldraw gdraw (xrng rfl (by omega) (by omega)) (xrng rfl (by omega) (by omega))) (cwV 0 hts (xGV tbC wd523 wd524 wd2 wd50 wd1046) rfl rfl rfl (by decide +kernel) ⟨Nat.le_of_ble_eq_true rfl, Nat.le_of_ble_eq_true rfl⟩) ⟨xPc_blind, va_recv hK hPc (ci := 9) (q0 := 0) rfl rfl, xPc_pre hPc hK hDc⟩ rfl rfl hl.1 rfl (lv_room (Nat.le_of_ble_eq_true rfl)) dX10_peak_63 ⟨Nat.le_of_ble_eq_true rfl, Nat.le_of_ble_eq_true rfl⟩) hS (fun q _ h => hFc q h) hFc (fun r26 u t H1 locs ht hvm hw26 hB hz1 hk1 hS => ?_)
              obtain ⟨hru9, hw26⟩ := hw26
              subst hru9
              obtain ⟨hf26_0, hP1, hK1, hD1⟩ := hB
              rw [ht] at hP1
              obtain ⟨hP, hD⟩ : xPD D A [oX9 wy co wba wka pk gpk lpk, oX0 co fwa fta fra fga cxa cup clast cpeak cptick, oAI fwa cI 8 fw, oAI fta cI 8 ft, oAI fra cI 8 fr, oAI fga cI 8 fg, oAI cxa cI 145 cx, oAI rta cI 8 rt, oAI pna cI 64 pn, oAJ pta cJ 64 pt, oX10 xo tp rd rn co wy sg sh pl sp lf, oX3 pl pna pta rails limit retry behind, oX5 rn hy rsa ria raa rta rga dead key tick held tries trips ldraw gdraw] H1 := xjn 10 hP hD [9, 11, 10] [0, 1, 2, 3, 4, 5, 6, 7, 8, 12] hC9 rfl (by decide +kernel) (by decide +kernel) hk1 hFc hP1 hD1
              generalize H1 = H at hP hS ⊢
              have hf26_0 : M_alive dead rails = (r26) := hf26_0
              have hw26 : 0 ≤ r26.toInt ∧ r26.toInt ≤ 255 := hw26
              have h9M := congrArg (fun t9 => (K_x_peak_23 a0 pk rails pn pt cx fr fg ft fw t9 gpk lpk cup clast cpeak cptick)) hf26_0
              have hM : M_x_peak a0 pk gpk lpk cup clast cpeak cptick fw ft fr fg cx rails pn pt dead rt = (K_x_peak_23 a0 pk rails pn pt cx fr fg ft fw r26 gpk lpk cup clast cpeak cptick) := (show M_x_peak a0 pk gpk lpk cup clast cpeak cptick fw ft fr fg cx rails pn pt dead rt = ((fun t9 => (K_x_peak_23 a0 pk rails pn pt cx fr fg ft fw t9 gpk lpk cup clast cpeak cptick)) (M_alive dead rails)) from hM).trans h9M
              obtain ⟨hPc, hDc, hFc, hC9⟩ := xpk (wc := W_findPeaks cI cJ cZ cG cH wy pl r26 co wba wka pk gpk lpk fwa fta fra fga cxa cup clast cpeak cptick fw ft fr fg cx pna pta rails limit retry behind pn pt) hP hD hS hA [0, 1, 2, 3, 4, 5, 6, 11, 8, 9] (by decide +kernel) rfl
              refine va_callv (va_runV (As := [.ref pl, .int r26]) (rest := []) ⟨hx, hb, hml, hown, hts⟩ (c_findPeaks l D cI cJ cZ cG cH H.size wy pl r26 co wba wka pk gpk lpk fwa fta fra fga cxa cup clast cpeak cptick fw ft fr fg cx pna pta rails limit retry behind pn pt (xrng rfl (by omega) (by omega)) (xrng rfl (by omega) (by omega)) (xwk_rng h_fw (by decide) (by decide)) (xwk_rng h_ft (by decide) (by decide)) (xwk_rng h_fr (by decide) (by decide)) (xwk_rng h_fg (by decide) (by decide)) (xrng rfl (by omega) (by omega)) (xwk_rng h_pn (by decide) (by decide)) h_le) (cwV 2 hts (xGV tbC wd578 wd579 wd580 wd55 wd1061) rfl rfl rfl (by decide +kernel) ⟨Nat.le_of_ble_eq_true rfl, Nat.le_of_ble_eq_true rfl⟩) ⟨xPc_blind, va_recv hK hPc (ci := 8) (q0 := 0) rfl rfl, xPc_pre hPc hK hDc⟩ rfl rfl hl.1 rfl (lv_room (Nat.le_of_ble_eq_true rfl)) dX10_peak_66 ⟨Nat.le_of_ble_eq_true rfl, Nat.le_of_ble_eq_true rfl⟩) hS (fun q _ h => hFc q h) hFc (fun u t H1 locs ht hvm hw27 hB hz1 hk1 hS => ?_)
              revert hB
              refine xex12r (fun pk_28 gpk_29 lpk_30 cup_31 clast_32 cpeak_33 cptick_34 fw_35 ft_36 fr_37 fg_38 cx_39 => ?_)
              refine xan8r (fun hf39_0 hf39_1 hf39_2 hf39_3 hf39_4 hf39_5 hf39_6 => ?_)
              refine xan4r (fun hf39_7 hP1 hK1 hD1 => ?_)
              rw [ht] at hP1
              obtain ⟨hP, hD⟩ : xPD D A [oAI rta cI 8 rt, oX10 xo tp rd rn co wy sg sh pl sp lf, oX5 rn hy rsa ria raa rta rga dead key tick held tries trips ldraw gdraw, oX9 wy co wba wka pk_28 gpk_29 lpk_30, oX0 co fwa fta fra fga cxa cup_31 clast_32 cpeak_33 cptick_34, oAI fwa cI 8 fw_35, oAI fta cI 8 ft_36, oAI fra cI 8 fr_37, oAI fga cI 8 fg_38, oAI cxa cI 145 cx_39, oX3 pl pna pta rails limit retry behind, oAI pna cI 64 pn, oAJ pta cJ 64 pt] H1 := xjn 3 hP hD [0, 1, 2, 3, 4, 5, 6, 11, 8, 9] [7, 10, 12] hC9 rfl (by decide +kernel) (by decide +kernel) hk1 hFc hP1 hD1
              generalize H1 = H at hP hS ⊢
              have hf39_0 : 0 ≤ pk_28.toInt ∧ pk_28.toInt ≤ 1 := hf39_0
              have hf39_1 : 0 ≤ clast_32.toInt ∧ clast_32.toInt ≤ 144 := hf39_1
              have hf39_2 : ∀ j, j < 8 → 0 ≤ (fw_35 j).toInt ∧ (fw_35 j).toInt ≤ 511 := hf39_2
              have hf39_3 : ∀ j, j < 8 → 0 ≤ (ft_36 j).toInt ∧ (ft_36 j).toInt ≤ 511 := hf39_3
              have hf39_4 : ∀ j, j < 8 → 0 ≤ (fr_37 j).toInt ∧ (fr_37 j).toInt ≤ 655 := hf39_4
              have hf39_5 : ∀ j, j < 8 → 0 ≤ (fg_38 j).toInt ∧ (fg_38 j).toInt ≤ 1166 := hf39_5
              have hf39_6 : M_findPeaks pk rails pn pt cx fr fg ft fw r26 gpk lpk cup clast cpeak cptick = (pk_28, gpk_29, lpk_30, cup_31, clast_32, cpeak_33, cptick_34, fw_35, ft_36, fr_37, fg_38, cx_39) := hf39_6
              have hf39_7 : ∀ j, j < 8 → (fr_37 j).toInt ≤ (fg_38 j).toInt := hf39_7
              have h9M := congrArg (fun t9 => (K_x_peak_24 a0 t9.2.1 t9.1 t9.2.2.1 t9.2.2.2.1 t9.2.2.2.2.1 t9.2.2.2.2.2.1 t9.2.2.2.2.2.2.1 t9.2.2.2.2.2.2.2.1 t9.2.2.2.2.2.2.2.2.1 t9.2.2.2.2.2.2.2.2.2.1 t9.2.2.2.2.2.2.2.2.2.2.1 t9.2.2.2.2.2.2.2.2.2.2.2)) hf39_6
              have hM : M_x_peak a0 pk gpk lpk cup clast cpeak cptick fw ft fr fg cx rails pn pt dead rt = (K_x_peak_24 a0 gpk_29 pk_28 lpk_30 cup_31 clast_32 cpeak_33 cptick_34 fw_35 ft_36 fr_37 fg_38 cx_39) := (show M_x_peak a0 pk gpk lpk cup clast cpeak cptick fw ft fr fg cx rails pn pt dead rt = ((fun t9 => (K_x_peak_24 a0 t9.2.1 t9.1 t9.2.2.1 t9.2.2.2.1 t9.2.2.2.2.1 t9.2.2.2.2.2.1 t9.2.2.2.2.2.2.1 t9.2.2.2.2.2.2.2.1 t9.2.2.2.2.2.2.2.2.1 t9.2.2.2.2.2.2.2.2.2.1 t9.2.2.2.2.2.2.2.2.2.2.1 t9.2.2.2.2.2.2.2.2.2.2.2)) (M_findPeaks pk rails pn pt cx fr fg ft fw r26 gpk lpk cup clast cpeak cptick)) from hM).trans h9M
              refine lv_iload_n hx hb dX10_peak_69 rfl (lv_at hl 1 rfl) ?_
              refine lv_iconst (v := 2) hx hb dX10_peak_70 (by decide) ?_
              refine lv_icmp_ne (tgt := 84) hx hb dX10_peak_71 (by decide) (fun c_40 => ?_) (fun c_40 => ?_)
              · skip
                have i_40 : ¬ (a0.toInt = 2) := fun h9 => c_40 ((ieq rfl (by decide)).mpr h9)
                have hM : M_x_peak a0 pk gpk lpk cup clast cpeak cptick fw ft fr fg cx rails pn pt dead rt = (K_x_peak_25 lpk_30 pk_28 gpk_29 cup_31 clast_32 cpeak_33 cptick_34 fw_35 ft_36 fr_37 fg_38 cx_39) := (show M_x_peak a0 pk gpk lpk cup clast cpeak cptick fw ft fr fg cx rails pn pt dead rt = (if a0.toInt = 2 then (K_x_peak_26 gpk_29 pk_28 lpk_30 cup_31 clast_32 cpeak_33 cptick_34 fw_35 ft_36 fr_37 fg_38 cx_39) else (K_x_peak_25 lpk_30 pk_28 gpk_29 cup_31 clast_32 cpeak_33 cptick_34 fw_35 ft_36 fr_37 fg_38 cx_39)) from hM).trans (if_neg i_40)
                refine lv_aload_n hx hb dX10_peak_84 rfl (lv_at hl 0 rfl) ?_
                refine va_get (D := D) (ci := 9) (v := .ref wy) (C := RX10) (T := TX10) (N := 10) hx hb hts (fun w h => tbC w (tbfX10 w h)) hown hK hP 1 rfl rfl 4 (by decide) (hts (.fieldLink RX10 35 "PowerRails" "ways" "LPowerRails$Ways;") (tbC _ wd251)) (fun _ h9 => h9) rfl dX10_peak_85 ?_
                refine va_get (D := D) (ci := 8) (v := .int lpk_30) (C := RX9) (T := TX9) (N := 6) hx hb hts (fun w h => tbC w (tbfX9 w h)) hown hK hP 3 rfl rfl 5 (by decide) (hts (.fieldLink RX10 247 "PowerRails$Ways" "leastPeak" "I") (tbC _ wd169)) (fun _ h9 => h9) rfl dX10_peak_88 ?_
                refine W.widen (k := 0) (n := 0) (by decide) (by decide) ?_
                exact W.iret (v := lpk_30) hx hb hr (fun t ht hW => ⟨⟨lpk_30, lpk_30, rfl, ⟨rfl, trivial⟩, ⟨pk_28, gpk_29, lpk_30, cup_31, clast_32, cpeak_33, cptick_34, fw_35, ft_36, fr_37, fg_38, cx_39, (xrng rfl (by omega) (by omega)), (xrng rfl (by omega) (by omega)), (xwk_rng hf39_2 (by decide) (by decide)), (xwk_rng hf39_3 (by decide) (by decide)), (xwk_rng hf39_4 (by decide) (by decide)), (xwk_rng hf39_5 (by decide) (by decide)), hM, hf39_7, xB_of9 ht hW hP hK hD [1, 3, 4, 5, 6, 7, 8, 9, 10, 11, 12, 2, 0] (by decide +kernel) rfl⟩⟩, hS.F ht⟩) hS.2.2 dX10_peak_91
              · skip
                have i_40 : a0.toInt = 2 := (ieq rfl (by decide)).mp c_40
                have hM : M_x_peak a0 pk gpk lpk cup clast cpeak cptick fw ft fr fg cx rails pn pt dead rt = (K_x_peak_26 gpk_29 pk_28 lpk_30 cup_31 clast_32 cpeak_33 cptick_34 fw_35 ft_36 fr_37 fg_38 cx_39) := (show M_x_peak a0 pk gpk lpk cup clast cpeak cptick fw ft fr fg cx rails pn pt dead rt = (if a0.toInt = 2 then (K_x_peak_26 gpk_29 pk_28 lpk_30 cup_31 clast_32 cpeak_33 cptick_34 fw_35 ft_36 fr_37 fg_38 cx_39) else (K_x_peak_25 lpk_30 pk_28 gpk_29 cup_31 clast_32 cpeak_33 cptick_34 fw_35 ft_36 fr_37 fg_38 cx_39)) from hM).trans (if_pos i_40)
                refine lv_aload_n hx hb dX10_peak_74 rfl (lv_at hl 0 rfl) ?_
                refine va_get (D := D) (ci := 9) (v := .ref wy) (C := RX10) (T := TX10) (N := 10) hx hb hts (fun w h => tbC w (tbfX10 w h)) hown hK hP 1 rfl rfl 4 (by decide) (hts (.fieldLink RX10 35 "PowerRails" "ways" "LPowerRails$Ways;") (tbC _ wd251)) (fun _ h9 => h9) rfl dX10_peak_75 ?_
                refine va_get (D := D) (ci := 8) (v := .int gpk_29) (C := RX9) (T := TX9) (N := 6) hx hb hts (fun w h => tbC w (tbfX9 w h)) hown hK hP 3 rfl rfl 4 (by decide) (hts (.fieldLink RX10 244 "PowerRails$Ways" "greatestPeak" "I") (tbC _ wd167)) (fun _ h9 => h9) rfl dX10_peak_78 ?_
                refine lv_goto (tgt := 91) hx hb dX10_peak_81 (by decide) ?_
                refine W.widen (k := 0) (n := 0) (by decide) (by decide) ?_
                exact W.iret (v := gpk_29) hx hb hr (fun t ht hW => ⟨⟨gpk_29, gpk_29, rfl, ⟨rfl, trivial⟩, ⟨pk_28, gpk_29, lpk_30, cup_31, clast_32, cpeak_33, cptick_34, fw_35, ft_36, fr_37, fg_38, cx_39, (xrng rfl (by omega) (by omega)), (xrng rfl (by omega) (by omega)), (xwk_rng hf39_2 (by decide) (by decide)), (xwk_rng hf39_3 (by decide) (by decide)), (xwk_rng hf39_4 (by decide) (by decide)), (xwk_rng hf39_5 (by decide) (by decide)), hM, hf39_7, xB_of9 ht hW hP hK hD [1, 3, 4, 5, 6, 7, 8, 9, 10, 11, 12, 2, 0] (by decide +kernel) rfl⟩⟩, hS.F ht⟩) hS.2.2 dX10_peak_91
          · skip
            have i_24 : r23.toInt = 0 := (ieq rfl (by decide)).mp c_24
            have hM : M_x_peak a0 pk gpk lpk cup clast cpeak cptick fw ft fr fg cx rails pn pt dead rt = (K_x_peak_22 pk gpk lpk cup clast cpeak cptick fw ft fr fg cx) := (show M_x_peak a0 pk gpk lpk cup clast cpeak cptick fw ft fr fg cx rails pn pt dead rt = (if r23.toInt = 0 then (K_x_peak_22 pk gpk lpk cup clast cpeak cptick fw ft fr fg cx) else (K_x_peak_21 a0 pk rails pn pt cx fr fg ft fw gpk lpk cup clast cpeak cptick dead)) from hM).trans (if_pos i_24)
            refine lv_bipush (v := (-4)) hx hb dX10_peak_46 (by decide) ?_
            refine W.widen (k := 0) (n := 0) (by decide) (by decide) ?_
            exact W.iret (v := (-4)) hx hb hr (fun t ht hW => ⟨⟨(-4), (-4), rfl, ⟨rfl, trivial⟩, ⟨pk, gpk, lpk, cup, clast, cpeak, cptick, fw, ft, fr, fg, cx, (xrng rfl (by omega) (by omega)), (xrng rfl (by omega) (by omega)), (xwk_rng h_fw (by decide) (by decide)), (xwk_rng h_ft (by decide) (by decide)), (xwk_rng h_fr (by decide) (by decide)), (xwk_rng h_fg (by decide) (by decide)), hM, h_le, xB_of9 ht hW hP hK hD [9, 0, 1, 2, 3, 4, 5, 6, 11, 8, 12, 10, 7] (by decide +kernel) rfl⟩⟩, hS.F ht⟩) hS.2.2 dX10_peak_48
        · skip
          have i_21 : ¬ (r20.toInt ≤ 20000) := fun h9 => c_21 ((ile rfl (by decide)).mpr h9)
          have hM : M_x_peak a0 pk gpk lpk cup clast cpeak cptick fw ft fr fg cx rails pn pt dead rt = (K_x_peak_18 pk gpk lpk cup clast cpeak cptick fw ft fr fg cx) := (show M_x_peak a0 pk gpk lpk cup clast cpeak cptick fw ft fr fg cx rails pn pt dead rt = (if r20.toInt ≤ 20000 then (K_x_peak_17 pk gpk lpk cup clast cpeak cptick fw ft fr fg cx a0 rails pn pt dead) else (K_x_peak_18 pk gpk lpk cup clast cpeak cptick fw ft fr fg cx)) from hM).trans (if_neg i_21)
          refine lv_bipush (v := (-2)) hx hb dX10_peak_29 (by decide) ?_
          refine W.widen (k := 0) (n := 0) (by decide) (by decide) ?_
          exact W.iret (v := (-2)) hx hb hr (fun t ht hW => ⟨⟨(-2), (-2), rfl, ⟨rfl, trivial⟩, ⟨pk, gpk, lpk, cup, clast, cpeak, cptick, fw, ft, fr, fg, cx, (xrng rfl (by omega) (by omega)), (xrng rfl (by omega) (by omega)), (xwk_rng h_fw (by decide) (by decide)), (xwk_rng h_ft (by decide) (by decide)), (xwk_rng h_fr (by decide) (by decide)), (xwk_rng h_fg (by decide) (by decide)), hM, h_le, xB_of9 ht hW hP hK hD [0, 1, 2, 3, 4, 5, 6, 7, 11, 12, 8, 9, 10] (by decide +kernel) rfl⟩⟩, hS.F ht⟩) hS.2.2 dX10_peak_31
    · skip
      have i_2 : ¬ (a0.toInt ≤ 3) := fun h9 => c_2 ((ile rfl (by decide)).mpr h9)
      have hM : M_x_peak a0 pk gpk lpk cup clast cpeak cptick fw ft fr fg cx rails pn pt dead rt = (K_x_peak_5 pk gpk lpk cup clast cpeak cptick fw ft fr fg cx) := (show M_x_peak a0 pk gpk lpk cup clast cpeak cptick fw ft fr fg cx rails pn pt dead rt = (if a0.toInt ≤ 3 then (K_x_peak_4 a0 pk gpk lpk cup clast cpeak cptick fw ft fr fg cx rails pn pt dead rt) else (K_x_peak_5 pk gpk lpk cup clast cpeak cptick fw ft fr fg cx)) from hM).trans (if_neg i_2)
      refine lv_iconst (v := (-1)) hx hb dX10_peak_9 (by decide) ?_
      refine W.widen (k := 0) (n := 0) (by decide) (by decide) ?_
      exact W.iret (v := (-1)) hx hb hr (fun t ht hW => ⟨⟨(-1), (-1), rfl, ⟨rfl, trivial⟩, ⟨pk, gpk, lpk, cup, clast, cpeak, cptick, fw, ft, fr, fg, cx, (xrng rfl (by omega) (by omega)), (xrng rfl (by omega) (by omega)), (xwk_rng h_fw (by decide) (by decide)), (xwk_rng h_ft (by decide) (by decide)), (xwk_rng h_fr (by decide) (by decide)), (xwk_rng h_fg (by decide) (by decide)), hM, h_le, xB_of9 ht hW hP hK hD [0, 1, 2, 3, 4, 5, 6, 7, 8, 9, 10, 11, 12] (by decide +kernel) rfl⟩⟩, hS.F ht⟩) hS.2.2 dX10_peak_10
def K_x_stagger_7 (slast_6 : Int32) (kn_5 : Int32) (srow_7 : Nat → Int32) (cup_8 : Int32) (clast_9 : Int32) (cpeak_10 : Int32) (cptick_11 : Int32) (fw_12 : Nat → Int32) (ft_13 : Nat → Int32) (fr_14 : Nat → Int32) (fg_15 : Nat → Int32) (cx_16 : Nat → Int32) : (Int32) × (Int32) × (Int32) × (Nat → Int32) × (Int32) × (Int32) × (Int32) × (Int32) × (Nat → Int32) × (Nat → Int32) × (Nat → Int32) × (Nat → Int32) × (Nat → Int32) := (slast_6, kn_5, slast_6, srow_7, cup_8, clast_9, cpeak_10, cptick_11, fw_12, ft_13, fr_14, fg_15, cx_16)
def K_x_stagger_6 (kn : Int32) (cpeak : Int32) (cptick : Int32) (cx : Nat → Int32) (limit : Int32) (rails : Int32) (pn : Nat → Int32) (pt : Nat → Int64) (r3 : Int32) (fr : Nat → Int32) (fg : Nat → Int32) (rt : Nat → Int32) (ft : Nat → Int32) (fw : Nat → Int32) (srow : Nat → Int32) (slast : Int32) (cup : Int32) (clast : Int32) : (Int32) × (Int32) × (Int32) × (Nat → Int32) × (Int32) × (Int32) × (Int32) × (Int32) × (Nat → Int32) × (Nat → Int32) × (Nat → Int32) × (Nat → Int32) × (Nat → Int32) := ((fun t9 => (K_x_stagger_7 t9.2.1 t9.1 t9.2.2.1 t9.2.2.2.1 t9.2.2.2.2.1 t9.2.2.2.2.2.1 t9.2.2.2.2.2.2.1 t9.2.2.2.2.2.2.2.1 t9.2.2.2.2.2.2.2.2.1 t9.2.2.2.2.2.2.2.2.2.1 t9.2.2.2.2.2.2.2.2.2.2.1 t9.2.2.2.2.2.2.2.2.2.2.2)) (M_findRow kn cpeak cptick cx limit rails pn pt r3 fr fg rt ft fw srow slast cup clast))
def K_x_stagger_4 (kn : Int32) (cpeak : Int32) (cptick : Int32) (cx : Nat → Int32) (limit : Int32) (rails : Int32) (pn : Nat → Int32) (pt : Nat → Int64) (fr : Nat → Int32) (fg : Nat → Int32) (rt : Nat → Int32) (ft : Nat → Int32) (fw : Nat → Int32) (srow : Nat → Int32) (slast : Int32) (cup : Int32) (clast : Int32) (dead : Int32) : (Int32) × (Int32) × (Int32) × (Nat → Int32) × (Int32) × (Int32) × (Int32) × (Int32) × (Nat → Int32) × (Nat → Int32) × (Nat → Int32) × (Nat → Int32) × (Nat → Int32) := ((fun t9 => (K_x_stagger_6 kn cpeak cptick cx limit rails pn pt t9 fr fg rt ft fw srow slast cup clast)) (M_alive dead rails))
def K_x_stagger_5 (kn : Int32) (slast : Int32) (srow : Nat → Int32) (cup : Int32) (clast : Int32) (cpeak : Int32) (cptick : Int32) (fw : Nat → Int32) (ft : Nat → Int32) (fr : Nat → Int32) (fg : Nat → Int32) (cx : Nat → Int32) : (Int32) × (Int32) × (Int32) × (Nat → Int32) × (Int32) × (Int32) × (Int32) × (Int32) × (Nat → Int32) × (Nat → Int32) × (Nat → Int32) × (Nat → Int32) × (Nat → Int32) := ((-2 : Int32), kn, slast, srow, cup, clast, cpeak, cptick, fw, ft, fr, fg, cx)
def K_x_stagger_2 (rails : Int32) (kn : Int32) (cpeak : Int32) (cptick : Int32) (cx : Nat → Int32) (limit : Int32) (pn : Nat → Int32) (pt : Nat → Int64) (fr : Nat → Int32) (fg : Nat → Int32) (rt : Nat → Int32) (ft : Nat → Int32) (fw : Nat → Int32) (srow : Nat → Int32) (slast : Int32) (cup : Int32) (clast : Int32) (dead : Int32) : (Int32) × (Int32) × (Int32) × (Nat → Int32) × (Int32) × (Int32) × (Int32) × (Int32) × (Nat → Int32) × (Nat → Int32) × (Nat → Int32) × (Nat → Int32) × (Nat → Int32) := (if rails.toInt ≤ 6 then (K_x_stagger_4 kn cpeak cptick cx limit rails pn pt fr fg rt ft fw srow slast cup clast dead) else (K_x_stagger_5 kn slast srow cup clast cpeak cptick fw ft fr fg cx))
def K_x_stagger_8 (kn : Int32) (slast : Int32) (srow : Nat → Int32) (cup : Int32) (clast : Int32) (cpeak : Int32) (cptick : Int32) (fw : Nat → Int32) (ft : Nat → Int32) (fr : Nat → Int32) (fg : Nat → Int32) (cx : Nat → Int32) : (Int32) × (Int32) × (Int32) × (Nat → Int32) × (Int32) × (Int32) × (Int32) × (Int32) × (Nat → Int32) × (Nat → Int32) × (Nat → Int32) × (Nat → Int32) × (Nat → Int32) := ((-1 : Int32), kn, slast, srow, cup, clast, cpeak, cptick, fw, ft, fr, fg, cx)
def K_x_stagger_17 (slast_25 : Int32) (kn_24 : Int32) (srow_26 : Nat → Int32) (cup_27 : Int32) (clast_28 : Int32) (cpeak_29 : Int32) (cptick_30 : Int32) (fw_31 : Nat → Int32) (ft_32 : Nat → Int32) (fr_33 : Nat → Int32) (fg_34 : Nat → Int32) (cx_35 : Nat → Int32) : (Int32) × (Int32) × (Int32) × (Nat → Int32) × (Int32) × (Int32) × (Int32) × (Int32) × (Nat → Int32) × (Nat → Int32) × (Nat → Int32) × (Nat → Int32) × (Nat → Int32) := (slast_25, kn_24, slast_25, srow_26, cup_27, clast_28, cpeak_29, cptick_30, fw_31, ft_32, fr_33, fg_34, cx_35)
def K_x_stagger_16 (srow_26 : Nat → Int32) (a0 : Int32) (kn_24 : Int32) (slast_25 : Int32) (cup_27 : Int32) (clast_28 : Int32) (cpeak_29 : Int32) (cptick_30 : Int32) (fw_31 : Nat → Int32) (ft_32 : Nat → Int32) (fr_33 : Nat → Int32) (fg_34 : Nat → Int32) (cx_35 : Nat → Int32) : (Int32) × (Int32) × (Int32) × (Nat → Int32) × (Int32) × (Int32) × (Int32) × (Int32) × (Nat → Int32) × (Nat → Int32) × (Nat → Int32) × (Nat → Int32) × (Nat → Int32) := ((srow_26 (a0 - (10 : Int32)).toNatClampNeg), kn_24, slast_25, srow_26, cup_27, clast_28, cpeak_29, cptick_30, fw_31, ft_32, fr_33, fg_34, cx_35)
def K_x_stagger_15 (slast_25 : Int32) (kn_24 : Int32) (srow_26 : Nat → Int32) (cup_27 : Int32) (clast_28 : Int32) (cpeak_29 : Int32) (cptick_30 : Int32) (fw_31 : Nat → Int32) (ft_32 : Nat → Int32) (fr_33 : Nat → Int32) (fg_34 : Nat → Int32) (cx_35 : Nat → Int32) (a0 : Int32) : (Int32) × (Int32) × (Int32) × (Nat → Int32) × (Int32) × (Int32) × (Int32) × (Int32) × (Nat → Int32) × (Nat → Int32) × (Nat → Int32) × (Nat → Int32) × (Nat → Int32) := (if slast_25.toInt = (-4) then (K_x_stagger_17 slast_25 kn_24 srow_26 cup_27 clast_28 cpeak_29 cptick_30 fw_31 ft_32 fr_33 fg_34 cx_35) else (K_x_stagger_16 srow_26 a0 kn_24 slast_25 cup_27 clast_28 cpeak_29 cptick_30 fw_31 ft_32 fr_33 fg_34 cx_35))
def K_x_stagger_14 (a0 : Int32) (kn : Int32) (cpeak : Int32) (cptick : Int32) (cx : Nat → Int32) (limit : Int32) (rails : Int32) (pn : Nat → Int32) (pt : Nat → Int64) (r22 : Int32) (fr : Nat → Int32) (fg : Nat → Int32) (rt : Nat → Int32) (ft : Nat → Int32) (fw : Nat → Int32) (srow : Nat → Int32) (slast : Int32) (cup : Int32) (clast : Int32) : (Int32) × (Int32) × (Int32) × (Nat → Int32) × (Int32) × (Int32) × (Int32) × (Int32) × (Nat → Int32) × (Nat → Int32) × (Nat → Int32) × (Nat → Int32) × (Nat → Int32) := ((fun t9 => (K_x_stagger_15 t9.2.1 t9.1 t9.2.2.1 t9.2.2.2.1 t9.2.2.2.2.1 t9.2.2.2.2.2.1 t9.2.2.2.2.2.2.1 t9.2.2.2.2.2.2.2.1 t9.2.2.2.2.2.2.2.2.1 t9.2.2.2.2.2.2.2.2.2.1 t9.2.2.2.2.2.2.2.2.2.2.1 t9.2.2.2.2.2.2.2.2.2.2.2 a0)) (M_findRow kn cpeak cptick cx limit rails pn pt r22 fr fg rt ft fw srow slast cup clast))
def K_x_stagger_12 (a0 : Int32) (kn : Int32) (cpeak : Int32) (cptick : Int32) (cx : Nat → Int32) (limit : Int32) (rails : Int32) (pn : Nat → Int32) (pt : Nat → Int64) (fr : Nat → Int32) (fg : Nat → Int32) (rt : Nat → Int32) (ft : Nat → Int32) (fw : Nat → Int32) (srow : Nat → Int32) (slast : Int32) (cup : Int32) (clast : Int32) (dead : Int32) : (Int32) × (Int32) × (Int32) × (Nat → Int32) × (Int32) × (Int32) × (Int32) × (Int32) × (Nat → Int32) × (Nat → Int32) × (Nat → Int32) × (Nat → Int32) × (Nat → Int32) := ((fun t9 => (K_x_stagger_14 a0 kn cpeak cptick cx limit rails pn pt t9 fr fg rt ft fw srow slast cup clast)) (M_alive dead rails))
def K_x_stagger_13 (kn : Int32) (slast : Int32) (srow : Nat → Int32) (cup : Int32) (clast : Int32) (cpeak : Int32) (cptick : Int32) (fw : Nat → Int32) (ft : Nat → Int32) (fr : Nat → Int32) (fg : Nat → Int32) (cx : Nat → Int32) : (Int32) × (Int32) × (Int32) × (Nat → Int32) × (Int32) × (Int32) × (Int32) × (Int32) × (Nat → Int32) × (Nat → Int32) × (Nat → Int32) × (Nat → Int32) × (Nat → Int32) := ((-2 : Int32), kn, slast, srow, cup, clast, cpeak, cptick, fw, ft, fr, fg, cx)
def K_x_stagger_10 (rails : Int32) (a0 : Int32) (kn : Int32) (cpeak : Int32) (cptick : Int32) (cx : Nat → Int32) (limit : Int32) (pn : Nat → Int32) (pt : Nat → Int64) (fr : Nat → Int32) (fg : Nat → Int32) (rt : Nat → Int32) (ft : Nat → Int32) (fw : Nat → Int32) (srow : Nat → Int32) (slast : Int32) (cup : Int32) (clast : Int32) (dead : Int32) : (Int32) × (Int32) × (Int32) × (Nat → Int32) × (Int32) × (Int32) × (Int32) × (Int32) × (Nat → Int32) × (Nat → Int32) × (Nat → Int32) × (Nat → Int32) × (Nat → Int32) := (if rails.toInt ≤ 6 then (K_x_stagger_12 a0 kn cpeak cptick cx limit rails pn pt fr fg rt ft fw srow slast cup clast dead) else (K_x_stagger_13 kn slast srow cup clast cpeak cptick fw ft fr fg cx))
def K_x_stagger_11 (kn : Int32) (slast : Int32) (srow : Nat → Int32) (cup : Int32) (clast : Int32) (cpeak : Int32) (cptick : Int32) (fw : Nat → Int32) (ft : Nat → Int32) (fr : Nat → Int32) (fg : Nat → Int32) (cx : Nat → Int32) : (Int32) × (Int32) × (Int32) × (Nat → Int32) × (Int32) × (Int32) × (Int32) × (Int32) × (Nat → Int32) × (Nat → Int32) × (Nat → Int32) × (Nat → Int32) × (Nat → Int32) := ((-1 : Int32), kn, slast, srow, cup, clast, cpeak, cptick, fw, ft, fr, fg, cx)
def K_x_stagger_9 (a0 : Int32) (rails : Int32) (kn : Int32) (cpeak : Int32) (cptick : Int32) (cx : Nat → Int32) (limit : Int32) (pn : Nat → Int32) (pt : Nat → Int64) (fr : Nat → Int32) (fg : Nat → Int32) (rt : Nat → Int32) (ft : Nat → Int32) (fw : Nat → Int32) (srow : Nat → Int32) (slast : Int32) (cup : Int32) (clast : Int32) (dead : Int32) : (Int32) × (Int32) × (Int32) × (Nat → Int32) × (Int32) × (Int32) × (Int32) × (Int32) × (Nat → Int32) × (Nat → Int32) × (Nat → Int32) × (Nat → Int32) × (Nat → Int32) := (if a0.toInt < (10 + rails.toInt) then (K_x_stagger_10 rails a0 kn cpeak cptick cx limit pn pt fr fg rt ft fw srow slast cup clast dead) else (K_x_stagger_11 kn slast srow cup clast cpeak cptick fw ft fr fg cx))
def K_x_stagger_3 (a0 : Int32) (kn : Int32) (slast : Int32) (srow : Nat → Int32) (cup : Int32) (clast : Int32) (cpeak : Int32) (cptick : Int32) (fw : Nat → Int32) (ft : Nat → Int32) (fr : Nat → Int32) (fg : Nat → Int32) (cx : Nat → Int32) (rails : Int32) (limit : Int32) (pn : Nat → Int32) (pt : Nat → Int64) (rt : Nat → Int32) (dead : Int32) : (Int32) × (Int32) × (Int32) × (Nat → Int32) × (Int32) × (Int32) × (Int32) × (Int32) × (Nat → Int32) × (Nat → Int32) × (Nat → Int32) × (Nat → Int32) × (Nat → Int32) := (if a0.toInt < 10 then (K_x_stagger_8 kn slast srow cup clast cpeak cptick fw ft fr fg cx) else (K_x_stagger_9 a0 rails kn cpeak cptick cx limit pn pt fr fg rt ft fw srow slast cup clast dead))
def K_x_stagger_1 (a0 : Int32) (rails : Int32) (kn : Int32) (cpeak : Int32) (cptick : Int32) (cx : Nat → Int32) (limit : Int32) (pn : Nat → Int32) (pt : Nat → Int64) (fr : Nat → Int32) (fg : Nat → Int32) (rt : Nat → Int32) (ft : Nat → Int32) (fw : Nat → Int32) (srow : Nat → Int32) (slast : Int32) (cup : Int32) (clast : Int32) (dead : Int32) : (Int32) × (Int32) × (Int32) × (Nat → Int32) × (Int32) × (Int32) × (Int32) × (Int32) × (Nat → Int32) × (Nat → Int32) × (Nat → Int32) × (Nat → Int32) × (Nat → Int32) := (if a0.toInt = 0 then (K_x_stagger_2 rails kn cpeak cptick cx limit pn pt fr fg rt ft fw srow slast cup clast dead) else (K_x_stagger_3 a0 kn slast srow cup clast cpeak cptick fw ft fr fg cx rails limit pn pt rt dead))
def M_x_stagger (a0 : Int32) (rails : Int32) (kn : Int32) (cpeak : Int32) (cptick : Int32) (cx : Nat → Int32) (limit : Int32) (pn : Nat → Int32) (pt : Nat → Int64) (fr : Nat → Int32) (fg : Nat → Int32) (rt : Nat → Int32) (ft : Nat → Int32) (fw : Nat → Int32) (srow : Nat → Int32) (slast : Int32) (cup : Int32) (clast : Int32) (dead : Int32) : (Int32) × (Int32) × (Int32) × (Nat → Int32) × (Int32) × (Int32) × (Int32) × (Int32) × (Nat → Int32) × (Nat → Int32) × (Nat → Int32) × (Nat → Int32) × (Nat → Int32) := (K_x_stagger_1 a0 rails kn cpeak cptick cx limit pn pt fr fg rt ft fw srow slast cup clast dead)
abbrev W_x_stagger (cI cJ cZ cG cH : ClassId) (xo : Nat) (a0 : Int32) (tp : Nat) (rd : Nat) (rn : Nat) (co : Nat) (wy : Nat) (sg : Nat) (sh : Nat) (pl : Nat) (sp : Nat) (lf : Int32) (srwa : Nat) (kn : Int32) (slast : Int32) (srow : Nat → Int32) (fwa : Nat) (fta : Nat) (fra : Nat) (fga : Nat) (cxa : Nat) (cup : Int32) (clast : Int32) (cpeak : Int32) (cptick : Int32) (fw : Nat → Int32) (ft : Nat → Int32) (fr : Nat → Int32) (fg : Nat → Int32) (cx : Nat → Int32) (pna : Nat) (pta : Nat) (rails : Int32) (limit : Int32) (retry : Int32) (behind : Int32) (pn : Nat → Int32) (pt : Nat → Int64) (hy : Nat) (rsa : Nat) (ria : Nat) (raa : Nat) (rta : Nat) (rga : Nat) (dead : Int32) (key : Int32) (tick : Int32) (held : Int32) (tries : Int32) (trips : Int32) (ldraw : Int32) (gdraw : Int32) (rt : Nat → Int32) : va_W := [oX10 xo tp rd rn co wy sg sh pl sp lf, oX7 sg co srwa kn slast, oAI srwa cI 8 srow, oX0 co fwa fta fra fga cxa cup clast cpeak cptick, oAI fwa cI 8 fw, oAI fta cI 8 ft, oAI fra cI 8 fr, oAI fga cI 8 fg, oAI cxa cI 145 cx, oX3 pl pna pta rails limit retry behind, oAI pna cI 64 pn, oAJ pta cJ 64 pt, oX5 rn hy rsa ria raa rta rga dead key tick held tries trips ldraw gdraw, oAI rta cI 8 rt]
abbrev Q_x_stagger (D : va_G) (cI cJ cZ cG cH : ClassId) (xo : Nat) (a0 : Int32) (tp : Nat) (rd : Nat) (rn : Nat) (co : Nat) (wy : Nat) (sg : Nat) (sh : Nat) (pl : Nat) (sp : Nat) (lf : Int32) (srwa : Nat) (kn : Int32) (slast : Int32) (srow : Nat → Int32) (fwa : Nat) (fta : Nat) (fra : Nat) (fga : Nat) (cxa : Nat) (cup : Int32) (clast : Int32) (cpeak : Int32) (cptick : Int32) (fw : Nat → Int32) (ft : Nat → Int32) (fr : Nat → Int32) (fg : Nat → Int32) (cx : Nat → Int32) (pna : Nat) (pta : Nat) (rails : Int32) (limit : Int32) (retry : Int32) (behind : Int32) (pn : Nat → Int32) (pt : Nat → Int64) (hy : Nat) (rsa : Nat) (ria : Nat) (raa : Nat) (rta : Nat) (rga : Nat) (dead : Int32) (key : Int32) (tick : Int32) (held : Int32) (tries : Int32) (trips : Int32) (ldraw : Int32) (gdraw : Int32) (rt : Nat → Int32) (A : Nat → Prop) : Array Value → State → Outcome → State → Prop := va_Qi (fun (r : Int32) (u9 : Int32) => r = u9 ∧ (True)) (fun u9 t => ∃ (kn9 : Int32) (slast9 : Int32) (srow9 : Nat → Int32) (cup9 : Int32) (clast9 : Int32) (cpeak9 : Int32) (cptick9 : Int32) (fw9 : Nat → Int32) (ft9 : Nat → Int32) (fr9 : Nat → Int32) (fg9 : Nat → Int32) (cx9 : Nat → Int32), (0 ≤ kn9.toInt ∧ kn9.toInt ≤ 1) ∧ (∀ j, j < 8 → 0 ≤ (srow9 j).toInt ∧ (srow9 j).toInt ≤ 511) ∧ (0 ≤ clast9.toInt ∧ clast9.toInt ≤ 144) ∧ (∀ j, j < 8 → 0 ≤ (fw9 j).toInt ∧ (fw9 j).toInt ≤ 511) ∧ (∀ j, j < 8 → 0 ≤ (ft9 j).toInt ∧ (ft9 j).toInt ≤ 511) ∧ (∀ j, j < 8 → 0 ≤ (fr9 j).toInt ∧ (fr9 j).toInt ≤ 655) ∧ (∀ j, j < 8 → 0 ≤ (fg9 j).toInt ∧ (fg9 j).toInt ≤ 1166) ∧ (M_x_stagger a0 rails kn cpeak cptick cx limit pn pt fr fg rt ft fw srow slast cup clast dead = (u9, kn9, slast9, srow9, cup9, clast9, cpeak9, cptick9, fw9, ft9, fr9, fg9, cx9)) ∧ (∀ j, j < 8 → (fr9 j).toInt ≤ (fg9 j).toInt) ∧ xB D (tyL cI cJ cZ cG cH) [oX10 xo tp rd rn co wy sg sh pl sp lf, oX7 sg co srwa kn9 slast9, oAI srwa cI 8 srow9, oX0 co fwa fta fra fga cxa cup9 clast9 cpeak9 cptick9, oAI fwa cI 8 fw9, oAI fta cI 8 ft9, oAI fra cI 8 fr9, oAI fga cI 8 fg9, oAI cxa cI 145 cx9, oX3 pl pna pta rails limit retry behind, oAI pna cI 64 pn, oAJ pta cJ 64 pt, oX5 rn hy rsa ria raa rta rga dead key tick held tries trips ldraw gdraw, oAI rta cI 8 rt] A t) A
abbrev rm_x_stagger : Room := { frames := 4, cells := 0, slots := 0, locals := 99 }
set_option maxRecDepth 100000 in
set_option maxHeartbeats 40000000 in
theorem c_x_stagger (l : Launch) (D : va_G) (cI cJ cZ cG cH : ClassId) (sz : Nat) (xo : Nat) (a0 : Int32) (tp : Nat) (rd : Nat) (rn : Nat) (co : Nat) (wy : Nat) (sg : Nat) (sh : Nat) (pl : Nat) (sp : Nat) (lf : Int32) (srwa : Nat) (kn : Int32) (slast : Int32) (srow : Nat → Int32) (fwa : Nat) (fta : Nat) (fra : Nat) (fga : Nat) (cxa : Nat) (cup : Int32) (clast : Int32) (cpeak : Int32) (cptick : Int32) (fw : Nat → Int32) (ft : Nat → Int32) (fr : Nat → Int32) (fg : Nat → Int32) (cx : Nat → Int32) (pna : Nat) (pta : Nat) (rails : Int32) (limit : Int32) (retry : Int32) (behind : Int32) (pn : Nat → Int32) (pt : Nat → Int64) (hy : Nat) (rsa : Nat) (ria : Nat) (raa : Nat) (rta : Nat) (rga : Nat) (dead : Int32) (key : Int32) (tick : Int32) (held : Int32) (tries : Int32) (trips : Int32) (ldraw : Int32) (gdraw : Int32) (rt : Nat → Int32) (h_kn : 0 ≤ kn.toInt ∧ kn.toInt ≤ 1) (h_srow : ∀ j, j < 8 → 0 ≤ (srow j).toInt ∧ (srow j).toInt ≤ 511) (h_clast : 0 ≤ clast.toInt ∧ clast.toInt ≤ 144) (h_fw : ∀ j, j < 8 → 0 ≤ (fw j).toInt ∧ (fw j).toInt ≤ 511) (h_ft : ∀ j, j < 8 → 0 ≤ (ft j).toInt ∧ (ft j).toInt ≤ 511) (h_fr : ∀ j, j < 8 → 0 ≤ (fr j).toInt ∧ (fr j).toInt ≤ 655) (h_fg : ∀ j, j < 8 → 0 ≤ (fg j).toInt ∧ (fg j).toInt ≤ 1166) (h_rails : 0 ≤ rails.toInt ∧ rails.toInt ≤ 8) (h_pn : ∀ j, j < 64 → 0 ≤ (pn j).toInt ∧ (pn j).toInt ≤ 511) (h_key : 0 ≤ key.toInt ∧ key.toInt ≤ 1) (h_rt : ∀ j, j < 8 → 0 ≤ (rt j).toInt ∧ (rt j).toInt ≤ 511) (h_le : ∀ j, j < 8 → (fr j).toInt ≤ (fg j).toInt) : Met l yX10_stagger (wt yX10_stagger cX10_stagger 2 (some .int)) rm_x_stagger (xPc [.ref xo, .int a0] D (tyL cI cJ cZ cG cH) (W_x_stagger cI cJ cZ cG cH xo a0 tp rd rn co wy sg sh pl sp lf srwa kn slast srow fwa fta fra fga cxa cup clast cpeak cptick fw ft fr fg cx pna pta rails limit retry behind pn pt hy rsa ria raa rta rga dead key tick held tries trips ldraw gdraw rt) sz) (Q_x_stagger D cI cJ cZ cG cH xo a0 tp rd rn co wy sg sh pl sp lf srwa kn slast srow fwa fta fra fga cxa cup clast cpeak cptick fw ft fr fg cx pna pta rails limit retry behind pn pt hy rsa ria raa rta rga dead key tick held tries trips ldraw gdraw rt (va_A (W_x_stagger cI cJ cZ cG cH xo a0 tp rd rn co wy sg sh pl sp lf srwa kn slast srow fwa fta fra fga cxa cup clast cpeak cptick fw ft fr fg cx pna pta rails limit retry behind pn pt hy rsa ria raa rta rga dead key tick held tries trips ldraw gdraw rt) sz)) 0 0 (va_A (W_x_stagger cI cJ cZ cG cH xo a0 tp rd rn co wy sg sh pl sp lf srwa kn slast srow fwa fta fra fga cxa cup clast cpeak cptick fw ft fr fg cx pna pta rails limit retry behind pn pt hy rsa ria raa rta rga dead key tick held tries trips ldraw gdraw rt) sz) := by
  refine xMet (cc := cX10_stagger) (maxL := 2) (ret := (some .int)) (Qf := Q_x_stagger D cI cJ cZ cG cH xo a0 tp rd rn co wy sg sh pl sp lf srwa kn slast srow fwa fta fra fga cxa cup clast cpeak cptick fw ft fr fg cx pna pta rails limit retry behind pn pt hy rsa ria raa rta rga dead key tick held tries trips ldraw gdraw rt) (by decide) rfl (Nat.le_of_ble_eq_true rfl) ?_
  intro p e s m below meth c ls A hx hb hr hml hts hown hlocks hnm hsz hP hK hD hA hS hl
  have hown : s.vm.findClass RX10 = some m.cls := hown
  have hP : va_P D vwCl [oX10 xo tp rd rn co wy sg sh pl sp lf, oX7 sg co srwa kn slast, oAI srwa cI 8 srow, oX0 co fwa fta fra fga cxa cup clast cpeak cptick, oAI fwa cI 8 fw, oAI fta cI 8 ft, oAI fra cI 8 fr, oAI fga cI 8 fg, oAI cxa cI 145 cx, oX3 pl pna pta rails limit retry behind, oAI pna cI 64 pn, oAJ pta cJ 64 pt, oX5 rn hy rsa ria raa rta rga dead key tick held tries trips ldraw gdraw, oAI rta cI 8 rt] s.heap := hP
  have hD : va_D A [oX10 xo tp rd rn co wy sg sh pl sp lf, oX7 sg co srwa kn slast, oAI srwa cI 8 srow, oX0 co fwa fta fra fga cxa cup clast cpeak cptick, oAI fwa cI 8 fw, oAI fta cI 8 ft, oAI fra cI 8 fr, oAI fga cI 8 fg, oAI cxa cI 145 cx, oX3 pl pna pta rails limit retry behind, oAI pna cI 64 pn, oAJ pta cJ 64 pt, oX5 rn hy rsa ria raa rta rga dead key tick held tries trips ldraw gdraw, oAI rta cI 8 rt] := hD
  have hl : lv_has ls 2 [(0, .ref xo), (1, .int a0)] := hl
  have hM : M_x_stagger a0 rails kn cpeak cptick cx limit pn pt fr fg rt ft fw srow slast cup clast dead = (K_x_stagger_1 a0 rails kn cpeak cptick cx limit pn pt fr fg rt ft fw srow slast cup clast dead) := rfl
  refine lv_iload_n hx hb dX10_stagger_0 rfl (lv_at hl 1 rfl) ?_
  refine lv_if_eq (tgt := 26) hx hb dX10_stagger_1 (by decide) (fun c_1 => ?_) (fun c_1 => ?_)
  · skip
    have i_1 : a0.toInt = 0 := (ieq rfl (by decide)).mp c_1
    have hM : M_x_stagger a0 rails kn cpeak cptick cx limit pn pt fr fg rt ft fw srow slast cup clast dead = (K_x_stagger_2 rails kn cpeak cptick cx limit pn pt fr fg rt ft fw srow slast cup clast dead) := (show M_x_stagger a0 rails kn cpeak cptick cx limit pn pt fr fg rt ft fw srow slast cup clast dead = (if a0.toInt = 0 then (K_x_stagger_2 rails kn cpeak cptick cx limit pn pt fr fg rt ft fw srow slast cup clast dead) else (K_x_stagger_3 a0 kn slast srow cup clast cpeak cptick fw ft fr fg cx rails limit pn pt rt dead)) from hM).trans (if_pos i_1)
    refine lv_aload_n hx hb dX10_stagger_26 rfl (lv_at hl 0 rfl) ?_
    refine va_get (D := D) (ci := 9) (v := .ref pl) (C := RX10) (T := TX10) (N := 10) hx hb hts (fun w h => tbC w (tbfX10 w h)) hown hK hP 0 rfl rfl 7 (by decide) (hts (.fieldLink RX10 56 "PowerRails" "plan" "LPowerRails$Plan;") (tbC _ wd254)) (fun _ h9 => h9) rfl dX10_stagger_27 ?_
    refine va_get (D := D) (ci := 2) (v := .int rails) (C := RX3) (T := TX3) (N := 6) hx hb hts (fun w h => tbC w (tbfX3 w h)) hown hK hP 9 rfl rfl 2 (by decide) (hts (.fieldLink RX10 117 "PowerRails$Plan" "rails" "I") (tbC _ wd210)) (fun _ h9 => h9) rfl dX10_stagger_30 ?_
    refine lv_bipush (v := 6) hx hb dX10_stagger_33 (by decide) ?_
    refine lv_icmp_le (tgt := 41) hx hb dX10_stagger_35 (by decide) (fun c_2 => ?_) (fun c_2 => ?_)
    · skip
      have i_2 : rails.toInt ≤ 6 := (ile rfl (by decide)).mp c_2
      have hM : M_x_stagger a0 rails kn cpeak cptick cx limit pn pt fr fg rt ft fw srow slast cup clast dead = (K_x_stagger_4 kn cpeak cptick cx limit rails pn pt fr fg rt ft fw srow slast cup clast dead) := (show M_x_stagger a0 rails kn cpeak cptick cx limit pn pt fr fg rt ft fw srow slast cup clast dead = (if rails.toInt ≤ 6 then (K_x_stagger_4 kn cpeak cptick cx limit rails pn pt fr fg rt ft fw srow slast cup clast dead) else (K_x_stagger_5 kn slast srow cup clast cpeak cptick fw ft fr fg cx)) from hM).trans (if_pos i_2)
      refine lv_aload_n hx hb dX10_stagger_41 rfl (lv_at hl 0 rfl) ?_
      refine va_get (D := D) (ci := 9) (v := .ref sg) (C := RX10) (T := TX10) (N := 10) hx hb hts (fun w h => tbC w (tbfX10 w h)) hown hK hP 0 rfl rfl 5 (by decide) (hts (.fieldLink RX10 42 "PowerRails" "staggering" "LPowerRails$Stagger;") (tbC _ wd252)) (fun _ h9 => h9) rfl dX10_stagger_42 ?_
      refine lv_aload_n hx hb dX10_stagger_45 rfl (lv_at hl 0 rfl) ?_
      refine va_get (D := D) (ci := 9) (v := .ref pl) (C := RX10) (T := TX10) (N := 10) hx hb hts (fun w h => tbC w (tbfX10 w h)) hown hK hP 0 rfl rfl 7 (by decide) (hts (.fieldLink RX10 56 "PowerRails" "plan" "LPowerRails$Plan;") (tbC _ wd254)) (fun _ h9 => h9) rfl dX10_stagger_46 ?_
      refine lv_aload_n hx hb dX10_stagger_49 rfl (lv_at hl 0 rfl) ?_
      obtain ⟨hPc, hDc, hFc, hC9⟩ := xpk (wc := W_alive cI cJ cZ cG cH xo tp rd rn co wy sg sh pl sp lf pna pta rails limit retry behind hy rsa ria raa rta rga dead key tick held tries trips ldraw gdraw) hP hD hS hA [0, 9, 12] (by decide +kernel) rfl
      refine va_calli (va_runV (As := []) (rest := [.ref pl, .ref sg]) ⟨hx, hb, hml, hown, hts⟩ (c_alive l D cI cJ cZ cG cH s.heap.size xo tp rd rn co wy sg sh pl sp lf pna pta rails limit retry behind hy rsa ria raa rta rga dead key tick held tries trips ldraw gdraw (xrng rfl (by omega) (by omega)) (xrng rfl (by omega) (by omega))) (cwV 0 hts (xGV tbC wd523 wd524 wd2 wd50 wd1046) rfl rfl rfl (by decide +kernel) ⟨Nat.le_of_ble_eq_true rfl, Nat.le_of_ble_eq_true rfl⟩) ⟨xPc_blind, va_recv hK hPc (ci := 9) (q0 := 0) rfl rfl, xPc_pre hPc hK hDc⟩ rfl rfl hl.1 rfl (lv_room (Nat.le_of_ble_eq_true rfl)) dX10_stagger_50 ⟨Nat.le_of_ble_eq_true rfl, Nat.le_of_ble_eq_true rfl⟩) hS (fun q _ h => hFc q h) hFc (fun r3 u t H1 locs ht hvm hw3 hB hz1 hk1 hS => ?_)
      obtain ⟨hru9, hw3⟩ := hw3
      subst hru9
      obtain ⟨hf3_0, hP1, hK1, hD1⟩ := hB
      rw [ht] at hP1
      obtain ⟨hP, hD⟩ : xPD D A [oX7 sg co srwa kn slast, oAI srwa cI 8 srow, oX0 co fwa fta fra fga cxa cup clast cpeak cptick, oAI fwa cI 8 fw, oAI fta cI 8 ft, oAI fra cI 8 fr, oAI fga cI 8 fg, oAI cxa cI 145 cx, oAI pna cI 64 pn, oAJ pta cJ 64 pt, oAI rta cI 8 rt, oX10 xo tp rd rn co wy sg sh pl sp lf, oX3 pl pna pta rails limit retry behind, oX5 rn hy rsa ria raa rta rga dead key tick held tries trips ldraw gdraw] H1 := xjn 11 hP hD [0, 9, 12] [1, 2, 3, 4, 5, 6, 7, 8, 10, 11, 13] hC9 rfl (by decide +kernel) (by decide +kernel) hk1 hFc hP1 hD1
      generalize H1 = H at hP hS ⊢
      have hf3_0 : M_alive dead rails = (r3) := hf3_0
      have hw3 : 0 ≤ r3.toInt ∧ r3.toInt ≤ 255 := hw3
      have h9M := congrArg (fun t9 => (K_x_stagger_6 kn cpeak cptick cx limit rails pn pt t9 fr fg rt ft fw srow slast cup clast)) hf3_0
      have hM : M_x_stagger a0 rails kn cpeak cptick cx limit pn pt fr fg rt ft fw srow slast cup clast dead = (K_x_stagger_6 kn cpeak cptick cx limit rails pn pt r3 fr fg rt ft fw srow slast cup clast) := (show M_x_stagger a0 rails kn cpeak cptick cx limit pn pt fr fg rt ft fw srow slast cup clast dead = ((fun t9 => (K_x_stagger_6 kn cpeak cptick cx limit rails pn pt t9 fr fg rt ft fw srow slast cup clast)) (M_alive dead rails)) from hM).trans h9M
      refine lv_aload_n hx hb dX10_stagger_53 rfl (lv_at hl 0 rfl) ?_
      refine va_get (D := D) (ci := 9) (v := .ref rn) (C := RX10) (T := TX10) (N := 10) hx hb hts (fun w h => tbC w (tbfX10 w h)) hown hK hP 11 rfl rfl 2 (by decide) (hts (.fieldLink RX10 19 "PowerRails" "run" "LPowerRails$Run;") (tbC _ wd249)) (fun _ h9 => h9) rfl dX10_stagger_54 ?_
      refine va_get (D := D) (ci := 4) (v := .ref rta) (C := RX5) (T := TX5) (N := 14) hx hb hts (fun w h => tbC w (tbfX5 w h)) hown hK hP 13 rfl rfl 4 (by decide) (hts (.fieldLink RX10 150 "PowerRails$Run" "takes" "[I") (tbC _ wd114)) (fun _ h9 => h9) rfl dX10_stagger_57 ?_
      obtain ⟨hPc, hDc, hFc, hC9⟩ := xpk (wc := W_findRow cI cJ cZ cG cH sg pl r3 rta co srwa kn slast srow fwa fta fra fga cxa cup clast cpeak cptick fw ft fr fg cx pna pta rails limit retry behind pn pt rt) hP hD hS hA [0, 1, 2, 3, 4, 5, 6, 7, 12, 8, 9, 10] (by decide +kernel) rfl
      refine va_callv (va_runV (As := [.ref pl, .int r3, .ref rta]) (rest := []) ⟨hx, hb, hml, hown, hts⟩ (c_findRow l D cI cJ cZ cG cH H.size sg pl r3 rta co srwa kn slast srow fwa fta fra fga cxa cup clast cpeak cptick fw ft fr fg cx pna pta rails limit retry behind pn pt rt (xrng rfl (by omega) (by omega)) (xwk_rng h_srow (by decide) (by decide)) (xrng rfl (by omega) (by omega)) (xwk_rng h_fw (by decide) (by decide)) (xwk_rng h_ft (by decide) (by decide)) (xwk_rng h_fr (by decide) (by decide)) (xwk_rng h_fg (by decide) (by decide)) (xrng rfl (by omega) (by omega)) (xwk_rng h_pn (by decide) (by decide)) (xwk_rng h_rt (by decide) (by decide)) h_le) (cwV 3 hts (xGV tbC wd589 wd590 wd591 wd56 wd1064) rfl rfl rfl (by decide +kernel) ⟨Nat.le_of_ble_eq_true rfl, Nat.le_of_ble_eq_true rfl⟩) ⟨xPc_blind, va_recv hK hPc (ci := 6) (q0 := 0) rfl rfl, xPc_pre hPc hK hDc⟩ rfl rfl hl.1 rfl (lv_room (Nat.le_of_ble_eq_true rfl)) dX10_stagger_60 ⟨Nat.le_of_ble_eq_true rfl, Nat.le_of_ble_eq_true rfl⟩) hS (fun q _ h => hFc q h) hFc (fun u t H1 locs ht hvm hw4 hB hz1 hk1 hS => ?_)
      revert hB
      refine xex12r (fun kn_5 slast_6 srow_7 cup_8 clast_9 cpeak_10 cptick_11 fw_12 ft_13 fr_14 fg_15 cx_16 => ?_)
      refine xan8r (fun hf16_0 hf16_1 hf16_2 hf16_3 hf16_4 hf16_5 hf16_6 => ?_)
      refine xan5r (fun hf16_7 hf16_8 hP1 hK1 hD1 => ?_)
      rw [ht] at hP1
      obtain ⟨hP, hD⟩ : xPD D A [oX10 xo tp rd rn co wy sg sh pl sp lf, oX5 rn hy rsa ria raa rta rga dead key tick held tries trips ldraw gdraw, oX7 sg co srwa kn_5 slast_6, oAI srwa cI 8 srow_7, oX0 co fwa fta fra fga cxa cup_8 clast_9 cpeak_10 cptick_11, oAI fwa cI 8 fw_12, oAI fta cI 8 ft_13, oAI fra cI 8 fr_14, oAI fga cI 8 fg_15, oAI cxa cI 145 cx_16, oX3 pl pna pta rails limit retry behind, oAI pna cI 64 pn, oAJ pta cJ 64 pt, oAI rta cI 8 rt] H1 := xjn 2 hP hD [0, 1, 2, 3, 4, 5, 6, 7, 12, 8, 9, 10] [11, 13] hC9 rfl (by decide +kernel) (by decide +kernel) hk1 hFc hP1 hD1
      generalize H1 = H at hP hS ⊢
      have hf16_0 : 0 ≤ kn_5.toInt ∧ kn_5.toInt ≤ 1 := hf16_0
      have hf16_1 : ∀ j, j < 8 → 0 ≤ (srow_7 j).toInt ∧ (srow_7 j).toInt ≤ 511 := hf16_1
      have hf16_2 : 0 ≤ clast_9.toInt ∧ clast_9.toInt ≤ 144 := hf16_2
      have hf16_3 : ∀ j, j < 8 → 0 ≤ (fw_12 j).toInt ∧ (fw_12 j).toInt ≤ 511 := hf16_3
      have hf16_4 : ∀ j, j < 8 → 0 ≤ (ft_13 j).toInt ∧ (ft_13 j).toInt ≤ 511 := hf16_4
      have hf16_5 : ∀ j, j < 8 → 0 ≤ (fr_14 j).toInt ∧ (fr_14 j).toInt ≤ 655 := hf16_5
      have hf16_6 : ∀ j, j < 8 → 0 ≤ (fg_15 j).toInt ∧ (fg_15 j).toInt ≤ 1166 := hf16_6
      have hf16_7 : M_findRow kn cpeak cptick cx limit rails pn pt r3 fr fg rt ft fw srow slast cup clast = (kn_5, slast_6, srow_7, cup_8, clast_9, cpeak_10, cptick_11, fw_12, ft_13, fr_14, fg_15, cx_16) := hf16_7
      have hf16_8 : ∀ j, j < 8 → (fr_14 j).toInt ≤ (fg_15 j).toInt := hf16_8
      have h9M := congrArg (fun t9 => (K_x_stagger_7 t9.2.1 t9.1 t9.2.2.1 t9.2.2.2.1 t9.2.2.2.2.1 t9.2.2.2.2.2.1 t9.2.2.2.2.2.2.1 t9.2.2.2.2.2.2.2.1 t9.2.2.2.2.2.2.2.2.1 t9.2.2.2.2.2.2.2.2.2.1 t9.2.2.2.2.2.2.2.2.2.2.1 t9.2.2.2.2.2.2.2.2.2.2.2)) hf16_7
      have hM : M_x_stagger a0 rails kn cpeak cptick cx limit pn pt fr fg rt ft fw srow slast cup clast dead = (K_x_stagger_7 slast_6 kn_5 srow_7 cup_8 clast_9 cpeak_10 cptick_11 fw_12 ft_13 fr_14 fg_15 cx_16) := (show M_x_stagger a0 rails kn cpeak cptick cx limit pn pt fr fg rt ft fw srow slast cup clast dead = ((fun t9 => (K_x_stagger_7 t9.2.1 t9.1 t9.2.2.1 t9.2.2.2.1 t9.2.2.2.2.1 t9.2.2.2.2.2.1 t9.2.2.2.2.2.2.1 t9.2.2.2.2.2.2.2.1 t9.2.2.2.2.2.2.2.2.1 t9.2.2.2.2.2.2.2.2.2.1 t9.2.2.2.2.2.2.2.2.2.2.1 t9.2.2.2.2.2.2.2.2.2.2.2)) (M_findRow kn cpeak cptick cx limit rails pn pt r3 fr fg rt ft fw srow slast cup clast)) from hM).trans h9M
      refine lv_iload_n hx hb dX10_stagger_63 rfl (lv_at hl 1 rfl) ?_
      refine lv_if_eq (tgt := 79) hx hb dX10_stagger_64 (by decide) (fun c_17 => ?_) (fun c_17 => ?_)
      · skip
        have i_17 : a0.toInt = 0 := (ieq rfl (by decide)).mp c_17
        refine lv_aload_n hx hb dX10_stagger_79 rfl (lv_at hl 0 rfl) ?_
        refine va_get (D := D) (ci := 9) (v := .ref sg) (C := RX10) (T := TX10) (N := 10) hx hb hts (fun w h => tbC w (tbfX10 w h)) hown hK hP 0 rfl rfl 5 (by decide) (hts (.fieldLink RX10 42 "PowerRails" "staggering" "LPowerRails$Stagger;") (tbC _ wd252)) (fun _ h9 => h9) rfl dX10_stagger_80 ?_
        refine va_get (D := D) (ci := 6) (v := .int slast_6) (C := RX7) (T := TX7) (N := 4) hx hb hts (fun w h => tbC w (tbfX7 w h)) hown hK hP 2 rfl rfl 3 (by decide) (hts (.fieldLink RX10 263 "PowerRails$Stagger" "last" "I") (tbC _ wd182)) (fun _ h9 => h9) rfl dX10_stagger_83 ?_
        refine W.widen (k := 0) (n := 0) (by decide) (by decide) ?_
        exact W.iret (v := slast_6) hx hb hr (fun t ht hW => ⟨⟨slast_6, slast_6, rfl, ⟨rfl, trivial⟩, ⟨kn_5, slast_6, srow_7, cup_8, clast_9, cpeak_10, cptick_11, fw_12, ft_13, fr_14, fg_15, cx_16, (xrng rfl (by omega) (by omega)), (xwk_rng hf16_1 (by decide) (by decide)), (xrng rfl (by omega) (by omega)), (xwk_rng hf16_3 (by decide) (by decide)), (xwk_rng hf16_4 (by decide) (by decide)), (xwk_rng hf16_5 (by decide) (by decide)), (xwk_rng hf16_6 (by decide) (by decide)), hM, hf16_8, xB_of9 ht hW hP hK hD [0, 2, 3, 4, 5, 6, 7, 8, 9, 10, 11, 12, 1, 13] (by decide +kernel) rfl⟩⟩, hS.F ht⟩) hS.2.2 dX10_stagger_86
      · skip
        have i_17 : ¬ (a0.toInt = 0) := fun h9 => c_17 ((ieq rfl (by decide)).mpr h9)
        exfalso
        omega
    · skip
      have i_2 : ¬ (rails.toInt ≤ 6) := fun h9 => c_2 ((ile rfl (by decide)).mpr h9)
      have hM : M_x_stagger a0 rails kn cpeak cptick cx limit pn pt fr fg rt ft fw srow slast cup clast dead = (K_x_stagger_5 kn slast srow cup clast cpeak cptick fw ft fr fg cx) := (show M_x_stagger a0 rails kn cpeak cptick cx limit pn pt fr fg rt ft fw srow slast cup clast dead = (if rails.toInt ≤ 6 then (K_x_stagger_4 kn cpeak cptick cx limit rails pn pt fr fg rt ft fw srow slast cup clast dead) else (K_x_stagger_5 kn slast srow cup clast cpeak cptick fw ft fr fg cx)) from hM).trans (if_neg i_2)
      refine lv_bipush (v := (-2)) hx hb dX10_stagger_38 (by decide) ?_
      refine W.widen (k := 0) (n := 0) (by decide) (by decide) ?_
      exact W.iret (v := (-2)) hx hb hr (fun t ht hW => ⟨⟨(-2), (-2), rfl, ⟨rfl, trivial⟩, ⟨kn, slast, srow, cup, clast, cpeak, cptick, fw, ft, fr, fg, cx, (xrng rfl (by omega) (by omega)), (xwk_rng h_srow (by decide) (by decide)), (xrng rfl (by omega) (by omega)), (xwk_rng h_fw (by decide) (by decide)), (xwk_rng h_ft (by decide) (by decide)), (xwk_rng h_fr (by decide) (by decide)), (xwk_rng h_fg (by decide) (by decide)), hM, h_le, xB_of9 ht hW hP hK hD [0, 1, 2, 3, 4, 5, 6, 7, 8, 9, 10, 11, 12, 13] (by decide +kernel) rfl⟩⟩, hS.F ht⟩) hS.2.2 dX10_stagger_40
  · skip
    have i_1 : ¬ (a0.toInt = 0) := fun h9 => c_1 ((ieq rfl (by decide)).mpr h9)
    have hM : M_x_stagger a0 rails kn cpeak cptick cx limit pn pt fr fg rt ft fw srow slast cup clast dead = (K_x_stagger_3 a0 kn slast srow cup clast cpeak cptick fw ft fr fg cx rails limit pn pt rt dead) := (show M_x_stagger a0 rails kn cpeak cptick cx limit pn pt fr fg rt ft fw srow slast cup clast dead = (if a0.toInt = 0 then (K_x_stagger_2 rails kn cpeak cptick cx limit pn pt fr fg rt ft fw srow slast cup clast dead) else (K_x_stagger_3 a0 kn slast srow cup clast cpeak cptick fw ft fr fg cx rails limit pn pt rt dead)) from hM).trans (if_neg i_1)
    refine lv_iload_n hx hb dX10_stagger_4 rfl (lv_at hl 1 rfl) ?_
    refine lv_bipush (v := 10) hx hb dX10_stagger_5 (by decide) ?_
    refine lv_icmp_lt (tgt := 24) hx hb dX10_stagger_7 (by decide) (fun c_18 => ?_) (fun c_18 => ?_)
    · skip
      have i_18 : a0.toInt < 10 := (ilt rfl (by decide)).mp c_18
      have hM : M_x_stagger a0 rails kn cpeak cptick cx limit pn pt fr fg rt ft fw srow slast cup clast dead = (K_x_stagger_8 kn slast srow cup clast cpeak cptick fw ft fr fg cx) := (show M_x_stagger a0 rails kn cpeak cptick cx limit pn pt fr fg rt ft fw srow slast cup clast dead = (if a0.toInt < 10 then (K_x_stagger_8 kn slast srow cup clast cpeak cptick fw ft fr fg cx) else (K_x_stagger_9 a0 rails kn cpeak cptick cx limit pn pt fr fg rt ft fw srow slast cup clast dead)) from hM).trans (if_pos i_18)
      refine lv_iconst (v := (-1)) hx hb dX10_stagger_24 (by decide) ?_
      refine W.widen (k := 0) (n := 0) (by decide) (by decide) ?_
      exact W.iret (v := (-1)) hx hb hr (fun t ht hW => ⟨⟨(-1), (-1), rfl, ⟨rfl, trivial⟩, ⟨kn, slast, srow, cup, clast, cpeak, cptick, fw, ft, fr, fg, cx, (xrng rfl (by omega) (by omega)), (xwk_rng h_srow (by decide) (by decide)), (xrng rfl (by omega) (by omega)), (xwk_rng h_fw (by decide) (by decide)), (xwk_rng h_ft (by decide) (by decide)), (xwk_rng h_fr (by decide) (by decide)), (xwk_rng h_fg (by decide) (by decide)), hM, h_le, xB_of9 ht hW hP hK hD [0, 1, 2, 3, 4, 5, 6, 7, 8, 9, 10, 11, 12, 13] (by decide +kernel) rfl⟩⟩, hS.F ht⟩) hS.2.2 dX10_stagger_25
    · skip
      have i_18 : ¬ (a0.toInt < 10) := fun h9 => c_18 ((ilt rfl (by decide)).mpr h9)
      have hM : M_x_stagger a0 rails kn cpeak cptick cx limit pn pt fr fg rt ft fw srow slast cup clast dead = (K_x_stagger_9 a0 rails kn cpeak cptick cx limit pn pt fr fg rt ft fw srow slast cup clast dead) := (show M_x_stagger a0 rails kn cpeak cptick cx limit pn pt fr fg rt ft fw srow slast cup clast dead = (if a0.toInt < 10 then (K_x_stagger_8 kn slast srow cup clast cpeak cptick fw ft fr fg cx) else (K_x_stagger_9 a0 rails kn cpeak cptick cx limit pn pt fr fg rt ft fw srow slast cup clast dead)) from hM).trans (if_neg i_18)
      refine lv_iload_n hx hb dX10_stagger_10 rfl (lv_at hl 1 rfl) ?_
      refine lv_bipush (v := 10) hx hb dX10_stagger_11 (by decide) ?_
      refine lv_aload_n hx hb dX10_stagger_13 rfl (lv_at hl 0 rfl) ?_
      refine va_get (D := D) (ci := 9) (v := .ref pl) (C := RX10) (T := TX10) (N := 10) hx hb hts (fun w h => tbC w (tbfX10 w h)) hown hK hP 0 rfl rfl 7 (by decide) (hts (.fieldLink RX10 56 "PowerRails" "plan" "LPowerRails$Plan;") (tbC _ wd254)) (fun _ h9 => h9) rfl dX10_stagger_14 ?_
      refine va_get (D := D) (ci := 2) (v := .int rails) (C := RX3) (T := TX3) (N := 6) hx hb hts (fun w h => tbC w (tbfX3 w h)) hown hK hP 9 rfl rfl 2 (by decide) (hts (.fieldLink RX10 117 "PowerRails$Plan" "rails" "I") (tbC _ wd210)) (fun _ h9 => h9) rfl dX10_stagger_17 ?_
      refine lv_iadd hx hb dX10_stagger_20 ?_
      refine lv_topi (fun v19 ev19 => ?_)
      have tv19 : v19.toInt = (10 + rails.toInt) := (congrArg Int32.toInt ev19).trans (xadd (by decide) rfl (by omega) (by omega))
      refine lv_icmp_lt (tgt := 26) hx hb dX10_stagger_21 (by decide) (fun c_20 => ?_) (fun c_20 => ?_)
      · skip
        have i_20 : a0.toInt < (10 + rails.toInt) := (ilt rfl tv19).mp c_20
        have hM : M_x_stagger a0 rails kn cpeak cptick cx limit pn pt fr fg rt ft fw srow slast cup clast dead = (K_x_stagger_10 rails a0 kn cpeak cptick cx limit pn pt fr fg rt ft fw srow slast cup clast dead) := (show M_x_stagger a0 rails kn cpeak cptick cx limit pn pt fr fg rt ft fw srow slast cup clast dead = (if a0.toInt < (10 + rails.toInt) then (K_x_stagger_10 rails a0 kn cpeak cptick cx limit pn pt fr fg rt ft fw srow slast cup clast dead) else (K_x_stagger_11 kn slast srow cup clast cpeak cptick fw ft fr fg cx)) from hM).trans (if_pos i_20)
        refine lv_aload_n hx hb dX10_stagger_26 rfl (lv_at hl 0 rfl) ?_
        refine va_get (D := D) (ci := 9) (v := .ref pl) (C := RX10) (T := TX10) (N := 10) hx hb hts (fun w h => tbC w (tbfX10 w h)) hown hK hP 0 rfl rfl 7 (by decide) (hts (.fieldLink RX10 56 "PowerRails" "plan" "LPowerRails$Plan;") (tbC _ wd254)) (fun _ h9 => h9) rfl dX10_stagger_27 ?_
        refine va_get (D := D) (ci := 2) (v := .int rails) (C := RX3) (T := TX3) (N := 6) hx hb hts (fun w h => tbC w (tbfX3 w h)) hown hK hP 9 rfl rfl 2 (by decide) (hts (.fieldLink RX10 117 "PowerRails$Plan" "rails" "I") (tbC _ wd210)) (fun _ h9 => h9) rfl dX10_stagger_30 ?_
        refine lv_bipush (v := 6) hx hb dX10_stagger_33 (by decide) ?_
        refine lv_icmp_le (tgt := 41) hx hb dX10_stagger_35 (by decide) (fun c_21 => ?_) (fun c_21 => ?_)
        · skip
          have i_21 : rails.toInt ≤ 6 := (ile rfl (by decide)).mp c_21
          have hM : M_x_stagger a0 rails kn cpeak cptick cx limit pn pt fr fg rt ft fw srow slast cup clast dead = (K_x_stagger_12 a0 kn cpeak cptick cx limit rails pn pt fr fg rt ft fw srow slast cup clast dead) := (show M_x_stagger a0 rails kn cpeak cptick cx limit pn pt fr fg rt ft fw srow slast cup clast dead = (if rails.toInt ≤ 6 then (K_x_stagger_12 a0 kn cpeak cptick cx limit rails pn pt fr fg rt ft fw srow slast cup clast dead) else (K_x_stagger_13 kn slast srow cup clast cpeak cptick fw ft fr fg cx)) from hM).trans (if_pos i_21)
          refine lv_aload_n hx hb dX10_stagger_41 rfl (lv_at hl 0 rfl) ?_
          refine va_get (D := D) (ci := 9) (v := .ref sg) (C := RX10) (T := TX10) (N := 10) hx hb hts (fun w h => tbC w (tbfX10 w h)) hown hK hP 0 rfl rfl 5 (by decide) (hts (.fieldLink RX10 42 "PowerRails" "staggering" "LPowerRails$Stagger;") (tbC _ wd252)) (fun _ h9 => h9) rfl dX10_stagger_42 ?_
          refine lv_aload_n hx hb dX10_stagger_45 rfl (lv_at hl 0 rfl) ?_
          refine va_get (D := D) (ci := 9) (v := .ref pl) (C := RX10) (T := TX10) (N := 10) hx hb hts (fun w h => tbC w (tbfX10 w h)) hown hK hP 0 rfl rfl 7 (by decide) (hts (.fieldLink RX10 56 "PowerRails" "plan" "LPowerRails$Plan;") (tbC _ wd254)) (fun _ h9 => h9) rfl dX10_stagger_46 ?_
          refine lv_aload_n hx hb dX10_stagger_49 rfl (lv_at hl 0 rfl) ?_
          obtain ⟨hPc, hDc, hFc, hC9⟩ := xpk (wc := W_alive cI cJ cZ cG cH xo tp rd rn co wy sg sh pl sp lf pna pta rails limit retry behind hy rsa ria raa rta rga dead key tick held tries trips ldraw gdraw) hP hD hS hA [0, 9, 12] (by decide +kernel) rfl
          refine va_calli (va_runV (As := []) (rest := [.ref pl, .ref sg]) ⟨hx, hb, hml, hown, hts⟩ (c_alive l D cI cJ cZ cG cH s.heap.size xo tp rd rn co wy sg sh pl sp lf pna pta rails limit retry behind hy rsa ria raa rta rga dead key tick held tries trips ldraw gdraw (xrng rfl (by omega) (by omega)) (xrng rfl (by omega) (by omega))) (cwV 0 hts (xGV tbC wd523 wd524 wd2 wd50 wd1046) rfl rfl rfl (by decide +kernel) ⟨Nat.le_of_ble_eq_true rfl, Nat.le_of_ble_eq_true rfl⟩) ⟨xPc_blind, va_recv hK hPc (ci := 9) (q0 := 0) rfl rfl, xPc_pre hPc hK hDc⟩ rfl rfl hl.1 rfl (lv_room (Nat.le_of_ble_eq_true rfl)) dX10_stagger_50 ⟨Nat.le_of_ble_eq_true rfl, Nat.le_of_ble_eq_true rfl⟩) hS (fun q _ h => hFc q h) hFc (fun r22 u t H1 locs ht hvm hw22 hB hz1 hk1 hS => ?_)
          obtain ⟨hru9, hw22⟩ := hw22
          subst hru9
          obtain ⟨hf22_0, hP1, hK1, hD1⟩ := hB
          rw [ht] at hP1
          obtain ⟨hP, hD⟩ : xPD D A [oX7 sg co srwa kn slast, oAI srwa cI 8 srow, oX0 co fwa fta fra fga cxa cup clast cpeak cptick, oAI fwa cI 8 fw, oAI fta cI 8 ft, oAI fra cI 8 fr, oAI fga cI 8 fg, oAI cxa cI 145 cx, oAI pna cI 64 pn, oAJ pta cJ 64 pt, oAI rta cI 8 rt, oX10 xo tp rd rn co wy sg sh pl sp lf, oX3 pl pna pta rails limit retry behind, oX5 rn hy rsa ria raa rta rga dead key tick held tries trips ldraw gdraw] H1 := xjn 11 hP hD [0, 9, 12] [1, 2, 3, 4, 5, 6, 7, 8, 10, 11, 13] hC9 rfl (by decide +kernel) (by decide +kernel) hk1 hFc hP1 hD1
          generalize H1 = H at hP hS ⊢
          have hf22_0 : M_alive dead rails = (r22) := hf22_0
          have hw22 : 0 ≤ r22.toInt ∧ r22.toInt ≤ 255 := hw22
          have h9M := congrArg (fun t9 => (K_x_stagger_14 a0 kn cpeak cptick cx limit rails pn pt t9 fr fg rt ft fw srow slast cup clast)) hf22_0
          have hM : M_x_stagger a0 rails kn cpeak cptick cx limit pn pt fr fg rt ft fw srow slast cup clast dead = (K_x_stagger_14 a0 kn cpeak cptick cx limit rails pn pt r22 fr fg rt ft fw srow slast cup clast) := (show M_x_stagger a0 rails kn cpeak cptick cx limit pn pt fr fg rt ft fw srow slast cup clast dead = ((fun t9 => (K_x_stagger_14 a0 kn cpeak cptick cx limit rails pn pt t9 fr fg rt ft fw srow slast cup clast)) (M_alive dead rails)) from hM).trans h9M
          refine lv_aload_n hx hb dX10_stagger_53 rfl (lv_at hl 0 rfl) ?_
          refine va_get (D := D) (ci := 9) (v := .ref rn) (C := RX10) (T := TX10) (N := 10) hx hb hts (fun w h => tbC w (tbfX10 w h)) hown hK hP 11 rfl rfl 2 (by decide) (hts (.fieldLink RX10 19 "PowerRails" "run" "LPowerRails$Run;") (tbC _ wd249)) (fun _ h9 => h9) rfl dX10_stagger_54 ?_
          refine va_get (D := D) (ci := 4) (v := .ref rta) (C := RX5) (T := TX5) (N := 14) hx hb hts (fun w h => tbC w (tbfX5 w h)) hown hK hP 13 rfl rfl 4 (by decide) (hts (.fieldLink RX10 150 "PowerRails$Run" "takes" "[I") (tbC _ wd114)) (fun _ h9 => h9) rfl dX10_stagger_57 ?_
          obtain ⟨hPc, hDc, hFc, hC9⟩ := xpk (wc := W_findRow cI cJ cZ cG cH sg pl r22 rta co srwa kn slast srow fwa fta fra fga cxa cup clast cpeak cptick fw ft fr fg cx pna pta rails limit retry behind pn pt rt) hP hD hS hA [0, 1, 2, 3, 4, 5, 6, 7, 12, 8, 9, 10] (by decide +kernel) rfl
          refine va_callv (va_runV (As := [.ref pl, .int r22, .ref rta]) (rest := []) ⟨hx, hb, hml, hown, hts⟩ (c_findRow l D cI cJ cZ cG cH H.size sg pl r22 rta co srwa kn slast srow fwa fta fra fga cxa cup clast cpeak cptick fw ft fr fg cx pna pta rails limit retry behind pn pt rt (xrng rfl (by omega) (by omega)) (xwk_rng h_srow (by decide) (by decide)) (xrng rfl (by omega) (by omega)) (xwk_rng h_fw (by decide) (by decide)) (xwk_rng h_ft (by decide) (by decide)) (xwk_rng h_fr (by decide) (by decide)) (xwk_rng h_fg (by decide) (by decide)) (xrng rfl (by omega) (by omega)) (xwk_rng h_pn (by decide) (by decide)) (xwk_rng h_rt (by decide) (by decide)) h_le) (cwV 3 hts (xGV tbC wd589 wd590 wd591 wd56 wd1064) rfl rfl rfl (by decide +kernel) ⟨Nat.le_of_ble_eq_true rfl, Nat.le_of_ble_eq_true rfl⟩) ⟨xPc_blind, va_recv hK hPc (ci := 6) (q0 := 0) rfl rfl, xPc_pre hPc hK hDc⟩ rfl rfl hl.1 rfl (lv_room (Nat.le_of_ble_eq_true rfl)) dX10_stagger_60 ⟨Nat.le_of_ble_eq_true rfl, Nat.le_of_ble_eq_true rfl⟩) hS (fun q _ h => hFc q h) hFc (fun u t H1 locs ht hvm hw23 hB hz1 hk1 hS => ?_)
          revert hB
          refine xex12r (fun kn_24 slast_25 srow_26 cup_27 clast_28 cpeak_29 cptick_30 fw_31 ft_32 fr_33 fg_34 cx_35 => ?_)
          refine xan8r (fun hf35_0 hf35_1 hf35_2 hf35_3 hf35_4 hf35_5 hf35_6 => ?_)
          refine xan5r (fun hf35_7 hf35_8 hP1 hK1 hD1 => ?_)
          rw [ht] at hP1
          obtain ⟨hP, hD⟩ : xPD D A [oX10 xo tp rd rn co wy sg sh pl sp lf, oX5 rn hy rsa ria raa rta rga dead key tick held tries trips ldraw gdraw, oX7 sg co srwa kn_24 slast_25, oAI srwa cI 8 srow_26, oX0 co fwa fta fra fga cxa cup_27 clast_28 cpeak_29 cptick_30, oAI fwa cI 8 fw_31, oAI fta cI 8 ft_32, oAI fra cI 8 fr_33, oAI fga cI 8 fg_34, oAI cxa cI 145 cx_35, oX3 pl pna pta rails limit retry behind, oAI pna cI 64 pn, oAJ pta cJ 64 pt, oAI rta cI 8 rt] H1 := xjn 2 hP hD [0, 1, 2, 3, 4, 5, 6, 7, 12, 8, 9, 10] [11, 13] hC9 rfl (by decide +kernel) (by decide +kernel) hk1 hFc hP1 hD1
          generalize H1 = H at hP hS ⊢
          have hf35_0 : 0 ≤ kn_24.toInt ∧ kn_24.toInt ≤ 1 := hf35_0
          have hf35_1 : ∀ j, j < 8 → 0 ≤ (srow_26 j).toInt ∧ (srow_26 j).toInt ≤ 511 := hf35_1
          have hf35_2 : 0 ≤ clast_28.toInt ∧ clast_28.toInt ≤ 144 := hf35_2
          have hf35_3 : ∀ j, j < 8 → 0 ≤ (fw_31 j).toInt ∧ (fw_31 j).toInt ≤ 511 := hf35_3
          have hf35_4 : ∀ j, j < 8 → 0 ≤ (ft_32 j).toInt ∧ (ft_32 j).toInt ≤ 511 := hf35_4
          have hf35_5 : ∀ j, j < 8 → 0 ≤ (fr_33 j).toInt ∧ (fr_33 j).toInt ≤ 655 := hf35_5
          have hf35_6 : ∀ j, j < 8 → 0 ≤ (fg_34 j).toInt ∧ (fg_34 j).toInt ≤ 1166 := hf35_6
          have hf35_7 : M_findRow kn cpeak cptick cx limit rails pn pt r22 fr fg rt ft fw srow slast cup clast = (kn_24, slast_25, srow_26, cup_27, clast_28, cpeak_29, cptick_30, fw_31, ft_32, fr_33, fg_34, cx_35) := hf35_7
          have hf35_8 : ∀ j, j < 8 → (fr_33 j).toInt ≤ (fg_34 j).toInt := hf35_8
          have h9M := congrArg (fun t9 => (K_x_stagger_15 t9.2.1 t9.1 t9.2.2.1 t9.2.2.2.1 t9.2.2.2.2.1 t9.2.2.2.2.2.1 t9.2.2.2.2.2.2.1 t9.2.2.2.2.2.2.2.1 t9.2.2.2.2.2.2.2.2.1 t9.2.2.2.2.2.2.2.2.2.1 t9.2.2.2.2.2.2.2.2.2.2.1 t9.2.2.2.2.2.2.2.2.2.2.2 a0)) hf35_7
          have hM : M_x_stagger a0 rails kn cpeak cptick cx limit pn pt fr fg rt ft fw srow slast cup clast dead = (K_x_stagger_15 slast_25 kn_24 srow_26 cup_27 clast_28 cpeak_29 cptick_30 fw_31 ft_32 fr_33 fg_34 cx_35 a0) := (show M_x_stagger a0 rails kn cpeak cptick cx limit pn pt fr fg rt ft fw srow slast cup clast dead = ((fun t9 => (K_x_stagger_15 t9.2.1 t9.1 t9.2.2.1 t9.2.2.2.1 t9.2.2.2.2.1 t9.2.2.2.2.2.1 t9.2.2.2.2.2.2.1 t9.2.2.2.2.2.2.2.1 t9.2.2.2.2.2.2.2.2.1 t9.2.2.2.2.2.2.2.2.2.1 t9.2.2.2.2.2.2.2.2.2.2.1 t9.2.2.2.2.2.2.2.2.2.2.2 a0)) (M_findRow kn cpeak cptick cx limit rails pn pt r22 fr fg rt ft fw srow slast cup clast)) from hM).trans h9M
          refine lv_iload_n hx hb dX10_stagger_63 rfl (lv_at hl 1 rfl) ?_
          refine lv_if_eq (tgt := 79) hx hb dX10_stagger_64 (by decide) (fun c_36 => ?_) (fun c_36 => ?_)
          · skip
            have i_36 : a0.toInt = 0 := (ieq rfl (by decide)).mp c_36
            exfalso
            omega
          · skip
            have i_36 : ¬ (a0.toInt = 0) := fun h9 => c_36 ((ieq rfl (by decide)).mpr h9)
            refine lv_aload_n hx hb dX10_stagger_67 rfl (lv_at hl 0 rfl) ?_
            refine va_get (D := D) (ci := 9) (v := .ref sg) (C := RX10) (T := TX10) (N := 10) hx hb hts (fun w h => tbC w (tbfX10 w h)) hown hK hP 0 rfl rfl 5 (by decide) (hts (.fieldLink RX10 42 "PowerRails" "staggering" "LPowerRails$Stagger;") (tbC _ wd252)) (fun _ h9 => h9) rfl dX10_stagger_68 ?_
            refine va_get (D := D) (ci := 6) (v := .int slast_25) (C := RX7) (T := TX7) (N := 4) hx hb hts (fun w h => tbC w (tbfX7 w h)) hown hK hP 2 rfl rfl 3 (by decide) (hts (.fieldLink RX10 263 "PowerRails$Stagger" "last" "I") (tbC _ wd182)) (fun _ h9 => h9) rfl dX10_stagger_71 ?_
            refine lv_bipush (v := (-4)) hx hb dX10_stagger_74 (by decide) ?_
            refine lv_icmp_ne (tgt := 87) hx hb dX10_stagger_76 (by decide) (fun c_37 => ?_) (fun c_37 => ?_)
            · skip
              have i_37 : ¬ (slast_25.toInt = (-4)) := fun h9 => c_37 ((ieq rfl (by decide)).mpr h9)
              have hM : M_x_stagger a0 rails kn cpeak cptick cx limit pn pt fr fg rt ft fw srow slast cup clast dead = (K_x_stagger_16 srow_26 a0 kn_24 slast_25 cup_27 clast_28 cpeak_29 cptick_30 fw_31 ft_32 fr_33 fg_34 cx_35) := (show M_x_stagger a0 rails kn cpeak cptick cx limit pn pt fr fg rt ft fw srow slast cup clast dead = (if slast_25.toInt = (-4) then (K_x_stagger_17 slast_25 kn_24 srow_26 cup_27 clast_28 cpeak_29 cptick_30 fw_31 ft_32 fr_33 fg_34 cx_35) else (K_x_stagger_16 srow_26 a0 kn_24 slast_25 cup_27 clast_28 cpeak_29 cptick_30 fw_31 ft_32 fr_33 fg_34 cx_35)) from hM).trans (if_neg i_37)
              refine lv_aload_n hx hb dX10_stagger_87 rfl (lv_at hl 0 rfl) ?_
              refine va_get (D := D) (ci := 9) (v := .ref sg) (C := RX10) (T := TX10) (N := 10) hx hb hts (fun w h => tbC w (tbfX10 w h)) hown hK hP 0 rfl rfl 5 (by decide) (hts (.fieldLink RX10 42 "PowerRails" "staggering" "LPowerRails$Stagger;") (tbC _ wd252)) (fun _ h9 => h9) rfl dX10_stagger_88 ?_
              refine va_get (D := D) (ci := 6) (v := .ref srwa) (C := RX7) (T := TX7) (N := 4) hx hb hts (fun w h => tbC w (tbfX7 w h)) hown hK hP 2 rfl rfl 1 (by decide) (hts (.fieldLink RX10 266 "PowerRails$Stagger" "row" "[I") (tbC _ wd178)) (fun _ h9 => h9) rfl dX10_stagger_91 ?_
              refine lv_iload_n hx hb dX10_stagger_94 rfl (lv_at hl 1 rfl) ?_
              refine lv_bipush (v := 10) hx hb dX10_stagger_95 (by decide) ?_
              refine lv_isub hx hb dX10_stagger_97 ?_
              refine lv_topi (fun v38 ev38 => ?_)
              have tv38 : v38.toInt = (a0.toInt - 10) := (congrArg Int32.toInt ev38).trans (xsub rfl (by decide) (by omega) (by omega))
              refine va_iald hx hb hK hP 3 0 rfl rfl (vp_in_iff.mpr (by rw [tv38]; omega)) dX10_stagger_98 ?_
              refine lv_topi (fun v39 ev39 => ?_)
              have rv39 : 0 ≤ v39.toInt ∧ v39.toInt ≤ 511 := xrd ev39 hf35_1 (xinK (vp_in_iff.mpr (by rw [tv38]; omega)))
              refine W.widen (k := 0) (n := 0) (by decide) (by decide) ?_
              exact W.iret (v := v39) hx hb hr (fun t ht hW => ⟨⟨v39, v39, rfl, ⟨rfl, trivial⟩, ⟨kn_24, slast_25, srow_26, cup_27, clast_28, cpeak_29, cptick_30, fw_31, ft_32, fr_33, fg_34, cx_35, (xrng rfl (by omega) (by omega)), (xwk_rng hf35_1 (by decide) (by decide)), (xrng rfl (by omega) (by omega)), (xwk_rng hf35_3 (by decide) (by decide)), (xwk_rng hf35_4 (by decide) (by decide)), (xwk_rng hf35_5 (by decide) (by decide)), (xwk_rng hf35_6 (by decide) (by decide)), (by rw [ev39, ev38]; exact hM), hf35_8, xB_of9 ht hW hP hK hD [0, 2, 3, 4, 5, 6, 7, 8, 9, 10, 11, 12, 1, 13] (by decide +kernel) rfl⟩⟩, hS.F ht⟩) hS.2.2 dX10_stagger_99
            · skip
              have i_37 : slast_25.toInt = (-4) := (ieq rfl (by decide)).mp c_37
              have hM : M_x_stagger a0 rails kn cpeak cptick cx limit pn pt fr fg rt ft fw srow slast cup clast dead = (K_x_stagger_17 slast_25 kn_24 srow_26 cup_27 clast_28 cpeak_29 cptick_30 fw_31 ft_32 fr_33 fg_34 cx_35) := (show M_x_stagger a0 rails kn cpeak cptick cx limit pn pt fr fg rt ft fw srow slast cup clast dead = (if slast_25.toInt = (-4) then (K_x_stagger_17 slast_25 kn_24 srow_26 cup_27 clast_28 cpeak_29 cptick_30 fw_31 ft_32 fr_33 fg_34 cx_35) else (K_x_stagger_16 srow_26 a0 kn_24 slast_25 cup_27 clast_28 cpeak_29 cptick_30 fw_31 ft_32 fr_33 fg_34 cx_35)) from hM).trans (if_pos i_37)
              refine lv_aload_n hx hb dX10_stagger_79 rfl (lv_at hl 0 rfl) ?_
              refine va_get (D := D) (ci := 9) (v := .ref sg) (C := RX10) (T := TX10) (N := 10) hx hb hts (fun w h => tbC w (tbfX10 w h)) hown hK hP 0 rfl rfl 5 (by decide) (hts (.fieldLink RX10 42 "PowerRails" "staggering" "LPowerRails$Stagger;") (tbC _ wd252)) (fun _ h9 => h9) rfl dX10_stagger_80 ?_
              refine va_get (D := D) (ci := 6) (v := .int slast_25) (C := RX7) (T := TX7) (N := 4) hx hb hts (fun w h => tbC w (tbfX7 w h)) hown hK hP 2 rfl rfl 3 (by decide) (hts (.fieldLink RX10 263 "PowerRails$Stagger" "last" "I") (tbC _ wd182)) (fun _ h9 => h9) rfl dX10_stagger_83 ?_
              refine W.widen (k := 0) (n := 0) (by decide) (by decide) ?_
              exact W.iret (v := slast_25) hx hb hr (fun t ht hW => ⟨⟨slast_25, slast_25, rfl, ⟨rfl, trivial⟩, ⟨kn_24, slast_25, srow_26, cup_27, clast_28, cpeak_29, cptick_30, fw_31, ft_32, fr_33, fg_34, cx_35, (xrng rfl (by omega) (by omega)), (xwk_rng hf35_1 (by decide) (by decide)), (xrng rfl (by omega) (by omega)), (xwk_rng hf35_3 (by decide) (by decide)), (xwk_rng hf35_4 (by decide) (by decide)), (xwk_rng hf35_5 (by decide) (by decide)), (xwk_rng hf35_6 (by decide) (by decide)), hM, hf35_8, xB_of9 ht hW hP hK hD [0, 2, 3, 4, 5, 6, 7, 8, 9, 10, 11, 12, 1, 13] (by decide +kernel) rfl⟩⟩, hS.F ht⟩) hS.2.2 dX10_stagger_86
        · skip
          have i_21 : ¬ (rails.toInt ≤ 6) := fun h9 => c_21 ((ile rfl (by decide)).mpr h9)
          have hM : M_x_stagger a0 rails kn cpeak cptick cx limit pn pt fr fg rt ft fw srow slast cup clast dead = (K_x_stagger_13 kn slast srow cup clast cpeak cptick fw ft fr fg cx) := (show M_x_stagger a0 rails kn cpeak cptick cx limit pn pt fr fg rt ft fw srow slast cup clast dead = (if rails.toInt ≤ 6 then (K_x_stagger_12 a0 kn cpeak cptick cx limit rails pn pt fr fg rt ft fw srow slast cup clast dead) else (K_x_stagger_13 kn slast srow cup clast cpeak cptick fw ft fr fg cx)) from hM).trans (if_neg i_21)
          refine lv_bipush (v := (-2)) hx hb dX10_stagger_38 (by decide) ?_
          refine W.widen (k := 0) (n := 0) (by decide) (by decide) ?_
          exact W.iret (v := (-2)) hx hb hr (fun t ht hW => ⟨⟨(-2), (-2), rfl, ⟨rfl, trivial⟩, ⟨kn, slast, srow, cup, clast, cpeak, cptick, fw, ft, fr, fg, cx, (xrng rfl (by omega) (by omega)), (xwk_rng h_srow (by decide) (by decide)), (xrng rfl (by omega) (by omega)), (xwk_rng h_fw (by decide) (by decide)), (xwk_rng h_ft (by decide) (by decide)), (xwk_rng h_fr (by decide) (by decide)), (xwk_rng h_fg (by decide) (by decide)), hM, h_le, xB_of9 ht hW hP hK hD [0, 1, 2, 3, 4, 5, 6, 7, 8, 9, 10, 11, 12, 13] (by decide +kernel) rfl⟩⟩, hS.F ht⟩) hS.2.2 dX10_stagger_40
      · skip
        have i_20 : ¬ (a0.toInt < (10 + rails.toInt)) := fun h9 => c_20 ((ilt rfl tv19).mpr h9)
        have hM : M_x_stagger a0 rails kn cpeak cptick cx limit pn pt fr fg rt ft fw srow slast cup clast dead = (K_x_stagger_11 kn slast srow cup clast cpeak cptick fw ft fr fg cx) := (show M_x_stagger a0 rails kn cpeak cptick cx limit pn pt fr fg rt ft fw srow slast cup clast dead = (if a0.toInt < (10 + rails.toInt) then (K_x_stagger_10 rails a0 kn cpeak cptick cx limit pn pt fr fg rt ft fw srow slast cup clast dead) else (K_x_stagger_11 kn slast srow cup clast cpeak cptick fw ft fr fg cx)) from hM).trans (if_neg i_20)
        refine lv_iconst (v := (-1)) hx hb dX10_stagger_24 (by decide) ?_
        refine W.widen (k := 0) (n := 0) (by decide) (by decide) ?_
        exact W.iret (v := (-1)) hx hb hr (fun t ht hW => ⟨⟨(-1), (-1), rfl, ⟨rfl, trivial⟩, ⟨kn, slast, srow, cup, clast, cpeak, cptick, fw, ft, fr, fg, cx, (xrng rfl (by omega) (by omega)), (xwk_rng h_srow (by decide) (by decide)), (xrng rfl (by omega) (by omega)), (xwk_rng h_fw (by decide) (by decide)), (xwk_rng h_ft (by decide) (by decide)), (xwk_rng h_fr (by decide) (by decide)), (xwk_rng h_fg (by decide) (by decide)), hM, h_le, xB_of9 ht hW hP hK hD [0, 1, 2, 3, 4, 5, 6, 7, 8, 9, 10, 11, 12, 13] (by decide +kernel) rfl⟩⟩, hS.F ht⟩) hS.2.2 dX10_stagger_25
def K_x_adopt_6 (slast_5 : Int32) (kn_4 : Int32) (srow_6 : Nat → Int32) (cup_7 : Int32) (clast_8 : Int32) (cpeak_9 : Int32) (cptick_10 : Int32) (fw_11 : Nat → Int32) (ft_12 : Nat → Int32) (fr_13 : Nat → Int32) (fg_14 : Nat → Int32) (cx_15 : Nat → Int32) (pn : Nat → Int32) (pk : Int32) (wk : Nat → Int32) : (Int32) × (Int32) × (Int32) × (Nat → Int32) × (Int32) × (Int32) × (Int32) × (Int32) × (Nat → Int32) × (Nat → Int32) × (Nat → Int32) × (Nat → Int32) × (Nat → Int32) × (Nat → Int32) × (Int32) × (Nat → Int32) := (slast_5, kn_4, slast_5, srow_6, cup_7, clast_8, cpeak_9, cptick_10, fw_11, ft_12, fr_13, fg_14, cx_15, pn, pk, wk)
def K_x_adopt_9 (slast_5 : Int32) (srow_6 : Nat → Int32) (cup_7 : Int32) (clast_8 : Int32) (cpeak_9 : Int32) (cptick_10 : Int32) (fw_11 : Nat → Int32) (ft_12 : Nat → Int32) (fr_13 : Nat → Int32) (fg_14 : Nat → Int32) (cx_15 : Nat → Int32) (pn_18 : Nat → Int32) (wk_20 : Nat → Int32) : (Int32) × (Int32) × (Int32) × (Nat → Int32) × (Int32) × (Int32) × (Int32) × (Int32) × (Nat → Int32) × (Nat → Int32) × (Nat → Int32) × (Nat → Int32) × (Nat → Int32) × (Nat → Int32) × (Int32) × (Nat → Int32) := (slast_5, (0 : Int32), slast_5, srow_6, cup_7, clast_8, cpeak_9, cptick_10, fw_11, ft_12, fr_13, fg_14, cx_15, pn_18, (0 : Int32), wk_20)
def K_x_adopt_8 (slast_5 : Int32) (srow_6 : Nat → Int32) (cup_7 : Int32) (clast_8 : Int32) (cpeak_9 : Int32) (cptick_10 : Int32) (fw_11 : Nat → Int32) (ft_12 : Nat → Int32) (fr_13 : Nat → Int32) (fg_14 : Nat → Int32) (cx_15 : Nat → Int32) (pn_18 : Nat → Int32) (wk : Nat → Int32) : (Int32) × (Int32) × (Int32) × (Nat → Int32) × (Int32) × (Int32) × (Int32) × (Int32) × (Nat → Int32) × (Nat → Int32) × (Nat → Int32) × (Nat → Int32) × (Nat → Int32) × (Nat → Int32) × (Int32) × (Nat → Int32) := ((fun t9 => (K_x_adopt_9 slast_5 srow_6 cup_7 clast_8 cpeak_9 cptick_10 fw_11 ft_12 fr_13 fg_14 cx_15 pn_18 t9)) (M_forgetReckoned wk))
def K_x_adopt_7 (slast_5 : Int32) (srow_6 : Nat → Int32) (cup_7 : Int32) (clast_8 : Int32) (cpeak_9 : Int32) (cptick_10 : Int32) (fw_11 : Nat → Int32) (ft_12 : Nat → Int32) (fr_13 : Nat → Int32) (fg_14 : Nat → Int32) (cx_15 : Nat → Int32) (wk : Nat → Int32) (rails : Int32) (pn : Nat → Int32) : (Int32) × (Int32) × (Int32) × (Nat → Int32) × (Int32) × (Int32) × (Int32) × (Int32) × (Nat → Int32) × (Nat → Int32) × (Nat → Int32) × (Nat → Int32) × (Nat → Int32) × (Nat → Int32) × (Int32) × (Nat → Int32) := ((fun t9 => (K_x_adopt_8 slast_5 srow_6 cup_7 clast_8 cpeak_9 cptick_10 fw_11 ft_12 fr_13 fg_14 cx_15 t9 wk)) (M_pSetWaits rails srow_6 pn))
def K_x_adopt_5 (slast_5 : Int32) (kn_4 : Int32) (srow_6 : Nat → Int32) (cup_7 : Int32) (clast_8 : Int32) (cpeak_9 : Int32) (cptick_10 : Int32) (fw_11 : Nat → Int32) (ft_12 : Nat → Int32) (fr_13 : Nat → Int32) (fg_14 : Nat → Int32) (cx_15 : Nat → Int32) (pn : Nat → Int32) (pk : Int32) (wk : Nat → Int32) (rails : Int32) : (Int32) × (Int32) × (Int32) × (Nat → Int32) × (Int32) × (Int32) × (Int32) × (Int32) × (Nat → Int32) × (Nat → Int32) × (Nat → Int32) × (Nat → Int32) × (Nat → Int32) × (Nat → Int32) × (Int32) × (Nat → Int32) := (if slast_5.toInt = (-4) then (K_x_adopt_6 slast_5 kn_4 srow_6 cup_7 clast_8 cpeak_9 cptick_10 fw_11 ft_12 fr_13 fg_14 cx_15 pn pk wk) else (K_x_adopt_7 slast_5 srow_6 cup_7 clast_8 cpeak_9 cptick_10 fw_11 ft_12 fr_13 fg_14 cx_15 wk rails pn))
def K_x_adopt_4 (pn : Nat → Int32) (pk : Int32) (wk : Nat → Int32) (rails : Int32) (kn : Int32) (cpeak : Int32) (cptick : Int32) (cx : Nat → Int32) (limit : Int32) (pt : Nat → Int64) (r2 : Int32) (fr : Nat → Int32) (fg : Nat → Int32) (rt : Nat → Int32) (ft : Nat → Int32) (fw : Nat → Int32) (srow : Nat → Int32) (slast : Int32) (cup : Int32) (clast : Int32) : (Int32) × (Int32) × (Int32) × (Nat → Int32) × (Int32) × (Int32) × (Int32) × (Int32) × (Nat → Int32) × (Nat → Int32) × (Nat → Int32) × (Nat → Int32) × (Nat → Int32) × (Nat → Int32) × (Int32) × (Nat → Int32) := ((fun t9 => (K_x_adopt_5 t9.2.1 t9.1 t9.2.2.1 t9.2.2.2.1 t9.2.2.2.2.1 t9.2.2.2.2.2.1 t9.2.2.2.2.2.2.1 t9.2.2.2.2.2.2.2.1 t9.2.2.2.2.2.2.2.2.1 t9.2.2.2.2.2.2.2.2.2.1 t9.2.2.2.2.2.2.2.2.2.2.1 t9.2.2.2.2.2.2.2.2.2.2.2 pn pk wk rails)) (M_findRow kn cpeak cptick cx limit rails pn pt r2 fr fg rt ft fw srow slast cup clast))
def K_x_adopt_2 (pn : Nat → Int32) (pk : Int32) (wk : Nat → Int32) (rails : Int32) (kn : Int32) (cpeak : Int32) (cptick : Int32) (cx : Nat → Int32) (limit : Int32) (pt : Nat → Int64) (fr : Nat → Int32) (fg : Nat → Int32) (rt : Nat → Int32) (ft : Nat → Int32) (fw : Nat → Int32) (srow : Nat → Int32) (slast : Int32) (cup : Int32) (clast : Int32) (dead : Int32) : (Int32) × (Int32) × (Int32) × (Nat → Int32) × (Int32) × (Int32) × (Int32) × (Int32) × (Nat → Int32) × (Nat → Int32) × (Nat → Int32) × (Nat → Int32) × (Nat → Int32) × (Nat → Int32) × (Int32) × (Nat → Int32) := ((fun t9 => (K_x_adopt_4 pn pk wk rails kn cpeak cptick cx limit pt t9 fr fg rt ft fw srow slast cup clast)) (M_alive dead rails))
def K_x_adopt_3 (kn : Int32) (slast : Int32) (srow : Nat → Int32) (cup : Int32) (clast : Int32) (cpeak : Int32) (cptick : Int32) (fw : Nat → Int32) (ft : Nat → Int32) (fr : Nat → Int32) (fg : Nat → Int32) (cx : Nat → Int32) (pn : Nat → Int32) (pk : Int32) (wk : Nat → Int32) : (Int32) × (Int32) × (Int32) × (Nat → Int32) × (Int32) × (Int32) × (Int32) × (Int32) × (Nat → Int32) × (Nat → Int32) × (Nat → Int32) × (Nat → Int32) × (Nat → Int32) × (Nat → Int32) × (Int32) × (Nat → Int32) := ((-2 : Int32), kn, slast, srow, cup, clast, cpeak, cptick, fw, ft, fr, fg, cx, pn, pk, wk)
def K_x_adopt_1 (rails : Int32) (pn : Nat → Int32) (pk : Int32) (wk : Nat → Int32) (kn : Int32) (cpeak : Int32) (cptick : Int32) (cx : Nat → Int32) (limit : Int32) (pt : Nat → Int64) (fr : Nat → Int32) (fg : Nat → Int32) (rt : Nat → Int32) (ft : Nat → Int32) (fw : Nat → Int32) (srow : Nat → Int32) (slast : Int32) (cup : Int32) (clast : Int32) (dead : Int32) : (Int32) × (Int32) × (Int32) × (Nat → Int32) × (Int32) × (Int32) × (Int32) × (Int32) × (Nat → Int32) × (Nat → Int32) × (Nat → Int32) × (Nat → Int32) × (Nat → Int32) × (Nat → Int32) × (Int32) × (Nat → Int32) := (if rails.toInt ≤ 6 then (K_x_adopt_2 pn pk wk rails kn cpeak cptick cx limit pt fr fg rt ft fw srow slast cup clast dead) else (K_x_adopt_3 kn slast srow cup clast cpeak cptick fw ft fr fg cx pn pk wk))
def M_x_adopt (rails : Int32) (pn : Nat → Int32) (pk : Int32) (wk : Nat → Int32) (kn : Int32) (cpeak : Int32) (cptick : Int32) (cx : Nat → Int32) (limit : Int32) (pt : Nat → Int64) (fr : Nat → Int32) (fg : Nat → Int32) (rt : Nat → Int32) (ft : Nat → Int32) (fw : Nat → Int32) (srow : Nat → Int32) (slast : Int32) (cup : Int32) (clast : Int32) (dead : Int32) : (Int32) × (Int32) × (Int32) × (Nat → Int32) × (Int32) × (Int32) × (Int32) × (Int32) × (Nat → Int32) × (Nat → Int32) × (Nat → Int32) × (Nat → Int32) × (Nat → Int32) × (Nat → Int32) × (Int32) × (Nat → Int32) := (K_x_adopt_1 rails pn pk wk kn cpeak cptick cx limit pt fr fg rt ft fw srow slast cup clast dead)
abbrev W_x_adopt (cI cJ cZ cG cH : ClassId) (xo : Nat) (tp : Nat) (rd : Nat) (rn : Nat) (co : Nat) (wy : Nat) (sg : Nat) (sh : Nat) (pl : Nat) (sp : Nat) (lf : Int32) (srwa : Nat) (kn : Int32) (slast : Int32) (srow : Nat → Int32) (fwa : Nat) (fta : Nat) (fra : Nat) (fga : Nat) (cxa : Nat) (cup : Int32) (clast : Int32) (cpeak : Int32) (cptick : Int32) (fw : Nat → Int32) (ft : Nat → Int32) (fr : Nat → Int32) (fg : Nat → Int32) (cx : Nat → Int32) (pna : Nat) (pta : Nat) (rails : Int32) (limit : Int32) (retry : Int32) (behind : Int32) (pn : Nat → Int32) (pt : Nat → Int64) (hy : Nat) (rsa : Nat) (ria : Nat) (raa : Nat) (rta : Nat) (rga : Nat) (dead : Int32) (key : Int32) (tick : Int32) (held : Int32) (tries : Int32) (trips : Int32) (ldraw : Int32) (gdraw : Int32) (rt : Nat → Int32) (wba : Nat) (wka : Nat) (pk : Int32) (gpk : Int32) (lpk : Int32) (wk : Nat → Int32) : va_W := [oX10 xo tp rd rn co wy sg sh pl sp lf, oX7 sg co srwa kn slast, oAI srwa cI 8 srow, oX0 co fwa fta fra fga cxa cup clast cpeak cptick, oAI fwa cI 8 fw, oAI fta cI 8 ft, oAI fra cI 8 fr, oAI fga cI 8 fg, oAI cxa cI 145 cx, oX3 pl pna pta rails limit retry behind, oAI pna cI 64 pn, oAJ pta cJ 64 pt, oX5 rn hy rsa ria raa rta rga dead key tick held tries trips ldraw gdraw, oAI rta cI 8 rt, oX9 wy co wba wka pk gpk lpk, oAI wka cZ 64 wk]
abbrev Q_x_adopt (D : va_G) (cI cJ cZ cG cH : ClassId) (xo : Nat) (tp : Nat) (rd : Nat) (rn : Nat) (co : Nat) (wy : Nat) (sg : Nat) (sh : Nat) (pl : Nat) (sp : Nat) (lf : Int32) (srwa : Nat) (kn : Int32) (slast : Int32) (srow : Nat → Int32) (fwa : Nat) (fta : Nat) (fra : Nat) (fga : Nat) (cxa : Nat) (cup : Int32) (clast : Int32) (cpeak : Int32) (cptick : Int32) (fw : Nat → Int32) (ft : Nat → Int32) (fr : Nat → Int32) (fg : Nat → Int32) (cx : Nat → Int32) (pna : Nat) (pta : Nat) (rails : Int32) (limit : Int32) (retry : Int32) (behind : Int32) (pn : Nat → Int32) (pt : Nat → Int64) (hy : Nat) (rsa : Nat) (ria : Nat) (raa : Nat) (rta : Nat) (rga : Nat) (dead : Int32) (key : Int32) (tick : Int32) (held : Int32) (tries : Int32) (trips : Int32) (ldraw : Int32) (gdraw : Int32) (rt : Nat → Int32) (wba : Nat) (wka : Nat) (pk : Int32) (gpk : Int32) (lpk : Int32) (wk : Nat → Int32) (A : Nat → Prop) : Array Value → State → Outcome → State → Prop := va_Qi (fun (r : Int32) (u9 : Int32) => r = u9 ∧ (True)) (fun u9 t => ∃ (kn9 : Int32) (slast9 : Int32) (srow9 : Nat → Int32) (cup9 : Int32) (clast9 : Int32) (cpeak9 : Int32) (cptick9 : Int32) (fw9 : Nat → Int32) (ft9 : Nat → Int32) (fr9 : Nat → Int32) (fg9 : Nat → Int32) (cx9 : Nat → Int32) (pn9 : Nat → Int32) (pk9 : Int32) (wk9 : Nat → Int32), (0 ≤ kn9.toInt ∧ kn9.toInt ≤ 1) ∧ (∀ j, j < 8 → 0 ≤ (srow9 j).toInt ∧ (srow9 j).toInt ≤ 511) ∧ (0 ≤ clast9.toInt ∧ clast9.toInt ≤ 144) ∧ (∀ j, j < 8 → 0 ≤ (fw9 j).toInt ∧ (fw9 j).toInt ≤ 511) ∧ (∀ j, j < 8 → 0 ≤ (ft9 j).toInt ∧ (ft9 j).toInt ≤ 511) ∧ (∀ j, j < 8 → 0 ≤ (fr9 j).toInt ∧ (fr9 j).toInt ≤ 655) ∧ (∀ j, j < 8 → 0 ≤ (fg9 j).toInt ∧ (fg9 j).toInt ≤ 1166) ∧ (∀ j, j < 64 → 0 ≤ (pn9 j).toInt ∧ (pn9 j).toInt ≤ 511) ∧ (0 ≤ pk9.toInt ∧ pk9.toInt ≤ 1) ∧ (∀ j, j < 64 → 0 ≤ (wk9 j).toInt ∧ (wk9 j).toInt ≤ 1) ∧ (M_x_adopt rails pn pk wk kn cpeak cptick cx limit pt fr fg rt ft fw srow slast cup clast dead = (u9, kn9, slast9, srow9, cup9, clast9, cpeak9, cptick9, fw9, ft9, fr9, fg9, cx9, pn9, pk9, wk9)) ∧ (∀ j, j < 8 → (fr9 j).toInt ≤ (fg9 j).toInt) ∧ xB D (tyL cI cJ cZ cG cH) [oX10 xo tp rd rn co wy sg sh pl sp lf, oX7 sg co srwa kn9 slast9, oAI srwa cI 8 srow9, oX0 co fwa fta fra fga cxa cup9 clast9 cpeak9 cptick9, oAI fwa cI 8 fw9, oAI fta cI 8 ft9, oAI fra cI 8 fr9, oAI fga cI 8 fg9, oAI cxa cI 145 cx9, oX3 pl pna pta rails limit retry behind, oAI pna cI 64 pn9, oAJ pta cJ 64 pt, oX5 rn hy rsa ria raa rta rga dead key tick held tries trips ldraw gdraw, oAI rta cI 8 rt, oX9 wy co wba wka pk9 gpk lpk, oAI wka cZ 64 wk9] A t) A
abbrev rm_x_adopt : Room := { frames := 4, cells := 0, slots := 0, locals := 99 }
set_option maxRecDepth 100000 in
set_option maxHeartbeats 40000000 in
theorem c_x_adopt (l : Launch) (D : va_G) (cI cJ cZ cG cH : ClassId) (sz : Nat) (xo : Nat) (tp : Nat) (rd : Nat) (rn : Nat) (co : Nat) (wy : Nat) (sg : Nat) (sh : Nat) (pl : Nat) (sp : Nat) (lf : Int32) (srwa : Nat) (kn : Int32) (slast : Int32) (srow : Nat → Int32) (fwa : Nat) (fta : Nat) (fra : Nat) (fga : Nat) (cxa : Nat) (cup : Int32) (clast : Int32) (cpeak : Int32) (cptick : Int32) (fw : Nat → Int32) (ft : Nat → Int32) (fr : Nat → Int32) (fg : Nat → Int32) (cx : Nat → Int32) (pna : Nat) (pta : Nat) (rails : Int32) (limit : Int32) (retry : Int32) (behind : Int32) (pn : Nat → Int32) (pt : Nat → Int64) (hy : Nat) (rsa : Nat) (ria : Nat) (raa : Nat) (rta : Nat) (rga : Nat) (dead : Int32) (key : Int32) (tick : Int32) (held : Int32) (tries : Int32) (trips : Int32) (ldraw : Int32) (gdraw : Int32) (rt : Nat → Int32) (wba : Nat) (wka : Nat) (pk : Int32) (gpk : Int32) (lpk : Int32) (wk : Nat → Int32) (h_kn : 0 ≤ kn.toInt ∧ kn.toInt ≤ 1) (h_srow : ∀ j, j < 8 → 0 ≤ (srow j).toInt ∧ (srow j).toInt ≤ 511) (h_clast : 0 ≤ clast.toInt ∧ clast.toInt ≤ 144) (h_fw : ∀ j, j < 8 → 0 ≤ (fw j).toInt ∧ (fw j).toInt ≤ 511) (h_ft : ∀ j, j < 8 → 0 ≤ (ft j).toInt ∧ (ft j).toInt ≤ 511) (h_fr : ∀ j, j < 8 → 0 ≤ (fr j).toInt ∧ (fr j).toInt ≤ 655) (h_fg : ∀ j, j < 8 → 0 ≤ (fg j).toInt ∧ (fg j).toInt ≤ 1166) (h_rails : 0 ≤ rails.toInt ∧ rails.toInt ≤ 8) (h_pn : ∀ j, j < 64 → 0 ≤ (pn j).toInt ∧ (pn j).toInt ≤ 511) (h_key : 0 ≤ key.toInt ∧ key.toInt ≤ 1) (h_rt : ∀ j, j < 8 → 0 ≤ (rt j).toInt ∧ (rt j).toInt ≤ 511) (h_pk : 0 ≤ pk.toInt ∧ pk.toInt ≤ 1) (h_wk : ∀ j, j < 64 → 0 ≤ (wk j).toInt ∧ (wk j).toInt ≤ 1) (h_le : ∀ j, j < 8 → (fr j).toInt ≤ (fg j).toInt) : Met l yX10_adopt (wt yX10_adopt cX10_adopt 2 (some .int)) rm_x_adopt (xPc [.ref xo] D (tyL cI cJ cZ cG cH) (W_x_adopt cI cJ cZ cG cH xo tp rd rn co wy sg sh pl sp lf srwa kn slast srow fwa fta fra fga cxa cup clast cpeak cptick fw ft fr fg cx pna pta rails limit retry behind pn pt hy rsa ria raa rta rga dead key tick held tries trips ldraw gdraw rt wba wka pk gpk lpk wk) sz) (Q_x_adopt D cI cJ cZ cG cH xo tp rd rn co wy sg sh pl sp lf srwa kn slast srow fwa fta fra fga cxa cup clast cpeak cptick fw ft fr fg cx pna pta rails limit retry behind pn pt hy rsa ria raa rta rga dead key tick held tries trips ldraw gdraw rt wba wka pk gpk lpk wk (va_A (W_x_adopt cI cJ cZ cG cH xo tp rd rn co wy sg sh pl sp lf srwa kn slast srow fwa fta fra fga cxa cup clast cpeak cptick fw ft fr fg cx pna pta rails limit retry behind pn pt hy rsa ria raa rta rga dead key tick held tries trips ldraw gdraw rt wba wka pk gpk lpk wk) sz)) 0 0 (va_A (W_x_adopt cI cJ cZ cG cH xo tp rd rn co wy sg sh pl sp lf srwa kn slast srow fwa fta fra fga cxa cup clast cpeak cptick fw ft fr fg cx pna pta rails limit retry behind pn pt hy rsa ria raa rta rga dead key tick held tries trips ldraw gdraw rt wba wka pk gpk lpk wk) sz) := by
  refine xMet (cc := cX10_adopt) (maxL := 2) (ret := (some .int)) (Qf := Q_x_adopt D cI cJ cZ cG cH xo tp rd rn co wy sg sh pl sp lf srwa kn slast srow fwa fta fra fga cxa cup clast cpeak cptick fw ft fr fg cx pna pta rails limit retry behind pn pt hy rsa ria raa rta rga dead key tick held tries trips ldraw gdraw rt wba wka pk gpk lpk wk) (by decide) rfl (Nat.le_of_ble_eq_true rfl) ?_
  intro p e s m below meth c ls A hx hb hr hml hts hown hlocks hnm hsz hP hK hD hA hS hl
  have hown : s.vm.findClass RX10 = some m.cls := hown
  have hP : va_P D vwCl [oX10 xo tp rd rn co wy sg sh pl sp lf, oX7 sg co srwa kn slast, oAI srwa cI 8 srow, oX0 co fwa fta fra fga cxa cup clast cpeak cptick, oAI fwa cI 8 fw, oAI fta cI 8 ft, oAI fra cI 8 fr, oAI fga cI 8 fg, oAI cxa cI 145 cx, oX3 pl pna pta rails limit retry behind, oAI pna cI 64 pn, oAJ pta cJ 64 pt, oX5 rn hy rsa ria raa rta rga dead key tick held tries trips ldraw gdraw, oAI rta cI 8 rt, oX9 wy co wba wka pk gpk lpk, oAI wka cZ 64 wk] s.heap := hP
  have hD : va_D A [oX10 xo tp rd rn co wy sg sh pl sp lf, oX7 sg co srwa kn slast, oAI srwa cI 8 srow, oX0 co fwa fta fra fga cxa cup clast cpeak cptick, oAI fwa cI 8 fw, oAI fta cI 8 ft, oAI fra cI 8 fr, oAI fga cI 8 fg, oAI cxa cI 145 cx, oX3 pl pna pta rails limit retry behind, oAI pna cI 64 pn, oAJ pta cJ 64 pt, oX5 rn hy rsa ria raa rta rga dead key tick held tries trips ldraw gdraw, oAI rta cI 8 rt, oX9 wy co wba wka pk gpk lpk, oAI wka cZ 64 wk] := hD
  have hl : lv_has ls 2 [(0, .ref xo)] := hl
  have hM : M_x_adopt rails pn pk wk kn cpeak cptick cx limit pt fr fg rt ft fw srow slast cup clast dead = (K_x_adopt_1 rails pn pk wk kn cpeak cptick cx limit pt fr fg rt ft fw srow slast cup clast dead) := rfl
  refine lv_aload_n hx hb dX10_adopt_0 rfl (lv_at hl 0 rfl) ?_
  refine va_get (D := D) (ci := 9) (v := .ref pl) (C := RX10) (T := TX10) (N := 10) hx hb hts (fun w h => tbC w (tbfX10 w h)) hown hK hP 0 rfl rfl 7 (by decide) (hts (.fieldLink RX10 56 "PowerRails" "plan" "LPowerRails$Plan;") (tbC _ wd254)) (fun _ h9 => h9) rfl dX10_adopt_1 ?_
  refine va_get (D := D) (ci := 2) (v := .int rails) (C := RX3) (T := TX3) (N := 6) hx hb hts (fun w h => tbC w (tbfX3 w h)) hown hK hP 9 rfl rfl 2 (by decide) (hts (.fieldLink RX10 117 "PowerRails$Plan" "rails" "I") (tbC _ wd210)) (fun _ h9 => h9) rfl dX10_adopt_4 ?_
  refine lv_bipush (v := 6) hx hb dX10_adopt_7 (by decide) ?_
  refine lv_icmp_le (tgt := 15) hx hb dX10_adopt_9 (by decide) (fun c_1 => ?_) (fun c_1 => ?_)
  · skip
    have i_1 : rails.toInt ≤ 6 := (ile rfl (by decide)).mp c_1
    have hM : M_x_adopt rails pn pk wk kn cpeak cptick cx limit pt fr fg rt ft fw srow slast cup clast dead = (K_x_adopt_2 pn pk wk rails kn cpeak cptick cx limit pt fr fg rt ft fw srow slast cup clast dead) := (show M_x_adopt rails pn pk wk kn cpeak cptick cx limit pt fr fg rt ft fw srow slast cup clast dead = (if rails.toInt ≤ 6 then (K_x_adopt_2 pn pk wk rails kn cpeak cptick cx limit pt fr fg rt ft fw srow slast cup clast dead) else (K_x_adopt_3 kn slast srow cup clast cpeak cptick fw ft fr fg cx pn pk wk)) from hM).trans (if_pos i_1)
    refine lv_aload_n hx hb dX10_adopt_15 rfl (lv_at hl 0 rfl) ?_
    refine va_get (D := D) (ci := 9) (v := .ref sg) (C := RX10) (T := TX10) (N := 10) hx hb hts (fun w h => tbC w (tbfX10 w h)) hown hK hP 0 rfl rfl 5 (by decide) (hts (.fieldLink RX10 42 "PowerRails" "staggering" "LPowerRails$Stagger;") (tbC _ wd252)) (fun _ h9 => h9) rfl dX10_adopt_16 ?_
    refine lv_aload_n hx hb dX10_adopt_19 rfl (lv_at hl 0 rfl) ?_
    refine va_get (D := D) (ci := 9) (v := .ref pl) (C := RX10) (T := TX10) (N := 10) hx hb hts (fun w h => tbC w (tbfX10 w h)) hown hK hP 0 rfl rfl 7 (by decide) (hts (.fieldLink RX10 56 "PowerRails" "plan" "LPowerRails$Plan;") (tbC _ wd254)) (fun _ h9 => h9) rfl dX10_adopt_20 ?_
    refine lv_aload_n hx hb dX10_adopt_23 rfl (lv_at hl 0 rfl) ?_
    obtain ⟨hPc, hDc, hFc, hC9⟩ := xpk (wc := W_alive cI cJ cZ cG cH xo tp rd rn co wy sg sh pl sp lf pna pta rails limit retry behind hy rsa ria raa rta rga dead key tick held tries trips ldraw gdraw) hP hD hS hA [0, 9, 12] (by decide +kernel) rfl
    refine va_calli (va_runV (As := []) (rest := [.ref pl, .ref sg]) ⟨hx, hb, hml, hown, hts⟩ (c_alive l D cI cJ cZ cG cH s.heap.size xo tp rd rn co wy sg sh pl sp lf pna pta rails limit retry behind hy rsa ria raa rta rga dead key tick held tries trips ldraw gdraw (xrng rfl (by omega) (by omega)) (xrng rfl (by omega) (by omega))) (cwV 0 hts (xGV tbC wd523 wd524 wd2 wd50 wd1046) rfl rfl rfl (by decide +kernel) ⟨Nat.le_of_ble_eq_true rfl, Nat.le_of_ble_eq_true rfl⟩) ⟨xPc_blind, va_recv hK hPc (ci := 9) (q0 := 0) rfl rfl, xPc_pre hPc hK hDc⟩ rfl rfl hl.1 rfl (lv_room (Nat.le_of_ble_eq_true rfl)) dX10_adopt_24 ⟨Nat.le_of_ble_eq_true rfl, Nat.le_of_ble_eq_true rfl⟩) hS (fun q _ h => hFc q h) hFc (fun r2 u t H1 locs ht hvm hw2 hB hz1 hk1 hS => ?_)
    obtain ⟨hru9, hw2⟩ := hw2
    subst hru9
    obtain ⟨hf2_0, hP1, hK1, hD1⟩ := hB
    rw [ht] at hP1
    obtain ⟨hP, hD⟩ : xPD D A [oX7 sg co srwa kn slast, oAI srwa cI 8 srow, oX0 co fwa fta fra fga cxa cup clast cpeak cptick, oAI fwa cI 8 fw, oAI fta cI 8 ft, oAI fra cI 8 fr, oAI fga cI 8 fg, oAI cxa cI 145 cx, oAI pna cI 64 pn, oAJ pta cJ 64 pt, oAI rta cI 8 rt, oX9 wy co wba wka pk gpk lpk, oAI wka cZ 64 wk, oX10 xo tp rd rn co wy sg sh pl sp lf, oX3 pl pna pta rails limit retry behind, oX5 rn hy rsa ria raa rta rga dead key tick held tries trips ldraw gdraw] H1 := xjn 13 hP hD [0, 9, 12] [1, 2, 3, 4, 5, 6, 7, 8, 10, 11, 13, 14, 15] hC9 rfl (by decide +kernel) (by decide +kernel) hk1 hFc hP1 hD1
    generalize H1 = H at hP hS ⊢
    have hf2_0 : M_alive dead rails = (r2) := hf2_0
    have hw2 : 0 ≤ r2.toInt ∧ r2.toInt ≤ 255 := hw2
    have h9M := congrArg (fun t9 => (K_x_adopt_4 pn pk wk rails kn cpeak cptick cx limit pt t9 fr fg rt ft fw srow slast cup clast)) hf2_0
    have hM : M_x_adopt rails pn pk wk kn cpeak cptick cx limit pt fr fg rt ft fw srow slast cup clast dead = (K_x_adopt_4 pn pk wk rails kn cpeak cptick cx limit pt r2 fr fg rt ft fw srow slast cup clast) := (show M_x_adopt rails pn pk wk kn cpeak cptick cx limit pt fr fg rt ft fw srow slast cup clast dead = ((fun t9 => (K_x_adopt_4 pn pk wk rails kn cpeak cptick cx limit pt t9 fr fg rt ft fw srow slast cup clast)) (M_alive dead rails)) from hM).trans h9M
    refine lv_aload_n hx hb dX10_adopt_27 rfl (lv_at hl 0 rfl) ?_
    refine va_get (D := D) (ci := 9) (v := .ref rn) (C := RX10) (T := TX10) (N := 10) hx hb hts (fun w h => tbC w (tbfX10 w h)) hown hK hP 13 rfl rfl 2 (by decide) (hts (.fieldLink RX10 19 "PowerRails" "run" "LPowerRails$Run;") (tbC _ wd249)) (fun _ h9 => h9) rfl dX10_adopt_28 ?_
    refine va_get (D := D) (ci := 4) (v := .ref rta) (C := RX5) (T := TX5) (N := 14) hx hb hts (fun w h => tbC w (tbfX5 w h)) hown hK hP 15 rfl rfl 4 (by decide) (hts (.fieldLink RX10 150 "PowerRails$Run" "takes" "[I") (tbC _ wd114)) (fun _ h9 => h9) rfl dX10_adopt_31 ?_
    obtain ⟨hPc, hDc, hFc, hC9⟩ := xpk (wc := W_findRow cI cJ cZ cG cH sg pl r2 rta co srwa kn slast srow fwa fta fra fga cxa cup clast cpeak cptick fw ft fr fg cx pna pta rails limit retry behind pn pt rt) hP hD hS hA [0, 1, 2, 3, 4, 5, 6, 7, 14, 8, 9, 10] (by decide +kernel) rfl
    refine va_callv (va_runV (As := [.ref pl, .int r2, .ref rta]) (rest := []) ⟨hx, hb, hml, hown, hts⟩ (c_findRow l D cI cJ cZ cG cH H.size sg pl r2 rta co srwa kn slast srow fwa fta fra fga cxa cup clast cpeak cptick fw ft fr fg cx pna pta rails limit retry behind pn pt rt (xrng rfl (by omega) (by omega)) (xwk_rng h_srow (by decide) (by decide)) (xrng rfl (by omega) (by omega)) (xwk_rng h_fw (by decide) (by decide)) (xwk_rng h_ft (by decide) (by decide)) (xwk_rng h_fr (by decide) (by decide)) (xwk_rng h_fg (by decide) (by decide)) (xrng rfl (by omega) (by omega)) (xwk_rng h_pn (by decide) (by decide)) (xwk_rng h_rt (by decide) (by decide)) h_le) (cwV 3 hts (xGV tbC wd589 wd590 wd591 wd56 wd1064) rfl rfl rfl (by decide +kernel) ⟨Nat.le_of_ble_eq_true rfl, Nat.le_of_ble_eq_true rfl⟩) ⟨xPc_blind, va_recv hK hPc (ci := 6) (q0 := 0) rfl rfl, xPc_pre hPc hK hDc⟩ rfl rfl hl.1 rfl (lv_room (Nat.le_of_ble_eq_true rfl)) dX10_adopt_34 ⟨Nat.le_of_ble_eq_true rfl, Nat.le_of_ble_eq_true rfl⟩) hS (fun q _ h => hFc q h) hFc (fun u t H1 locs ht hvm hw3 hB hz1 hk1 hS => ?_)
    revert hB
    refine xex12r (fun kn_4 slast_5 srow_6 cup_7 clast_8 cpeak_9 cptick_10 fw_11 ft_12 fr_13 fg_14 cx_15 => ?_)
    refine xan8r (fun hf15_0 hf15_1 hf15_2 hf15_3 hf15_4 hf15_5 hf15_6 => ?_)
    refine xan5r (fun hf15_7 hf15_8 hP1 hK1 hD1 => ?_)
    rw [ht] at hP1
    obtain ⟨hP, hD⟩ : xPD D A [oX9 wy co wba wka pk gpk lpk, oAI wka cZ 64 wk, oX10 xo tp rd rn co wy sg sh pl sp lf, oX5 rn hy rsa ria raa rta rga dead key tick held tries trips ldraw gdraw, oX7 sg co srwa kn_4 slast_5, oAI srwa cI 8 srow_6, oX0 co fwa fta fra fga cxa cup_7 clast_8 cpeak_9 cptick_10, oAI fwa cI 8 fw_11, oAI fta cI 8 ft_12, oAI fra cI 8 fr_13, oAI fga cI 8 fg_14, oAI cxa cI 145 cx_15, oX3 pl pna pta rails limit retry behind, oAI pna cI 64 pn, oAJ pta cJ 64 pt, oAI rta cI 8 rt] H1 := xjn 4 hP hD [0, 1, 2, 3, 4, 5, 6, 7, 14, 8, 9, 10] [11, 12, 13, 15] hC9 rfl (by decide +kernel) (by decide +kernel) hk1 hFc hP1 hD1
    generalize H1 = H at hP hS ⊢
    have hf15_0 : 0 ≤ kn_4.toInt ∧ kn_4.toInt ≤ 1 := hf15_0
    have hf15_1 : ∀ j, j < 8 → 0 ≤ (srow_6 j).toInt ∧ (srow_6 j).toInt ≤ 511 := hf15_1
    have hf15_2 : 0 ≤ clast_8.toInt ∧ clast_8.toInt ≤ 144 := hf15_2
    have hf15_3 : ∀ j, j < 8 → 0 ≤ (fw_11 j).toInt ∧ (fw_11 j).toInt ≤ 511 := hf15_3
    have hf15_4 : ∀ j, j < 8 → 0 ≤ (ft_12 j).toInt ∧ (ft_12 j).toInt ≤ 511 := hf15_4
    have hf15_5 : ∀ j, j < 8 → 0 ≤ (fr_13 j).toInt ∧ (fr_13 j).toInt ≤ 655 := hf15_5
    have hf15_6 : ∀ j, j < 8 → 0 ≤ (fg_14 j).toInt ∧ (fg_14 j).toInt ≤ 1166 := hf15_6
    have hf15_7 : M_findRow kn cpeak cptick cx limit rails pn pt r2 fr fg rt ft fw srow slast cup clast = (kn_4, slast_5, srow_6, cup_7, clast_8, cpeak_9, cptick_10, fw_11, ft_12, fr_13, fg_14, cx_15) := hf15_7
    have hf15_8 : ∀ j, j < 8 → (fr_13 j).toInt ≤ (fg_14 j).toInt := hf15_8
    have h9M := congrArg (fun t9 => (K_x_adopt_5 t9.2.1 t9.1 t9.2.2.1 t9.2.2.2.1 t9.2.2.2.2.1 t9.2.2.2.2.2.1 t9.2.2.2.2.2.2.1 t9.2.2.2.2.2.2.2.1 t9.2.2.2.2.2.2.2.2.1 t9.2.2.2.2.2.2.2.2.2.1 t9.2.2.2.2.2.2.2.2.2.2.1 t9.2.2.2.2.2.2.2.2.2.2.2 pn pk wk rails)) hf15_7
    have hM : M_x_adopt rails pn pk wk kn cpeak cptick cx limit pt fr fg rt ft fw srow slast cup clast dead = (K_x_adopt_5 slast_5 kn_4 srow_6 cup_7 clast_8 cpeak_9 cptick_10 fw_11 ft_12 fr_13 fg_14 cx_15 pn pk wk rails) := (show M_x_adopt rails pn pk wk kn cpeak cptick cx limit pt fr fg rt ft fw srow slast cup clast dead = ((fun t9 => (K_x_adopt_5 t9.2.1 t9.1 t9.2.2.1 t9.2.2.2.1 t9.2.2.2.2.1 t9.2.2.2.2.2.1 t9.2.2.2.2.2.2.1 t9.2.2.2.2.2.2.2.1 t9.2.2.2.2.2.2.2.2.1 t9.2.2.2.2.2.2.2.2.2.1 t9.2.2.2.2.2.2.2.2.2.2.1 t9.2.2.2.2.2.2.2.2.2.2.2 pn pk wk rails)) (M_findRow kn cpeak cptick cx limit rails pn pt r2 fr fg rt ft fw srow slast cup clast)) from hM).trans h9M
    refine lv_aload_n hx hb dX10_adopt_37 rfl (lv_at hl 0 rfl) ?_
    refine va_get (D := D) (ci := 9) (v := .ref sg) (C := RX10) (T := TX10) (N := 10) hx hb hts (fun w h => tbC w (tbfX10 w h)) hown hK hP 2 rfl rfl 5 (by decide) (hts (.fieldLink RX10 42 "PowerRails" "staggering" "LPowerRails$Stagger;") (tbC _ wd252)) (fun _ h9 => h9) rfl dX10_adopt_38 ?_
    refine va_get (D := D) (ci := 6) (v := .int slast_5) (C := RX7) (T := TX7) (N := 4) hx hb hts (fun w h => tbC w (tbfX7 w h)) hown hK hP 4 rfl rfl 3 (by decide) (hts (.fieldLink RX10 263 "PowerRails$Stagger" "last" "I") (tbC _ wd182)) (fun _ h9 => h9) rfl dX10_adopt_41 ?_
    refine lv_istore_n (lv' := [(1, .int slast_5), (0, .ref xo)]) hx hb dX10_adopt_44 rfl hl (by decide) rfl (fun ls hl => ?_)
    refine lv_iload_n hx hb dX10_adopt_45 rfl (lv_at hl 0 rfl) ?_
    refine lv_bipush (v := (-4)) hx hb dX10_adopt_46 (by decide) ?_
    refine lv_icmp_eq (tgt := 69) hx hb dX10_adopt_48 (by decide) (fun c_16 => ?_) (fun c_16 => ?_)
    · skip
      have i_16 : slast_5.toInt = (-4) := (ieq rfl (by decide)).mp c_16
      have hM : M_x_adopt rails pn pk wk kn cpeak cptick cx limit pt fr fg rt ft fw srow slast cup clast dead = (K_x_adopt_6 slast_5 kn_4 srow_6 cup_7 clast_8 cpeak_9 cptick_10 fw_11 ft_12 fr_13 fg_14 cx_15 pn pk wk) := (show M_x_adopt rails pn pk wk kn cpeak cptick cx limit pt fr fg rt ft fw srow slast cup clast dead = (if slast_5.toInt = (-4) then (K_x_adopt_6 slast_5 kn_4 srow_6 cup_7 clast_8 cpeak_9 cptick_10 fw_11 ft_12 fr_13 fg_14 cx_15 pn pk wk) else (K_x_adopt_7 slast_5 srow_6 cup_7 clast_8 cpeak_9 cptick_10 fw_11 ft_12 fr_13 fg_14 cx_15 wk rails pn)) from hM).trans (if_pos i_16)
      refine lv_iload_n hx hb dX10_adopt_69 rfl (lv_at hl 0 rfl) ?_
      refine W.widen (k := 0) (n := 0) (by decide) (by decide) ?_
      exact W.iret (v := slast_5) hx hb hr (fun t ht hW => ⟨⟨slast_5, slast_5, rfl, ⟨rfl, trivial⟩, ⟨kn_4, slast_5, srow_6, cup_7, clast_8, cpeak_9, cptick_10, fw_11, ft_12, fr_13, fg_14, cx_15, pn, pk, wk, (xrng rfl (by omega) (by omega)), (xwk_rng hf15_1 (by decide) (by decide)), (xrng rfl (by omega) (by omega)), (xwk_rng hf15_3 (by decide) (by decide)), (xwk_rng hf15_4 (by decide) (by decide)), (xwk_rng hf15_5 (by decide) (by decide)), (xwk_rng hf15_6 (by decide) (by decide)), (xwk_rng h_pn (by decide) (by decide)), (xrng rfl (by omega) (by omega)), (xwk_rng h_wk (by decide) (by decide)), hM, hf15_8, xB_of9 ht hW hP hK hD [2, 4, 5, 6, 7, 8, 9, 10, 11, 12, 13, 14, 3, 15, 0, 1] (by decide +kernel) rfl⟩⟩, hS.F ht⟩) hS.2.2 dX10_adopt_70
    · skip
      have i_16 : ¬ (slast_5.toInt = (-4)) := fun h9 => c_16 ((ieq rfl (by decide)).mpr h9)
      have hM : M_x_adopt rails pn pk wk kn cpeak cptick cx limit pt fr fg rt ft fw srow slast cup clast dead = (K_x_adopt_7 slast_5 srow_6 cup_7 clast_8 cpeak_9 cptick_10 fw_11 ft_12 fr_13 fg_14 cx_15 wk rails pn) := (show M_x_adopt rails pn pk wk kn cpeak cptick cx limit pt fr fg rt ft fw srow slast cup clast dead = (if slast_5.toInt = (-4) then (K_x_adopt_6 slast_5 kn_4 srow_6 cup_7 clast_8 cpeak_9 cptick_10 fw_11 ft_12 fr_13 fg_14 cx_15 pn pk wk) else (K_x_adopt_7 slast_5 srow_6 cup_7 clast_8 cpeak_9 cptick_10 fw_11 ft_12 fr_13 fg_14 cx_15 wk rails pn)) from hM).trans (if_neg i_16)
      refine lv_aload_n hx hb dX10_adopt_51 rfl (lv_at hl 1 rfl) ?_
      refine va_get (D := D) (ci := 9) (v := .ref pl) (C := RX10) (T := TX10) (N := 10) hx hb hts (fun w h => tbC w (tbfX10 w h)) hown hK hP 2 rfl rfl 7 (by decide) (hts (.fieldLink RX10 56 "PowerRails" "plan" "LPowerRails$Plan;") (tbC _ wd254)) (fun _ h9 => h9) rfl dX10_adopt_52 ?_
      refine lv_aload_n hx hb dX10_adopt_55 rfl (lv_at hl 1 rfl) ?_
      refine va_get (D := D) (ci := 9) (v := .ref sg) (C := RX10) (T := TX10) (N := 10) hx hb hts (fun w h => tbC w (tbfX10 w h)) hown hK hP 2 rfl rfl 5 (by decide) (hts (.fieldLink RX10 42 "PowerRails" "staggering" "LPowerRails$Stagger;") (tbC _ wd252)) (fun _ h9 => h9) rfl dX10_adopt_56 ?_
      refine va_get (D := D) (ci := 6) (v := .ref srwa) (C := RX7) (T := TX7) (N := 4) hx hb hts (fun w h => tbC w (tbfX7 w h)) hown hK hP 4 rfl rfl 1 (by decide) (hts (.fieldLink RX10 266 "PowerRails$Stagger" "row" "[I") (tbC _ wd178)) (fun _ h9 => h9) rfl dX10_adopt_59 ?_
      obtain ⟨hPc, hDc, hFc, hC9⟩ := xpk (wc := W_pSetWaits cI cJ cZ cG cH pl srwa pna pta rails limit retry behind pn srow_6) hP hD hS hA [12, 13, 5] (by decide +kernel) rfl
      refine va_callv (va_runV (As := [.ref srwa]) (rest := []) ⟨hx, hb, hml, hown, hts⟩ (c_pSetWaits l D cI cJ cZ cG cH H.size pl srwa pna pta rails limit retry behind pn srow_6 (xrng rfl (by omega) (by omega)) (xwk_rng h_pn (by decide) (by decide)) (xwk_rng hf15_1 (by decide) (by decide))) (cwV 1 hts (xGV tbC wd606 wd607 wd608 wd59 wd1068) rfl rfl rfl (by decide +kernel) ⟨Nat.le_of_ble_eq_true rfl, Nat.le_of_ble_eq_true rfl⟩) ⟨xPc_blind, va_recv hK hPc (ci := 2) (q0 := 0) rfl rfl, xPc_pre hPc hK hDc⟩ rfl rfl hl.1 rfl (lv_room (Nat.le_of_ble_eq_true rfl)) dX10_adopt_62 ⟨Nat.le_of_ble_eq_true rfl, Nat.le_of_ble_eq_true rfl⟩) hS (fun q _ h => hFc q h) hFc (fun u t H1 locs ht hvm hw17 hB hz1 hk1 hS => ?_)
      obtain ⟨pn_18, hf18_0, hf18_1, hP1, hK1, hD1⟩ := hB
      rw [ht] at hP1
      obtain ⟨hP, hD⟩ : xPD D A [oX9 wy co wba wka pk gpk lpk, oAI wka cZ 64 wk, oX10 xo tp rd rn co wy sg sh pl sp lf, oX5 rn hy rsa ria raa rta rga dead key tick held tries trips ldraw gdraw, oX7 sg co srwa kn_4 slast_5, oX0 co fwa fta fra fga cxa cup_7 clast_8 cpeak_9 cptick_10, oAI fwa cI 8 fw_11, oAI fta cI 8 ft_12, oAI fra cI 8 fr_13, oAI fga cI 8 fg_14, oAI cxa cI 145 cx_15, oAJ pta cJ 64 pt, oAI rta cI 8 rt, oX3 pl pna pta rails limit retry behind, oAI pna cI 64 pn_18, oAI srwa cI 8 srow_6] H1 := xjn 13 hP hD [12, 13, 5] [0, 1, 2, 3, 4, 6, 7, 8, 9, 10, 11, 14, 15] hC9 rfl (by decide +kernel) (by decide +kernel) hk1 hFc hP1 hD1
      generalize H1 = H at hP hS ⊢
      have hf18_0 : ∀ j, j < 64 → 0 ≤ (pn_18 j).toInt ∧ (pn_18 j).toInt ≤ 511 := hf18_0
      have hf18_1 : M_pSetWaits rails srow_6 pn = (pn_18) := hf18_1
      have h9M := congrArg (fun t9 => (K_x_adopt_8 slast_5 srow_6 cup_7 clast_8 cpeak_9 cptick_10 fw_11 ft_12 fr_13 fg_14 cx_15 t9 wk)) hf18_1
      have hM : M_x_adopt rails pn pk wk kn cpeak cptick cx limit pt fr fg rt ft fw srow slast cup clast dead = (K_x_adopt_8 slast_5 srow_6 cup_7 clast_8 cpeak_9 cptick_10 fw_11 ft_12 fr_13 fg_14 cx_15 pn_18 wk) := (show M_x_adopt rails pn pk wk kn cpeak cptick cx limit pt fr fg rt ft fw srow slast cup clast dead = ((fun t9 => (K_x_adopt_8 slast_5 srow_6 cup_7 clast_8 cpeak_9 cptick_10 fw_11 ft_12 fr_13 fg_14 cx_15 t9 wk)) (M_pSetWaits rails srow_6 pn)) from hM).trans h9M
      refine lv_aload_n hx hb dX10_adopt_65 rfl (lv_at hl 1 rfl) ?_
      obtain ⟨hPc, hDc, hFc, hC9⟩ := xpk (wc := W_forgetReckoned cI cJ cZ cG cH xo tp rd rn co wy sg sh pl sp lf wba wka pk gpk lpk wk srwa kn_4 slast_5) hP hD hS hA [2, 0, 1, 4] (by decide +kernel) rfl
      refine va_callv (va_runV (As := []) (rest := []) ⟨hx, hb, hml, hown, hts⟩ (c_forgetReckoned l D cI cJ cZ cG cH H.size xo tp rd rn co wy sg sh pl sp lf wba wka pk gpk lpk wk srwa kn_4 slast_5 (xrng rfl (by omega) (by omega)) (xwk_rng h_wk (by decide) (by decide)) (xrng rfl (by omega) (by omega))) (cwV 0 hts (xGV tbC wd398 wd399 wd0 wd50 wd1005) rfl rfl rfl (by decide +kernel) ⟨Nat.le_of_ble_eq_true rfl, Nat.le_of_ble_eq_true rfl⟩) ⟨xPc_blind, va_recv hK hPc (ci := 9) (q0 := 0) rfl rfl, xPc_pre hPc hK hDc⟩ rfl rfl hl.1 rfl (lv_room (Nat.le_of_ble_eq_true rfl)) dX10_adopt_66 ⟨Nat.le_of_ble_eq_true rfl, Nat.le_of_ble_eq_true rfl⟩) hS (fun q _ h => hFc q h) hFc (fun u t H1 locs ht hvm hw19 hB hz1 hk1 hS => ?_)
      obtain ⟨wk_20, hf20_0, hf20_1, hP1, hK1, hD1⟩ := hB
      rw [ht] at hP1
      obtain ⟨hP, hD⟩ : xPD D A [oX5 rn hy rsa ria raa rta rga dead key tick held tries trips ldraw gdraw, oX0 co fwa fta fra fga cxa cup_7 clast_8 cpeak_9 cptick_10, oAI fwa cI 8 fw_11, oAI fta cI 8 ft_12, oAI fra cI 8 fr_13, oAI fga cI 8 fg_14, oAI cxa cI 145 cx_15, oAJ pta cJ 64 pt, oAI rta cI 8 rt, oX3 pl pna pta rails limit retry behind, oAI pna cI 64 pn_18, oAI srwa cI 8 srow_6, oX10 xo tp rd rn co wy sg sh pl sp lf, oX9 wy co wba wka 0 gpk lpk, oAI wka cZ 64 wk_20, oX7 sg co srwa 0 slast_5] H1 := xjn 12 hP hD [2, 0, 1, 4] [3, 5, 6, 7, 8, 9, 10, 11, 12, 13, 14, 15] hC9 rfl (by decide +kernel) (by decide +kernel) hk1 hFc hP1 hD1
      generalize H1 = H at hP hS ⊢
      have hf20_0 : ∀ j, j < 64 → 0 ≤ (wk_20 j).toInt ∧ (wk_20 j).toInt ≤ 1 := hf20_0
      have hf20_1 : M_forgetReckoned wk = (wk_20) := hf20_1
      have h9M := congrArg (fun t9 => (K_x_adopt_9 slast_5 srow_6 cup_7 clast_8 cpeak_9 cptick_10 fw_11 ft_12 fr_13 fg_14 cx_15 pn_18 t9)) hf20_1
      have hM : M_x_adopt rails pn pk wk kn cpeak cptick cx limit pt fr fg rt ft fw srow slast cup clast dead = (K_x_adopt_9 slast_5 srow_6 cup_7 clast_8 cpeak_9 cptick_10 fw_11 ft_12 fr_13 fg_14 cx_15 pn_18 wk_20) := (show M_x_adopt rails pn pk wk kn cpeak cptick cx limit pt fr fg rt ft fw srow slast cup clast dead = ((fun t9 => (K_x_adopt_9 slast_5 srow_6 cup_7 clast_8 cpeak_9 cptick_10 fw_11 ft_12 fr_13 fg_14 cx_15 pn_18 t9)) (M_forgetReckoned wk)) from hM).trans h9M
      refine lv_iload_n hx hb dX10_adopt_69 rfl (lv_at hl 0 rfl) ?_
      refine W.widen (k := 0) (n := 0) (by decide) (by decide) ?_
      exact W.iret (v := slast_5) hx hb hr (fun t ht hW => ⟨⟨slast_5, slast_5, rfl, ⟨rfl, trivial⟩, ⟨0, slast_5, srow_6, cup_7, clast_8, cpeak_9, cptick_10, fw_11, ft_12, fr_13, fg_14, cx_15, pn_18, 0, wk_20, ⟨by decide, by decide⟩, (xwk_rng hf15_1 (by decide) (by decide)), (xrng rfl (by omega) (by omega)), (xwk_rng hf15_3 (by decide) (by decide)), (xwk_rng hf15_4 (by decide) (by decide)), (xwk_rng hf15_5 (by decide) (by decide)), (xwk_rng hf15_6 (by decide) (by decide)), (xwk_rng hf18_0 (by decide) (by decide)), ⟨by decide, by decide⟩, (xwk_rng hf20_0 (by decide) (by decide)), hM, hf15_8, xB_of9 ht hW hP hK hD [12, 15, 11, 1, 2, 3, 4, 5, 6, 9, 10, 7, 0, 8, 13, 14] (by decide +kernel) rfl⟩⟩, hS.F ht⟩) hS.2.2 dX10_adopt_70
  · skip
    have i_1 : ¬ (rails.toInt ≤ 6) := fun h9 => c_1 ((ile rfl (by decide)).mpr h9)
    have hM : M_x_adopt rails pn pk wk kn cpeak cptick cx limit pt fr fg rt ft fw srow slast cup clast dead = (K_x_adopt_3 kn slast srow cup clast cpeak cptick fw ft fr fg cx pn pk wk) := (show M_x_adopt rails pn pk wk kn cpeak cptick cx limit pt fr fg rt ft fw srow slast cup clast dead = (if rails.toInt ≤ 6 then (K_x_adopt_2 pn pk wk rails kn cpeak cptick cx limit pt fr fg rt ft fw srow slast cup clast dead) else (K_x_adopt_3 kn slast srow cup clast cpeak cptick fw ft fr fg cx pn pk wk)) from hM).trans (if_neg i_1)
    refine lv_bipush (v := (-2)) hx hb dX10_adopt_12 (by decide) ?_
    refine W.widen (k := 0) (n := 0) (by decide) (by decide) ?_
    exact W.iret (v := (-2)) hx hb hr (fun t ht hW => ⟨⟨(-2), (-2), rfl, ⟨rfl, trivial⟩, ⟨kn, slast, srow, cup, clast, cpeak, cptick, fw, ft, fr, fg, cx, pn, pk, wk, (xrng rfl (by omega) (by omega)), (xwk_rng h_srow (by decide) (by decide)), (xrng rfl (by omega) (by omega)), (xwk_rng h_fw (by decide) (by decide)), (xwk_rng h_ft (by decide) (by decide)), (xwk_rng h_fr (by decide) (by decide)), (xwk_rng h_fg (by decide) (by decide)), (xwk_rng h_pn (by decide) (by decide)), (xrng rfl (by omega) (by omega)), (xwk_rng h_wk (by decide) (by decide)), hM, h_le, xB_of9 ht hW hP hK hD [0, 1, 2, 3, 4, 5, 6, 7, 8, 9, 10, 11, 12, 13, 14, 15] (by decide +kernel) rfl⟩⟩, hS.F ht⟩) hS.2.2 dX10_adopt_14
def K_x_down_8 (r6 : Int32) (r10 : Int32) : (Int32) := ((r6 &&& (r10 ^^^ (-1 : Int32))))
def K_x_down_7 (r6 : Int32) (rails : Int32) (r7 : Int32) (a0 : Int32) (pt : Nat → Int64) : (Int32) := ((fun t9 => (K_x_down_8 r6 t9)) (M_upAmong rails (r7 &&& (a0 ^^^ (-1 : Int32))) pt))
def K_x_down_6 (r6 : Int32) (rails : Int32) (a0 : Int32) (pt : Nat → Int64) (dead : Int32) : (Int32) := ((fun t9 => (K_x_down_7 r6 rails t9 a0 pt)) (M_alive dead rails))
def K_x_down_5 (rails : Int32) (a0 : Int32) (pt : Nat → Int64) (dead : Int32) (r5 : Int32) : (Int32) := ((fun t9 => (K_x_down_6 t9 rails a0 pt dead)) (M_upAmong rails r5 pt))
def K_x_down_3 (rails : Int32) (a0 : Int32) (pt : Nat → Int64) (dead : Int32) : (Int32) := ((fun t9 => (K_x_down_5 rails a0 pt dead t9)) (M_alive dead rails))
def K_x_down_4  : (Int32) := ((-1 : Int32))
def K_x_down_2 (a0 : Int32) (r1 : Int32) (rails : Int32) (pt : Nat → Int64) (dead : Int32) : (Int32) := (if (a0 &&& (r1 ^^^ (-1 : Int32))).toInt = 0 then (K_x_down_3 rails a0 pt dead) else (K_x_down_4))
def K_x_down_1 (a0 : Int32) (rails : Int32) (pt : Nat → Int64) (dead : Int32) : (Int32) := ((fun t9 => (K_x_down_2 a0 t9 rails pt dead)) (M_allRails rails))
def M_x_down (a0 : Int32) (rails : Int32) (pt : Nat → Int64) (dead : Int32) : (Int32) := (K_x_down_1 a0 rails pt dead)
abbrev W_x_down (cI cJ cZ cG cH : ClassId) (xo : Nat) (a0 : Int32) (tp : Nat) (rd : Nat) (rn : Nat) (co : Nat) (wy : Nat) (sg : Nat) (sh : Nat) (pl : Nat) (sp : Nat) (lf : Int32) (pna : Nat) (pta : Nat) (rails : Int32) (limit : Int32) (retry : Int32) (behind : Int32) (pt : Nat → Int64) (hy : Nat) (rsa : Nat) (ria : Nat) (raa : Nat) (rta : Nat) (rga : Nat) (dead : Int32) (key : Int32) (tick : Int32) (held : Int32) (tries : Int32) (trips : Int32) (ldraw : Int32) (gdraw : Int32) : va_W := [oX10 xo tp rd rn co wy sg sh pl sp lf, oX3 pl pna pta rails limit retry behind, oAJ pta cJ 64 pt, oX5 rn hy rsa ria raa rta rga dead key tick held tries trips ldraw gdraw]
abbrev Q_x_down (D : va_G) (cI cJ cZ cG cH : ClassId) (xo : Nat) (a0 : Int32) (tp : Nat) (rd : Nat) (rn : Nat) (co : Nat) (wy : Nat) (sg : Nat) (sh : Nat) (pl : Nat) (sp : Nat) (lf : Int32) (pna : Nat) (pta : Nat) (rails : Int32) (limit : Int32) (retry : Int32) (behind : Int32) (pt : Nat → Int64) (hy : Nat) (rsa : Nat) (ria : Nat) (raa : Nat) (rta : Nat) (rga : Nat) (dead : Int32) (key : Int32) (tick : Int32) (held : Int32) (tries : Int32) (trips : Int32) (ldraw : Int32) (gdraw : Int32) (A : Nat → Prop) : Array Value → State → Outcome → State → Prop := va_Qi (fun (r : Int32) (u9 : Int32) => r = u9 ∧ ((-1) ≤ r.toInt ∧ r.toInt ≤ 255)) (fun u9 t => (M_x_down a0 rails pt dead = (u9)) ∧ xB D (tyL cI cJ cZ cG cH) [oX10 xo tp rd rn co wy sg sh pl sp lf, oX3 pl pna pta rails limit retry behind, oAJ pta cJ 64 pt, oX5 rn hy rsa ria raa rta rga dead key tick held tries trips ldraw gdraw] A t) A
abbrev rm_x_down : Room := { frames := 2, cells := 0, slots := 0, locals := 47 }
set_option maxRecDepth 100000 in
set_option maxHeartbeats 40000000 in
theorem c_x_down (l : Launch) (D : va_G) (cI cJ cZ cG cH : ClassId) (sz : Nat) (xo : Nat) (a0 : Int32) (tp : Nat) (rd : Nat) (rn : Nat) (co : Nat) (wy : Nat) (sg : Nat) (sh : Nat) (pl : Nat) (sp : Nat) (lf : Int32) (pna : Nat) (pta : Nat) (rails : Int32) (limit : Int32) (retry : Int32) (behind : Int32) (pt : Nat → Int64) (hy : Nat) (rsa : Nat) (ria : Nat) (raa : Nat) (rta : Nat) (rga : Nat) (dead : Int32) (key : Int32) (tick : Int32) (held : Int32) (tries : Int32) (trips : Int32) (ldraw : Int32) (gdraw : Int32) (h_rails : 0 ≤ rails.toInt ∧ rails.toInt ≤ 8) (h_key : 0 ≤ key.toInt ∧ key.toInt ≤ 1) : Met l yX10_down (wt yX10_down cX10_down 2 (some .int)) rm_x_down (xPc [.ref xo, .int a0] D (tyL cI cJ cZ cG cH) (W_x_down cI cJ cZ cG cH xo a0 tp rd rn co wy sg sh pl sp lf pna pta rails limit retry behind pt hy rsa ria raa rta rga dead key tick held tries trips ldraw gdraw) sz) (Q_x_down D cI cJ cZ cG cH xo a0 tp rd rn co wy sg sh pl sp lf pna pta rails limit retry behind pt hy rsa ria raa rta rga dead key tick held tries trips ldraw gdraw (va_A (W_x_down cI cJ cZ cG cH xo a0 tp rd rn co wy sg sh pl sp lf pna pta rails limit retry behind pt hy rsa ria raa rta rga dead key tick held tries trips ldraw gdraw) sz)) 0 0 (va_A (W_x_down cI cJ cZ cG cH xo a0 tp rd rn co wy sg sh pl sp lf pna pta rails limit retry behind pt hy rsa ria raa rta rga dead key tick held tries trips ldraw gdraw) sz) := by
  refine xMet (cc := cX10_down) (maxL := 2) (ret := (some .int)) (Qf := Q_x_down D cI cJ cZ cG cH xo a0 tp rd rn co wy sg sh pl sp lf pna pta rails limit retry behind pt hy rsa ria raa rta rga dead key tick held tries trips ldraw gdraw) (by decide) rfl (Nat.le_of_ble_eq_true rfl) ?_
  intro p e s m below meth c ls A hx hb hr hml hts hown hlocks hnm hsz hP hK hD hA hS hl
  have hown : s.vm.findClass RX10 = some m.cls := hown
  have hP : va_P D vwCl [oX10 xo tp rd rn co wy sg sh pl sp lf, oX3 pl pna pta rails limit retry behind, oAJ pta cJ 64 pt, oX5 rn hy rsa ria raa rta rga dead key tick held tries trips ldraw gdraw] s.heap := hP
  have hD : va_D A [oX10 xo tp rd rn co wy sg sh pl sp lf, oX3 pl pna pta rails limit retry behind, oAJ pta cJ 64 pt, oX5 rn hy rsa ria raa rta rga dead key tick held tries trips ldraw gdraw] := hD
  have hl : lv_has ls 2 [(0, .ref xo), (1, .int a0)] := hl
  have hM : M_x_down a0 rails pt dead = (K_x_down_1 a0 rails pt dead) := rfl
  refine lv_iload_n hx hb dX10_down_0 rfl (lv_at hl 1 rfl) ?_
  refine lv_aload_n hx hb dX10_down_1 rfl (lv_at hl 0 rfl) ?_
  refine va_get (D := D) (ci := 9) (v := .ref pl) (C := RX10) (T := TX10) (N := 10) hx hb hts (fun w h => tbC w (tbfX10 w h)) hown hK hP 0 rfl rfl 7 (by decide) (hts (.fieldLink RX10 56 "PowerRails" "plan" "LPowerRails$Plan;") (tbC _ wd254)) (fun _ h9 => h9) rfl dX10_down_2 ?_
  obtain ⟨hPc, hDc, hFc, hC9⟩ := xpk (wc := W_allRails cI cJ cZ cG cH pl pna pta rails limit retry behind) hP hD hS hA [1] (by decide +kernel) rfl
  refine va_calli (va_runV (As := []) (rest := [.int a0]) ⟨hx, hb, hml, hown, hts⟩ (c_allRails l D cI cJ cZ cG cH s.heap.size pl pna pta rails limit retry behind (xrng rfl (by omega) (by omega))) (cwV 0 hts (xGV tbC wd419 wd420 wd421 wd59 wd1012) rfl rfl rfl (by decide +kernel) ⟨Nat.le_of_ble_eq_true rfl, Nat.le_of_ble_eq_true rfl⟩) ⟨xPc_blind, va_recv hK hPc (ci := 2) (q0 := 0) rfl rfl, xPc_pre hPc hK hDc⟩ rfl rfl hl.1 rfl (lv_room (Nat.le_of_ble_eq_true rfl)) dX10_down_5 ⟨Nat.le_of_ble_eq_true rfl, Nat.le_of_ble_eq_true rfl⟩) hS (fun q _ h => hFc q h) hFc (fun r1 u t H1 locs ht hvm hw1 hB hz1 hk1 hS => ?_)
  obtain ⟨hru9, hw1⟩ := hw1
  subst hru9
  obtain ⟨hf1_0, hP1, hK1, hD1⟩ := hB
  rw [ht] at hP1
  obtain ⟨hP, hD⟩ : xPD D A [oX10 xo tp rd rn co wy sg sh pl sp lf, oAJ pta cJ 64 pt, oX5 rn hy rsa ria raa rta rga dead key tick held tries trips ldraw gdraw, oX3 pl pna pta rails limit retry behind] H1 := xjn 3 hP hD [1] [0, 2, 3] hC9 rfl (by decide +kernel) (by decide +kernel) hk1 hFc hP1 hD1
  generalize H1 = H at hP hS ⊢
  have hf1_0 : M_allRails rails = (r1) := hf1_0
  have hw1 : 0 ≤ r1.toInt ∧ r1.toInt ≤ 255 := hw1
  have h9M := congrArg (fun t9 => (K_x_down_2 a0 t9 rails pt dead)) hf1_0
  have hM : M_x_down a0 rails pt dead = (K_x_down_2 a0 r1 rails pt dead) := (show M_x_down a0 rails pt dead = ((fun t9 => (K_x_down_2 a0 t9 rails pt dead)) (M_allRails rails)) from hM).trans h9M
  refine lv_iconst (v := (-1)) hx hb dX10_down_8 (by decide) ?_
  refine lv_ixor hx hb dX10_down_9 ?_
  refine lv_topi (fun v2 ev2 => ?_)
  refine lv_iand hx hb dX10_down_10 ?_
  refine lv_topi (fun v3 ev3 => ?_)
  refine lv_if_eq (tgt := 16) hx hb dX10_down_11 (by decide) (fun c_4 => ?_) (fun c_4 => ?_)
  · skip
    have i_4 : v3.toInt = 0 := (ieq rfl (by decide)).mp c_4
    have hM : M_x_down a0 rails pt dead = (K_x_down_3 rails a0 pt dead) := (show M_x_down a0 rails pt dead = (if v3.toInt = 0 then (K_x_down_3 rails a0 pt dead) else (K_x_down_4)) from (by rw [ev3, ev2]; exact hM)).trans (if_pos i_4)
    refine lv_aload_n hx hb dX10_down_16 rfl (lv_at hl 0 rfl) ?_
    refine va_get (D := D) (ci := 9) (v := .ref pl) (C := RX10) (T := TX10) (N := 10) hx hb hts (fun w h => tbC w (tbfX10 w h)) hown hK hP 0 rfl rfl 7 (by decide) (hts (.fieldLink RX10 56 "PowerRails" "plan" "LPowerRails$Plan;") (tbC _ wd254)) (fun _ h9 => h9) rfl dX10_down_17 ?_
    refine lv_aload_n hx hb dX10_down_20 rfl (lv_at hl 0 rfl) ?_
    obtain ⟨hPc, hDc, hFc, hC9⟩ := xpk (wc := W_alive cI cJ cZ cG cH xo tp rd rn co wy sg sh pl sp lf pna pta rails limit retry behind hy rsa ria raa rta rga dead key tick held tries trips ldraw gdraw) hP hD hS hA [0, 3, 2] (by decide +kernel) rfl
    refine va_calli (va_runV (As := []) (rest := [.ref pl]) ⟨hx, hb, hml, hown, hts⟩ (c_alive l D cI cJ cZ cG cH H.size xo tp rd rn co wy sg sh pl sp lf pna pta rails limit retry behind hy rsa ria raa rta rga dead key tick held tries trips ldraw gdraw (xrng rfl (by omega) (by omega)) (xrng rfl (by omega) (by omega))) (cwV 0 hts (xGV tbC wd523 wd524 wd2 wd50 wd1046) rfl rfl rfl (by decide +kernel) ⟨Nat.le_of_ble_eq_true rfl, Nat.le_of_ble_eq_true rfl⟩) ⟨xPc_blind, va_recv hK hPc (ci := 9) (q0 := 0) rfl rfl, xPc_pre hPc hK hDc⟩ rfl rfl hl.1 rfl (lv_room (Nat.le_of_ble_eq_true rfl)) dX10_down_21 ⟨Nat.le_of_ble_eq_true rfl, Nat.le_of_ble_eq_true rfl⟩) hS (fun q _ h => hFc q h) hFc (fun r5 u t H1 locs ht hvm hw5 hB hz1 hk1 hS => ?_)
    obtain ⟨hru9, hw5⟩ := hw5
    subst hru9
    obtain ⟨hf5_0, hP1, hK1, hD1⟩ := hB
    rw [ht] at hP1
    obtain ⟨hP, hD⟩ : xPD D A [oAJ pta cJ 64 pt, oX10 xo tp rd rn co wy sg sh pl sp lf, oX3 pl pna pta rails limit retry behind, oX5 rn hy rsa ria raa rta rga dead key tick held tries trips ldraw gdraw] H1 := xjn 1 hP hD [0, 3, 2] [1] hC9 rfl (by decide +kernel) (by decide +kernel) hk1 hFc hP1 hD1
    generalize H1 = H at hP hS ⊢
    have hf5_0 : M_alive dead rails = (r5) := hf5_0
    have hw5 : 0 ≤ r5.toInt ∧ r5.toInt ≤ 255 := hw5
    have h9M := congrArg (fun t9 => (K_x_down_5 rails a0 pt dead t9)) hf5_0
    have hM : M_x_down a0 rails pt dead = (K_x_down_5 rails a0 pt dead r5) := (show M_x_down a0 rails pt dead = ((fun t9 => (K_x_down_5 rails a0 pt dead t9)) (M_alive dead rails)) from hM).trans h9M
    obtain ⟨hPc, hDc, hFc, hC9⟩ := xpk (wc := W_upAmong cI cJ cZ cG cH pl r5 pna pta rails limit retry behind pt) hP hD hS hA [2, 0] (by decide +kernel) rfl
    refine va_calli (va_runV (As := [.int r5]) (rest := []) ⟨hx, hb, hml, hown, hts⟩ (c_upAmong l D cI cJ cZ cG cH H.size pl r5 pna pta rails limit retry behind pt (xrng rfl (by omega) (by omega))) (cwV 1 hts (xGV tbC wd507 wd508 wd509 wd59 wd1041) rfl rfl rfl (by decide +kernel) ⟨Nat.le_of_ble_eq_true rfl, Nat.le_of_ble_eq_true rfl⟩) ⟨xPc_blind, va_recv hK hPc (ci := 2) (q0 := 0) rfl rfl, xPc_pre hPc hK hDc⟩ rfl rfl hl.1 rfl (lv_room (Nat.le_of_ble_eq_true rfl)) dX10_down_24 ⟨Nat.le_of_ble_eq_true rfl, Nat.le_of_ble_eq_true rfl⟩) hS (fun q _ h => hFc q h) hFc (fun r6 u t H1 locs ht hvm hw6 hB hz1 hk1 hS => ?_)
    obtain ⟨hru9, hw6⟩ := hw6
    subst hru9
    obtain ⟨hf6_0, hP1, hK1, hD1⟩ := hB
    rw [ht] at hP1
    obtain ⟨hP, hD⟩ : xPD D A [oX10 xo tp rd rn co wy sg sh pl sp lf, oX5 rn hy rsa ria raa rta rga dead key tick held tries trips ldraw gdraw, oX3 pl pna pta rails limit retry behind, oAJ pta cJ 64 pt] H1 := xjn 2 hP hD [2, 0] [1, 3] hC9 rfl (by decide +kernel) (by decide +kernel) hk1 hFc hP1 hD1
    generalize H1 = H at hP hS ⊢
    have hf6_0 : M_upAmong rails r5 pt = (r6) := hf6_0
    have hw6 : 0 ≤ r6.toInt ∧ r6.toInt ≤ 255 := hw6
    have h9M := congrArg (fun t9 => (K_x_down_6 t9 rails a0 pt dead)) hf6_0
    have hM : M_x_down a0 rails pt dead = (K_x_down_6 r6 rails a0 pt dead) := (show M_x_down a0 rails pt dead = ((fun t9 => (K_x_down_6 t9 rails a0 pt dead)) (M_upAmong rails r5 pt)) from hM).trans h9M
    refine lv_aload_n hx hb dX10_down_27 rfl (lv_at hl 0 rfl) ?_
    refine va_get (D := D) (ci := 9) (v := .ref pl) (C := RX10) (T := TX10) (N := 10) hx hb hts (fun w h => tbC w (tbfX10 w h)) hown hK hP 0 rfl rfl 7 (by decide) (hts (.fieldLink RX10 56 "PowerRails" "plan" "LPowerRails$Plan;") (tbC _ wd254)) (fun _ h9 => h9) rfl dX10_down_28 ?_
    refine lv_aload_n hx hb dX10_down_31 rfl (lv_at hl 0 rfl) ?_
    obtain ⟨hPc, hDc, hFc, hC9⟩ := xpk (wc := W_alive cI cJ cZ cG cH xo tp rd rn co wy sg sh pl sp lf pna pta rails limit retry behind hy rsa ria raa rta rga dead key tick held tries trips ldraw gdraw) hP hD hS hA [0, 2, 1] (by decide +kernel) rfl
    refine va_calli (va_runV (As := []) (rest := [.ref pl, .int r6]) ⟨hx, hb, hml, hown, hts⟩ (c_alive l D cI cJ cZ cG cH H.size xo tp rd rn co wy sg sh pl sp lf pna pta rails limit retry behind hy rsa ria raa rta rga dead key tick held tries trips ldraw gdraw (xrng rfl (by omega) (by omega)) (xrng rfl (by omega) (by omega))) (cwV 0 hts (xGV tbC wd523 wd524 wd2 wd50 wd1046) rfl rfl rfl (by decide +kernel) ⟨Nat.le_of_ble_eq_true rfl, Nat.le_of_ble_eq_true rfl⟩) ⟨xPc_blind, va_recv hK hPc (ci := 9) (q0 := 0) rfl rfl, xPc_pre hPc hK hDc⟩ rfl rfl hl.1 rfl (lv_room (Nat.le_of_ble_eq_true rfl)) dX10_down_32 ⟨Nat.le_of_ble_eq_true rfl, Nat.le_of_ble_eq_true rfl⟩) hS (fun q _ h => hFc q h) hFc (fun r7 u t H1 locs ht hvm hw7 hB hz1 hk1 hS => ?_)
    obtain ⟨hru9, hw7⟩ := hw7
    subst hru9
    obtain ⟨hf7_0, hP1, hK1, hD1⟩ := hB
    rw [ht] at hP1
    obtain ⟨hP, hD⟩ : xPD D A [oAJ pta cJ 64 pt, oX10 xo tp rd rn co wy sg sh pl sp lf, oX3 pl pna pta rails limit retry behind, oX5 rn hy rsa ria raa rta rga dead key tick held tries trips ldraw gdraw] H1 := xjn 1 hP hD [0, 2, 1] [3] hC9 rfl (by decide +kernel) (by decide +kernel) hk1 hFc hP1 hD1
    generalize H1 = H at hP hS ⊢
    have hf7_0 : M_alive dead rails = (r7) := hf7_0
    have hw7 : 0 ≤ r7.toInt ∧ r7.toInt ≤ 255 := hw7
    have h9M := congrArg (fun t9 => (K_x_down_7 r6 rails t9 a0 pt)) hf7_0
    have hM : M_x_down a0 rails pt dead = (K_x_down_7 r6 rails r7 a0 pt) := (show M_x_down a0 rails pt dead = ((fun t9 => (K_x_down_7 r6 rails t9 a0 pt)) (M_alive dead rails)) from hM).trans h9M
    refine lv_iload_n hx hb dX10_down_35 rfl (lv_at hl 1 rfl) ?_
    refine lv_iconst (v := (-1)) hx hb dX10_down_36 (by decide) ?_
    refine lv_ixor hx hb dX10_down_37 ?_
    refine lv_topi (fun v8 ev8 => ?_)
    refine lv_iand hx hb dX10_down_38 ?_
    refine lv_topi (fun v9 ev9 => ?_)
    have rv9 : 0 ≤ v9.toInt ∧ v9.toInt ≤ r7.toInt := xandL' ev9 (show (r7 : Int32).toInt = r7.toInt from rfl) (by omega)
    obtain ⟨hPc, hDc, hFc, hC9⟩ := xpk (wc := W_upAmong cI cJ cZ cG cH pl v9 pna pta rails limit retry behind pt) hP hD hS hA [2, 0] (by decide +kernel) rfl
    refine va_calli (va_runV (As := [.int v9]) (rest := [.int r6]) ⟨hx, hb, hml, hown, hts⟩ (c_upAmong l D cI cJ cZ cG cH H.size pl v9 pna pta rails limit retry behind pt (xrng rfl (by omega) (by omega))) (cwV 1 hts (xGV tbC wd507 wd508 wd509 wd59 wd1041) rfl rfl rfl (by decide +kernel) ⟨Nat.le_of_ble_eq_true rfl, Nat.le_of_ble_eq_true rfl⟩) ⟨xPc_blind, va_recv hK hPc (ci := 2) (q0 := 0) rfl rfl, xPc_pre hPc hK hDc⟩ rfl rfl hl.1 rfl (lv_room (Nat.le_of_ble_eq_true rfl)) dX10_down_39 ⟨Nat.le_of_ble_eq_true rfl, Nat.le_of_ble_eq_true rfl⟩) hS (fun q _ h => hFc q h) hFc (fun r10 u t H1 locs ht hvm hw10 hB hz1 hk1 hS => ?_)
    obtain ⟨hru9, hw10⟩ := hw10
    subst hru9
    obtain ⟨hf10_0, hP1, hK1, hD1⟩ := hB
    rw [ht] at hP1
    obtain ⟨hP, hD⟩ : xPD D A [oX10 xo tp rd rn co wy sg sh pl sp lf, oX5 rn hy rsa ria raa rta rga dead key tick held tries trips ldraw gdraw, oX3 pl pna pta rails limit retry behind, oAJ pta cJ 64 pt] H1 := xjn 2 hP hD [2, 0] [1, 3] hC9 rfl (by decide +kernel) (by decide +kernel) hk1 hFc hP1 hD1
    generalize H1 = H at hP hS ⊢
    have hf10_0 : M_upAmong rails v9 pt = (r10) := hf10_0
    have hw10 : 0 ≤ r10.toInt ∧ r10.toInt ≤ 255 := hw10
    have h9M := congrArg (fun t9 => (K_x_down_8 r6 t9)) hf10_0
    have hM : M_x_down a0 rails pt dead = (K_x_down_8 r6 r10) := (show M_x_down a0 rails pt dead = ((fun t9 => (K_x_down_8 r6 t9)) (M_upAmong rails v9 pt)) from (by rw [ev9, ev8]; exact hM)).trans h9M
    refine lv_iconst (v := (-1)) hx hb dX10_down_42 (by decide) ?_
    refine lv_ixor hx hb dX10_down_43 ?_
    refine lv_topi (fun v11 ev11 => ?_)
    refine lv_iand hx hb dX10_down_44 ?_
    refine lv_topi (fun v12 ev12 => ?_)
    have rv12 : 0 ≤ v12.toInt ∧ v12.toInt ≤ r6.toInt := xandL' ev12 (show (r6 : Int32).toInt = r6.toInt from rfl) (by omega)
    refine W.widen (k := 0) (n := 0) (by decide) (by decide) ?_
    exact W.iret (v := v12) hx hb hr (fun t ht hW => ⟨⟨v12, v12, rfl, ⟨rfl, (xrng rfl (by omega) (by omega))⟩, ⟨(by rw [ev12, ev11]; exact hM), xB_of9 ht hW hP hK hD [0, 2, 3, 1] (by decide +kernel) rfl⟩⟩, hS.F ht⟩) hS.2.2 dX10_down_45
  · skip
    have i_4 : ¬ (v3.toInt = 0) := fun h9 => c_4 ((ieq rfl (by decide)).mpr h9)
    have hM : M_x_down a0 rails pt dead = (K_x_down_4) := (show M_x_down a0 rails pt dead = (if v3.toInt = 0 then (K_x_down_3 rails a0 pt dead) else (K_x_down_4)) from (by rw [ev3, ev2]; exact hM)).trans (if_neg i_4)
    refine lv_iconst (v := (-1)) hx hb dX10_down_14 (by decide) ?_
    refine W.widen (k := 0) (n := 0) (by decide) (by decide) ?_
    exact W.iret (v := (-1)) hx hb hr (fun t ht hW => ⟨⟨(-1), (-1), rfl, ⟨rfl, ⟨by decide, by decide⟩⟩, ⟨hM, xB_of9 ht hW hP hK hD [0, 3, 1, 2] (by decide +kernel) rfl⟩⟩, hS.F ht⟩) hS.2.2 dX10_down_15
def K_x_cut_4  : (Int32) := ((-1 : Int32))
def K_x_cut_10  : (Int32) := ((-2 : Int32))
def K_x_cut_14  : (Int32) := ((-4 : Int32))
def K_x_cut_17 (r11 : Int32) : (Int32) := (r11)
def K_x_cut_16 (r8 : Int32) : (Int32) := ((fun t9 => (K_x_cut_17 t9)) (M_bitCount r8))
def K_x_cut_15 (r8 : Int32) : (Int32) := (r8)
def K_x_cut_13 (a1 : Int32) (r8 : Int32) : (Int32) := (if a1.toInt = 0 then (K_x_cut_16 r8) else (K_x_cut_15 r8))
def K_x_cut_12 (r8 : Int32) (a1 : Int32) : (Int32) := (if r8.toInt = 0 then (K_x_cut_14) else (K_x_cut_13 a1 r8))
def K_x_cut_11 (a1 : Int32) (a0 : Int32) (rails : Int32) (r7 : Int32) (pt : Nat → Int64) : (Int32) := ((fun t9 => (K_x_cut_12 t9 a1)) (M_fewestCut a0 rails r7 pt))
def K_x_cut_9 (a1 : Int32) (a0 : Int32) (rails : Int32) (pt : Nat → Int64) (dead : Int32) : (Int32) := ((fun t9 => (K_x_cut_11 a1 a0 rails t9 pt)) (M_alive dead rails))
def K_x_cut_8 (r5 : Int32) (a1 : Int32) (a0 : Int32) (rails : Int32) (pt : Nat → Int64) (dead : Int32) : (Int32) := (if r5.toInt = 0 then (K_x_cut_10) else (K_x_cut_9 a1 a0 rails pt dead))
def K_x_cut_6 (a1 : Int32) (a0 : Int32) (rails : Int32) (pt : Nat → Int64) (dead : Int32) : (Int32) := ((fun t9 => (K_x_cut_8 t9 a1 a0 rails pt dead)) (M_canBeUp a0 rails pt dead))
def K_x_cut_7  : (Int32) := ((-1 : Int32))
def K_x_cut_5 (a1 : Int32) (a0 : Int32) (rails : Int32) (pt : Nat → Int64) (dead : Int32) : (Int32) := (if a1.toInt ≤ 1 then (K_x_cut_6 a1 a0 rails pt dead) else (K_x_cut_7))
def K_x_cut_3 (a1 : Int32) (a0 : Int32) (rails : Int32) (pt : Nat → Int64) (dead : Int32) : (Int32) := (if a1.toInt < 0 then (K_x_cut_4) else (K_x_cut_5 a1 a0 rails pt dead))
def K_x_cut_2  : (Int32) := ((-1 : Int32))
def K_x_cut_1 (a0 : Int32) (rails : Int32) (a1 : Int32) (pt : Nat → Int64) (dead : Int32) : (Int32) := (if 0 ≤ a0.toInt ∧ a0.toInt < rails.toInt then (K_x_cut_3 a1 a0 rails pt dead) else (K_x_cut_2))
def M_x_cut (a0 : Int32) (rails : Int32) (a1 : Int32) (pt : Nat → Int64) (dead : Int32) : (Int32) := (K_x_cut_1 a0 rails a1 pt dead)
abbrev W_x_cut (cI cJ cZ cG cH : ClassId) (xo : Nat) (a0 : Int32) (a1 : Int32) (tp : Nat) (rd : Nat) (rn : Nat) (co : Nat) (wy : Nat) (sg : Nat) (sh : Nat) (pl : Nat) (sp : Nat) (lf : Int32) (pna : Nat) (pta : Nat) (rails : Int32) (limit : Int32) (retry : Int32) (behind : Int32) (pt : Nat → Int64) (hy : Nat) (rsa : Nat) (ria : Nat) (raa : Nat) (rta : Nat) (rga : Nat) (dead : Int32) (key : Int32) (tick : Int32) (held : Int32) (tries : Int32) (trips : Int32) (ldraw : Int32) (gdraw : Int32) : va_W := [oX10 xo tp rd rn co wy sg sh pl sp lf, oX3 pl pna pta rails limit retry behind, oAJ pta cJ 64 pt, oX5 rn hy rsa ria raa rta rga dead key tick held tries trips ldraw gdraw]
abbrev Q_x_cut (D : va_G) (cI cJ cZ cG cH : ClassId) (xo : Nat) (a0 : Int32) (a1 : Int32) (tp : Nat) (rd : Nat) (rn : Nat) (co : Nat) (wy : Nat) (sg : Nat) (sh : Nat) (pl : Nat) (sp : Nat) (lf : Int32) (pna : Nat) (pta : Nat) (rails : Int32) (limit : Int32) (retry : Int32) (behind : Int32) (pt : Nat → Int64) (hy : Nat) (rsa : Nat) (ria : Nat) (raa : Nat) (rta : Nat) (rga : Nat) (dead : Int32) (key : Int32) (tick : Int32) (held : Int32) (tries : Int32) (trips : Int32) (ldraw : Int32) (gdraw : Int32) (A : Nat → Prop) : Array Value → State → Outcome → State → Prop := va_Qi (fun (r : Int32) (u9 : Int32) => r = u9 ∧ ((-4) ≤ r.toInt ∧ r.toInt ≤ 255)) (fun u9 t => (M_x_cut a0 rails a1 pt dead = (u9)) ∧ xB D (tyL cI cJ cZ cG cH) [oX10 xo tp rd rn co wy sg sh pl sp lf, oX3 pl pna pta rails limit retry behind, oAJ pta cJ 64 pt, oX5 rn hy rsa ria raa rta rga dead key tick held tries trips ldraw gdraw] A t) A
abbrev rm_x_cut : Room := { frames := 4, cells := 0, slots := 0, locals := 95 }
set_option maxRecDepth 100000 in
set_option maxHeartbeats 40000000 in
theorem c_x_cut (l : Launch) (D : va_G) (cI cJ cZ cG cH : ClassId) (sz : Nat) (xo : Nat) (a0 : Int32) (a1 : Int32) (tp : Nat) (rd : Nat) (rn : Nat) (co : Nat) (wy : Nat) (sg : Nat) (sh : Nat) (pl : Nat) (sp : Nat) (lf : Int32) (pna : Nat) (pta : Nat) (rails : Int32) (limit : Int32) (retry : Int32) (behind : Int32) (pt : Nat → Int64) (hy : Nat) (rsa : Nat) (ria : Nat) (raa : Nat) (rta : Nat) (rga : Nat) (dead : Int32) (key : Int32) (tick : Int32) (held : Int32) (tries : Int32) (trips : Int32) (ldraw : Int32) (gdraw : Int32) (h_rails : 0 ≤ rails.toInt ∧ rails.toInt ≤ 8) (h_key : 0 ≤ key.toInt ∧ key.toInt ≤ 1) : Met l yX10_cut (wt yX10_cut cX10_cut 4 (some .int)) rm_x_cut (xPc [.ref xo, .int a0, .int a1] D (tyL cI cJ cZ cG cH) (W_x_cut cI cJ cZ cG cH xo a0 a1 tp rd rn co wy sg sh pl sp lf pna pta rails limit retry behind pt hy rsa ria raa rta rga dead key tick held tries trips ldraw gdraw) sz) (Q_x_cut D cI cJ cZ cG cH xo a0 a1 tp rd rn co wy sg sh pl sp lf pna pta rails limit retry behind pt hy rsa ria raa rta rga dead key tick held tries trips ldraw gdraw (va_A (W_x_cut cI cJ cZ cG cH xo a0 a1 tp rd rn co wy sg sh pl sp lf pna pta rails limit retry behind pt hy rsa ria raa rta rga dead key tick held tries trips ldraw gdraw) sz)) 0 0 (va_A (W_x_cut cI cJ cZ cG cH xo a0 a1 tp rd rn co wy sg sh pl sp lf pna pta rails limit retry behind pt hy rsa ria raa rta rga dead key tick held tries trips ldraw gdraw) sz) := by
  refine xMet (cc := cX10_cut) (maxL := 4) (ret := (some .int)) (Qf := Q_x_cut D cI cJ cZ cG cH xo a0 a1 tp rd rn co wy sg sh pl sp lf pna pta rails limit retry behind pt hy rsa ria raa rta rga dead key tick held tries trips ldraw gdraw) (by decide) rfl (Nat.le_of_ble_eq_true rfl) ?_
  intro p e s m below meth c ls A hx hb hr hml hts hown hlocks hnm hsz hP hK hD hA hS hl
  have hown : s.vm.findClass RX10 = some m.cls := hown
  have hP : va_P D vwCl [oX10 xo tp rd rn co wy sg sh pl sp lf, oX3 pl pna pta rails limit retry behind, oAJ pta cJ 64 pt, oX5 rn hy rsa ria raa rta rga dead key tick held tries trips ldraw gdraw] s.heap := hP
  have hD : va_D A [oX10 xo tp rd rn co wy sg sh pl sp lf, oX3 pl pna pta rails limit retry behind, oAJ pta cJ 64 pt, oX5 rn hy rsa ria raa rta rga dead key tick held tries trips ldraw gdraw] := hD
  have hl : lv_has ls 4 [(0, .ref xo), (1, .int a0), (2, .int a1)] := hl
  have hM : M_x_cut a0 rails a1 pt dead = (K_x_cut_1 a0 rails a1 pt dead) := rfl
  refine lv_aload_n hx hb dX10_cut_0 rfl (lv_at hl 0 rfl) ?_
  refine va_get (D := D) (ci := 9) (v := .ref pl) (C := RX10) (T := TX10) (N := 10) hx hb hts (fun w h => tbC w (tbfX10 w h)) hown hK hP 0 rfl rfl 7 (by decide) (hts (.fieldLink RX10 56 "PowerRails" "plan" "LPowerRails$Plan;") (tbC _ wd254)) (fun _ h9 => h9) rfl dX10_cut_1 ?_
  refine lv_iload_n hx hb dX10_cut_4 rfl (lv_at hl 1 rfl) ?_
  obtain ⟨hPc, hDc, hFc, hC9⟩ := xpk (wc := W_hasRail cI cJ cZ cG cH pl a0 pna pta rails limit retry behind) hP hD hS hA [1] (by decide +kernel) rfl
  refine va_calli (va_runV (As := [.int a0]) (rest := []) ⟨hx, hb, hml, hown, hts⟩ (c_hasRail l D cI cJ cZ cG cH s.heap.size pl a0 pna pta rails limit retry behind (xrng rfl (by omega) (by omega))) (cwV 1 hts (xGV tbC wd409 wd410 wd411 wd59 wd1009) rfl rfl rfl (by decide +kernel) ⟨Nat.le_of_ble_eq_true rfl, Nat.le_of_ble_eq_true rfl⟩) ⟨xPc_blind, va_recv hK hPc (ci := 2) (q0 := 0) rfl rfl, xPc_pre hPc hK hDc⟩ rfl rfl hl.1 rfl (lv_room (Nat.le_of_ble_eq_true rfl)) dX10_cut_5 ⟨Nat.le_of_ble_eq_true rfl, Nat.le_of_ble_eq_true rfl⟩) hS (fun q _ h => hFc q h) hFc (fun r1 u t H1 locs ht hvm hw1 hB hz1 hk1 hS => ?_)
  obtain ⟨hP1, hK1, hD1⟩ := hB
  rw [ht] at hP1
  obtain ⟨hP, hD⟩ : xPD D A [oX10 xo tp rd rn co wy sg sh pl sp lf, oAJ pta cJ 64 pt, oX5 rn hy rsa ria raa rta rga dead key tick held tries trips ldraw gdraw, oX3 pl pna pta rails limit retry behind] H1 := xjn 3 hP hD [1] [0, 2, 3] hC9 rfl (by decide +kernel) (by decide +kernel) hk1 hFc hP1 hD1
  generalize H1 = H at hP hS ⊢
  have hw1 : r1 = if 0 ≤ a0.toInt ∧ a0.toInt < rails.toInt then 1 else 0 := hw1
  refine lv_if_eq (tgt := 20) hx hb dX10_cut_8 (by decide) (fun c_2 => ?_) (fun c_2 => ?_)
  · skip
    have i_2 : ¬ (0 ≤ a0.toInt ∧ a0.toInt < rails.toInt) := (xbool hw1).1.mp c_2
    have hM : M_x_cut a0 rails a1 pt dead = (K_x_cut_2) := (show M_x_cut a0 rails a1 pt dead = (if 0 ≤ a0.toInt ∧ a0.toInt < rails.toInt then (K_x_cut_3 a1 a0 rails pt dead) else (K_x_cut_2)) from hM).trans (if_neg i_2)
    refine lv_iconst (v := (-1)) hx hb dX10_cut_20 (by decide) ?_
    refine W.widen (k := 0) (n := 0) (by decide) (by decide) ?_
    exact W.iret (v := (-1)) hx hb hr (fun t ht hW => ⟨⟨(-1), (-1), rfl, ⟨rfl, ⟨by decide, by decide⟩⟩, ⟨hM, xB_of9 ht hW hP hK hD [0, 3, 1, 2] (by decide +kernel) rfl⟩⟩, hS.F ht⟩) hS.2.2 dX10_cut_21
  · skip
    have i_2 : 0 ≤ a0.toInt ∧ a0.toInt < rails.toInt := (xbool hw1).2.mp c_2
    have hM : M_x_cut a0 rails a1 pt dead = (K_x_cut_3 a1 a0 rails pt dead) := (show M_x_cut a0 rails a1 pt dead = (if 0 ≤ a0.toInt ∧ a0.toInt < rails.toInt then (K_x_cut_3 a1 a0 rails pt dead) else (K_x_cut_2)) from hM).trans (if_pos i_2)
    refine lv_iload_n hx hb dX10_cut_11 rfl (lv_at hl 2 rfl) ?_
    refine lv_if_lt (tgt := 20) hx hb dX10_cut_12 (by decide) (fun c_3 => ?_) (fun c_3 => ?_)
    · skip
      have i_3 : a1.toInt < 0 := (ilt rfl (by decide)).mp c_3
      have hM : M_x_cut a0 rails a1 pt dead = (K_x_cut_4) := (show M_x_cut a0 rails a1 pt dead = (if a1.toInt < 0 then (K_x_cut_4) else (K_x_cut_5 a1 a0 rails pt dead)) from hM).trans (if_pos i_3)
      refine lv_iconst (v := (-1)) hx hb dX10_cut_20 (by decide) ?_
      refine W.widen (k := 0) (n := 0) (by decide) (by decide) ?_
      exact W.iret (v := (-1)) hx hb hr (fun t ht hW => ⟨⟨(-1), (-1), rfl, ⟨rfl, ⟨by decide, by decide⟩⟩, ⟨hM, xB_of9 ht hW hP hK hD [0, 3, 1, 2] (by decide +kernel) rfl⟩⟩, hS.F ht⟩) hS.2.2 dX10_cut_21
    · skip
      have i_3 : ¬ (a1.toInt < 0) := fun h9 => c_3 ((ilt rfl (by decide)).mpr h9)
      have hM : M_x_cut a0 rails a1 pt dead = (K_x_cut_5 a1 a0 rails pt dead) := (show M_x_cut a0 rails a1 pt dead = (if a1.toInt < 0 then (K_x_cut_4) else (K_x_cut_5 a1 a0 rails pt dead)) from hM).trans (if_neg i_3)
      refine lv_iload_n hx hb dX10_cut_15 rfl (lv_at hl 2 rfl) ?_
      refine lv_iconst (v := 1) hx hb dX10_cut_16 (by decide) ?_
      refine lv_icmp_le (tgt := 22) hx hb dX10_cut_17 (by decide) (fun c_4 => ?_) (fun c_4 => ?_)
      · skip
        have i_4 : a1.toInt ≤ 1 := (ile rfl (by decide)).mp c_4
        have hM : M_x_cut a0 rails a1 pt dead = (K_x_cut_6 a1 a0 rails pt dead) := (show M_x_cut a0 rails a1 pt dead = (if a1.toInt ≤ 1 then (K_x_cut_6 a1 a0 rails pt dead) else (K_x_cut_7)) from hM).trans (if_pos i_4)
        refine lv_aload_n hx hb dX10_cut_22 rfl (lv_at hl 0 rfl) ?_
        refine lv_iload_n hx hb dX10_cut_23 rfl (lv_at hl 1 rfl) ?_
        obtain ⟨hPc, hDc, hFc, hC9⟩ := xpk (wc := W_canBeUp cI cJ cZ cG cH xo a0 tp rd rn co wy sg sh pl sp lf pna pta rails limit retry behind pt hy rsa ria raa rta rga dead key tick held tries trips ldraw gdraw) hP hD hS hA [0, 3, 1, 2] (by decide +kernel) rfl
        refine va_calli (va_runV (As := [.int a0]) (rest := []) ⟨hx, hb, hml, hown, hts⟩ (c_canBeUp l D cI cJ cZ cG cH H.size xo a0 tp rd rn co wy sg sh pl sp lf pna pta rails limit retry behind pt hy rsa ria raa rta rga dead key tick held tries trips ldraw gdraw (xrng rfl (by omega) (by omega)) (xrng rfl (by omega) (by omega))) (cwV 1 hts (xGV tbC wd615 wd616 wd3 wd50 wd1071) rfl rfl rfl (by decide +kernel) ⟨Nat.le_of_ble_eq_true rfl, Nat.le_of_ble_eq_true rfl⟩) ⟨xPc_blind, va_recv hK hPc (ci := 9) (q0 := 0) rfl rfl, xPc_pre hPc hK hDc⟩ rfl rfl hl.1 rfl (lv_room (Nat.le_of_ble_eq_true rfl)) dX10_cut_24 ⟨Nat.le_of_ble_eq_true rfl, Nat.le_of_ble_eq_true rfl⟩) hS (fun q _ h => hFc q h) hFc (fun r5 u t H1 locs ht hvm hw5 hB hz1 hk1 hS => ?_)
        obtain ⟨hru9, hw5⟩ := hw5
        subst hru9
        obtain ⟨hf5_0, hP1, hK1, hD1⟩ := hB
        rw [ht] at hP1
        obtain ⟨hP, hD⟩ : xPD D A [oX10 xo tp rd rn co wy sg sh pl sp lf, oX3 pl pna pta rails limit retry behind, oAJ pta cJ 64 pt, oX5 rn hy rsa ria raa rta rga dead key tick held tries trips ldraw gdraw] H1 := xjn 0 hP hD [0, 3, 1, 2] [] hC9 rfl (by decide +kernel) (by decide +kernel) hk1 hFc hP1 hD1
        generalize H1 = H at hP hS ⊢
        have hf5_0 : M_canBeUp a0 rails pt dead = (r5) := hf5_0
        have hw5 : 0 ≤ r5.toInt ∧ r5.toInt ≤ 1 := hw5
        have h9M := congrArg (fun t9 => (K_x_cut_8 t9 a1 a0 rails pt dead)) hf5_0
        have hM : M_x_cut a0 rails a1 pt dead = (K_x_cut_8 r5 a1 a0 rails pt dead) := (show M_x_cut a0 rails a1 pt dead = ((fun t9 => (K_x_cut_8 t9 a1 a0 rails pt dead)) (M_canBeUp a0 rails pt dead)) from hM).trans h9M
        refine lv_if_ne (tgt := 33) hx hb dX10_cut_27 (by decide) (fun c_6 => ?_) (fun c_6 => ?_)
        · skip
          have i_6 : ¬ (r5.toInt = 0) := fun h9 => c_6 ((ieq rfl (by decide)).mpr h9)
          have hM : M_x_cut a0 rails a1 pt dead = (K_x_cut_9 a1 a0 rails pt dead) := (show M_x_cut a0 rails a1 pt dead = (if r5.toInt = 0 then (K_x_cut_10) else (K_x_cut_9 a1 a0 rails pt dead)) from hM).trans (if_neg i_6)
          refine lv_aload_n hx hb dX10_cut_33 rfl (lv_at hl 0 rfl) ?_
          refine va_get (D := D) (ci := 9) (v := .ref pl) (C := RX10) (T := TX10) (N := 10) hx hb hts (fun w h => tbC w (tbfX10 w h)) hown hK hP 0 rfl rfl 7 (by decide) (hts (.fieldLink RX10 56 "PowerRails" "plan" "LPowerRails$Plan;") (tbC _ wd254)) (fun _ h9 => h9) rfl dX10_cut_34 ?_
          refine lv_aload_n hx hb dX10_cut_37 rfl (lv_at hl 0 rfl) ?_
          obtain ⟨hPc, hDc, hFc, hC9⟩ := xpk (wc := W_alive cI cJ cZ cG cH xo tp rd rn co wy sg sh pl sp lf pna pta rails limit retry behind hy rsa ria raa rta rga dead key tick held tries trips ldraw gdraw) hP hD hS hA [0, 1, 3] (by decide +kernel) rfl
          refine va_calli (va_runV (As := []) (rest := [.ref pl]) ⟨hx, hb, hml, hown, hts⟩ (c_alive l D cI cJ cZ cG cH H.size xo tp rd rn co wy sg sh pl sp lf pna pta rails limit retry behind hy rsa ria raa rta rga dead key tick held tries trips ldraw gdraw (xrng rfl (by omega) (by omega)) (xrng rfl (by omega) (by omega))) (cwV 0 hts (xGV tbC wd523 wd524 wd2 wd50 wd1046) rfl rfl rfl (by decide +kernel) ⟨Nat.le_of_ble_eq_true rfl, Nat.le_of_ble_eq_true rfl⟩) ⟨xPc_blind, va_recv hK hPc (ci := 9) (q0 := 0) rfl rfl, xPc_pre hPc hK hDc⟩ rfl rfl hl.1 rfl (lv_room (Nat.le_of_ble_eq_true rfl)) dX10_cut_38 ⟨Nat.le_of_ble_eq_true rfl, Nat.le_of_ble_eq_true rfl⟩) hS (fun q _ h => hFc q h) hFc (fun r7 u t H1 locs ht hvm hw7 hB hz1 hk1 hS => ?_)
          obtain ⟨hru9, hw7⟩ := hw7
          subst hru9
          obtain ⟨hf7_0, hP1, hK1, hD1⟩ := hB
          rw [ht] at hP1
          obtain ⟨hP, hD⟩ : xPD D A [oAJ pta cJ 64 pt, oX10 xo tp rd rn co wy sg sh pl sp lf, oX3 pl pna pta rails limit retry behind, oX5 rn hy rsa ria raa rta rga dead key tick held tries trips ldraw gdraw] H1 := xjn 1 hP hD [0, 1, 3] [2] hC9 rfl (by decide +kernel) (by decide +kernel) hk1 hFc hP1 hD1
          generalize H1 = H at hP hS ⊢
          have hf7_0 : M_alive dead rails = (r7) := hf7_0
          have hw7 : 0 ≤ r7.toInt ∧ r7.toInt ≤ 255 := hw7
          have h9M := congrArg (fun t9 => (K_x_cut_11 a1 a0 rails t9 pt)) hf7_0
          have hM : M_x_cut a0 rails a1 pt dead = (K_x_cut_11 a1 a0 rails r7 pt) := (show M_x_cut a0 rails a1 pt dead = ((fun t9 => (K_x_cut_11 a1 a0 rails t9 pt)) (M_alive dead rails)) from hM).trans h9M
          refine lv_iload_n hx hb dX10_cut_41 rfl (lv_at hl 1 rfl) ?_
          obtain ⟨hPc, hDc, hFc, hC9⟩ := xpk (wc := W_fewestCut cI cJ cZ cG cH pl r7 a0 pna pta rails limit retry behind pt) hP hD hS hA [2, 0] (by decide +kernel) rfl
          refine va_calli (va_runS (As := [.ref pl, .int r7, .int a0]) (rest := []) ⟨hx, hb, hml, hown, hts⟩ (c_fewestCut l D cI cJ cZ cG cH H.size pl r7 a0 pna pta rails limit retry behind pt (xrng rfl (by omega) (by omega))) (va_cwS 3 hts (xGS tbC wd617 wd618 wd68 wd1072) rfl rfl rfl (by decide +kernel) ⟨Nat.le_of_ble_eq_true rfl, Nat.le_of_ble_eq_true rfl⟩) ⟨xPc_blind, xPc_pre hPc hK hDc⟩ rfl rfl hl.1 rfl (lv_room (Nat.le_of_ble_eq_true rfl)) dX10_cut_42 ⟨Nat.le_of_ble_eq_true rfl, Nat.le_of_ble_eq_true rfl⟩) hS (fun q _ h => hFc q h) hFc (fun r8 u t H1 locs ht hvm hw8 hB hz1 hk1 hS => ?_)
          obtain ⟨hru9, hw8⟩ := hw8
          subst hru9
          obtain ⟨hf8_0, hP1, hK1, hD1⟩ := hB
          rw [ht] at hP1
          obtain ⟨hP, hD⟩ : xPD D A [oX10 xo tp rd rn co wy sg sh pl sp lf, oX5 rn hy rsa ria raa rta rga dead key tick held tries trips ldraw gdraw, oX3 pl pna pta rails limit retry behind, oAJ pta cJ 64 pt] H1 := xjn 2 hP hD [2, 0] [1, 3] hC9 rfl (by decide +kernel) (by decide +kernel) hk1 hFc hP1 hD1
          generalize H1 = H at hP hS ⊢
          have hf8_0 : M_fewestCut a0 rails r7 pt = (r8) := hf8_0
          have hw8 : 0 ≤ r8.toInt ∧ r8.toInt ≤ 255 := hw8
          have h9M := congrArg (fun t9 => (K_x_cut_12 t9 a1)) hf8_0
          have hM : M_x_cut a0 rails a1 pt dead = (K_x_cut_12 r8 a1) := (show M_x_cut a0 rails a1 pt dead = ((fun t9 => (K_x_cut_12 t9 a1)) (M_fewestCut a0 rails r7 pt)) from hM).trans h9M
          refine lv_istore_n (lv' := [(3, .int r8), (0, .ref xo), (1, .int a0), (2, .int a1)]) hx hb dX10_cut_45 rfl hl (by decide) rfl (fun ls hl => ?_)
          refine lv_iload_n hx hb dX10_cut_46 rfl (lv_at hl 0 rfl) ?_
          refine lv_if_ne (tgt := 53) hx hb dX10_cut_47 (by decide) (fun c_9 => ?_) (fun c_9 => ?_)
          · skip
            have i_9 : ¬ (r8.toInt = 0) := fun h9 => c_9 ((ieq rfl (by decide)).mpr h9)
            have hM : M_x_cut a0 rails a1 pt dead = (K_x_cut_13 a1 r8) := (show M_x_cut a0 rails a1 pt dead = (if r8.toInt = 0 then (K_x_cut_14) else (K_x_cut_13 a1 r8)) from hM).trans (if_neg i_9)
            refine lv_iload_n hx hb dX10_cut_53 rfl (lv_at hl 3 rfl) ?_
            refine lv_if_ne (tgt := 64) hx hb dX10_cut_54 (by decide) (fun c_10 => ?_) (fun c_10 => ?_)
            · skip
              have i_10 : ¬ (a1.toInt = 0) := fun h9 => c_10 ((ieq rfl (by decide)).mpr h9)
              have hM : M_x_cut a0 rails a1 pt dead = (K_x_cut_15 r8) := (show M_x_cut a0 rails a1 pt dead = (if a1.toInt = 0 then (K_x_cut_16 r8) else (K_x_cut_15 r8)) from hM).trans (if_neg i_10)
              refine lv_iload_n hx hb dX10_cut_64 rfl (lv_at hl 0 rfl) ?_
              refine W.widen (k := 0) (n := 0) (by decide) (by decide) ?_
              exact W.iret (v := r8) hx hb hr (fun t ht hW => ⟨⟨r8, r8, rfl, ⟨rfl, (xrng rfl (by omega) (by omega))⟩, ⟨hM, xB_of9 ht hW hP hK hD [0, 2, 3, 1] (by decide +kernel) rfl⟩⟩, hS.F ht⟩) hS.2.2 dX10_cut_65
            · skip
              have i_10 : a1.toInt = 0 := (ieq rfl (by decide)).mp c_10
              have hM : M_x_cut a0 rails a1 pt dead = (K_x_cut_16 r8) := (show M_x_cut a0 rails a1 pt dead = (if a1.toInt = 0 then (K_x_cut_16 r8) else (K_x_cut_15 r8)) from hM).trans (if_pos i_10)
              refine lv_iload_n hx hb dX10_cut_57 rfl (lv_at hl 0 rfl) ?_
              obtain ⟨hPc, hDc, hFc, hC9⟩ := xpk (wc := W_bitCount cI cJ cZ cG cH r8) hP hD hS hA [] (by decide +kernel) rfl
              refine va_calli (va_runS (As := [.int r8]) (rest := []) ⟨hx, hb, hml, hown, hts⟩ (c_bitCount l D cI cJ cZ cG cH H.size r8) (va_cwS 1 hts (xGS tbC wd628 wd621 wd69 wd1073) rfl rfl rfl (by decide +kernel) ⟨Nat.le_of_ble_eq_true rfl, Nat.le_of_ble_eq_true rfl⟩) ⟨xPc_blind, xPc_pre hPc hK hDc⟩ rfl rfl hl.1 rfl (lv_room (Nat.le_of_ble_eq_true rfl)) dX10_cut_58 ⟨Nat.le_of_ble_eq_true rfl, Nat.le_of_ble_eq_true rfl⟩) hS (fun q _ h => hFc q h) hFc (fun r11 u t H1 locs ht hvm hw11 hB hz1 hk1 hS => ?_)
              obtain ⟨hru9, hw11⟩ := hw11
              subst hru9
              obtain ⟨hf11_0, hP1, hK1, hD1⟩ := hB
              rw [ht] at hP1
              obtain ⟨hP, hD⟩ : xPD D A [oX10 xo tp rd rn co wy sg sh pl sp lf, oX5 rn hy rsa ria raa rta rga dead key tick held tries trips ldraw gdraw, oX3 pl pna pta rails limit retry behind, oAJ pta cJ 64 pt] H1 := xjn 4 hP hD [] [0, 1, 2, 3] hC9 rfl (by decide +kernel) (by decide +kernel) hk1 hFc hP1 hD1
              generalize H1 = H at hP hS ⊢
              have hf11_0 : M_bitCount r8 = (r11) := hf11_0
              have hw11 : 0 ≤ r11.toInt ∧ r11.toInt ≤ 63 := hw11
              have h9M := congrArg (fun t9 => (K_x_cut_17 t9)) hf11_0
              have hM : M_x_cut a0 rails a1 pt dead = (K_x_cut_17 r11) := (show M_x_cut a0 rails a1 pt dead = ((fun t9 => (K_x_cut_17 t9)) (M_bitCount r8)) from hM).trans h9M
              refine lv_goto (tgt := 65) hx hb dX10_cut_61 (by decide) ?_
              refine W.widen (k := 0) (n := 0) (by decide) (by decide) ?_
              exact W.iret (v := r11) hx hb hr (fun t ht hW => ⟨⟨r11, r11, rfl, ⟨rfl, (xrng rfl (by omega) (by omega))⟩, ⟨hM, xB_of9 ht hW hP hK hD [0, 2, 3, 1] (by decide +kernel) rfl⟩⟩, hS.F ht⟩) hS.2.2 dX10_cut_65
          · skip
            have i_9 : r8.toInt = 0 := (ieq rfl (by decide)).mp c_9
            have hM : M_x_cut a0 rails a1 pt dead = (K_x_cut_14) := (show M_x_cut a0 rails a1 pt dead = (if r8.toInt = 0 then (K_x_cut_14) else (K_x_cut_13 a1 r8)) from hM).trans (if_pos i_9)
            refine lv_bipush (v := (-4)) hx hb dX10_cut_50 (by decide) ?_
            refine W.widen (k := 0) (n := 0) (by decide) (by decide) ?_
            exact W.iret (v := (-4)) hx hb hr (fun t ht hW => ⟨⟨(-4), (-4), rfl, ⟨rfl, ⟨by decide, by decide⟩⟩, ⟨hM, xB_of9 ht hW hP hK hD [0, 2, 3, 1] (by decide +kernel) rfl⟩⟩, hS.F ht⟩) hS.2.2 dX10_cut_52
        · skip
          have i_6 : r5.toInt = 0 := (ieq rfl (by decide)).mp c_6
          have hM : M_x_cut a0 rails a1 pt dead = (K_x_cut_10) := (show M_x_cut a0 rails a1 pt dead = (if r5.toInt = 0 then (K_x_cut_10) else (K_x_cut_9 a1 a0 rails pt dead)) from hM).trans (if_pos i_6)
          refine lv_bipush (v := (-2)) hx hb dX10_cut_30 (by decide) ?_
          refine W.widen (k := 0) (n := 0) (by decide) (by decide) ?_
          exact W.iret (v := (-2)) hx hb hr (fun t ht hW => ⟨⟨(-2), (-2), rfl, ⟨rfl, ⟨by decide, by decide⟩⟩, ⟨hM, xB_of9 ht hW hP hK hD [0, 1, 2, 3] (by decide +kernel) rfl⟩⟩, hS.F ht⟩) hS.2.2 dX10_cut_32
      · skip
        have i_4 : ¬ (a1.toInt ≤ 1) := fun h9 => c_4 ((ile rfl (by decide)).mpr h9)
        have hM : M_x_cut a0 rails a1 pt dead = (K_x_cut_7) := (show M_x_cut a0 rails a1 pt dead = (if a1.toInt ≤ 1 then (K_x_cut_6 a1 a0 rails pt dead) else (K_x_cut_7)) from hM).trans (if_neg i_4)
        refine lv_iconst (v := (-1)) hx hb dX10_cut_20 (by decide) ?_
        refine W.widen (k := 0) (n := 0) (by decide) (by decide) ?_
        exact W.iret (v := (-1)) hx hb hr (fun t ht hW => ⟨⟨(-1), (-1), rfl, ⟨rfl, ⟨by decide, by decide⟩⟩, ⟨hM, xB_of9 ht hW hP hK hD [0, 3, 1, 2] (by decide +kernel) rfl⟩⟩, hS.F ht⟩) hS.2.2 dX10_cut_21
def K_x_need_4  : (Int32) := ((-1 : Int32))
def K_x_need_10  : (Int32) := ((-2 : Int32))
def K_x_need_15 (r10 : Int32) : (Int32) := (r10)
def K_x_need_14 (r8 : Int32) : (Int32) := ((fun t9 => (K_x_need_15 t9)) (M_bitCount r8))
def K_x_need_13 (r8 : Int32) : (Int32) := (r8)
def K_x_need_12 (a1 : Int32) (r8 : Int32) : (Int32) := (if a1.toInt = 0 then (K_x_need_14 r8) else (K_x_need_13 r8))
def K_x_need_11 (a1 : Int32) (a0 : Int32) (rails : Int32) (r7 : Int32) (pt : Nat → Int64) : (Int32) := ((fun t9 => (K_x_need_12 a1 t9)) (M_fewestDo a0 rails r7 pt))
def K_x_need_9 (a1 : Int32) (a0 : Int32) (rails : Int32) (pt : Nat → Int64) (dead : Int32) : (Int32) := ((fun t9 => (K_x_need_11 a1 a0 rails t9 pt)) (M_alive dead rails))
def K_x_need_8 (r5 : Int32) (a1 : Int32) (a0 : Int32) (rails : Int32) (pt : Nat → Int64) (dead : Int32) : (Int32) := (if r5.toInt = 0 then (K_x_need_10) else (K_x_need_9 a1 a0 rails pt dead))
def K_x_need_6 (a1 : Int32) (a0 : Int32) (rails : Int32) (pt : Nat → Int64) (dead : Int32) : (Int32) := ((fun t9 => (K_x_need_8 t9 a1 a0 rails pt dead)) (M_canBeUp a0 rails pt dead))
def K_x_need_7  : (Int32) := ((-1 : Int32))
def K_x_need_5 (a1 : Int32) (a0 : Int32) (rails : Int32) (pt : Nat → Int64) (dead : Int32) : (Int32) := (if a1.toInt ≤ 1 then (K_x_need_6 a1 a0 rails pt dead) else (K_x_need_7))
def K_x_need_3 (a1 : Int32) (a0 : Int32) (rails : Int32) (pt : Nat → Int64) (dead : Int32) : (Int32) := (if a1.toInt < 0 then (K_x_need_4) else (K_x_need_5 a1 a0 rails pt dead))
def K_x_need_2  : (Int32) := ((-1 : Int32))
def K_x_need_1 (a0 : Int32) (rails : Int32) (a1 : Int32) (pt : Nat → Int64) (dead : Int32) : (Int32) := (if 0 ≤ a0.toInt ∧ a0.toInt < rails.toInt then (K_x_need_3 a1 a0 rails pt dead) else (K_x_need_2))
def M_x_need (a0 : Int32) (rails : Int32) (a1 : Int32) (pt : Nat → Int64) (dead : Int32) : (Int32) := (K_x_need_1 a0 rails a1 pt dead)
abbrev W_x_need (cI cJ cZ cG cH : ClassId) (xo : Nat) (a0 : Int32) (a1 : Int32) (tp : Nat) (rd : Nat) (rn : Nat) (co : Nat) (wy : Nat) (sg : Nat) (sh : Nat) (pl : Nat) (sp : Nat) (lf : Int32) (pna : Nat) (pta : Nat) (rails : Int32) (limit : Int32) (retry : Int32) (behind : Int32) (pt : Nat → Int64) (hy : Nat) (rsa : Nat) (ria : Nat) (raa : Nat) (rta : Nat) (rga : Nat) (dead : Int32) (key : Int32) (tick : Int32) (held : Int32) (tries : Int32) (trips : Int32) (ldraw : Int32) (gdraw : Int32) : va_W := [oX10 xo tp rd rn co wy sg sh pl sp lf, oX3 pl pna pta rails limit retry behind, oAJ pta cJ 64 pt, oX5 rn hy rsa ria raa rta rga dead key tick held tries trips ldraw gdraw]
abbrev Q_x_need (D : va_G) (cI cJ cZ cG cH : ClassId) (xo : Nat) (a0 : Int32) (a1 : Int32) (tp : Nat) (rd : Nat) (rn : Nat) (co : Nat) (wy : Nat) (sg : Nat) (sh : Nat) (pl : Nat) (sp : Nat) (lf : Int32) (pna : Nat) (pta : Nat) (rails : Int32) (limit : Int32) (retry : Int32) (behind : Int32) (pt : Nat → Int64) (hy : Nat) (rsa : Nat) (ria : Nat) (raa : Nat) (rta : Nat) (rga : Nat) (dead : Int32) (key : Int32) (tick : Int32) (held : Int32) (tries : Int32) (trips : Int32) (ldraw : Int32) (gdraw : Int32) (A : Nat → Prop) : Array Value → State → Outcome → State → Prop := va_Qi (fun (r : Int32) (u9 : Int32) => r = u9 ∧ ((-2) ≤ r.toInt ∧ r.toInt ≤ 255)) (fun u9 t => (M_x_need a0 rails a1 pt dead = (u9)) ∧ xB D (tyL cI cJ cZ cG cH) [oX10 xo tp rd rn co wy sg sh pl sp lf, oX3 pl pna pta rails limit retry behind, oAJ pta cJ 64 pt, oX5 rn hy rsa ria raa rta rga dead key tick held tries trips ldraw gdraw] A t) A
abbrev rm_x_need : Room := { frames := 4, cells := 0, slots := 0, locals := 94 }
set_option maxRecDepth 100000 in
set_option maxHeartbeats 40000000 in
theorem c_x_need (l : Launch) (D : va_G) (cI cJ cZ cG cH : ClassId) (sz : Nat) (xo : Nat) (a0 : Int32) (a1 : Int32) (tp : Nat) (rd : Nat) (rn : Nat) (co : Nat) (wy : Nat) (sg : Nat) (sh : Nat) (pl : Nat) (sp : Nat) (lf : Int32) (pna : Nat) (pta : Nat) (rails : Int32) (limit : Int32) (retry : Int32) (behind : Int32) (pt : Nat → Int64) (hy : Nat) (rsa : Nat) (ria : Nat) (raa : Nat) (rta : Nat) (rga : Nat) (dead : Int32) (key : Int32) (tick : Int32) (held : Int32) (tries : Int32) (trips : Int32) (ldraw : Int32) (gdraw : Int32) (h_rails : 0 ≤ rails.toInt ∧ rails.toInt ≤ 8) (h_key : 0 ≤ key.toInt ∧ key.toInt ≤ 1) : Met l yX10_need (wt yX10_need cX10_need 4 (some .int)) rm_x_need (xPc [.ref xo, .int a0, .int a1] D (tyL cI cJ cZ cG cH) (W_x_need cI cJ cZ cG cH xo a0 a1 tp rd rn co wy sg sh pl sp lf pna pta rails limit retry behind pt hy rsa ria raa rta rga dead key tick held tries trips ldraw gdraw) sz) (Q_x_need D cI cJ cZ cG cH xo a0 a1 tp rd rn co wy sg sh pl sp lf pna pta rails limit retry behind pt hy rsa ria raa rta rga dead key tick held tries trips ldraw gdraw (va_A (W_x_need cI cJ cZ cG cH xo a0 a1 tp rd rn co wy sg sh pl sp lf pna pta rails limit retry behind pt hy rsa ria raa rta rga dead key tick held tries trips ldraw gdraw) sz)) 0 0 (va_A (W_x_need cI cJ cZ cG cH xo a0 a1 tp rd rn co wy sg sh pl sp lf pna pta rails limit retry behind pt hy rsa ria raa rta rga dead key tick held tries trips ldraw gdraw) sz) := by
  refine xMet (cc := cX10_need) (maxL := 4) (ret := (some .int)) (Qf := Q_x_need D cI cJ cZ cG cH xo a0 a1 tp rd rn co wy sg sh pl sp lf pna pta rails limit retry behind pt hy rsa ria raa rta rga dead key tick held tries trips ldraw gdraw) (by decide) rfl (Nat.le_of_ble_eq_true rfl) ?_
  intro p e s m below meth c ls A hx hb hr hml hts hown hlocks hnm hsz hP hK hD hA hS hl
  have hown : s.vm.findClass RX10 = some m.cls := hown
  have hP : va_P D vwCl [oX10 xo tp rd rn co wy sg sh pl sp lf, oX3 pl pna pta rails limit retry behind, oAJ pta cJ 64 pt, oX5 rn hy rsa ria raa rta rga dead key tick held tries trips ldraw gdraw] s.heap := hP
  have hD : va_D A [oX10 xo tp rd rn co wy sg sh pl sp lf, oX3 pl pna pta rails limit retry behind, oAJ pta cJ 64 pt, oX5 rn hy rsa ria raa rta rga dead key tick held tries trips ldraw gdraw] := hD
  have hl : lv_has ls 4 [(0, .ref xo), (1, .int a0), (2, .int a1)] := hl
  have hM : M_x_need a0 rails a1 pt dead = (K_x_need_1 a0 rails a1 pt dead) := rfl
  refine lv_aload_n hx hb dX10_need_0 rfl (lv_at hl 0 rfl) ?_
  refine va_get (D := D) (ci := 9) (v := .ref pl) (C := RX10) (T := TX10) (N := 10) hx hb hts (fun w h => tbC w (tbfX10 w h)) hown hK hP 0 rfl rfl 7 (by decide) (hts (.fieldLink RX10 56 "PowerRails" "plan" "LPowerRails$Plan;") (tbC _ wd254)) (fun _ h9 => h9) rfl dX10_need_1 ?_
  refine lv_iload_n hx hb dX10_need_4 rfl (lv_at hl 1 rfl) ?_
  obtain ⟨hPc, hDc, hFc, hC9⟩ := xpk (wc := W_hasRail cI cJ cZ cG cH pl a0 pna pta rails limit retry behind) hP hD hS hA [1] (by decide +kernel) rfl
  refine va_calli (va_runV (As := [.int a0]) (rest := []) ⟨hx, hb, hml, hown, hts⟩ (c_hasRail l D cI cJ cZ cG cH s.heap.size pl a0 pna pta rails limit retry behind (xrng rfl (by omega) (by omega))) (cwV 1 hts (xGV tbC wd409 wd410 wd411 wd59 wd1009) rfl rfl rfl (by decide +kernel) ⟨Nat.le_of_ble_eq_true rfl, Nat.le_of_ble_eq_true rfl⟩) ⟨xPc_blind, va_recv hK hPc (ci := 2) (q0 := 0) rfl rfl, xPc_pre hPc hK hDc⟩ rfl rfl hl.1 rfl (lv_room (Nat.le_of_ble_eq_true rfl)) dX10_need_5 ⟨Nat.le_of_ble_eq_true rfl, Nat.le_of_ble_eq_true rfl⟩) hS (fun q _ h => hFc q h) hFc (fun r1 u t H1 locs ht hvm hw1 hB hz1 hk1 hS => ?_)
  obtain ⟨hP1, hK1, hD1⟩ := hB
  rw [ht] at hP1
  obtain ⟨hP, hD⟩ : xPD D A [oX10 xo tp rd rn co wy sg sh pl sp lf, oAJ pta cJ 64 pt, oX5 rn hy rsa ria raa rta rga dead key tick held tries trips ldraw gdraw, oX3 pl pna pta rails limit retry behind] H1 := xjn 3 hP hD [1] [0, 2, 3] hC9 rfl (by decide +kernel) (by decide +kernel) hk1 hFc hP1 hD1
  generalize H1 = H at hP hS ⊢
  have hw1 : r1 = if 0 ≤ a0.toInt ∧ a0.toInt < rails.toInt then 1 else 0 := hw1
  refine lv_if_eq (tgt := 20) hx hb dX10_need_8 (by decide) (fun c_2 => ?_) (fun c_2 => ?_)
  · skip
    have i_2 : ¬ (0 ≤ a0.toInt ∧ a0.toInt < rails.toInt) := (xbool hw1).1.mp c_2
    have hM : M_x_need a0 rails a1 pt dead = (K_x_need_2) := (show M_x_need a0 rails a1 pt dead = (if 0 ≤ a0.toInt ∧ a0.toInt < rails.toInt then (K_x_need_3 a1 a0 rails pt dead) else (K_x_need_2)) from hM).trans (if_neg i_2)
    refine lv_iconst (v := (-1)) hx hb dX10_need_20 (by decide) ?_
    refine W.widen (k := 0) (n := 0) (by decide) (by decide) ?_
    exact W.iret (v := (-1)) hx hb hr (fun t ht hW => ⟨⟨(-1), (-1), rfl, ⟨rfl, ⟨by decide, by decide⟩⟩, ⟨hM, xB_of9 ht hW hP hK hD [0, 3, 1, 2] (by decide +kernel) rfl⟩⟩, hS.F ht⟩) hS.2.2 dX10_need_21
  · skip
    have i_2 : 0 ≤ a0.toInt ∧ a0.toInt < rails.toInt := (xbool hw1).2.mp c_2
    have hM : M_x_need a0 rails a1 pt dead = (K_x_need_3 a1 a0 rails pt dead) := (show M_x_need a0 rails a1 pt dead = (if 0 ≤ a0.toInt ∧ a0.toInt < rails.toInt then (K_x_need_3 a1 a0 rails pt dead) else (K_x_need_2)) from hM).trans (if_pos i_2)
    refine lv_iload_n hx hb dX10_need_11 rfl (lv_at hl 2 rfl) ?_
    refine lv_if_lt (tgt := 20) hx hb dX10_need_12 (by decide) (fun c_3 => ?_) (fun c_3 => ?_)
    · skip
      have i_3 : a1.toInt < 0 := (ilt rfl (by decide)).mp c_3
      have hM : M_x_need a0 rails a1 pt dead = (K_x_need_4) := (show M_x_need a0 rails a1 pt dead = (if a1.toInt < 0 then (K_x_need_4) else (K_x_need_5 a1 a0 rails pt dead)) from hM).trans (if_pos i_3)
      refine lv_iconst (v := (-1)) hx hb dX10_need_20 (by decide) ?_
      refine W.widen (k := 0) (n := 0) (by decide) (by decide) ?_
      exact W.iret (v := (-1)) hx hb hr (fun t ht hW => ⟨⟨(-1), (-1), rfl, ⟨rfl, ⟨by decide, by decide⟩⟩, ⟨hM, xB_of9 ht hW hP hK hD [0, 3, 1, 2] (by decide +kernel) rfl⟩⟩, hS.F ht⟩) hS.2.2 dX10_need_21
    · skip
      have i_3 : ¬ (a1.toInt < 0) := fun h9 => c_3 ((ilt rfl (by decide)).mpr h9)
      have hM : M_x_need a0 rails a1 pt dead = (K_x_need_5 a1 a0 rails pt dead) := (show M_x_need a0 rails a1 pt dead = (if a1.toInt < 0 then (K_x_need_4) else (K_x_need_5 a1 a0 rails pt dead)) from hM).trans (if_neg i_3)
      refine lv_iload_n hx hb dX10_need_15 rfl (lv_at hl 2 rfl) ?_
      refine lv_iconst (v := 1) hx hb dX10_need_16 (by decide) ?_
      refine lv_icmp_le (tgt := 22) hx hb dX10_need_17 (by decide) (fun c_4 => ?_) (fun c_4 => ?_)
      · skip
        have i_4 : a1.toInt ≤ 1 := (ile rfl (by decide)).mp c_4
        have hM : M_x_need a0 rails a1 pt dead = (K_x_need_6 a1 a0 rails pt dead) := (show M_x_need a0 rails a1 pt dead = (if a1.toInt ≤ 1 then (K_x_need_6 a1 a0 rails pt dead) else (K_x_need_7)) from hM).trans (if_pos i_4)
        refine lv_aload_n hx hb dX10_need_22 rfl (lv_at hl 0 rfl) ?_
        refine lv_iload_n hx hb dX10_need_23 rfl (lv_at hl 1 rfl) ?_
        obtain ⟨hPc, hDc, hFc, hC9⟩ := xpk (wc := W_canBeUp cI cJ cZ cG cH xo a0 tp rd rn co wy sg sh pl sp lf pna pta rails limit retry behind pt hy rsa ria raa rta rga dead key tick held tries trips ldraw gdraw) hP hD hS hA [0, 3, 1, 2] (by decide +kernel) rfl
        refine va_calli (va_runV (As := [.int a0]) (rest := []) ⟨hx, hb, hml, hown, hts⟩ (c_canBeUp l D cI cJ cZ cG cH H.size xo a0 tp rd rn co wy sg sh pl sp lf pna pta rails limit retry behind pt hy rsa ria raa rta rga dead key tick held tries trips ldraw gdraw (xrng rfl (by omega) (by omega)) (xrng rfl (by omega) (by omega))) (cwV 1 hts (xGV tbC wd615 wd616 wd3 wd50 wd1071) rfl rfl rfl (by decide +kernel) ⟨Nat.le_of_ble_eq_true rfl, Nat.le_of_ble_eq_true rfl⟩) ⟨xPc_blind, va_recv hK hPc (ci := 9) (q0 := 0) rfl rfl, xPc_pre hPc hK hDc⟩ rfl rfl hl.1 rfl (lv_room (Nat.le_of_ble_eq_true rfl)) dX10_need_24 ⟨Nat.le_of_ble_eq_true rfl, Nat.le_of_ble_eq_true rfl⟩) hS (fun q _ h => hFc q h) hFc (fun r5 u t H1 locs ht hvm hw5 hB hz1 hk1 hS => ?_)
        obtain ⟨hru9, hw5⟩ := hw5
        subst hru9
        obtain ⟨hf5_0, hP1, hK1, hD1⟩ := hB
        rw [ht] at hP1
        obtain ⟨hP, hD⟩ : xPD D A [oX10 xo tp rd rn co wy sg sh pl sp lf, oX3 pl pna pta rails limit retry behind, oAJ pta cJ 64 pt, oX5 rn hy rsa ria raa rta rga dead key tick held tries trips ldraw gdraw] H1 := xjn 0 hP hD [0, 3, 1, 2] [] hC9 rfl (by decide +kernel) (by decide +kernel) hk1 hFc hP1 hD1
        generalize H1 = H at hP hS ⊢
        have hf5_0 : M_canBeUp a0 rails pt dead = (r5) := hf5_0
        have hw5 : 0 ≤ r5.toInt ∧ r5.toInt ≤ 1 := hw5
        have h9M := congrArg (fun t9 => (K_x_need_8 t9 a1 a0 rails pt dead)) hf5_0
        have hM : M_x_need a0 rails a1 pt dead = (K_x_need_8 r5 a1 a0 rails pt dead) := (show M_x_need a0 rails a1 pt dead = ((fun t9 => (K_x_need_8 t9 a1 a0 rails pt dead)) (M_canBeUp a0 rails pt dead)) from hM).trans h9M
        refine lv_if_ne (tgt := 33) hx hb dX10_need_27 (by decide) (fun c_6 => ?_) (fun c_6 => ?_)
        · skip
          have i_6 : ¬ (r5.toInt = 0) := fun h9 => c_6 ((ieq rfl (by decide)).mpr h9)
          have hM : M_x_need a0 rails a1 pt dead = (K_x_need_9 a1 a0 rails pt dead) := (show M_x_need a0 rails a1 pt dead = (if r5.toInt = 0 then (K_x_need_10) else (K_x_need_9 a1 a0 rails pt dead)) from hM).trans (if_neg i_6)
          refine lv_aload_n hx hb dX10_need_33 rfl (lv_at hl 0 rfl) ?_
          refine va_get (D := D) (ci := 9) (v := .ref pl) (C := RX10) (T := TX10) (N := 10) hx hb hts (fun w h => tbC w (tbfX10 w h)) hown hK hP 0 rfl rfl 7 (by decide) (hts (.fieldLink RX10 56 "PowerRails" "plan" "LPowerRails$Plan;") (tbC _ wd254)) (fun _ h9 => h9) rfl dX10_need_34 ?_
          refine lv_aload_n hx hb dX10_need_37 rfl (lv_at hl 0 rfl) ?_
          obtain ⟨hPc, hDc, hFc, hC9⟩ := xpk (wc := W_alive cI cJ cZ cG cH xo tp rd rn co wy sg sh pl sp lf pna pta rails limit retry behind hy rsa ria raa rta rga dead key tick held tries trips ldraw gdraw) hP hD hS hA [0, 1, 3] (by decide +kernel) rfl
          refine va_calli (va_runV (As := []) (rest := [.ref pl]) ⟨hx, hb, hml, hown, hts⟩ (c_alive l D cI cJ cZ cG cH H.size xo tp rd rn co wy sg sh pl sp lf pna pta rails limit retry behind hy rsa ria raa rta rga dead key tick held tries trips ldraw gdraw (xrng rfl (by omega) (by omega)) (xrng rfl (by omega) (by omega))) (cwV 0 hts (xGV tbC wd523 wd524 wd2 wd50 wd1046) rfl rfl rfl (by decide +kernel) ⟨Nat.le_of_ble_eq_true rfl, Nat.le_of_ble_eq_true rfl⟩) ⟨xPc_blind, va_recv hK hPc (ci := 9) (q0 := 0) rfl rfl, xPc_pre hPc hK hDc⟩ rfl rfl hl.1 rfl (lv_room (Nat.le_of_ble_eq_true rfl)) dX10_need_38 ⟨Nat.le_of_ble_eq_true rfl, Nat.le_of_ble_eq_true rfl⟩) hS (fun q _ h => hFc q h) hFc (fun r7 u t H1 locs ht hvm hw7 hB hz1 hk1 hS => ?_)
          obtain ⟨hru9, hw7⟩ := hw7
          subst hru9
          obtain ⟨hf7_0, hP1, hK1, hD1⟩ := hB
          rw [ht] at hP1
          obtain ⟨hP, hD⟩ : xPD D A [oAJ pta cJ 64 pt, oX10 xo tp rd rn co wy sg sh pl sp lf, oX3 pl pna pta rails limit retry behind, oX5 rn hy rsa ria raa rta rga dead key tick held tries trips ldraw gdraw] H1 := xjn 1 hP hD [0, 1, 3] [2] hC9 rfl (by decide +kernel) (by decide +kernel) hk1 hFc hP1 hD1
          generalize H1 = H at hP hS ⊢
          have hf7_0 : M_alive dead rails = (r7) := hf7_0
          have hw7 : 0 ≤ r7.toInt ∧ r7.toInt ≤ 255 := hw7
          have h9M := congrArg (fun t9 => (K_x_need_11 a1 a0 rails t9 pt)) hf7_0
          have hM : M_x_need a0 rails a1 pt dead = (K_x_need_11 a1 a0 rails r7 pt) := (show M_x_need a0 rails a1 pt dead = ((fun t9 => (K_x_need_11 a1 a0 rails t9 pt)) (M_alive dead rails)) from hM).trans h9M
          refine lv_iload_n hx hb dX10_need_41 rfl (lv_at hl 1 rfl) ?_
          obtain ⟨hPc, hDc, hFc, hC9⟩ := xpk (wc := W_fewestDo cI cJ cZ cG cH pl r7 a0 pna pta rails limit retry behind pt) hP hD hS hA [2, 0] (by decide +kernel) rfl
          refine va_calli (va_runS (As := [.ref pl, .int r7, .int a0]) (rest := []) ⟨hx, hb, hml, hown, hts⟩ (c_fewestDo l D cI cJ cZ cG cH H.size pl r7 a0 pna pta rails limit retry behind pt (xrng rfl (by omega) (by omega))) (va_cwS 3 hts (xGS tbC wd632 wd633 wd68 wd1076) rfl rfl rfl (by decide +kernel) ⟨Nat.le_of_ble_eq_true rfl, Nat.le_of_ble_eq_true rfl⟩) ⟨xPc_blind, xPc_pre hPc hK hDc⟩ rfl rfl hl.1 rfl (lv_room (Nat.le_of_ble_eq_true rfl)) dX10_need_42 ⟨Nat.le_of_ble_eq_true rfl, Nat.le_of_ble_eq_true rfl⟩) hS (fun q _ h => hFc q h) hFc (fun r8 u t H1 locs ht hvm hw8 hB hz1 hk1 hS => ?_)
          obtain ⟨hru9, hw8⟩ := hw8
          subst hru9
          obtain ⟨hf8_0, hP1, hK1, hD1⟩ := hB
          rw [ht] at hP1
          obtain ⟨hP, hD⟩ : xPD D A [oX10 xo tp rd rn co wy sg sh pl sp lf, oX5 rn hy rsa ria raa rta rga dead key tick held tries trips ldraw gdraw, oX3 pl pna pta rails limit retry behind, oAJ pta cJ 64 pt] H1 := xjn 2 hP hD [2, 0] [1, 3] hC9 rfl (by decide +kernel) (by decide +kernel) hk1 hFc hP1 hD1
          generalize H1 = H at hP hS ⊢
          have hf8_0 : M_fewestDo a0 rails r7 pt = (r8) := hf8_0
          have hw8 : 0 ≤ r8.toInt ∧ r8.toInt ≤ 255 := hw8
          have h9M := congrArg (fun t9 => (K_x_need_12 a1 t9)) hf8_0
          have hM : M_x_need a0 rails a1 pt dead = (K_x_need_12 a1 r8) := (show M_x_need a0 rails a1 pt dead = ((fun t9 => (K_x_need_12 a1 t9)) (M_fewestDo a0 rails r7 pt)) from hM).trans h9M
          refine lv_istore_n (lv' := [(3, .int r8), (0, .ref xo), (1, .int a0), (2, .int a1)]) hx hb dX10_need_45 rfl hl (by decide) rfl (fun ls hl => ?_)
          refine lv_iload_n hx hb dX10_need_46 rfl (lv_at hl 3 rfl) ?_
          refine lv_if_ne (tgt := 57) hx hb dX10_need_47 (by decide) (fun c_9 => ?_) (fun c_9 => ?_)
          · skip
            have i_9 : ¬ (a1.toInt = 0) := fun h9 => c_9 ((ieq rfl (by decide)).mpr h9)
            have hM : M_x_need a0 rails a1 pt dead = (K_x_need_13 r8) := (show M_x_need a0 rails a1 pt dead = (if a1.toInt = 0 then (K_x_need_14 r8) else (K_x_need_13 r8)) from hM).trans (if_neg i_9)
            refine lv_iload_n hx hb dX10_need_57 rfl (lv_at hl 0 rfl) ?_
            refine W.widen (k := 0) (n := 0) (by decide) (by decide) ?_
            exact W.iret (v := r8) hx hb hr (fun t ht hW => ⟨⟨r8, r8, rfl, ⟨rfl, (xrng rfl (by omega) (by omega))⟩, ⟨hM, xB_of9 ht hW hP hK hD [0, 2, 3, 1] (by decide +kernel) rfl⟩⟩, hS.F ht⟩) hS.2.2 dX10_need_58
          · skip
            have i_9 : a1.toInt = 0 := (ieq rfl (by decide)).mp c_9
            have hM : M_x_need a0 rails a1 pt dead = (K_x_need_14 r8) := (show M_x_need a0 rails a1 pt dead = (if a1.toInt = 0 then (K_x_need_14 r8) else (K_x_need_13 r8)) from hM).trans (if_pos i_9)
            refine lv_iload_n hx hb dX10_need_50 rfl (lv_at hl 0 rfl) ?_
            obtain ⟨hPc, hDc, hFc, hC9⟩ := xpk (wc := W_bitCount cI cJ cZ cG cH r8) hP hD hS hA [] (by decide +kernel) rfl
            refine va_calli (va_runS (As := [.int r8]) (rest := []) ⟨hx, hb, hml, hown, hts⟩ (c_bitCount l D cI cJ cZ cG cH H.size r8) (va_cwS 1 hts (xGS tbC wd628 wd621 wd69 wd1073) rfl rfl rfl (by decide +kernel) ⟨Nat.le_of_ble_eq_true rfl, Nat.le_of_ble_eq_true rfl⟩) ⟨xPc_blind, xPc_pre hPc hK hDc⟩ rfl rfl hl.1 rfl (lv_room (Nat.le_of_ble_eq_true rfl)) dX10_need_51 ⟨Nat.le_of_ble_eq_true rfl, Nat.le_of_ble_eq_true rfl⟩) hS (fun q _ h => hFc q h) hFc (fun r10 u t H1 locs ht hvm hw10 hB hz1 hk1 hS => ?_)
            obtain ⟨hru9, hw10⟩ := hw10
            subst hru9
            obtain ⟨hf10_0, hP1, hK1, hD1⟩ := hB
            rw [ht] at hP1
            obtain ⟨hP, hD⟩ : xPD D A [oX10 xo tp rd rn co wy sg sh pl sp lf, oX5 rn hy rsa ria raa rta rga dead key tick held tries trips ldraw gdraw, oX3 pl pna pta rails limit retry behind, oAJ pta cJ 64 pt] H1 := xjn 4 hP hD [] [0, 1, 2, 3] hC9 rfl (by decide +kernel) (by decide +kernel) hk1 hFc hP1 hD1
            generalize H1 = H at hP hS ⊢
            have hf10_0 : M_bitCount r8 = (r10) := hf10_0
            have hw10 : 0 ≤ r10.toInt ∧ r10.toInt ≤ 63 := hw10
            have h9M := congrArg (fun t9 => (K_x_need_15 t9)) hf10_0
            have hM : M_x_need a0 rails a1 pt dead = (K_x_need_15 r10) := (show M_x_need a0 rails a1 pt dead = ((fun t9 => (K_x_need_15 t9)) (M_bitCount r8)) from hM).trans h9M
            refine lv_goto (tgt := 58) hx hb dX10_need_54 (by decide) ?_
            refine W.widen (k := 0) (n := 0) (by decide) (by decide) ?_
            exact W.iret (v := r10) hx hb hr (fun t ht hW => ⟨⟨r10, r10, rfl, ⟨rfl, (xrng rfl (by omega) (by omega))⟩, ⟨hM, xB_of9 ht hW hP hK hD [0, 2, 3, 1] (by decide +kernel) rfl⟩⟩, hS.F ht⟩) hS.2.2 dX10_need_58
        · skip
          have i_6 : r5.toInt = 0 := (ieq rfl (by decide)).mp c_6
          have hM : M_x_need a0 rails a1 pt dead = (K_x_need_10) := (show M_x_need a0 rails a1 pt dead = (if r5.toInt = 0 then (K_x_need_10) else (K_x_need_9 a1 a0 rails pt dead)) from hM).trans (if_pos i_6)
          refine lv_bipush (v := (-2)) hx hb dX10_need_30 (by decide) ?_
          refine W.widen (k := 0) (n := 0) (by decide) (by decide) ?_
          exact W.iret (v := (-2)) hx hb hr (fun t ht hW => ⟨⟨(-2), (-2), rfl, ⟨rfl, ⟨by decide, by decide⟩⟩, ⟨hM, xB_of9 ht hW hP hK hD [0, 1, 2, 3] (by decide +kernel) rfl⟩⟩, hS.F ht⟩) hS.2.2 dX10_need_32
      · skip
        have i_4 : ¬ (a1.toInt ≤ 1) := fun h9 => c_4 ((ile rfl (by decide)).mpr h9)
        have hM : M_x_need a0 rails a1 pt dead = (K_x_need_7) := (show M_x_need a0 rails a1 pt dead = (if a1.toInt ≤ 1 then (K_x_need_6 a1 a0 rails pt dead) else (K_x_need_7)) from hM).trans (if_neg i_4)
        refine lv_iconst (v := (-1)) hx hb dX10_need_20 (by decide) ?_
        refine W.widen (k := 0) (n := 0) (by decide) (by decide) ?_
        exact W.iret (v := (-1)) hx hb hr (fun t ht hW => ⟨⟨(-1), (-1), rfl, ⟨rfl, ⟨by decide, by decide⟩⟩, ⟨hM, xB_of9 ht hW hP hK hD [0, 3, 1, 2] (by decide +kernel) rfl⟩⟩, hS.F ht⟩) hS.2.2 dX10_need_21
def K_x_must_6  : (Int32) := ((-2 : Int32))
def K_x_must_8 (r6 : Int32) : (Int32) := (r6)
def K_x_must_7 (rails : Int32) (a0 : Int32) (r5 : Int32) (pt : Nat → Int64) : (Int32) := ((fun t9 => (K_x_must_8 t9)) (M_never rails a0 r5 pt))
def K_x_must_5 (rails : Int32) (a0 : Int32) (pt : Nat → Int64) (dead : Int32) : (Int32) := ((fun t9 => (K_x_must_7 rails a0 t9 pt)) (M_alive dead rails))
def K_x_must_4 (r3 : Int32) (rails : Int32) (a0 : Int32) (pt : Nat → Int64) (dead : Int32) : (Int32) := (if r3.toInt = 0 then (K_x_must_6) else (K_x_must_5 rails a0 pt dead))
def K_x_must_2 (rails : Int32) (a0 : Int32) (pt : Nat → Int64) (dead : Int32) : (Int32) := ((fun t9 => (K_x_must_4 t9 rails a0 pt dead)) (M_canBeUp a0 rails pt dead))
def K_x_must_3  : (Int32) := ((-1 : Int32))
def K_x_must_1 (a0 : Int32) (rails : Int32) (pt : Nat → Int64) (dead : Int32) : (Int32) := (if 0 ≤ a0.toInt ∧ a0.toInt < rails.toInt then (K_x_must_2 rails a0 pt dead) else (K_x_must_3))
def M_x_must (a0 : Int32) (rails : Int32) (pt : Nat → Int64) (dead : Int32) : (Int32) := (K_x_must_1 a0 rails pt dead)
abbrev W_x_must (cI cJ cZ cG cH : ClassId) (xo : Nat) (a0 : Int32) (tp : Nat) (rd : Nat) (rn : Nat) (co : Nat) (wy : Nat) (sg : Nat) (sh : Nat) (pl : Nat) (sp : Nat) (lf : Int32) (pna : Nat) (pta : Nat) (rails : Int32) (limit : Int32) (retry : Int32) (behind : Int32) (pt : Nat → Int64) (hy : Nat) (rsa : Nat) (ria : Nat) (raa : Nat) (rta : Nat) (rga : Nat) (dead : Int32) (key : Int32) (tick : Int32) (held : Int32) (tries : Int32) (trips : Int32) (ldraw : Int32) (gdraw : Int32) : va_W := [oX10 xo tp rd rn co wy sg sh pl sp lf, oX3 pl pna pta rails limit retry behind, oAJ pta cJ 64 pt, oX5 rn hy rsa ria raa rta rga dead key tick held tries trips ldraw gdraw]
abbrev Q_x_must (D : va_G) (cI cJ cZ cG cH : ClassId) (xo : Nat) (a0 : Int32) (tp : Nat) (rd : Nat) (rn : Nat) (co : Nat) (wy : Nat) (sg : Nat) (sh : Nat) (pl : Nat) (sp : Nat) (lf : Int32) (pna : Nat) (pta : Nat) (rails : Int32) (limit : Int32) (retry : Int32) (behind : Int32) (pt : Nat → Int64) (hy : Nat) (rsa : Nat) (ria : Nat) (raa : Nat) (rta : Nat) (rga : Nat) (dead : Int32) (key : Int32) (tick : Int32) (held : Int32) (tries : Int32) (trips : Int32) (ldraw : Int32) (gdraw : Int32) (A : Nat → Prop) : Array Value → State → Outcome → State → Prop := va_Qi (fun (r : Int32) (u9 : Int32) => r = u9 ∧ ((-2) ≤ r.toInt ∧ r.toInt ≤ 255)) (fun u9 t => (M_x_must a0 rails pt dead = (u9)) ∧ xB D (tyL cI cJ cZ cG cH) [oX10 xo tp rd rn co wy sg sh pl sp lf, oX3 pl pna pta rails limit retry behind, oAJ pta cJ 64 pt, oX5 rn hy rsa ria raa rta rga dead key tick held tries trips ldraw gdraw] A t) A
abbrev rm_x_must : Room := { frames := 4, cells := 0, slots := 0, locals := 93 }
set_option maxRecDepth 100000 in
set_option maxHeartbeats 40000000 in
theorem c_x_must (l : Launch) (D : va_G) (cI cJ cZ cG cH : ClassId) (sz : Nat) (xo : Nat) (a0 : Int32) (tp : Nat) (rd : Nat) (rn : Nat) (co : Nat) (wy : Nat) (sg : Nat) (sh : Nat) (pl : Nat) (sp : Nat) (lf : Int32) (pna : Nat) (pta : Nat) (rails : Int32) (limit : Int32) (retry : Int32) (behind : Int32) (pt : Nat → Int64) (hy : Nat) (rsa : Nat) (ria : Nat) (raa : Nat) (rta : Nat) (rga : Nat) (dead : Int32) (key : Int32) (tick : Int32) (held : Int32) (tries : Int32) (trips : Int32) (ldraw : Int32) (gdraw : Int32) (h_rails : 0 ≤ rails.toInt ∧ rails.toInt ≤ 8) (h_key : 0 ≤ key.toInt ∧ key.toInt ≤ 1) : Met l yX10_must (wt yX10_must cX10_must 2 (some .int)) rm_x_must (xPc [.ref xo, .int a0] D (tyL cI cJ cZ cG cH) (W_x_must cI cJ cZ cG cH xo a0 tp rd rn co wy sg sh pl sp lf pna pta rails limit retry behind pt hy rsa ria raa rta rga dead key tick held tries trips ldraw gdraw) sz) (Q_x_must D cI cJ cZ cG cH xo a0 tp rd rn co wy sg sh pl sp lf pna pta rails limit retry behind pt hy rsa ria raa rta rga dead key tick held tries trips ldraw gdraw (va_A (W_x_must cI cJ cZ cG cH xo a0 tp rd rn co wy sg sh pl sp lf pna pta rails limit retry behind pt hy rsa ria raa rta rga dead key tick held tries trips ldraw gdraw) sz)) 0 0 (va_A (W_x_must cI cJ cZ cG cH xo a0 tp rd rn co wy sg sh pl sp lf pna pta rails limit retry behind pt hy rsa ria raa rta rga dead key tick held tries trips ldraw gdraw) sz) := by
  refine xMet (cc := cX10_must) (maxL := 2) (ret := (some .int)) (Qf := Q_x_must D cI cJ cZ cG cH xo a0 tp rd rn co wy sg sh pl sp lf pna pta rails limit retry behind pt hy rsa ria raa rta rga dead key tick held tries trips ldraw gdraw) (by decide) rfl (Nat.le_of_ble_eq_true rfl) ?_
  intro p e s m below meth c ls A hx hb hr hml hts hown hlocks hnm hsz hP hK hD hA hS hl
  have hown : s.vm.findClass RX10 = some m.cls := hown
  have hP : va_P D vwCl [oX10 xo tp rd rn co wy sg sh pl sp lf, oX3 pl pna pta rails limit retry behind, oAJ pta cJ 64 pt, oX5 rn hy rsa ria raa rta rga dead key tick held tries trips ldraw gdraw] s.heap := hP
  have hD : va_D A [oX10 xo tp rd rn co wy sg sh pl sp lf, oX3 pl pna pta rails limit retry behind, oAJ pta cJ 64 pt, oX5 rn hy rsa ria raa rta rga dead key tick held tries trips ldraw gdraw] := hD
  have hl : lv_has ls 2 [(0, .ref xo), (1, .int a0)] := hl
  have hM : M_x_must a0 rails pt dead = (K_x_must_1 a0 rails pt dead) := rfl
  refine lv_aload_n hx hb dX10_must_0 rfl (lv_at hl 0 rfl) ?_
  refine va_get (D := D) (ci := 9) (v := .ref pl) (C := RX10) (T := TX10) (N := 10) hx hb hts (fun w h => tbC w (tbfX10 w h)) hown hK hP 0 rfl rfl 7 (by decide) (hts (.fieldLink RX10 56 "PowerRails" "plan" "LPowerRails$Plan;") (tbC _ wd254)) (fun _ h9 => h9) rfl dX10_must_1 ?_
  refine lv_iload_n hx hb dX10_must_4 rfl (lv_at hl 1 rfl) ?_
  obtain ⟨hPc, hDc, hFc, hC9⟩ := xpk (wc := W_hasRail cI cJ cZ cG cH pl a0 pna pta rails limit retry behind) hP hD hS hA [1] (by decide +kernel) rfl
  refine va_calli (va_runV (As := [.int a0]) (rest := []) ⟨hx, hb, hml, hown, hts⟩ (c_hasRail l D cI cJ cZ cG cH s.heap.size pl a0 pna pta rails limit retry behind (xrng rfl (by omega) (by omega))) (cwV 1 hts (xGV tbC wd409 wd410 wd411 wd59 wd1009) rfl rfl rfl (by decide +kernel) ⟨Nat.le_of_ble_eq_true rfl, Nat.le_of_ble_eq_true rfl⟩) ⟨xPc_blind, va_recv hK hPc (ci := 2) (q0 := 0) rfl rfl, xPc_pre hPc hK hDc⟩ rfl rfl hl.1 rfl (lv_room (Nat.le_of_ble_eq_true rfl)) dX10_must_5 ⟨Nat.le_of_ble_eq_true rfl, Nat.le_of_ble_eq_true rfl⟩) hS (fun q _ h => hFc q h) hFc (fun r1 u t H1 locs ht hvm hw1 hB hz1 hk1 hS => ?_)
  obtain ⟨hP1, hK1, hD1⟩ := hB
  rw [ht] at hP1
  obtain ⟨hP, hD⟩ : xPD D A [oX10 xo tp rd rn co wy sg sh pl sp lf, oAJ pta cJ 64 pt, oX5 rn hy rsa ria raa rta rga dead key tick held tries trips ldraw gdraw, oX3 pl pna pta rails limit retry behind] H1 := xjn 3 hP hD [1] [0, 2, 3] hC9 rfl (by decide +kernel) (by decide +kernel) hk1 hFc hP1 hD1
  generalize H1 = H at hP hS ⊢
  have hw1 : r1 = if 0 ≤ a0.toInt ∧ a0.toInt < rails.toInt then 1 else 0 := hw1
  refine lv_if_ne (tgt := 13) hx hb dX10_must_8 (by decide) (fun c_2 => ?_) (fun c_2 => ?_)
  · skip
    have i_2 : 0 ≤ a0.toInt ∧ a0.toInt < rails.toInt := (xbool hw1).2.mp c_2
    have hM : M_x_must a0 rails pt dead = (K_x_must_2 rails a0 pt dead) := (show M_x_must a0 rails pt dead = (if 0 ≤ a0.toInt ∧ a0.toInt < rails.toInt then (K_x_must_2 rails a0 pt dead) else (K_x_must_3)) from hM).trans (if_pos i_2)
    refine lv_aload_n hx hb dX10_must_13 rfl (lv_at hl 0 rfl) ?_
    refine lv_iload_n hx hb dX10_must_14 rfl (lv_at hl 1 rfl) ?_
    obtain ⟨hPc, hDc, hFc, hC9⟩ := xpk (wc := W_canBeUp cI cJ cZ cG cH xo a0 tp rd rn co wy sg sh pl sp lf pna pta rails limit retry behind pt hy rsa ria raa rta rga dead key tick held tries trips ldraw gdraw) hP hD hS hA [0, 3, 1, 2] (by decide +kernel) rfl
    refine va_calli (va_runV (As := [.int a0]) (rest := []) ⟨hx, hb, hml, hown, hts⟩ (c_canBeUp l D cI cJ cZ cG cH H.size xo a0 tp rd rn co wy sg sh pl sp lf pna pta rails limit retry behind pt hy rsa ria raa rta rga dead key tick held tries trips ldraw gdraw (xrng rfl (by omega) (by omega)) (xrng rfl (by omega) (by omega))) (cwV 1 hts (xGV tbC wd615 wd616 wd3 wd50 wd1071) rfl rfl rfl (by decide +kernel) ⟨Nat.le_of_ble_eq_true rfl, Nat.le_of_ble_eq_true rfl⟩) ⟨xPc_blind, va_recv hK hPc (ci := 9) (q0 := 0) rfl rfl, xPc_pre hPc hK hDc⟩ rfl rfl hl.1 rfl (lv_room (Nat.le_of_ble_eq_true rfl)) dX10_must_15 ⟨Nat.le_of_ble_eq_true rfl, Nat.le_of_ble_eq_true rfl⟩) hS (fun q _ h => hFc q h) hFc (fun r3 u t H1 locs ht hvm hw3 hB hz1 hk1 hS => ?_)
    obtain ⟨hru9, hw3⟩ := hw3
    subst hru9
    obtain ⟨hf3_0, hP1, hK1, hD1⟩ := hB
    rw [ht] at hP1
    obtain ⟨hP, hD⟩ : xPD D A [oX10 xo tp rd rn co wy sg sh pl sp lf, oX3 pl pna pta rails limit retry behind, oAJ pta cJ 64 pt, oX5 rn hy rsa ria raa rta rga dead key tick held tries trips ldraw gdraw] H1 := xjn 0 hP hD [0, 3, 1, 2] [] hC9 rfl (by decide +kernel) (by decide +kernel) hk1 hFc hP1 hD1
    generalize H1 = H at hP hS ⊢
    have hf3_0 : M_canBeUp a0 rails pt dead = (r3) := hf3_0
    have hw3 : 0 ≤ r3.toInt ∧ r3.toInt ≤ 1 := hw3
    have h9M := congrArg (fun t9 => (K_x_must_4 t9 rails a0 pt dead)) hf3_0
    have hM : M_x_must a0 rails pt dead = (K_x_must_4 r3 rails a0 pt dead) := (show M_x_must a0 rails pt dead = ((fun t9 => (K_x_must_4 t9 rails a0 pt dead)) (M_canBeUp a0 rails pt dead)) from hM).trans h9M
    refine lv_if_ne (tgt := 24) hx hb dX10_must_18 (by decide) (fun c_4 => ?_) (fun c_4 => ?_)
    · skip
      have i_4 : ¬ (r3.toInt = 0) := fun h9 => c_4 ((ieq rfl (by decide)).mpr h9)
      have hM : M_x_must a0 rails pt dead = (K_x_must_5 rails a0 pt dead) := (show M_x_must a0 rails pt dead = (if r3.toInt = 0 then (K_x_must_6) else (K_x_must_5 rails a0 pt dead)) from hM).trans (if_neg i_4)
      refine lv_aload_n hx hb dX10_must_24 rfl (lv_at hl 0 rfl) ?_
      refine va_get (D := D) (ci := 9) (v := .ref pl) (C := RX10) (T := TX10) (N := 10) hx hb hts (fun w h => tbC w (tbfX10 w h)) hown hK hP 0 rfl rfl 7 (by decide) (hts (.fieldLink RX10 56 "PowerRails" "plan" "LPowerRails$Plan;") (tbC _ wd254)) (fun _ h9 => h9) rfl dX10_must_25 ?_
      refine lv_aload_n hx hb dX10_must_28 rfl (lv_at hl 0 rfl) ?_
      obtain ⟨hPc, hDc, hFc, hC9⟩ := xpk (wc := W_alive cI cJ cZ cG cH xo tp rd rn co wy sg sh pl sp lf pna pta rails limit retry behind hy rsa ria raa rta rga dead key tick held tries trips ldraw gdraw) hP hD hS hA [0, 1, 3] (by decide +kernel) rfl
      refine va_calli (va_runV (As := []) (rest := [.ref pl]) ⟨hx, hb, hml, hown, hts⟩ (c_alive l D cI cJ cZ cG cH H.size xo tp rd rn co wy sg sh pl sp lf pna pta rails limit retry behind hy rsa ria raa rta rga dead key tick held tries trips ldraw gdraw (xrng rfl (by omega) (by omega)) (xrng rfl (by omega) (by omega))) (cwV 0 hts (xGV tbC wd523 wd524 wd2 wd50 wd1046) rfl rfl rfl (by decide +kernel) ⟨Nat.le_of_ble_eq_true rfl, Nat.le_of_ble_eq_true rfl⟩) ⟨xPc_blind, va_recv hK hPc (ci := 9) (q0 := 0) rfl rfl, xPc_pre hPc hK hDc⟩ rfl rfl hl.1 rfl (lv_room (Nat.le_of_ble_eq_true rfl)) dX10_must_29 ⟨Nat.le_of_ble_eq_true rfl, Nat.le_of_ble_eq_true rfl⟩) hS (fun q _ h => hFc q h) hFc (fun r5 u t H1 locs ht hvm hw5 hB hz1 hk1 hS => ?_)
      obtain ⟨hru9, hw5⟩ := hw5
      subst hru9
      obtain ⟨hf5_0, hP1, hK1, hD1⟩ := hB
      rw [ht] at hP1
      obtain ⟨hP, hD⟩ : xPD D A [oAJ pta cJ 64 pt, oX10 xo tp rd rn co wy sg sh pl sp lf, oX3 pl pna pta rails limit retry behind, oX5 rn hy rsa ria raa rta rga dead key tick held tries trips ldraw gdraw] H1 := xjn 1 hP hD [0, 1, 3] [2] hC9 rfl (by decide +kernel) (by decide +kernel) hk1 hFc hP1 hD1
      generalize H1 = H at hP hS ⊢
      have hf5_0 : M_alive dead rails = (r5) := hf5_0
      have hw5 : 0 ≤ r5.toInt ∧ r5.toInt ≤ 255 := hw5
      have h9M := congrArg (fun t9 => (K_x_must_7 rails a0 t9 pt)) hf5_0
      have hM : M_x_must a0 rails pt dead = (K_x_must_7 rails a0 r5 pt) := (show M_x_must a0 rails pt dead = ((fun t9 => (K_x_must_7 rails a0 t9 pt)) (M_alive dead rails)) from hM).trans h9M
      refine lv_iload_n hx hb dX10_must_32 rfl (lv_at hl 1 rfl) ?_
      obtain ⟨hPc, hDc, hFc, hC9⟩ := xpk (wc := W_never cI cJ cZ cG cH pl r5 a0 pna pta rails limit retry behind pt) hP hD hS hA [2, 0] (by decide +kernel) rfl
      refine va_calli (va_runS (As := [.ref pl, .int r5, .int a0]) (rest := []) ⟨hx, hb, hml, hown, hts⟩ (c_never l D cI cJ cZ cG cH H.size pl r5 a0 pna pta rails limit retry behind pt (xrng rfl (by omega) (by omega))) (va_cwS 3 hts (xGS tbC wd637 wd638 wd68 wd1078) rfl rfl rfl (by decide +kernel) ⟨Nat.le_of_ble_eq_true rfl, Nat.le_of_ble_eq_true rfl⟩) ⟨xPc_blind, xPc_pre hPc hK hDc⟩ rfl rfl hl.1 rfl (lv_room (Nat.le_of_ble_eq_true rfl)) dX10_must_33 ⟨Nat.le_of_ble_eq_true rfl, Nat.le_of_ble_eq_true rfl⟩) hS (fun q _ h => hFc q h) hFc (fun r6 u t H1 locs ht hvm hw6 hB hz1 hk1 hS => ?_)
      obtain ⟨hru9, hw6⟩ := hw6
      subst hru9
      obtain ⟨hf6_0, hP1, hK1, hD1⟩ := hB
      rw [ht] at hP1
      obtain ⟨hP, hD⟩ : xPD D A [oX10 xo tp rd rn co wy sg sh pl sp lf, oX5 rn hy rsa ria raa rta rga dead key tick held tries trips ldraw gdraw, oX3 pl pna pta rails limit retry behind, oAJ pta cJ 64 pt] H1 := xjn 2 hP hD [2, 0] [1, 3] hC9 rfl (by decide +kernel) (by decide +kernel) hk1 hFc hP1 hD1
      generalize H1 = H at hP hS ⊢
      have hf6_0 : M_never rails a0 r5 pt = (r6) := hf6_0
      have hw6 : 0 ≤ r6.toInt ∧ r6.toInt ≤ 255 := hw6
      have h9M := congrArg (fun t9 => (K_x_must_8 t9)) hf6_0
      have hM : M_x_must a0 rails pt dead = (K_x_must_8 r6) := (show M_x_must a0 rails pt dead = ((fun t9 => (K_x_must_8 t9)) (M_never rails a0 r5 pt)) from hM).trans h9M
      refine W.widen (k := 0) (n := 0) (by decide) (by decide) ?_
      exact W.iret (v := r6) hx hb hr (fun t ht hW => ⟨⟨r6, r6, rfl, ⟨rfl, (xrng rfl (by omega) (by omega))⟩, ⟨hM, xB_of9 ht hW hP hK hD [0, 2, 3, 1] (by decide +kernel) rfl⟩⟩, hS.F ht⟩) hS.2.2 dX10_must_36
    · skip
      have i_4 : r3.toInt = 0 := (ieq rfl (by decide)).mp c_4
      have hM : M_x_must a0 rails pt dead = (K_x_must_6) := (show M_x_must a0 rails pt dead = (if r3.toInt = 0 then (K_x_must_6) else (K_x_must_5 rails a0 pt dead)) from hM).trans (if_pos i_4)
      refine lv_bipush (v := (-2)) hx hb dX10_must_21 (by decide) ?_
      refine W.widen (k := 0) (n := 0) (by decide) (by decide) ?_
      exact W.iret (v := (-2)) hx hb hr (fun t ht hW => ⟨⟨(-2), (-2), rfl, ⟨rfl, ⟨by decide, by decide⟩⟩, ⟨hM, xB_of9 ht hW hP hK hD [0, 1, 2, 3] (by decide +kernel) rfl⟩⟩, hS.F ht⟩) hS.2.2 dX10_must_23
  · skip
    have i_2 : ¬ (0 ≤ a0.toInt ∧ a0.toInt < rails.toInt) := (xbool hw1).1.mp c_2
    have hM : M_x_must a0 rails pt dead = (K_x_must_3) := (show M_x_must a0 rails pt dead = (if 0 ≤ a0.toInt ∧ a0.toInt < rails.toInt then (K_x_must_2 rails a0 pt dead) else (K_x_must_3)) from hM).trans (if_neg i_2)
    refine lv_iconst (v := (-1)) hx hb dX10_must_11 (by decide) ?_
    refine W.widen (k := 0) (n := 0) (by decide) (by decide) ?_
    exact W.iret (v := (-1)) hx hb hr (fun t ht hW => ⟨⟨(-1), (-1), rfl, ⟨rfl, ⟨by decide, by decide⟩⟩, ⟨hM, xB_of9 ht hW hP hK hD [0, 3, 1, 2] (by decide +kernel) rfl⟩⟩, hS.F ht⟩) hS.2.2 dX10_must_12
def K_x_seen_5 (r5 : Int32) : (Int32) := (r5)
def K_x_seen_3 (a0 : Int32) (rails : Int32) (pt : Nat → Int64) : (Int32) := ((fun t9 => (K_x_seen_5 t9)) (M_explain a0 rails pt))
def K_x_seen_4  : (Int32) := ((-1 : Int32))
def K_x_seen_2 (a0 : Int32) (r1 : Int32) (rails : Int32) (pt : Nat → Int64) : (Int32) := (if (a0 &&& (r1 ^^^ (-1 : Int32))).toInt = 0 then (K_x_seen_3 a0 rails pt) else (K_x_seen_4))
def K_x_seen_1 (a0 : Int32) (rails : Int32) (pt : Nat → Int64) : (Int32) := ((fun t9 => (K_x_seen_2 a0 t9 rails pt)) (M_allRails rails))
def M_x_seen (a0 : Int32) (rails : Int32) (pt : Nat → Int64) : (Int32) := (K_x_seen_1 a0 rails pt)
abbrev W_x_seen (cI cJ cZ cG cH : ClassId) (xo : Nat) (a0 : Int32) (tp : Nat) (rd : Nat) (rn : Nat) (co : Nat) (wy : Nat) (sg : Nat) (sh : Nat) (pl : Nat) (sp : Nat) (lf : Int32) (pna : Nat) (pta : Nat) (rails : Int32) (limit : Int32) (retry : Int32) (behind : Int32) (pt : Nat → Int64) : va_W := [oX10 xo tp rd rn co wy sg sh pl sp lf, oX3 pl pna pta rails limit retry behind, oAJ pta cJ 64 pt]
abbrev Q_x_seen (D : va_G) (cI cJ cZ cG cH : ClassId) (xo : Nat) (a0 : Int32) (tp : Nat) (rd : Nat) (rn : Nat) (co : Nat) (wy : Nat) (sg : Nat) (sh : Nat) (pl : Nat) (sp : Nat) (lf : Int32) (pna : Nat) (pta : Nat) (rails : Int32) (limit : Int32) (retry : Int32) (behind : Int32) (pt : Nat → Int64) (A : Nat → Prop) : Array Value → State → Outcome → State → Prop := va_Qi (fun (r : Int32) (u9 : Int32) => r = u9 ∧ ((-1) ≤ r.toInt ∧ r.toInt ≤ 511)) (fun u9 t => (M_x_seen a0 rails pt = (u9)) ∧ xB D (tyL cI cJ cZ cG cH) [oX10 xo tp rd rn co wy sg sh pl sp lf, oX3 pl pna pta rails limit retry behind, oAJ pta cJ 64 pt] A t) A
abbrev rm_x_seen : Room := { frames := 3, cells := 0, slots := 0, locals := 71 }
set_option maxRecDepth 100000 in
set_option maxHeartbeats 40000000 in
theorem c_x_seen (l : Launch) (D : va_G) (cI cJ cZ cG cH : ClassId) (sz : Nat) (xo : Nat) (a0 : Int32) (tp : Nat) (rd : Nat) (rn : Nat) (co : Nat) (wy : Nat) (sg : Nat) (sh : Nat) (pl : Nat) (sp : Nat) (lf : Int32) (pna : Nat) (pta : Nat) (rails : Int32) (limit : Int32) (retry : Int32) (behind : Int32) (pt : Nat → Int64) (h_rails : 0 ≤ rails.toInt ∧ rails.toInt ≤ 8) : Met l yX10_seen (wt yX10_seen cX10_seen 2 (some .int)) rm_x_seen (xPc [.ref xo, .int a0] D (tyL cI cJ cZ cG cH) (W_x_seen cI cJ cZ cG cH xo a0 tp rd rn co wy sg sh pl sp lf pna pta rails limit retry behind pt) sz) (Q_x_seen D cI cJ cZ cG cH xo a0 tp rd rn co wy sg sh pl sp lf pna pta rails limit retry behind pt (va_A (W_x_seen cI cJ cZ cG cH xo a0 tp rd rn co wy sg sh pl sp lf pna pta rails limit retry behind pt) sz)) 0 0 (va_A (W_x_seen cI cJ cZ cG cH xo a0 tp rd rn co wy sg sh pl sp lf pna pta rails limit retry behind pt) sz) := by
  refine xMet (cc := cX10_seen) (maxL := 2) (ret := (some .int)) (Qf := Q_x_seen D cI cJ cZ cG cH xo a0 tp rd rn co wy sg sh pl sp lf pna pta rails limit retry behind pt) (by decide) rfl (Nat.le_of_ble_eq_true rfl) ?_
  intro p e s m below meth c ls A hx hb hr hml hts hown hlocks hnm hsz hP hK hD hA hS hl
  have hown : s.vm.findClass RX10 = some m.cls := hown
  have hP : va_P D vwCl [oX10 xo tp rd rn co wy sg sh pl sp lf, oX3 pl pna pta rails limit retry behind, oAJ pta cJ 64 pt] s.heap := hP
  have hD : va_D A [oX10 xo tp rd rn co wy sg sh pl sp lf, oX3 pl pna pta rails limit retry behind, oAJ pta cJ 64 pt] := hD
  have hl : lv_has ls 2 [(0, .ref xo), (1, .int a0)] := hl
  have hM : M_x_seen a0 rails pt = (K_x_seen_1 a0 rails pt) := rfl
  refine lv_iload_n hx hb dX10_seen_0 rfl (lv_at hl 1 rfl) ?_
  refine lv_aload_n hx hb dX10_seen_1 rfl (lv_at hl 0 rfl) ?_
  refine va_get (D := D) (ci := 9) (v := .ref pl) (C := RX10) (T := TX10) (N := 10) hx hb hts (fun w h => tbC w (tbfX10 w h)) hown hK hP 0 rfl rfl 7 (by decide) (hts (.fieldLink RX10 56 "PowerRails" "plan" "LPowerRails$Plan;") (tbC _ wd254)) (fun _ h9 => h9) rfl dX10_seen_2 ?_
  obtain ⟨hPc, hDc, hFc, hC9⟩ := xpk (wc := W_allRails cI cJ cZ cG cH pl pna pta rails limit retry behind) hP hD hS hA [1] (by decide +kernel) rfl
  refine va_calli (va_runV (As := []) (rest := [.int a0]) ⟨hx, hb, hml, hown, hts⟩ (c_allRails l D cI cJ cZ cG cH s.heap.size pl pna pta rails limit retry behind (xrng rfl (by omega) (by omega))) (cwV 0 hts (xGV tbC wd419 wd420 wd421 wd59 wd1012) rfl rfl rfl (by decide +kernel) ⟨Nat.le_of_ble_eq_true rfl, Nat.le_of_ble_eq_true rfl⟩) ⟨xPc_blind, va_recv hK hPc (ci := 2) (q0 := 0) rfl rfl, xPc_pre hPc hK hDc⟩ rfl rfl hl.1 rfl (lv_room (Nat.le_of_ble_eq_true rfl)) dX10_seen_5 ⟨Nat.le_of_ble_eq_true rfl, Nat.le_of_ble_eq_true rfl⟩) hS (fun q _ h => hFc q h) hFc (fun r1 u t H1 locs ht hvm hw1 hB hz1 hk1 hS => ?_)
  obtain ⟨hru9, hw1⟩ := hw1
  subst hru9
  obtain ⟨hf1_0, hP1, hK1, hD1⟩ := hB
  rw [ht] at hP1
  obtain ⟨hP, hD⟩ : xPD D A [oX10 xo tp rd rn co wy sg sh pl sp lf, oAJ pta cJ 64 pt, oX3 pl pna pta rails limit retry behind] H1 := xjn 2 hP hD [1] [0, 2] hC9 rfl (by decide +kernel) (by decide +kernel) hk1 hFc hP1 hD1
  generalize H1 = H at hP hS ⊢
  have hf1_0 : M_allRails rails = (r1) := hf1_0
  have hw1 : 0 ≤ r1.toInt ∧ r1.toInt ≤ 255 := hw1
  have h9M := congrArg (fun t9 => (K_x_seen_2 a0 t9 rails pt)) hf1_0
  have hM : M_x_seen a0 rails pt = (K_x_seen_2 a0 r1 rails pt) := (show M_x_seen a0 rails pt = ((fun t9 => (K_x_seen_2 a0 t9 rails pt)) (M_allRails rails)) from hM).trans h9M
  refine lv_iconst (v := (-1)) hx hb dX10_seen_8 (by decide) ?_
  refine lv_ixor hx hb dX10_seen_9 ?_
  refine lv_topi (fun v2 ev2 => ?_)
  refine lv_iand hx hb dX10_seen_10 ?_
  refine lv_topi (fun v3 ev3 => ?_)
  refine lv_if_eq (tgt := 16) hx hb dX10_seen_11 (by decide) (fun c_4 => ?_) (fun c_4 => ?_)
  · skip
    have i_4 : v3.toInt = 0 := (ieq rfl (by decide)).mp c_4
    have hM : M_x_seen a0 rails pt = (K_x_seen_3 a0 rails pt) := (show M_x_seen a0 rails pt = (if v3.toInt = 0 then (K_x_seen_3 a0 rails pt) else (K_x_seen_4)) from (by rw [ev3, ev2]; exact hM)).trans (if_pos i_4)
    refine lv_aload_n hx hb dX10_seen_16 rfl (lv_at hl 0 rfl) ?_
    refine va_get (D := D) (ci := 9) (v := .ref pl) (C := RX10) (T := TX10) (N := 10) hx hb hts (fun w h => tbC w (tbfX10 w h)) hown hK hP 0 rfl rfl 7 (by decide) (hts (.fieldLink RX10 56 "PowerRails" "plan" "LPowerRails$Plan;") (tbC _ wd254)) (fun _ h9 => h9) rfl dX10_seen_17 ?_
    refine lv_iload_n hx hb dX10_seen_20 rfl (lv_at hl 1 rfl) ?_
    obtain ⟨hPc, hDc, hFc, hC9⟩ := xpk (wc := W_explain cI cJ cZ cG cH pl a0 pna pta rails limit retry behind pt) hP hD hS hA [2, 1] (by decide +kernel) rfl
    refine va_calli (va_runS (As := [.ref pl, .int a0]) (rest := []) ⟨hx, hb, hml, hown, hts⟩ (c_explain l D cI cJ cZ cG cH H.size pl a0 pna pta rails limit retry behind pt (xrng rfl (by omega) (by omega))) (va_cwS 2 hts (xGS tbC wd642 wd643 wd68 wd1080) rfl rfl rfl (by decide +kernel) ⟨Nat.le_of_ble_eq_true rfl, Nat.le_of_ble_eq_true rfl⟩) ⟨xPc_blind, xPc_pre hPc hK hDc⟩ rfl rfl hl.1 rfl (lv_room (Nat.le_of_ble_eq_true rfl)) dX10_seen_21 ⟨Nat.le_of_ble_eq_true rfl, Nat.le_of_ble_eq_true rfl⟩) hS (fun q _ h => hFc q h) hFc (fun r5 u t H1 locs ht hvm hw5 hB hz1 hk1 hS => ?_)
    obtain ⟨hru9, hw5⟩ := hw5
    subst hru9
    obtain ⟨hf5_0, hP1, hK1, hD1⟩ := hB
    rw [ht] at hP1
    obtain ⟨hP, hD⟩ : xPD D A [oX10 xo tp rd rn co wy sg sh pl sp lf, oX3 pl pna pta rails limit retry behind, oAJ pta cJ 64 pt] H1 := xjn 1 hP hD [2, 1] [0] hC9 rfl (by decide +kernel) (by decide +kernel) hk1 hFc hP1 hD1
    generalize H1 = H at hP hS ⊢
    have hf5_0 : M_explain a0 rails pt = (r5) := hf5_0
    have hw5 : 0 ≤ r5.toInt ∧ r5.toInt ≤ 511 := hw5
    have h9M := congrArg (fun t9 => (K_x_seen_5 t9)) hf5_0
    have hM : M_x_seen a0 rails pt = (K_x_seen_5 r5) := (show M_x_seen a0 rails pt = ((fun t9 => (K_x_seen_5 t9)) (M_explain a0 rails pt)) from hM).trans h9M
    refine W.widen (k := 0) (n := 0) (by decide) (by decide) ?_
    exact W.iret (v := r5) hx hb hr (fun t ht hW => ⟨⟨r5, r5, rfl, ⟨rfl, (xrng rfl (by omega) (by omega))⟩, ⟨hM, xB_of9 ht hW hP hK hD [0, 1, 2] (by decide +kernel) rfl⟩⟩, hS.F ht⟩) hS.2.2 dX10_seen_24
  · skip
    have i_4 : ¬ (v3.toInt = 0) := fun h9 => c_4 ((ieq rfl (by decide)).mpr h9)
    have hM : M_x_seen a0 rails pt = (K_x_seen_4) := (show M_x_seen a0 rails pt = (if v3.toInt = 0 then (K_x_seen_3 a0 rails pt) else (K_x_seen_4)) from (by rw [ev3, ev2]; exact hM)).trans (if_neg i_4)
    refine lv_iconst (v := (-1)) hx hb dX10_seen_14 (by decide) ?_
    refine W.widen (k := 0) (n := 0) (by decide) (by decide) ?_
    exact W.iret (v := (-1)) hx hb hr (fun t ht hW => ⟨⟨(-1), (-1), rfl, ⟨rfl, ⟨by decide, by decide⟩⟩, ⟨hM, xB_of9 ht hW hP hK hD [0, 2, 1] (by decide +kernel) rfl⟩⟩, hS.F ht⟩) hS.2.2 dX10_seen_15
def sp_sheet (a0 a1 a2 : Int32) : Int32 := if (0 ≤ a0.toInt ∧ a0.toInt < 4) ∧ (0 ≤ a1.toInt ∧ a1.toInt ≤ 2) ∧ a2.toInt ≤ 40 then (if a2.toInt < 0 then -14 else 1) else -1
def sp_row (ok : Prop) [Decidable ok] (f : Nat → Int32) (k v : Int32) : Nat → Int32 := if ok then upd f k.toNatClampNeg v else f
def sp_okS (a0 a1 a2 : Int32) : Prop := (0 ≤ a0.toInt ∧ a0.toInt < 4) ∧ (0 ≤ a1.toInt ∧ a1.toInt ≤ 2) ∧ 0 ≤ a2.toInt ∧ a2.toInt ≤ 40
def K_x_sheet_10 (sc_8 : Nat → Int32) (sc_9 : Nat → Int32) (sc_10 : Nat → Int32) (sc_11 : Nat → Int32) (sl_12 : Nat → Int32) (szs_13 : Nat → Int32) : (Int32) × (Nat → Int32) × (Nat → Int32) × (Nat → Int32) × (Nat → Int32) × (Nat → Int32) × (Nat → Int32) := ((1 : Int32), sc_8, sc_9, sc_10, sc_11, sl_12, szs_13)
def K_x_sheet_8 (a0 : Int32) (sc1 : Nat → Int32) (sc2 : Nat → Int32) (sc3 : Nat → Int32) (sl : Nat → Int32) (a1 : Int32) (szs : Nat → Int32) (a2 : Int32) (sc0 : Nat → Int32) : (Int32) × (Nat → Int32) × (Nat → Int32) × (Nat → Int32) × (Nat → Int32) × (Nat → Int32) × (Nat → Int32) := ((fun t9 => (K_x_sheet_10 t9.1 t9.2.1 t9.2.2.1 t9.2.2.2.1 t9.2.2.2.2.1 t9.2.2.2.2.2)) (M_renew a0 sc1 sc2 sc3 sl a1 szs a2 sc0))
def K_x_sheet_9 (sc0 : Nat → Int32) (sc1 : Nat → Int32) (sc2 : Nat → Int32) (sc3 : Nat → Int32) (sl : Nat → Int32) (szs : Nat → Int32) : (Int32) × (Nat → Int32) × (Nat → Int32) × (Nat → Int32) × (Nat → Int32) × (Nat → Int32) × (Nat → Int32) := ((-14 : Int32), sc0, sc1, sc2, sc3, sl, szs)
def K_x_sheet_6 (a2 : Int32) (a0 : Int32) (sc1 : Nat → Int32) (sc2 : Nat → Int32) (sc3 : Nat → Int32) (sl : Nat → Int32) (a1 : Int32) (szs : Nat → Int32) (sc0 : Nat → Int32) : (Int32) × (Nat → Int32) × (Nat → Int32) × (Nat → Int32) × (Nat → Int32) × (Nat → Int32) × (Nat → Int32) := (if 0 ≤ a2.toInt then (K_x_sheet_8 a0 sc1 sc2 sc3 sl a1 szs a2 sc0) else (K_x_sheet_9 sc0 sc1 sc2 sc3 sl szs))
def K_x_sheet_7 (sc0 : Nat → Int32) (sc1 : Nat → Int32) (sc2 : Nat → Int32) (sc3 : Nat → Int32) (sl : Nat → Int32) (szs : Nat → Int32) : (Int32) × (Nat → Int32) × (Nat → Int32) × (Nat → Int32) × (Nat → Int32) × (Nat → Int32) × (Nat → Int32) := ((-1 : Int32), sc0, sc1, sc2, sc3, sl, szs)
def K_x_sheet_5 (a2 : Int32) (a0 : Int32) (sc1 : Nat → Int32) (sc2 : Nat → Int32) (sc3 : Nat → Int32) (sl : Nat → Int32) (a1 : Int32) (szs : Nat → Int32) (sc0 : Nat → Int32) : (Int32) × (Nat → Int32) × (Nat → Int32) × (Nat → Int32) × (Nat → Int32) × (Nat → Int32) × (Nat → Int32) := (if a2.toInt ≤ 40 then (K_x_sheet_6 a2 a0 sc1 sc2 sc3 sl a1 szs sc0) else (K_x_sheet_7 sc0 sc1 sc2 sc3 sl szs))
def K_x_sheet_4 (sc0 : Nat → Int32) (sc1 : Nat → Int32) (sc2 : Nat → Int32) (sc3 : Nat → Int32) (sl : Nat → Int32) (szs : Nat → Int32) : (Int32) × (Nat → Int32) × (Nat → Int32) × (Nat → Int32) × (Nat → Int32) × (Nat → Int32) × (Nat → Int32) := ((-1 : Int32), sc0, sc1, sc2, sc3, sl, szs)
def K_x_sheet_3 (a1 : Int32) (a2 : Int32) (a0 : Int32) (sc1 : Nat → Int32) (sc2 : Nat → Int32) (sc3 : Nat → Int32) (sl : Nat → Int32) (szs : Nat → Int32) (sc0 : Nat → Int32) : (Int32) × (Nat → Int32) × (Nat → Int32) × (Nat → Int32) × (Nat → Int32) × (Nat → Int32) × (Nat → Int32) := (if 0 ≤ a1.toInt ∧ a1.toInt ≤ 2 then (K_x_sheet_5 a2 a0 sc1 sc2 sc3 sl a1 szs sc0) else (K_x_sheet_4 sc0 sc1 sc2 sc3 sl szs))
def K_x_sheet_2 (sc0 : Nat → Int32) (sc1 : Nat → Int32) (sc2 : Nat → Int32) (sc3 : Nat → Int32) (sl : Nat → Int32) (szs : Nat → Int32) : (Int32) × (Nat → Int32) × (Nat → Int32) × (Nat → Int32) × (Nat → Int32) × (Nat → Int32) × (Nat → Int32) := ((-1 : Int32), sc0, sc1, sc2, sc3, sl, szs)
def K_x_sheet_1 (a0 : Int32) (a1 : Int32) (a2 : Int32) (sc1 : Nat → Int32) (sc2 : Nat → Int32) (sc3 : Nat → Int32) (sl : Nat → Int32) (szs : Nat → Int32) (sc0 : Nat → Int32) : (Int32) × (Nat → Int32) × (Nat → Int32) × (Nat → Int32) × (Nat → Int32) × (Nat → Int32) × (Nat → Int32) := (if 0 ≤ a0.toInt ∧ a0.toInt < 4 then (K_x_sheet_3 a1 a2 a0 sc1 sc2 sc3 sl szs sc0) else (K_x_sheet_2 sc0 sc1 sc2 sc3 sl szs))
def M_x_sheet (a0 : Int32) (a1 : Int32) (a2 : Int32) (sc1 : Nat → Int32) (sc2 : Nat → Int32) (sc3 : Nat → Int32) (sl : Nat → Int32) (szs : Nat → Int32) (sc0 : Nat → Int32) : (Int32) × (Nat → Int32) × (Nat → Int32) × (Nat → Int32) × (Nat → Int32) × (Nat → Int32) × (Nat → Int32) := (K_x_sheet_1 a0 a1 a2 sc1 sc2 sc3 sl szs sc0)
abbrev W_x_sheet (cI cJ cZ cG cH : ClassId) (xo : Nat) (a0 : Int32) (a1 : Int32) (a2 : Int32) (tp : Nat) (rd : Nat) (rn : Nat) (co : Nat) (wy : Nat) (sg : Nat) (sh : Nat) (pl : Nat) (sp : Nat) (lf : Int32) (sca : Nat) (sla : Nat) (ssa : Nat) (rr : Nat → Nat) (sc0 : Nat → Int32) (sc1 : Nat → Int32) (sc2 : Nat → Int32) (sc3 : Nat → Int32) (sl : Nat → Int32) (szs : Nat → Int32) : va_W := [oX10 xo tp rd rn co wy sg sh pl sp lf, oX6 sh sca sla ssa, oAM sca cG 4 rr, oAI (rr 0) cI 40 sc0, oAI (rr 1) cI 40 sc1, oAI (rr 2) cI 40 sc2, oAI (rr 3) cI 40 sc3, oAI sla cI 4 sl, oAI ssa cI 4 szs]
abbrev Q_x_sheet (D : va_G) (cI cJ cZ cG cH : ClassId) (xo : Nat) (a0 : Int32) (a1 : Int32) (a2 : Int32) (tp : Nat) (rd : Nat) (rn : Nat) (co : Nat) (wy : Nat) (sg : Nat) (sh : Nat) (pl : Nat) (sp : Nat) (lf : Int32) (sca : Nat) (sla : Nat) (ssa : Nat) (rr : Nat → Nat) (sc0 : Nat → Int32) (sc1 : Nat → Int32) (sc2 : Nat → Int32) (sc3 : Nat → Int32) (sl : Nat → Int32) (szs : Nat → Int32) (A : Nat → Prop) : Array Value → State → Outcome → State → Prop := va_Qi (fun (r : Int32) (u9 : Int32) => r = u9 ∧ (r = sp_sheet a0 a1 a2)) (fun u9 t => ∃ (sc09 : Nat → Int32) (sc19 : Nat → Int32) (sc29 : Nat → Int32) (sc39 : Nat → Int32) (sl9 : Nat → Int32) (szs9 : Nat → Int32), (∀ j, j < 4 → (-4) ≤ (szs9 j).toInt ∧ (szs9 j).toInt ≤ 40) ∧ (szs9 = @sp_row (sp_okS a0 a1 a2) (Classical.propDecidable _) szs a0 a2) ∧ (M_x_sheet a0 a1 a2 sc1 sc2 sc3 sl szs sc0 = (u9, sc09, sc19, sc29, sc39, sl9, szs9)) ∧ xB D (tyL cI cJ cZ cG cH) [oX10 xo tp rd rn co wy sg sh pl sp lf, oX6 sh sca sla ssa, oAM sca cG 4 rr, oAI (rr 0) cI 40 sc09, oAI (rr 1) cI 40 sc19, oAI (rr 2) cI 40 sc29, oAI (rr 3) cI 40 sc39, oAI sla cI 4 sl9, oAI ssa cI 4 szs9] A t) A
abbrev rm_x_sheet : Room := { frames := 2, cells := 0, slots := 0, locals := 46 }
set_option maxRecDepth 100000 in
set_option maxHeartbeats 40000000 in
theorem c_x_sheet (l : Launch) (D : va_G) (cI cJ cZ cG cH : ClassId) (sz : Nat) (xo : Nat) (a0 : Int32) (a1 : Int32) (a2 : Int32) (tp : Nat) (rd : Nat) (rn : Nat) (co : Nat) (wy : Nat) (sg : Nat) (sh : Nat) (pl : Nat) (sp : Nat) (lf : Int32) (sca : Nat) (sla : Nat) (ssa : Nat) (rr : Nat → Nat) (sc0 : Nat → Int32) (sc1 : Nat → Int32) (sc2 : Nat → Int32) (sc3 : Nat → Int32) (sl : Nat → Int32) (szs : Nat → Int32) (h_szs : ∀ j, j < 4 → (-4) ≤ (szs j).toInt ∧ (szs j).toInt ≤ 40) : Met l yX10_sheet (wt yX10_sheet cX10_sheet 4 (some .int)) rm_x_sheet (xPc [.ref xo, .int a0, .int a1, .int a2] D (tyL cI cJ cZ cG cH) (W_x_sheet cI cJ cZ cG cH xo a0 a1 a2 tp rd rn co wy sg sh pl sp lf sca sla ssa rr sc0 sc1 sc2 sc3 sl szs) sz) (Q_x_sheet D cI cJ cZ cG cH xo a0 a1 a2 tp rd rn co wy sg sh pl sp lf sca sla ssa rr sc0 sc1 sc2 sc3 sl szs (va_A (W_x_sheet cI cJ cZ cG cH xo a0 a1 a2 tp rd rn co wy sg sh pl sp lf sca sla ssa rr sc0 sc1 sc2 sc3 sl szs) sz)) 0 0 (va_A (W_x_sheet cI cJ cZ cG cH xo a0 a1 a2 tp rd rn co wy sg sh pl sp lf sca sla ssa rr sc0 sc1 sc2 sc3 sl szs) sz) := by
  refine xMet (cc := cX10_sheet) (maxL := 4) (ret := (some .int)) (Qf := Q_x_sheet D cI cJ cZ cG cH xo a0 a1 a2 tp rd rn co wy sg sh pl sp lf sca sla ssa rr sc0 sc1 sc2 sc3 sl szs) (by decide) rfl (Nat.le_of_ble_eq_true rfl) ?_
  intro p e s m below meth c ls A hx hb hr hml hts hown hlocks hnm hsz hP hK hD hA hS hl
  have hown : s.vm.findClass RX10 = some m.cls := hown
  have hP : va_P D vwCl [oX10 xo tp rd rn co wy sg sh pl sp lf, oX6 sh sca sla ssa, oAM sca cG 4 rr, oAI (rr 0) cI 40 sc0, oAI (rr 1) cI 40 sc1, oAI (rr 2) cI 40 sc2, oAI (rr 3) cI 40 sc3, oAI sla cI 4 sl, oAI ssa cI 4 szs] s.heap := hP
  have hD : va_D A [oX10 xo tp rd rn co wy sg sh pl sp lf, oX6 sh sca sla ssa, oAM sca cG 4 rr, oAI (rr 0) cI 40 sc0, oAI (rr 1) cI 40 sc1, oAI (rr 2) cI 40 sc2, oAI (rr 3) cI 40 sc3, oAI sla cI 4 sl, oAI ssa cI 4 szs] := hD
  have hl : lv_has ls 4 [(0, .ref xo), (1, .int a0), (2, .int a1), (3, .int a2)] := hl
  have hM : M_x_sheet a0 a1 a2 sc1 sc2 sc3 sl szs sc0 = (K_x_sheet_1 a0 a1 a2 sc1 sc2 sc3 sl szs sc0) := rfl
  refine lv_iload_n hx hb dX10_sheet_0 rfl (lv_at hl 1 rfl) ?_
  obtain ⟨hPc, hDc, hFc, hC9⟩ := xpk (wc := W_hasPlace cI cJ cZ cG cH a0) hP hD hS hA [] (by decide +kernel) rfl
  refine va_calli (va_runS (As := [.int a0]) (rest := []) ⟨hx, hb, hml, hown, hts⟩ (c_hasPlace l D cI cJ cZ cG cH s.heap.size a0) (va_cwS 1 hts (xGS tbC wd647 wd648 wd57 wd1082) rfl rfl rfl (by decide +kernel) ⟨Nat.le_of_ble_eq_true rfl, Nat.le_of_ble_eq_true rfl⟩) ⟨xPc_blind, xPc_pre hPc hK hDc⟩ rfl rfl hl.1 rfl (lv_room (Nat.le_of_ble_eq_true rfl)) dX10_sheet_1 ⟨Nat.le_of_ble_eq_true rfl, Nat.le_of_ble_eq_true rfl⟩) hS (fun q _ h => hFc q h) hFc (fun r1 u t H1 locs ht hvm hw1 hB hz1 hk1 hS => ?_)
  obtain ⟨hP1, hK1, hD1⟩ := hB
  rw [ht] at hP1
  obtain ⟨hP, hD⟩ : xPD D A [oX10 xo tp rd rn co wy sg sh pl sp lf, oX6 sh sca sla ssa, oAM sca cG 4 rr, oAI (rr 0) cI 40 sc0, oAI (rr 1) cI 40 sc1, oAI (rr 2) cI 40 sc2, oAI (rr 3) cI 40 sc3, oAI sla cI 4 sl, oAI ssa cI 4 szs] H1 := xjn 9 hP hD [] [0, 1, 2, 3, 4, 5, 6, 7, 8] hC9 rfl (by decide +kernel) (by decide +kernel) hk1 hFc hP1 hD1
  generalize H1 = H at hP hS ⊢
  have hw1 : r1 = if 0 ≤ a0.toInt ∧ a0.toInt < 4 then 1 else 0 := hw1
  refine lv_if_eq (tgt := 20) hx hb dX10_sheet_4 (by decide) (fun c_2 => ?_) (fun c_2 => ?_)
  · skip
    have i_2 : ¬ (0 ≤ a0.toInt ∧ a0.toInt < 4) := (xbool hw1).1.mp c_2
    have hM : M_x_sheet a0 a1 a2 sc1 sc2 sc3 sl szs sc0 = (K_x_sheet_2 sc0 sc1 sc2 sc3 sl szs) := (show M_x_sheet a0 a1 a2 sc1 sc2 sc3 sl szs sc0 = (if 0 ≤ a0.toInt ∧ a0.toInt < 4 then (K_x_sheet_3 a1 a2 a0 sc1 sc2 sc3 sl szs sc0) else (K_x_sheet_2 sc0 sc1 sc2 sc3 sl szs)) from hM).trans (if_neg i_2)
    refine lv_iconst (v := (-1)) hx hb dX10_sheet_20 (by decide) ?_
    refine W.widen (k := 0) (n := 0) (by decide) (by decide) ?_
    exact W.iret (v := (-1)) hx hb hr (fun t ht hW => ⟨⟨(-1), (-1), rfl, ⟨rfl, (by unfold sp_sheet; repeat (first | rw [if_pos (by omega)] | rw [if_neg (by omega)]))⟩, ⟨sc0, sc1, sc2, sc3, sl, szs, (xwk_rng h_szs (by decide) (by decide)), (by unfold sp_row; rw [if_neg (by unfold sp_okS; omega)]), hM, xB_of9 ht hW hP hK hD [0, 1, 2, 3, 4, 5, 6, 7, 8] (by decide +kernel) rfl⟩⟩, hS.F ht⟩) hS.2.2 dX10_sheet_21
  · skip
    have i_2 : 0 ≤ a0.toInt ∧ a0.toInt < 4 := (xbool hw1).2.mp c_2
    have hM : M_x_sheet a0 a1 a2 sc1 sc2 sc3 sl szs sc0 = (K_x_sheet_3 a1 a2 a0 sc1 sc2 sc3 sl szs sc0) := (show M_x_sheet a0 a1 a2 sc1 sc2 sc3 sl szs sc0 = (if 0 ≤ a0.toInt ∧ a0.toInt < 4 then (K_x_sheet_3 a1 a2 a0 sc1 sc2 sc3 sl szs sc0) else (K_x_sheet_2 sc0 sc1 sc2 sc3 sl szs)) from hM).trans (if_pos i_2)
    refine lv_iload_n hx hb dX10_sheet_7 rfl (lv_at hl 2 rfl) ?_
    obtain ⟨hPc, hDc, hFc, hC9⟩ := xpk (wc := W_isLane cI cJ cZ cG cH a1) hP hD hS hA [] (by decide +kernel) rfl
    refine va_calli (va_runS (As := [.int a1]) (rest := []) ⟨hx, hb, hml, hown, hts⟩ (c_isLane l D cI cJ cZ cG cH H.size a1) (va_cwS 1 hts (xGS tbC wd649 wd650 wd57 wd1083) rfl rfl rfl (by decide +kernel) ⟨Nat.le_of_ble_eq_true rfl, Nat.le_of_ble_eq_true rfl⟩) ⟨xPc_blind, xPc_pre hPc hK hDc⟩ rfl rfl hl.1 rfl (lv_room (Nat.le_of_ble_eq_true rfl)) dX10_sheet_8 ⟨Nat.le_of_ble_eq_true rfl, Nat.le_of_ble_eq_true rfl⟩) hS (fun q _ h => hFc q h) hFc (fun r3 u t H1 locs ht hvm hw3 hB hz1 hk1 hS => ?_)
    obtain ⟨hP1, hK1, hD1⟩ := hB
    rw [ht] at hP1
    obtain ⟨hP, hD⟩ : xPD D A [oX10 xo tp rd rn co wy sg sh pl sp lf, oX6 sh sca sla ssa, oAM sca cG 4 rr, oAI (rr 0) cI 40 sc0, oAI (rr 1) cI 40 sc1, oAI (rr 2) cI 40 sc2, oAI (rr 3) cI 40 sc3, oAI sla cI 4 sl, oAI ssa cI 4 szs] H1 := xjn 9 hP hD [] [0, 1, 2, 3, 4, 5, 6, 7, 8] hC9 rfl (by decide +kernel) (by decide +kernel) hk1 hFc hP1 hD1
    generalize H1 = H at hP hS ⊢
    have hw3 : r3 = if 0 ≤ a1.toInt ∧ a1.toInt ≤ 2 then 1 else 0 := hw3
    refine lv_if_eq (tgt := 20) hx hb dX10_sheet_11 (by decide) (fun c_4 => ?_) (fun c_4 => ?_)
    · skip
      have i_4 : ¬ (0 ≤ a1.toInt ∧ a1.toInt ≤ 2) := (xbool hw3).1.mp c_4
      have hM : M_x_sheet a0 a1 a2 sc1 sc2 sc3 sl szs sc0 = (K_x_sheet_4 sc0 sc1 sc2 sc3 sl szs) := (show M_x_sheet a0 a1 a2 sc1 sc2 sc3 sl szs sc0 = (if 0 ≤ a1.toInt ∧ a1.toInt ≤ 2 then (K_x_sheet_5 a2 a0 sc1 sc2 sc3 sl a1 szs sc0) else (K_x_sheet_4 sc0 sc1 sc2 sc3 sl szs)) from hM).trans (if_neg i_4)
      refine lv_iconst (v := (-1)) hx hb dX10_sheet_20 (by decide) ?_
      refine W.widen (k := 0) (n := 0) (by decide) (by decide) ?_
      exact W.iret (v := (-1)) hx hb hr (fun t ht hW => ⟨⟨(-1), (-1), rfl, ⟨rfl, (by unfold sp_sheet; repeat (first | rw [if_pos (by omega)] | rw [if_neg (by omega)]))⟩, ⟨sc0, sc1, sc2, sc3, sl, szs, (xwk_rng h_szs (by decide) (by decide)), (by unfold sp_row; rw [if_neg (by unfold sp_okS; omega)]), hM, xB_of9 ht hW hP hK hD [0, 1, 2, 3, 4, 5, 6, 7, 8] (by decide +kernel) rfl⟩⟩, hS.F ht⟩) hS.2.2 dX10_sheet_21
    · skip
      have i_4 : 0 ≤ a1.toInt ∧ a1.toInt ≤ 2 := (xbool hw3).2.mp c_4
      have hM : M_x_sheet a0 a1 a2 sc1 sc2 sc3 sl szs sc0 = (K_x_sheet_5 a2 a0 sc1 sc2 sc3 sl a1 szs sc0) := (show M_x_sheet a0 a1 a2 sc1 sc2 sc3 sl szs sc0 = (if 0 ≤ a1.toInt ∧ a1.toInt ≤ 2 then (K_x_sheet_5 a2 a0 sc1 sc2 sc3 sl a1 szs sc0) else (K_x_sheet_4 sc0 sc1 sc2 sc3 sl szs)) from hM).trans (if_pos i_4)
      refine lv_iload_n hx hb dX10_sheet_14 rfl (lv_at hl 3 rfl) ?_
      refine lv_bipush (v := 40) hx hb dX10_sheet_15 (by decide) ?_
      refine lv_icmp_le (tgt := 22) hx hb dX10_sheet_17 (by decide) (fun c_5 => ?_) (fun c_5 => ?_)
      · skip
        have i_5 : a2.toInt ≤ 40 := (ile rfl (by decide)).mp c_5
        have hM : M_x_sheet a0 a1 a2 sc1 sc2 sc3 sl szs sc0 = (K_x_sheet_6 a2 a0 sc1 sc2 sc3 sl a1 szs sc0) := (show M_x_sheet a0 a1 a2 sc1 sc2 sc3 sl szs sc0 = (if a2.toInt ≤ 40 then (K_x_sheet_6 a2 a0 sc1 sc2 sc3 sl a1 szs sc0) else (K_x_sheet_7 sc0 sc1 sc2 sc3 sl szs)) from hM).trans (if_pos i_5)
        refine lv_iload_n hx hb dX10_sheet_22 rfl (lv_at hl 3 rfl) ?_
        refine lv_if_ge (tgt := 29) hx hb dX10_sheet_23 (by decide) (fun c_6 => ?_) (fun c_6 => ?_)
        · skip
          have i_6 : 0 ≤ a2.toInt := (ile (by decide) rfl).mp c_6
          have hM : M_x_sheet a0 a1 a2 sc1 sc2 sc3 sl szs sc0 = (K_x_sheet_8 a0 sc1 sc2 sc3 sl a1 szs a2 sc0) := (show M_x_sheet a0 a1 a2 sc1 sc2 sc3 sl szs sc0 = (if 0 ≤ a2.toInt then (K_x_sheet_8 a0 sc1 sc2 sc3 sl a1 szs a2 sc0) else (K_x_sheet_9 sc0 sc1 sc2 sc3 sl szs)) from hM).trans (if_pos i_6)
          refine lv_aload_n hx hb dX10_sheet_29 rfl (lv_at hl 0 rfl) ?_
          refine va_get (D := D) (ci := 9) (v := .ref sh) (C := RX10) (T := TX10) (N := 10) hx hb hts (fun w h => tbC w (tbfX10 w h)) hown hK hP 0 rfl rfl 6 (by decide) (hts (.fieldLink RX10 49 "PowerRails" "sheets" "LPowerRails$Sheets;") (tbC _ wd253)) (fun _ h9 => h9) rfl dX10_sheet_30 ?_
          refine lv_iload_n hx hb dX10_sheet_33 rfl (lv_at hl 1 rfl) ?_
          refine lv_iload_n hx hb dX10_sheet_34 rfl (lv_at hl 2 rfl) ?_
          refine lv_iload_n hx hb dX10_sheet_35 rfl (lv_at hl 3 rfl) ?_
          obtain ⟨hPc, hDc, hFc, hC9⟩ := xpk (wc := W_renew cI cJ cZ cG cH sh a0 a1 a2 sca sla ssa rr sc0 sc1 sc2 sc3 sl szs) hP hD hS hA [1, 2, 3, 4, 5, 6, 7, 8] (by decide +kernel) rfl
          refine va_callv (va_runV (As := [.int a0, .int a1, .int a2]) (rest := []) ⟨hx, hb, hml, hown, hts⟩ (c_renew l D cI cJ cZ cG cH H.size sh a0 a1 a2 sca sla ssa rr sc0 sc1 sc2 sc3 sl szs (xrng rfl (by omega) (by omega)) (xrng rfl (by omega) (by omega)) (xrng rfl (by omega) (by omega)) (xwk_rng h_szs (by decide) (by decide))) (cwV 3 hts (xGV tbC wd651 wd652 wd653 wd57 wd1084) rfl rfl rfl (by decide +kernel) ⟨Nat.le_of_ble_eq_true rfl, Nat.le_of_ble_eq_true rfl⟩) ⟨xPc_blind, va_recv hK hPc (ci := 5) (q0 := 0) rfl rfl, xPc_pre hPc hK hDc⟩ rfl rfl hl.1 rfl (lv_room (Nat.le_of_ble_eq_true rfl)) dX10_sheet_36 ⟨Nat.le_of_ble_eq_true rfl, Nat.le_of_ble_eq_true rfl⟩) hS (fun q _ h => hFc q h) hFc (fun u t H1 locs ht hvm hw7 hB hz1 hk1 hS => ?_)
          revert hB
          refine xex6r (fun sc_8 sc_9 sc_10 sc_11 sl_12 szs_13 => ?_)
          refine xan6r (fun hf13_0 hf13_1 hf13_2 hP1 hK1 hD1 => ?_)
          rw [ht] at hP1
          obtain ⟨hP, hD⟩ : xPD D A [oX10 xo tp rd rn co wy sg sh pl sp lf, oX6 sh sca sla ssa, oAM sca cG 4 rr, oAI (rr 0) cI 40 sc_8, oAI (rr 1) cI 40 sc_9, oAI (rr 2) cI 40 sc_10, oAI (rr 3) cI 40 sc_11, oAI sla cI 4 sl_12, oAI ssa cI 4 szs_13] H1 := xjn 1 hP hD [1, 2, 3, 4, 5, 6, 7, 8] [0] hC9 rfl (by decide +kernel) (by decide +kernel) hk1 hFc hP1 hD1
          generalize H1 = H at hP hS ⊢
          have hf13_0 : ∀ j, j < 4 → (-4) ≤ (szs_13 j).toInt ∧ (szs_13 j).toInt ≤ 40 := hf13_0
          have hf13_1 : szs_13 = upd szs a0.toNatClampNeg a2 := hf13_1
          have hf13_2 : M_renew a0 sc1 sc2 sc3 sl a1 szs a2 sc0 = (sc_8, sc_9, sc_10, sc_11, sl_12, szs_13) := hf13_2
          have h9M := congrArg (fun t9 => (K_x_sheet_10 t9.1 t9.2.1 t9.2.2.1 t9.2.2.2.1 t9.2.2.2.2.1 t9.2.2.2.2.2)) hf13_2
          have hM : M_x_sheet a0 a1 a2 sc1 sc2 sc3 sl szs sc0 = (K_x_sheet_10 sc_8 sc_9 sc_10 sc_11 sl_12 szs_13) := (show M_x_sheet a0 a1 a2 sc1 sc2 sc3 sl szs sc0 = ((fun t9 => (K_x_sheet_10 t9.1 t9.2.1 t9.2.2.1 t9.2.2.2.1 t9.2.2.2.2.1 t9.2.2.2.2.2)) (M_renew a0 sc1 sc2 sc3 sl a1 szs a2 sc0)) from hM).trans h9M
          refine lv_iconst (v := 1) hx hb dX10_sheet_39 (by decide) ?_
          refine W.widen (k := 0) (n := 0) (by decide) (by decide) ?_
          exact W.iret (v := 1) hx hb hr (fun t ht hW => ⟨⟨1, 1, rfl, ⟨rfl, (by unfold sp_sheet; repeat (first | rw [if_pos (by omega)] | rw [if_neg (by omega)]))⟩, ⟨sc_8, sc_9, sc_10, sc_11, sl_12, szs_13, (xwk_rng hf13_0 (by decide) (by decide)), (by unfold sp_row; rw [if_pos (by unfold sp_okS; omega)]; exact hf13_1), hM, xB_of9 ht hW hP hK hD [0, 1, 2, 3, 4, 5, 6, 7, 8] (by decide +kernel) rfl⟩⟩, hS.F ht⟩) hS.2.2 dX10_sheet_40
        · skip
          have i_6 : ¬ (0 ≤ a2.toInt) := fun h9 => c_6 ((ile (by decide) rfl).mpr h9)
          have hM : M_x_sheet a0 a1 a2 sc1 sc2 sc3 sl szs sc0 = (K_x_sheet_9 sc0 sc1 sc2 sc3 sl szs) := (show M_x_sheet a0 a1 a2 sc1 sc2 sc3 sl szs sc0 = (if 0 ≤ a2.toInt then (K_x_sheet_8 a0 sc1 sc2 sc3 sl a1 szs a2 sc0) else (K_x_sheet_9 sc0 sc1 sc2 sc3 sl szs)) from hM).trans (if_neg i_6)
          refine lv_bipush (v := (-14)) hx hb dX10_sheet_26 (by decide) ?_
          refine W.widen (k := 0) (n := 0) (by decide) (by decide) ?_
          exact W.iret (v := (-14)) hx hb hr (fun t ht hW => ⟨⟨(-14), (-14), rfl, ⟨rfl, (by unfold sp_sheet; repeat (first | rw [if_pos (by omega)] | rw [if_neg (by omega)]))⟩, ⟨sc0, sc1, sc2, sc3, sl, szs, (xwk_rng h_szs (by decide) (by decide)), (by unfold sp_row; rw [if_neg (by unfold sp_okS; omega)]), hM, xB_of9 ht hW hP hK hD [0, 1, 2, 3, 4, 5, 6, 7, 8] (by decide +kernel) rfl⟩⟩, hS.F ht⟩) hS.2.2 dX10_sheet_28
      · skip
        have i_5 : ¬ (a2.toInt ≤ 40) := fun h9 => c_5 ((ile rfl (by decide)).mpr h9)
        have hM : M_x_sheet a0 a1 a2 sc1 sc2 sc3 sl szs sc0 = (K_x_sheet_7 sc0 sc1 sc2 sc3 sl szs) := (show M_x_sheet a0 a1 a2 sc1 sc2 sc3 sl szs sc0 = (if a2.toInt ≤ 40 then (K_x_sheet_6 a2 a0 sc1 sc2 sc3 sl a1 szs sc0) else (K_x_sheet_7 sc0 sc1 sc2 sc3 sl szs)) from hM).trans (if_neg i_5)
        refine lv_iconst (v := (-1)) hx hb dX10_sheet_20 (by decide) ?_
        refine W.widen (k := 0) (n := 0) (by decide) (by decide) ?_
        exact W.iret (v := (-1)) hx hb hr (fun t ht hW => ⟨⟨(-1), (-1), rfl, ⟨rfl, (by unfold sp_sheet; repeat (first | rw [if_pos (by omega)] | rw [if_neg (by omega)]))⟩, ⟨sc0, sc1, sc2, sc3, sl, szs, (xwk_rng h_szs (by decide) (by decide)), (by unfold sp_row; rw [if_neg (by unfold sp_okS; omega)]), hM, xB_of9 ht hW hP hK hD [0, 1, 2, 3, 4, 5, 6, 7, 8] (by decide +kernel) rfl⟩⟩, hS.F ht⟩) hS.2.2 dX10_sheet_21
def sp_lay (a0 a1 : Int32) (f : Nat → Int32) : Int32 := if 0 ≤ a0.toInt ∧ a0.toInt < 4 then (if (f a0.toNatClampNeg).toInt = -4 then -11 else if 0 ≤ a1.toInt ∧ a1.toInt < (f a0.toNatClampNeg).toInt then 1 else -12) else -1
def K_x_lay_5 (sc0 : Nat → Int32) (sc1 : Nat → Int32) (sc2 : Nat → Int32) (sc3 : Nat → Int32) : (Int32) × (Nat → Int32) × (Nat → Int32) × (Nat → Int32) × (Nat → Int32) := ((-11 : Int32), sc0, sc1, sc2, sc3)
def K_x_lay_6 (sc0 : Nat → Int32) (sc1 : Nat → Int32) (sc2 : Nat → Int32) (sc3 : Nat → Int32) : (Int32) × (Nat → Int32) × (Nat → Int32) × (Nat → Int32) × (Nat → Int32) := ((-12 : Int32), sc0, sc1, sc2, sc3)
def K_x_lay_10 (sc_9 : Nat → Int32) (sc_10 : Nat → Int32) (sc_11 : Nat → Int32) (sc_12 : Nat → Int32) : (Int32) × (Nat → Int32) × (Nat → Int32) × (Nat → Int32) × (Nat → Int32) := ((1 : Int32), sc_9, sc_10, sc_11, sc_12)
def K_x_lay_8 (sl : Nat → Int32) (a0 : Int32) (sc0 : Nat → Int32) (a1 : Int32) (a2 : Int32) (sc1 : Nat → Int32) (sc2 : Nat → Int32) (sc3 : Nat → Int32) : (Int32) × (Nat → Int32) × (Nat → Int32) × (Nat → Int32) × (Nat → Int32) := ((fun t9 => (K_x_lay_10 t9.1 t9.2.1 t9.2.2.1 t9.2.2.2)) (M_put sl a0 sc0 a1 a2 sc1 sc2 sc3))
def K_x_lay_9 (sc0 : Nat → Int32) (sc1 : Nat → Int32) (sc2 : Nat → Int32) (sc3 : Nat → Int32) : (Int32) × (Nat → Int32) × (Nat → Int32) × (Nat → Int32) × (Nat → Int32) := ((-12 : Int32), sc0, sc1, sc2, sc3)
def K_x_lay_7 (a1 : Int32) (v3 : Int32) (sl : Nat → Int32) (a0 : Int32) (sc0 : Nat → Int32) (a2 : Int32) (sc1 : Nat → Int32) (sc2 : Nat → Int32) (sc3 : Nat → Int32) : (Int32) × (Nat → Int32) × (Nat → Int32) × (Nat → Int32) × (Nat → Int32) := (if a1.toInt < v3.toInt then (K_x_lay_8 sl a0 sc0 a1 a2 sc1 sc2 sc3) else (K_x_lay_9 sc0 sc1 sc2 sc3))
def K_x_lay_4 (a1 : Int32) (sc0 : Nat → Int32) (sc1 : Nat → Int32) (sc2 : Nat → Int32) (sc3 : Nat → Int32) (v3 : Int32) (sl : Nat → Int32) (a0 : Int32) (a2 : Int32) : (Int32) × (Nat → Int32) × (Nat → Int32) × (Nat → Int32) × (Nat → Int32) := (if a1.toInt < 0 then (K_x_lay_6 sc0 sc1 sc2 sc3) else (K_x_lay_7 a1 v3 sl a0 sc0 a2 sc1 sc2 sc3))
def K_x_lay_2 (szs : Nat → Int32) (a0 : Int32) (sc0 : Nat → Int32) (sc1 : Nat → Int32) (sc2 : Nat → Int32) (sc3 : Nat → Int32) (a1 : Int32) (sl : Nat → Int32) (a2 : Int32) : (Int32) × (Nat → Int32) × (Nat → Int32) × (Nat → Int32) × (Nat → Int32) := (if (szs a0.toNatClampNeg).toInt = (-4) then (K_x_lay_5 sc0 sc1 sc2 sc3) else (K_x_lay_4 a1 sc0 sc1 sc2 sc3 (szs a0.toNatClampNeg) sl a0 a2))
def K_x_lay_3 (sc0 : Nat → Int32) (sc1 : Nat → Int32) (sc2 : Nat → Int32) (sc3 : Nat → Int32) : (Int32) × (Nat → Int32) × (Nat → Int32) × (Nat → Int32) × (Nat → Int32) := ((-1 : Int32), sc0, sc1, sc2, sc3)
def K_x_lay_1 (a0 : Int32) (szs : Nat → Int32) (sc0 : Nat → Int32) (sc1 : Nat → Int32) (sc2 : Nat → Int32) (sc3 : Nat → Int32) (a1 : Int32) (sl : Nat → Int32) (a2 : Int32) : (Int32) × (Nat → Int32) × (Nat → Int32) × (Nat → Int32) × (Nat → Int32) := (if 0 ≤ a0.toInt ∧ a0.toInt < 4 then (K_x_lay_2 szs a0 sc0 sc1 sc2 sc3 a1 sl a2) else (K_x_lay_3 sc0 sc1 sc2 sc3))
def M_x_lay (a0 : Int32) (szs : Nat → Int32) (sc0 : Nat → Int32) (sc1 : Nat → Int32) (sc2 : Nat → Int32) (sc3 : Nat → Int32) (a1 : Int32) (sl : Nat → Int32) (a2 : Int32) : (Int32) × (Nat → Int32) × (Nat → Int32) × (Nat → Int32) × (Nat → Int32) := (K_x_lay_1 a0 szs sc0 sc1 sc2 sc3 a1 sl a2)
abbrev W_x_lay (cI cJ cZ cG cH : ClassId) (xo : Nat) (a0 : Int32) (a1 : Int32) (a2 : Int32) (tp : Nat) (rd : Nat) (rn : Nat) (co : Nat) (wy : Nat) (sg : Nat) (sh : Nat) (pl : Nat) (sp : Nat) (lf : Int32) (sca : Nat) (sla : Nat) (ssa : Nat) (rr : Nat → Nat) (sc0 : Nat → Int32) (sc1 : Nat → Int32) (sc2 : Nat → Int32) (sc3 : Nat → Int32) (sl : Nat → Int32) (szs : Nat → Int32) : va_W := [oX10 xo tp rd rn co wy sg sh pl sp lf, oX6 sh sca sla ssa, oAM sca cG 4 rr, oAI (rr 0) cI 40 sc0, oAI (rr 1) cI 40 sc1, oAI (rr 2) cI 40 sc2, oAI (rr 3) cI 40 sc3, oAI sla cI 4 sl, oAI ssa cI 4 szs]
abbrev Q_x_lay (D : va_G) (cI cJ cZ cG cH : ClassId) (xo : Nat) (a0 : Int32) (a1 : Int32) (a2 : Int32) (tp : Nat) (rd : Nat) (rn : Nat) (co : Nat) (wy : Nat) (sg : Nat) (sh : Nat) (pl : Nat) (sp : Nat) (lf : Int32) (sca : Nat) (sla : Nat) (ssa : Nat) (rr : Nat → Nat) (sc0 : Nat → Int32) (sc1 : Nat → Int32) (sc2 : Nat → Int32) (sc3 : Nat → Int32) (sl : Nat → Int32) (szs : Nat → Int32) (A : Nat → Prop) : Array Value → State → Outcome → State → Prop := va_Qi (fun (r : Int32) (u9 : Int32) => r = u9 ∧ (r = sp_lay a0 a1 szs)) (fun u9 t => ∃ (sc09 : Nat → Int32) (sc19 : Nat → Int32) (sc29 : Nat → Int32) (sc39 : Nat → Int32), (M_x_lay a0 szs sc0 sc1 sc2 sc3 a1 sl a2 = (u9, sc09, sc19, sc29, sc39)) ∧ xB D (tyL cI cJ cZ cG cH) [oX10 xo tp rd rn co wy sg sh pl sp lf, oX6 sh sca sla ssa, oAM sca cG 4 rr, oAI (rr 0) cI 40 sc09, oAI (rr 1) cI 40 sc19, oAI (rr 2) cI 40 sc29, oAI (rr 3) cI 40 sc39, oAI sla cI 4 sl, oAI ssa cI 4 szs] A t) A
abbrev rm_x_lay : Room := { frames := 1, cells := 0, slots := 0, locals := 23 }
set_option maxRecDepth 100000 in
set_option maxHeartbeats 40000000 in
theorem c_x_lay (l : Launch) (D : va_G) (cI cJ cZ cG cH : ClassId) (sz : Nat) (xo : Nat) (a0 : Int32) (a1 : Int32) (a2 : Int32) (tp : Nat) (rd : Nat) (rn : Nat) (co : Nat) (wy : Nat) (sg : Nat) (sh : Nat) (pl : Nat) (sp : Nat) (lf : Int32) (sca : Nat) (sla : Nat) (ssa : Nat) (rr : Nat → Nat) (sc0 : Nat → Int32) (sc1 : Nat → Int32) (sc2 : Nat → Int32) (sc3 : Nat → Int32) (sl : Nat → Int32) (szs : Nat → Int32) (h_szs : ∀ j, j < 4 → (-4) ≤ (szs j).toInt ∧ (szs j).toInt ≤ 40) : Met l yX10_lay (wt yX10_lay cX10_lay 4 (some .int)) rm_x_lay (xPc [.ref xo, .int a0, .int a1, .int a2] D (tyL cI cJ cZ cG cH) (W_x_lay cI cJ cZ cG cH xo a0 a1 a2 tp rd rn co wy sg sh pl sp lf sca sla ssa rr sc0 sc1 sc2 sc3 sl szs) sz) (Q_x_lay D cI cJ cZ cG cH xo a0 a1 a2 tp rd rn co wy sg sh pl sp lf sca sla ssa rr sc0 sc1 sc2 sc3 sl szs (va_A (W_x_lay cI cJ cZ cG cH xo a0 a1 a2 tp rd rn co wy sg sh pl sp lf sca sla ssa rr sc0 sc1 sc2 sc3 sl szs) sz)) 0 0 (va_A (W_x_lay cI cJ cZ cG cH xo a0 a1 a2 tp rd rn co wy sg sh pl sp lf sca sla ssa rr sc0 sc1 sc2 sc3 sl szs) sz) := by
  refine xMet (cc := cX10_lay) (maxL := 4) (ret := (some .int)) (Qf := Q_x_lay D cI cJ cZ cG cH xo a0 a1 a2 tp rd rn co wy sg sh pl sp lf sca sla ssa rr sc0 sc1 sc2 sc3 sl szs) (by decide) rfl (Nat.le_of_ble_eq_true rfl) ?_
  intro p e s m below meth c ls A hx hb hr hml hts hown hlocks hnm hsz hP hK hD hA hS hl
  have hown : s.vm.findClass RX10 = some m.cls := hown
  have hP : va_P D vwCl [oX10 xo tp rd rn co wy sg sh pl sp lf, oX6 sh sca sla ssa, oAM sca cG 4 rr, oAI (rr 0) cI 40 sc0, oAI (rr 1) cI 40 sc1, oAI (rr 2) cI 40 sc2, oAI (rr 3) cI 40 sc3, oAI sla cI 4 sl, oAI ssa cI 4 szs] s.heap := hP
  have hD : va_D A [oX10 xo tp rd rn co wy sg sh pl sp lf, oX6 sh sca sla ssa, oAM sca cG 4 rr, oAI (rr 0) cI 40 sc0, oAI (rr 1) cI 40 sc1, oAI (rr 2) cI 40 sc2, oAI (rr 3) cI 40 sc3, oAI sla cI 4 sl, oAI ssa cI 4 szs] := hD
  have hl : lv_has ls 4 [(0, .ref xo), (1, .int a0), (2, .int a1), (3, .int a2)] := hl
  have hM : M_x_lay a0 szs sc0 sc1 sc2 sc3 a1 sl a2 = (K_x_lay_1 a0 szs sc0 sc1 sc2 sc3 a1 sl a2) := rfl
  refine lv_iload_n hx hb dX10_lay_0 rfl (lv_at hl 1 rfl) ?_
  obtain ⟨hPc, hDc, hFc, hC9⟩ := xpk (wc := W_hasPlace cI cJ cZ cG cH a0) hP hD hS hA [] (by decide +kernel) rfl
  refine va_calli (va_runS (As := [.int a0]) (rest := []) ⟨hx, hb, hml, hown, hts⟩ (c_hasPlace l D cI cJ cZ cG cH s.heap.size a0) (va_cwS 1 hts (xGS tbC wd647 wd648 wd57 wd1082) rfl rfl rfl (by decide +kernel) ⟨Nat.le_of_ble_eq_true rfl, Nat.le_of_ble_eq_true rfl⟩) ⟨xPc_blind, xPc_pre hPc hK hDc⟩ rfl rfl hl.1 rfl (lv_room (Nat.le_of_ble_eq_true rfl)) dX10_lay_1 ⟨Nat.le_of_ble_eq_true rfl, Nat.le_of_ble_eq_true rfl⟩) hS (fun q _ h => hFc q h) hFc (fun r1 u t H1 locs ht hvm hw1 hB hz1 hk1 hS => ?_)
  obtain ⟨hP1, hK1, hD1⟩ := hB
  rw [ht] at hP1
  obtain ⟨hP, hD⟩ : xPD D A [oX10 xo tp rd rn co wy sg sh pl sp lf, oX6 sh sca sla ssa, oAM sca cG 4 rr, oAI (rr 0) cI 40 sc0, oAI (rr 1) cI 40 sc1, oAI (rr 2) cI 40 sc2, oAI (rr 3) cI 40 sc3, oAI sla cI 4 sl, oAI ssa cI 4 szs] H1 := xjn 9 hP hD [] [0, 1, 2, 3, 4, 5, 6, 7, 8] hC9 rfl (by decide +kernel) (by decide +kernel) hk1 hFc hP1 hD1
  generalize H1 = H at hP hS ⊢
  have hw1 : r1 = if 0 ≤ a0.toInt ∧ a0.toInt < 4 then 1 else 0 := hw1
  refine lv_if_ne (tgt := 9) hx hb dX10_lay_4 (by decide) (fun c_2 => ?_) (fun c_2 => ?_)
  · skip
    have i_2 : 0 ≤ a0.toInt ∧ a0.toInt < 4 := (xbool hw1).2.mp c_2
    have hM : M_x_lay a0 szs sc0 sc1 sc2 sc3 a1 sl a2 = (K_x_lay_2 szs a0 sc0 sc1 sc2 sc3 a1 sl a2) := (show M_x_lay a0 szs sc0 sc1 sc2 sc3 a1 sl a2 = (if 0 ≤ a0.toInt ∧ a0.toInt < 4 then (K_x_lay_2 szs a0 sc0 sc1 sc2 sc3 a1 sl a2) else (K_x_lay_3 sc0 sc1 sc2 sc3)) from hM).trans (if_pos i_2)
    refine lv_aload_n hx hb dX10_lay_9 rfl (lv_at hl 0 rfl) ?_
    refine va_get (D := D) (ci := 9) (v := .ref sh) (C := RX10) (T := TX10) (N := 10) hx hb hts (fun w h => tbC w (tbfX10 w h)) hown hK hP 0 rfl rfl 6 (by decide) (hts (.fieldLink RX10 49 "PowerRails" "sheets" "LPowerRails$Sheets;") (tbC _ wd253)) (fun _ h9 => h9) rfl dX10_lay_10 ?_
    refine va_get (D := D) (ci := 5) (v := .ref ssa) (C := RX6) (T := TX6) (N := 3) hx hb hts (fun w h => tbC w (tbfX6 w h)) hown hK hP 1 rfl rfl 2 (by decide) (hts (.fieldLink RX10 305 "PowerRails$Sheets" "sizes" "[I") (tbC _ wd196)) (fun _ h9 => h9) rfl dX10_lay_13 ?_
    refine lv_iload_n hx hb dX10_lay_16 rfl (lv_at hl 1 rfl) ?_
    refine va_iald hx hb hK hP 8 0 rfl rfl (vp_in_iff.mpr ⟨by omega, by omega⟩) dX10_lay_17 ?_
    refine lv_topi (fun v3 ev3 => ?_)
    have rv3 : (-4) ≤ v3.toInt ∧ v3.toInt ≤ 40 := xrd ev3 h_szs (xinK (vp_in_iff.mpr ⟨by omega, by omega⟩))
    have q2v3 : (szs a0.toNatClampNeg).toInt = v3.toInt := by rw [ev3]
    refine lv_bipush (v := (-4)) hx hb dX10_lay_18 (by decide) ?_
    refine lv_icmp_ne (tgt := 26) hx hb dX10_lay_20 (by decide) (fun c_4 => ?_) (fun c_4 => ?_)
    · skip
      have i_4 : ¬ (v3.toInt = (-4)) := fun h9 => c_4 ((ieq rfl (by decide)).mpr h9)
      have hM : M_x_lay a0 szs sc0 sc1 sc2 sc3 a1 sl a2 = (K_x_lay_4 a1 sc0 sc1 sc2 sc3 v3 sl a0 a2) := (show M_x_lay a0 szs sc0 sc1 sc2 sc3 a1 sl a2 = (if v3.toInt = (-4) then (K_x_lay_5 sc0 sc1 sc2 sc3) else (K_x_lay_4 a1 sc0 sc1 sc2 sc3 v3 sl a0 a2)) from (by rw [ev3]; exact hM)).trans (if_neg i_4)
      refine lv_iload_n hx hb dX10_lay_26 rfl (lv_at hl 2 rfl) ?_
      refine lv_if_lt (tgt := 43) hx hb dX10_lay_27 (by decide) (fun c_5 => ?_) (fun c_5 => ?_)
      · skip
        have i_5 : a1.toInt < 0 := (ilt rfl (by decide)).mp c_5
        have hM : M_x_lay a0 szs sc0 sc1 sc2 sc3 a1 sl a2 = (K_x_lay_6 sc0 sc1 sc2 sc3) := (show M_x_lay a0 szs sc0 sc1 sc2 sc3 a1 sl a2 = (if a1.toInt < 0 then (K_x_lay_6 sc0 sc1 sc2 sc3) else (K_x_lay_7 a1 v3 sl a0 sc0 a2 sc1 sc2 sc3)) from hM).trans (if_pos i_5)
        refine lv_bipush (v := (-12)) hx hb dX10_lay_43 (by decide) ?_
        refine W.widen (k := 0) (n := 0) (by decide) (by decide) ?_
        exact W.iret (v := (-12)) hx hb hr (fun t ht hW => ⟨⟨(-12), (-12), rfl, ⟨rfl, (by unfold sp_lay; repeat (first | rw [if_pos (by omega)] | rw [if_neg (by omega)]))⟩, ⟨sc0, sc1, sc2, sc3, hM, xB_of9 ht hW hP hK hD [0, 1, 2, 3, 4, 5, 6, 7, 8] (by decide +kernel) rfl⟩⟩, hS.F ht⟩) hS.2.2 dX10_lay_45
      · skip
        have i_5 : ¬ (a1.toInt < 0) := fun h9 => c_5 ((ilt rfl (by decide)).mpr h9)
        have hM : M_x_lay a0 szs sc0 sc1 sc2 sc3 a1 sl a2 = (K_x_lay_7 a1 v3 sl a0 sc0 a2 sc1 sc2 sc3) := (show M_x_lay a0 szs sc0 sc1 sc2 sc3 a1 sl a2 = (if a1.toInt < 0 then (K_x_lay_6 sc0 sc1 sc2 sc3) else (K_x_lay_7 a1 v3 sl a0 sc0 a2 sc1 sc2 sc3)) from hM).trans (if_neg i_5)
        refine lv_iload_n hx hb dX10_lay_30 rfl (lv_at hl 2 rfl) ?_
        refine lv_aload_n hx hb dX10_lay_31 rfl (lv_at hl 0 rfl) ?_
        refine va_get (D := D) (ci := 9) (v := .ref sh) (C := RX10) (T := TX10) (N := 10) hx hb hts (fun w h => tbC w (tbfX10 w h)) hown hK hP 0 rfl rfl 6 (by decide) (hts (.fieldLink RX10 49 "PowerRails" "sheets" "LPowerRails$Sheets;") (tbC _ wd253)) (fun _ h9 => h9) rfl dX10_lay_32 ?_
        refine va_get (D := D) (ci := 5) (v := .ref ssa) (C := RX6) (T := TX6) (N := 3) hx hb hts (fun w h => tbC w (tbfX6 w h)) hown hK hP 1 rfl rfl 2 (by decide) (hts (.fieldLink RX10 305 "PowerRails$Sheets" "sizes" "[I") (tbC _ wd196)) (fun _ h9 => h9) rfl dX10_lay_35 ?_
        refine lv_iload_n hx hb dX10_lay_38 rfl (lv_at hl 1 rfl) ?_
        refine va_iald hx hb hK hP 8 0 rfl rfl (vp_in_iff.mpr ⟨by omega, by omega⟩) dX10_lay_39 ?_
        refine lv_topi (fun v6 ev6 => ?_)
        have rv6 : (-4) ≤ v6.toInt ∧ v6.toInt ≤ 40 := xrd ev6 h_szs (xinK (vp_in_iff.mpr ⟨by omega, by omega⟩))
        have qv6 : v6.toInt = v3.toInt := by rw [ev6, ev3]
        have q2v6 : (szs a0.toNatClampNeg).toInt = v6.toInt := by rw [ev6]
        refine lv_icmp_lt (tgt := 46) hx hb dX10_lay_40 (by decide) (fun c_7 => ?_) (fun c_7 => ?_)
        · skip
          have i_7 : a1.toInt < v3.toInt := (ilt rfl qv6).mp c_7
          have hM : M_x_lay a0 szs sc0 sc1 sc2 sc3 a1 sl a2 = (K_x_lay_8 sl a0 sc0 a1 a2 sc1 sc2 sc3) := (show M_x_lay a0 szs sc0 sc1 sc2 sc3 a1 sl a2 = (if a1.toInt < v3.toInt then (K_x_lay_8 sl a0 sc0 a1 a2 sc1 sc2 sc3) else (K_x_lay_9 sc0 sc1 sc2 sc3)) from hM).trans (if_pos i_7)
          refine lv_aload_n hx hb dX10_lay_46 rfl (lv_at hl 0 rfl) ?_
          refine va_get (D := D) (ci := 9) (v := .ref sh) (C := RX10) (T := TX10) (N := 10) hx hb hts (fun w h => tbC w (tbfX10 w h)) hown hK hP 0 rfl rfl 6 (by decide) (hts (.fieldLink RX10 49 "PowerRails" "sheets" "LPowerRails$Sheets;") (tbC _ wd253)) (fun _ h9 => h9) rfl dX10_lay_47 ?_
          refine lv_iload_n hx hb dX10_lay_50 rfl (lv_at hl 1 rfl) ?_
          refine lv_iload_n hx hb dX10_lay_51 rfl (lv_at hl 2 rfl) ?_
          refine lv_iload_n hx hb dX10_lay_52 rfl (lv_at hl 3 rfl) ?_
          obtain ⟨hPc, hDc, hFc, hC9⟩ := xpk (wc := W_put cI cJ cZ cG cH sh a0 a1 a2 sca sla ssa rr sc0 sc1 sc2 sc3 sl) hP hD hS hA [1, 2, 3, 4, 5, 6, 7] (by decide +kernel) rfl
          refine va_callv (va_runV (As := [.int a0, .int a1, .int a2]) (rest := []) ⟨hx, hb, hml, hown, hts⟩ (c_put l D cI cJ cZ cG cH H.size sh a0 a1 a2 sca sla ssa rr sc0 sc1 sc2 sc3 sl (xrng rfl (by omega) (by omega)) (xrng rfl (by omega) (by omega))) (cwV 3 hts (xGV tbC wd657 wd658 wd659 wd57 wd1086) rfl rfl rfl (by decide +kernel) ⟨Nat.le_of_ble_eq_true rfl, Nat.le_of_ble_eq_true rfl⟩) ⟨xPc_blind, va_recv hK hPc (ci := 5) (q0 := 0) rfl rfl, xPc_pre hPc hK hDc⟩ rfl rfl hl.1 rfl (lv_room (Nat.le_of_ble_eq_true rfl)) dX10_lay_53 ⟨Nat.le_of_ble_eq_true rfl, Nat.le_of_ble_eq_true rfl⟩) hS (fun q _ h => hFc q h) hFc (fun u t H1 locs ht hvm hw8 hB hz1 hk1 hS => ?_)
          obtain ⟨sc_9, sc_10, sc_11, sc_12, hf12_0, hP1, hK1, hD1⟩ := hB
          rw [ht] at hP1
          obtain ⟨hP, hD⟩ : xPD D A [oX10 xo tp rd rn co wy sg sh pl sp lf, oAI ssa cI 4 szs, oX6 sh sca sla ssa, oAM sca cG 4 rr, oAI (rr 0) cI 40 sc_9, oAI (rr 1) cI 40 sc_10, oAI (rr 2) cI 40 sc_11, oAI (rr 3) cI 40 sc_12, oAI sla cI 4 sl] H1 := xjn 2 hP hD [1, 2, 3, 4, 5, 6, 7] [0, 8] hC9 rfl (by decide +kernel) (by decide +kernel) hk1 hFc hP1 hD1
          generalize H1 = H at hP hS ⊢
          have hf12_0 : M_put sl a0 sc0 a1 a2 sc1 sc2 sc3 = (sc_9, sc_10, sc_11, sc_12) := hf12_0
          have h9M := congrArg (fun t9 => (K_x_lay_10 t9.1 t9.2.1 t9.2.2.1 t9.2.2.2)) hf12_0
          have hM : M_x_lay a0 szs sc0 sc1 sc2 sc3 a1 sl a2 = (K_x_lay_10 sc_9 sc_10 sc_11 sc_12) := (show M_x_lay a0 szs sc0 sc1 sc2 sc3 a1 sl a2 = ((fun t9 => (K_x_lay_10 t9.1 t9.2.1 t9.2.2.1 t9.2.2.2)) (M_put sl a0 sc0 a1 a2 sc1 sc2 sc3)) from hM).trans h9M
          refine lv_iconst (v := 1) hx hb dX10_lay_56 (by decide) ?_
          refine W.widen (k := 0) (n := 0) (by decide) (by decide) ?_
          exact W.iret (v := 1) hx hb hr (fun t ht hW => ⟨⟨1, 1, rfl, ⟨rfl, (by unfold sp_lay; repeat (first | rw [if_pos (by omega)] | rw [if_neg (by omega)]))⟩, ⟨sc_9, sc_10, sc_11, sc_12, hM, xB_of9 ht hW hP hK hD [0, 2, 3, 4, 5, 6, 7, 8, 1] (by decide +kernel) rfl⟩⟩, hS.F ht⟩) hS.2.2 dX10_lay_57
        · skip
          have i_7 : ¬ (a1.toInt < v3.toInt) := fun h9 => c_7 ((ilt rfl qv6).mpr h9)
          have hM : M_x_lay a0 szs sc0 sc1 sc2 sc3 a1 sl a2 = (K_x_lay_9 sc0 sc1 sc2 sc3) := (show M_x_lay a0 szs sc0 sc1 sc2 sc3 a1 sl a2 = (if a1.toInt < v3.toInt then (K_x_lay_8 sl a0 sc0 a1 a2 sc1 sc2 sc3) else (K_x_lay_9 sc0 sc1 sc2 sc3)) from hM).trans (if_neg i_7)
          refine lv_bipush (v := (-12)) hx hb dX10_lay_43 (by decide) ?_
          refine W.widen (k := 0) (n := 0) (by decide) (by decide) ?_
          exact W.iret (v := (-12)) hx hb hr (fun t ht hW => ⟨⟨(-12), (-12), rfl, ⟨rfl, (by unfold sp_lay; repeat (first | rw [if_pos (by omega)] | rw [if_neg (by omega)]))⟩, ⟨sc0, sc1, sc2, sc3, hM, xB_of9 ht hW hP hK hD [0, 1, 2, 3, 4, 5, 6, 7, 8] (by decide +kernel) rfl⟩⟩, hS.F ht⟩) hS.2.2 dX10_lay_45
    · skip
      have i_4 : v3.toInt = (-4) := (ieq rfl (by decide)).mp c_4
      have hM : M_x_lay a0 szs sc0 sc1 sc2 sc3 a1 sl a2 = (K_x_lay_5 sc0 sc1 sc2 sc3) := (show M_x_lay a0 szs sc0 sc1 sc2 sc3 a1 sl a2 = (if v3.toInt = (-4) then (K_x_lay_5 sc0 sc1 sc2 sc3) else (K_x_lay_4 a1 sc0 sc1 sc2 sc3 v3 sl a0 a2)) from (by rw [ev3]; exact hM)).trans (if_pos i_4)
      refine lv_bipush (v := (-11)) hx hb dX10_lay_23 (by decide) ?_
      refine W.widen (k := 0) (n := 0) (by decide) (by decide) ?_
      exact W.iret (v := (-11)) hx hb hr (fun t ht hW => ⟨⟨(-11), (-11), rfl, ⟨rfl, (by unfold sp_lay; repeat (first | rw [if_pos (by omega)] | rw [if_neg (by omega)]))⟩, ⟨sc0, sc1, sc2, sc3, hM, xB_of9 ht hW hP hK hD [0, 1, 2, 3, 4, 5, 6, 7, 8] (by decide +kernel) rfl⟩⟩, hS.F ht⟩) hS.2.2 dX10_lay_25
  · skip
    have i_2 : ¬ (0 ≤ a0.toInt ∧ a0.toInt < 4) := (xbool hw1).1.mp c_2
    have hM : M_x_lay a0 szs sc0 sc1 sc2 sc3 a1 sl a2 = (K_x_lay_3 sc0 sc1 sc2 sc3) := (show M_x_lay a0 szs sc0 sc1 sc2 sc3 a1 sl a2 = (if 0 ≤ a0.toInt ∧ a0.toInt < 4 then (K_x_lay_2 szs a0 sc0 sc1 sc2 sc3 a1 sl a2) else (K_x_lay_3 sc0 sc1 sc2 sc3)) from hM).trans (if_neg i_2)
    refine lv_iconst (v := (-1)) hx hb dX10_lay_7 (by decide) ?_
    refine W.widen (k := 0) (n := 0) (by decide) (by decide) ?_
    exact W.iret (v := (-1)) hx hb hr (fun t ht hW => ⟨⟨(-1), (-1), rfl, ⟨rfl, (by unfold sp_lay; repeat (first | rw [if_pos (by omega)] | rw [if_neg (by omega)]))⟩, ⟨sc0, sc1, sc2, sc3, hM, xB_of9 ht hW hP hK hD [0, 1, 2, 3, 4, 5, 6, 7, 8] (by decide +kernel) rfl⟩⟩, hS.F ht⟩) hS.2.2 dX10_lay_8
def K_x_measured_6 (cup : Int32) (clast : Int32) (fw : Nat → Int32) (ft : Nat → Int32) (fr : Nat → Int32) (fg : Nat → Int32) : (Int32) × (Int32) × (Int32) × (Nat → Int32) × (Nat → Int32) × (Nat → Int32) × (Nat → Int32) := ((-1 : Int32), cup, clast, fw, ft, fr, fg)
def K_x_measured_8 (cup : Int32) (clast : Int32) (fw : Nat → Int32) (ft : Nat → Int32) (fr : Nat → Int32) (fg : Nat → Int32) : (Int32) × (Int32) × (Int32) × (Nat → Int32) × (Nat → Int32) × (Nat → Int32) × (Nat → Int32) := ((-1 : Int32), cup, clast, fw, ft, fr, fg)
def K_x_measured_10 (cup : Int32) (clast : Int32) (fw : Nat → Int32) (ft : Nat → Int32) (fr : Nat → Int32) (fg : Nat → Int32) : (Int32) × (Int32) × (Int32) × (Nat → Int32) × (Nat → Int32) × (Nat → Int32) × (Nat → Int32) := ((-1 : Int32), cup, clast, fw, ft, fr, fg)
def K_x_measured_15 (cup : Int32) (clast : Int32) (fw : Nat → Int32) (ft : Nat → Int32) (fr : Nat → Int32) (fg : Nat → Int32) : (Int32) × (Int32) × (Int32) × (Nat → Int32) × (Nat → Int32) × (Nat → Int32) × (Nat → Int32) := ((-11 : Int32), cup, clast, fw, ft, fr, fg)
def K_x_measured_19 (r20 : Int32) (cup_14 : Int32) (clast_15 : Int32) (fw_16 : Nat → Int32) (ft_17 : Nat → Int32) (fr_18 : Nat → Int32) (fg_19 : Nat → Int32) : (Int32) × (Int32) × (Int32) × (Nat → Int32) × (Nat → Int32) × (Nat → Int32) × (Nat → Int32) := (r20, cup_14, clast_15, fw_16, ft_17, fr_18, fg_19)
def K_x_measured_18 (cup_14 : Int32) (clast_15 : Int32) (fw_16 : Nat → Int32) (ft_17 : Nat → Int32) (fr_18 : Nat → Int32) (fg_19 : Nat → Int32) (a3 : Int32) (a4 : Int32) (a2 : Int32) (szs : Nat → Int32) (a0 : Int32) (sc0 : Nat → Int32) (rails : Int32) (pn : Nat → Int32) (sc1 : Nat → Int32) (sc2 : Nat → Int32) (sc3 : Nat → Int32) : (Int32) × (Int32) × (Int32) × (Nat → Int32) × (Nat → Int32) × (Nat → Int32) × (Nat → Int32) := ((fun t9 => (K_x_measured_19 t9 cup_14 clast_15 fw_16 ft_17 fr_18 fg_19)) (M_compareSheet a3 a4 a2 szs a0 sc0 rails fg_19 fr_18 pn cup_14 sc1 sc2 sc3))
def K_x_measured_16 (a3 : Int32) (a4 : Int32) (a2 : Int32) (szs : Nat → Int32) (a0 : Int32) (sc0 : Nat → Int32) (rails : Int32) (pn : Nat → Int32) (sc1 : Nat → Int32) (sc2 : Nat → Int32) (sc3 : Nat → Int32) (pt : Nat → Int64) (fr : Nat → Int32) (fg : Nat → Int32) (dead : Int32) (rt : Nat → Int32) (ft : Nat → Int32) (fw : Nat → Int32) : (Int32) × (Int32) × (Int32) × (Nat → Int32) × (Nat → Int32) × (Nat → Int32) × (Nat → Int32) := ((fun t9 => (K_x_measured_18 t9.1 t9.2.1 t9.2.2.1 t9.2.2.2.1 t9.2.2.2.2.1 t9.2.2.2.2.2 a3 a4 a2 szs a0 sc0 rails pn sc1 sc2 sc3)) (M_followTimes rails pt fr fg dead rt ft pn fw))
def K_x_measured_17 (cup : Int32) (clast : Int32) (fw : Nat → Int32) (ft : Nat → Int32) (fr : Nat → Int32) (fg : Nat → Int32) : (Int32) × (Int32) × (Int32) × (Nat → Int32) × (Nat → Int32) × (Nat → Int32) × (Nat → Int32) := ((-13 : Int32), cup, clast, fw, ft, fr, fg)
def K_x_measured_14 (sl : Nat → Int32) (a0 : Int32) (a1 : Int32) (a3 : Int32) (a4 : Int32) (a2 : Int32) (szs : Nat → Int32) (sc0 : Nat → Int32) (rails : Int32) (pn : Nat → Int32) (sc1 : Nat → Int32) (sc2 : Nat → Int32) (sc3 : Nat → Int32) (pt : Nat → Int64) (fr : Nat → Int32) (fg : Nat → Int32) (dead : Int32) (rt : Nat → Int32) (ft : Nat → Int32) (fw : Nat → Int32) (cup : Int32) (clast : Int32) : (Int32) × (Int32) × (Int32) × (Nat → Int32) × (Nat → Int32) × (Nat → Int32) × (Nat → Int32) := (if (sl a0.toNatClampNeg).toInt = a1.toInt then (K_x_measured_16 a3 a4 a2 szs a0 sc0 rails pn sc1 sc2 sc3 pt fr fg dead rt ft fw) else (K_x_measured_17 cup clast fw ft fr fg))
def K_x_measured_12 (szs : Nat → Int32) (a0 : Int32) (cup : Int32) (clast : Int32) (fw : Nat → Int32) (ft : Nat → Int32) (fr : Nat → Int32) (fg : Nat → Int32) (sl : Nat → Int32) (a1 : Int32) (a3 : Int32) (a4 : Int32) (a2 : Int32) (sc0 : Nat → Int32) (rails : Int32) (pn : Nat → Int32) (sc1 : Nat → Int32) (sc2 : Nat → Int32) (sc3 : Nat → Int32) (pt : Nat → Int64) (dead : Int32) (rt : Nat → Int32) : (Int32) × (Int32) × (Int32) × (Nat → Int32) × (Nat → Int32) × (Nat → Int32) × (Nat → Int32) := (if (szs a0.toNatClampNeg).toInt = (-4) then (K_x_measured_15 cup clast fw ft fr fg) else (K_x_measured_14 sl a0 a1 a3 a4 a2 szs sc0 rails pn sc1 sc2 sc3 pt fr fg dead rt ft fw cup clast))
def K_x_measured_13 (cup : Int32) (clast : Int32) (fw : Nat → Int32) (ft : Nat → Int32) (fr : Nat → Int32) (fg : Nat → Int32) : (Int32) × (Int32) × (Int32) × (Nat → Int32) × (Nat → Int32) × (Nat → Int32) × (Nat → Int32) := ((-1 : Int32), cup, clast, fw, ft, fr, fg)
def K_x_measured_11 (a4 : Int32) (szs : Nat → Int32) (a0 : Int32) (cup : Int32) (clast : Int32) (fw : Nat → Int32) (ft : Nat → Int32) (fr : Nat → Int32) (fg : Nat → Int32) (sl : Nat → Int32) (a1 : Int32) (a3 : Int32) (a2 : Int32) (sc0 : Nat → Int32) (rails : Int32) (pn : Nat → Int32) (sc1 : Nat → Int32) (sc2 : Nat → Int32) (sc3 : Nat → Int32) (pt : Nat → Int64) (dead : Int32) (rt : Nat → Int32) : (Int32) × (Int32) × (Int32) × (Nat → Int32) × (Nat → Int32) × (Nat → Int32) × (Nat → Int32) := (if a4.toInt ≤ 2 then (K_x_measured_12 szs a0 cup clast fw ft fr fg sl a1 a3 a4 a2 sc0 rails pn sc1 sc2 sc3 pt dead rt) else (K_x_measured_13 cup clast fw ft fr fg))
def K_x_measured_9 (a4 : Int32) (cup : Int32) (clast : Int32) (fw : Nat → Int32) (ft : Nat → Int32) (fr : Nat → Int32) (fg : Nat → Int32) (szs : Nat → Int32) (a0 : Int32) (sl : Nat → Int32) (a1 : Int32) (a3 : Int32) (a2 : Int32) (sc0 : Nat → Int32) (rails : Int32) (pn : Nat → Int32) (sc1 : Nat → Int32) (sc2 : Nat → Int32) (sc3 : Nat → Int32) (pt : Nat → Int64) (dead : Int32) (rt : Nat → Int32) : (Int32) × (Int32) × (Int32) × (Nat → Int32) × (Nat → Int32) × (Nat → Int32) × (Nat → Int32) := (if a4.toInt < 0 then (K_x_measured_10 cup clast fw ft fr fg) else (K_x_measured_11 a4 szs a0 cup clast fw ft fr fg sl a1 a3 a2 sc0 rails pn sc1 sc2 sc3 pt dead rt))
def K_x_measured_7 (a3 : Int32) (cup : Int32) (clast : Int32) (fw : Nat → Int32) (ft : Nat → Int32) (fr : Nat → Int32) (fg : Nat → Int32) (a4 : Int32) (szs : Nat → Int32) (a0 : Int32) (sl : Nat → Int32) (a1 : Int32) (a2 : Int32) (sc0 : Nat → Int32) (rails : Int32) (pn : Nat → Int32) (sc1 : Nat → Int32) (sc2 : Nat → Int32) (sc3 : Nat → Int32) (pt : Nat → Int64) (dead : Int32) (rt : Nat → Int32) : (Int32) × (Int32) × (Int32) × (Nat → Int32) × (Nat → Int32) × (Nat → Int32) × (Nat → Int32) := (if 40 < a3.toInt then (K_x_measured_8 cup clast fw ft fr fg) else (K_x_measured_9 a4 cup clast fw ft fr fg szs a0 sl a1 a3 a2 sc0 rails pn sc1 sc2 sc3 pt dead rt))
def K_x_measured_4 (a3 : Int32) (cup : Int32) (clast : Int32) (fw : Nat → Int32) (ft : Nat → Int32) (fr : Nat → Int32) (fg : Nat → Int32) (a4 : Int32) (szs : Nat → Int32) (a0 : Int32) (sl : Nat → Int32) (a1 : Int32) (a2 : Int32) (sc0 : Nat → Int32) (rails : Int32) (pn : Nat → Int32) (sc1 : Nat → Int32) (sc2 : Nat → Int32) (sc3 : Nat → Int32) (pt : Nat → Int64) (dead : Int32) (rt : Nat → Int32) : (Int32) × (Int32) × (Int32) × (Nat → Int32) × (Nat → Int32) × (Nat → Int32) × (Nat → Int32) := (if a3.toInt < 0 then (K_x_measured_6 cup clast fw ft fr fg) else (K_x_measured_7 a3 cup clast fw ft fr fg a4 szs a0 sl a1 a2 sc0 rails pn sc1 sc2 sc3 pt dead rt))
def K_x_measured_5 (cup : Int32) (clast : Int32) (fw : Nat → Int32) (ft : Nat → Int32) (fr : Nat → Int32) (fg : Nat → Int32) : (Int32) × (Int32) × (Int32) × (Nat → Int32) × (Nat → Int32) × (Nat → Int32) × (Nat → Int32) := ((-1 : Int32), cup, clast, fw, ft, fr, fg)
def K_x_measured_3 (a1 : Int32) (a3 : Int32) (cup : Int32) (clast : Int32) (fw : Nat → Int32) (ft : Nat → Int32) (fr : Nat → Int32) (fg : Nat → Int32) (a4 : Int32) (szs : Nat → Int32) (a0 : Int32) (sl : Nat → Int32) (a2 : Int32) (sc0 : Nat → Int32) (rails : Int32) (pn : Nat → Int32) (sc1 : Nat → Int32) (sc2 : Nat → Int32) (sc3 : Nat → Int32) (pt : Nat → Int64) (dead : Int32) (rt : Nat → Int32) : (Int32) × (Int32) × (Int32) × (Nat → Int32) × (Nat → Int32) × (Nat → Int32) × (Nat → Int32) := (if 0 ≤ a1.toInt ∧ a1.toInt ≤ 2 then (K_x_measured_4 a3 cup clast fw ft fr fg a4 szs a0 sl a1 a2 sc0 rails pn sc1 sc2 sc3 pt dead rt) else (K_x_measured_5 cup clast fw ft fr fg))
def K_x_measured_2 (cup : Int32) (clast : Int32) (fw : Nat → Int32) (ft : Nat → Int32) (fr : Nat → Int32) (fg : Nat → Int32) : (Int32) × (Int32) × (Int32) × (Nat → Int32) × (Nat → Int32) × (Nat → Int32) × (Nat → Int32) := ((-1 : Int32), cup, clast, fw, ft, fr, fg)
def K_x_measured_1 (a0 : Int32) (a1 : Int32) (a3 : Int32) (cup : Int32) (clast : Int32) (fw : Nat → Int32) (ft : Nat → Int32) (fr : Nat → Int32) (fg : Nat → Int32) (a4 : Int32) (szs : Nat → Int32) (sl : Nat → Int32) (a2 : Int32) (sc0 : Nat → Int32) (rails : Int32) (pn : Nat → Int32) (sc1 : Nat → Int32) (sc2 : Nat → Int32) (sc3 : Nat → Int32) (pt : Nat → Int64) (dead : Int32) (rt : Nat → Int32) : (Int32) × (Int32) × (Int32) × (Nat → Int32) × (Nat → Int32) × (Nat → Int32) × (Nat → Int32) := (if 0 ≤ a0.toInt ∧ a0.toInt < 4 then (K_x_measured_3 a1 a3 cup clast fw ft fr fg a4 szs a0 sl a2 sc0 rails pn sc1 sc2 sc3 pt dead rt) else (K_x_measured_2 cup clast fw ft fr fg))
def M_x_measured (a0 : Int32) (a1 : Int32) (a3 : Int32) (cup : Int32) (clast : Int32) (fw : Nat → Int32) (ft : Nat → Int32) (fr : Nat → Int32) (fg : Nat → Int32) (a4 : Int32) (szs : Nat → Int32) (sl : Nat → Int32) (a2 : Int32) (sc0 : Nat → Int32) (rails : Int32) (pn : Nat → Int32) (sc1 : Nat → Int32) (sc2 : Nat → Int32) (sc3 : Nat → Int32) (pt : Nat → Int64) (dead : Int32) (rt : Nat → Int32) : (Int32) × (Int32) × (Int32) × (Nat → Int32) × (Nat → Int32) × (Nat → Int32) × (Nat → Int32) := (K_x_measured_1 a0 a1 a3 cup clast fw ft fr fg a4 szs sl a2 sc0 rails pn sc1 sc2 sc3 pt dead rt)
abbrev W_x_measured (cI cJ cZ cG cH : ClassId) (xo : Nat) (a0 : Int32) (a1 : Int32) (a2 : Int32) (a3 : Int32) (a4 : Int32) (tp : Nat) (rd : Nat) (rn : Nat) (co : Nat) (wy : Nat) (sg : Nat) (sh : Nat) (pl : Nat) (sp : Nat) (lf : Int32) (sca : Nat) (sla : Nat) (ssa : Nat) (rr : Nat → Nat) (sc0 : Nat → Int32) (sc1 : Nat → Int32) (sc2 : Nat → Int32) (sc3 : Nat → Int32) (sl : Nat → Int32) (szs : Nat → Int32) (fwa : Nat) (fta : Nat) (fra : Nat) (fga : Nat) (cxa : Nat) (cup : Int32) (clast : Int32) (cpeak : Int32) (cptick : Int32) (fw : Nat → Int32) (ft : Nat → Int32) (fr : Nat → Int32) (fg : Nat → Int32) (pna : Nat) (pta : Nat) (rails : Int32) (limit : Int32) (retry : Int32) (behind : Int32) (pn : Nat → Int32) (pt : Nat → Int64) (hy : Nat) (rsa : Nat) (ria : Nat) (raa : Nat) (rta : Nat) (rga : Nat) (dead : Int32) (key : Int32) (tick : Int32) (held : Int32) (tries : Int32) (trips : Int32) (ldraw : Int32) (gdraw : Int32) (rt : Nat → Int32) : va_W := [oX10 xo tp rd rn co wy sg sh pl sp lf, oX6 sh sca sla ssa, oAM sca cG 4 rr, oAI (rr 0) cI 40 sc0, oAI (rr 1) cI 40 sc1, oAI (rr 2) cI 40 sc2, oAI (rr 3) cI 40 sc3, oAI sla cI 4 sl, oAI ssa cI 4 szs, oX0 co fwa fta fra fga cxa cup clast cpeak cptick, oAI fwa cI 8 fw, oAI fta cI 8 ft, oAI fra cI 8 fr, oAI fga cI 8 fg, oX3 pl pna pta rails limit retry behind, oAI pna cI 64 pn, oAJ pta cJ 64 pt, oX5 rn hy rsa ria raa rta rga dead key tick held tries trips ldraw gdraw, oAI rta cI 8 rt]
abbrev Q_x_measured (D : va_G) (cI cJ cZ cG cH : ClassId) (xo : Nat) (a0 : Int32) (a1 : Int32) (a2 : Int32) (a3 : Int32) (a4 : Int32) (tp : Nat) (rd : Nat) (rn : Nat) (co : Nat) (wy : Nat) (sg : Nat) (sh : Nat) (pl : Nat) (sp : Nat) (lf : Int32) (sca : Nat) (sla : Nat) (ssa : Nat) (rr : Nat → Nat) (sc0 : Nat → Int32) (sc1 : Nat → Int32) (sc2 : Nat → Int32) (sc3 : Nat → Int32) (sl : Nat → Int32) (szs : Nat → Int32) (fwa : Nat) (fta : Nat) (fra : Nat) (fga : Nat) (cxa : Nat) (cup : Int32) (clast : Int32) (cpeak : Int32) (cptick : Int32) (fw : Nat → Int32) (ft : Nat → Int32) (fr : Nat → Int32) (fg : Nat → Int32) (pna : Nat) (pta : Nat) (rails : Int32) (limit : Int32) (retry : Int32) (behind : Int32) (pn : Nat → Int32) (pt : Nat → Int64) (hy : Nat) (rsa : Nat) (ria : Nat) (raa : Nat) (rta : Nat) (rga : Nat) (dead : Int32) (key : Int32) (tick : Int32) (held : Int32) (tries : Int32) (trips : Int32) (ldraw : Int32) (gdraw : Int32) (rt : Nat → Int32) (A : Nat → Prop) : Array Value → State → Outcome → State → Prop := va_Qi (fun (r : Int32) (u9 : Int32) => r = u9 ∧ (True)) (fun u9 t => ∃ (cup9 : Int32) (clast9 : Int32) (fw9 : Nat → Int32) (ft9 : Nat → Int32) (fr9 : Nat → Int32) (fg9 : Nat → Int32), (0 ≤ clast9.toInt ∧ clast9.toInt ≤ 144) ∧ (∀ j, j < 8 → 0 ≤ (fw9 j).toInt ∧ (fw9 j).toInt ≤ 511) ∧ (∀ j, j < 8 → 0 ≤ (ft9 j).toInt ∧ (ft9 j).toInt ≤ 511) ∧ (∀ j, j < 8 → 0 ≤ (fr9 j).toInt ∧ (fr9 j).toInt ≤ 655) ∧ (∀ j, j < 8 → 0 ≤ (fg9 j).toInt ∧ (fg9 j).toInt ≤ 1166) ∧ (M_x_measured a0 a1 a3 cup clast fw ft fr fg a4 szs sl a2 sc0 rails pn sc1 sc2 sc3 pt dead rt = (u9, cup9, clast9, fw9, ft9, fr9, fg9)) ∧ (∀ j, j < 8 → (fr9 j).toInt ≤ (fg9 j).toInt) ∧ xB D (tyL cI cJ cZ cG cH) [oX10 xo tp rd rn co wy sg sh pl sp lf, oX6 sh sca sla ssa, oAM sca cG 4 rr, oAI (rr 0) cI 40 sc0, oAI (rr 1) cI 40 sc1, oAI (rr 2) cI 40 sc2, oAI (rr 3) cI 40 sc3, oAI sla cI 4 sl, oAI ssa cI 4 szs, oX0 co fwa fta fra fga cxa cup9 clast9 cpeak cptick, oAI fwa cI 8 fw9, oAI fta cI 8 ft9, oAI fra cI 8 fr9, oAI fga cI 8 fg9, oX3 pl pna pta rails limit retry behind, oAI pna cI 64 pn, oAJ pta cJ 64 pt, oX5 rn hy rsa ria raa rta rga dead key tick held tries trips ldraw gdraw, oAI rta cI 8 rt] A t) A
abbrev rm_x_measured : Room := { frames := 4, cells := 0, slots := 0, locals := 92 }
set_option maxRecDepth 100000 in
set_option maxHeartbeats 40000000 in
theorem c_x_measured (l : Launch) (D : va_G) (cI cJ cZ cG cH : ClassId) (sz : Nat) (xo : Nat) (a0 : Int32) (a1 : Int32) (a2 : Int32) (a3 : Int32) (a4 : Int32) (tp : Nat) (rd : Nat) (rn : Nat) (co : Nat) (wy : Nat) (sg : Nat) (sh : Nat) (pl : Nat) (sp : Nat) (lf : Int32) (sca : Nat) (sla : Nat) (ssa : Nat) (rr : Nat → Nat) (sc0 : Nat → Int32) (sc1 : Nat → Int32) (sc2 : Nat → Int32) (sc3 : Nat → Int32) (sl : Nat → Int32) (szs : Nat → Int32) (fwa : Nat) (fta : Nat) (fra : Nat) (fga : Nat) (cxa : Nat) (cup : Int32) (clast : Int32) (cpeak : Int32) (cptick : Int32) (fw : Nat → Int32) (ft : Nat → Int32) (fr : Nat → Int32) (fg : Nat → Int32) (pna : Nat) (pta : Nat) (rails : Int32) (limit : Int32) (retry : Int32) (behind : Int32) (pn : Nat → Int32) (pt : Nat → Int64) (hy : Nat) (rsa : Nat) (ria : Nat) (raa : Nat) (rta : Nat) (rga : Nat) (dead : Int32) (key : Int32) (tick : Int32) (held : Int32) (tries : Int32) (trips : Int32) (ldraw : Int32) (gdraw : Int32) (rt : Nat → Int32) (h_szs : ∀ j, j < 4 → (-4) ≤ (szs j).toInt ∧ (szs j).toInt ≤ 40) (h_clast : 0 ≤ clast.toInt ∧ clast.toInt ≤ 144) (h_fw : ∀ j, j < 8 → 0 ≤ (fw j).toInt ∧ (fw j).toInt ≤ 511) (h_ft : ∀ j, j < 8 → 0 ≤ (ft j).toInt ∧ (ft j).toInt ≤ 511) (h_fr : ∀ j, j < 8 → 0 ≤ (fr j).toInt ∧ (fr j).toInt ≤ 655) (h_fg : ∀ j, j < 8 → 0 ≤ (fg j).toInt ∧ (fg j).toInt ≤ 1166) (h_rails : 0 ≤ rails.toInt ∧ rails.toInt ≤ 8) (h_pn : ∀ j, j < 64 → 0 ≤ (pn j).toInt ∧ (pn j).toInt ≤ 511) (h_key : 0 ≤ key.toInt ∧ key.toInt ≤ 1) (h_rt : ∀ j, j < 8 → 0 ≤ (rt j).toInt ∧ (rt j).toInt ≤ 511) (h_le : ∀ j, j < 8 → (fr j).toInt ≤ (fg j).toInt) : Met l yX10_measured (wt yX10_measured cX10_measured 6 (some .int)) rm_x_measured (xPc [.ref xo, .int a0, .int a1, .int a2, .int a3, .int a4] D (tyL cI cJ cZ cG cH) (W_x_measured cI cJ cZ cG cH xo a0 a1 a2 a3 a4 tp rd rn co wy sg sh pl sp lf sca sla ssa rr sc0 sc1 sc2 sc3 sl szs fwa fta fra fga cxa cup clast cpeak cptick fw ft fr fg pna pta rails limit retry behind pn pt hy rsa ria raa rta rga dead key tick held tries trips ldraw gdraw rt) sz) (Q_x_measured D cI cJ cZ cG cH xo a0 a1 a2 a3 a4 tp rd rn co wy sg sh pl sp lf sca sla ssa rr sc0 sc1 sc2 sc3 sl szs fwa fta fra fga cxa cup clast cpeak cptick fw ft fr fg pna pta rails limit retry behind pn pt hy rsa ria raa rta rga dead key tick held tries trips ldraw gdraw rt (va_A (W_x_measured cI cJ cZ cG cH xo a0 a1 a2 a3 a4 tp rd rn co wy sg sh pl sp lf sca sla ssa rr sc0 sc1 sc2 sc3 sl szs fwa fta fra fga cxa cup clast cpeak cptick fw ft fr fg pna pta rails limit retry behind pn pt hy rsa ria raa rta rga dead key tick held tries trips ldraw gdraw rt) sz)) 0 0 (va_A (W_x_measured cI cJ cZ cG cH xo a0 a1 a2 a3 a4 tp rd rn co wy sg sh pl sp lf sca sla ssa rr sc0 sc1 sc2 sc3 sl szs fwa fta fra fga cxa cup clast cpeak cptick fw ft fr fg pna pta rails limit retry behind pn pt hy rsa ria raa rta rga dead key tick held tries trips ldraw gdraw rt) sz) := by
  refine xMet (cc := cX10_measured) (maxL := 6) (ret := (some .int)) (Qf := Q_x_measured D cI cJ cZ cG cH xo a0 a1 a2 a3 a4 tp rd rn co wy sg sh pl sp lf sca sla ssa rr sc0 sc1 sc2 sc3 sl szs fwa fta fra fga cxa cup clast cpeak cptick fw ft fr fg pna pta rails limit retry behind pn pt hy rsa ria raa rta rga dead key tick held tries trips ldraw gdraw rt) (by decide) rfl (Nat.le_of_ble_eq_true rfl) ?_
  intro p e s m below meth c ls A hx hb hr hml hts hown hlocks hnm hsz hP hK hD hA hS hl
  have hown : s.vm.findClass RX10 = some m.cls := hown
  have hP : va_P D vwCl [oX10 xo tp rd rn co wy sg sh pl sp lf, oX6 sh sca sla ssa, oAM sca cG 4 rr, oAI (rr 0) cI 40 sc0, oAI (rr 1) cI 40 sc1, oAI (rr 2) cI 40 sc2, oAI (rr 3) cI 40 sc3, oAI sla cI 4 sl, oAI ssa cI 4 szs, oX0 co fwa fta fra fga cxa cup clast cpeak cptick, oAI fwa cI 8 fw, oAI fta cI 8 ft, oAI fra cI 8 fr, oAI fga cI 8 fg, oX3 pl pna pta rails limit retry behind, oAI pna cI 64 pn, oAJ pta cJ 64 pt, oX5 rn hy rsa ria raa rta rga dead key tick held tries trips ldraw gdraw, oAI rta cI 8 rt] s.heap := hP
  have hD : va_D A [oX10 xo tp rd rn co wy sg sh pl sp lf, oX6 sh sca sla ssa, oAM sca cG 4 rr, oAI (rr 0) cI 40 sc0, oAI (rr 1) cI 40 sc1, oAI (rr 2) cI 40 sc2, oAI (rr 3) cI 40 sc3, oAI sla cI 4 sl, oAI ssa cI 4 szs, oX0 co fwa fta fra fga cxa cup clast cpeak cptick, oAI fwa cI 8 fw, oAI fta cI 8 ft, oAI fra cI 8 fr, oAI fga cI 8 fg, oX3 pl pna pta rails limit retry behind, oAI pna cI 64 pn, oAJ pta cJ 64 pt, oX5 rn hy rsa ria raa rta rga dead key tick held tries trips ldraw gdraw, oAI rta cI 8 rt] := hD
  have hl : lv_has ls 6 [(0, .ref xo), (1, .int a0), (2, .int a1), (3, .int a2), (4, .int a3), (5, .int a4)] := hl
  have hM : M_x_measured a0 a1 a3 cup clast fw ft fr fg a4 szs sl a2 sc0 rails pn sc1 sc2 sc3 pt dead rt = (K_x_measured_1 a0 a1 a3 cup clast fw ft fr fg a4 szs sl a2 sc0 rails pn sc1 sc2 sc3 pt dead rt) := rfl
  refine lv_iload_n hx hb dX10_measured_0 rfl (lv_at hl 1 rfl) ?_
  obtain ⟨hPc, hDc, hFc, hC9⟩ := xpk (wc := W_hasPlace cI cJ cZ cG cH a0) hP hD hS hA [] (by decide +kernel) rfl
  refine va_calli (va_runS (As := [.int a0]) (rest := []) ⟨hx, hb, hml, hown, hts⟩ (c_hasPlace l D cI cJ cZ cG cH s.heap.size a0) (va_cwS 1 hts (xGS tbC wd647 wd648 wd57 wd1082) rfl rfl rfl (by decide +kernel) ⟨Nat.le_of_ble_eq_true rfl, Nat.le_of_ble_eq_true rfl⟩) ⟨xPc_blind, xPc_pre hPc hK hDc⟩ rfl rfl hl.1 rfl (lv_room (Nat.le_of_ble_eq_true rfl)) dX10_measured_1 ⟨Nat.le_of_ble_eq_true rfl, Nat.le_of_ble_eq_true rfl⟩) hS (fun q _ h => hFc q h) hFc (fun r1 u t H1 locs ht hvm hw1 hB hz1 hk1 hS => ?_)
  obtain ⟨hP1, hK1, hD1⟩ := hB
  rw [ht] at hP1
  obtain ⟨hP, hD⟩ : xPD D A [oX10 xo tp rd rn co wy sg sh pl sp lf, oX6 sh sca sla ssa, oAM sca cG 4 rr, oAI (rr 0) cI 40 sc0, oAI (rr 1) cI 40 sc1, oAI (rr 2) cI 40 sc2, oAI (rr 3) cI 40 sc3, oAI sla cI 4 sl, oAI ssa cI 4 szs, oX0 co fwa fta fra fga cxa cup clast cpeak cptick, oAI fwa cI 8 fw, oAI fta cI 8 ft, oAI fra cI 8 fr, oAI fga cI 8 fg, oX3 pl pna pta rails limit retry behind, oAI pna cI 64 pn, oAJ pta cJ 64 pt, oX5 rn hy rsa ria raa rta rga dead key tick held tries trips ldraw gdraw, oAI rta cI 8 rt] H1 := xjn 19 hP hD [] [0, 1, 2, 3, 4, 5, 6, 7, 8, 9, 10, 11, 12, 13, 14, 15, 16, 17, 18] hC9 rfl (by decide +kernel) (by decide +kernel) hk1 hFc hP1 hD1
  generalize H1 = H at hP hS ⊢
  have hw1 : r1 = if 0 ≤ a0.toInt ∧ a0.toInt < 4 then 1 else 0 := hw1
  refine lv_if_eq (tgt := 14) hx hb dX10_measured_4 (by decide) (fun c_2 => ?_) (fun c_2 => ?_)
  · skip
    have i_2 : ¬ (0 ≤ a0.toInt ∧ a0.toInt < 4) := (xbool hw1).1.mp c_2
    have hM : M_x_measured a0 a1 a3 cup clast fw ft fr fg a4 szs sl a2 sc0 rails pn sc1 sc2 sc3 pt dead rt = (K_x_measured_2 cup clast fw ft fr fg) := (show M_x_measured a0 a1 a3 cup clast fw ft fr fg a4 szs sl a2 sc0 rails pn sc1 sc2 sc3 pt dead rt = (if 0 ≤ a0.toInt ∧ a0.toInt < 4 then (K_x_measured_3 a1 a3 cup clast fw ft fr fg a4 szs a0 sl a2 sc0 rails pn sc1 sc2 sc3 pt dead rt) else (K_x_measured_2 cup clast fw ft fr fg)) from hM).trans (if_neg i_2)
    refine lv_iconst (v := (-1)) hx hb dX10_measured_14 (by decide) ?_
    refine W.widen (k := 0) (n := 0) (by decide) (by decide) ?_
    exact W.iret (v := (-1)) hx hb hr (fun t ht hW => ⟨⟨(-1), (-1), rfl, ⟨rfl, trivial⟩, ⟨cup, clast, fw, ft, fr, fg, (xrng rfl (by omega) (by omega)), (xwk_rng h_fw (by decide) (by decide)), (xwk_rng h_ft (by decide) (by decide)), (xwk_rng h_fr (by decide) (by decide)), (xwk_rng h_fg (by decide) (by decide)), hM, h_le, xB_of9 ht hW hP hK hD [0, 1, 2, 3, 4, 5, 6, 7, 8, 9, 10, 11, 12, 13, 14, 15, 16, 17, 18] (by decide +kernel) rfl⟩⟩, hS.F ht⟩) hS.2.2 dX10_measured_15
  · skip
    have i_2 : 0 ≤ a0.toInt ∧ a0.toInt < 4 := (xbool hw1).2.mp c_2
    have hM : M_x_measured a0 a1 a3 cup clast fw ft fr fg a4 szs sl a2 sc0 rails pn sc1 sc2 sc3 pt dead rt = (K_x_measured_3 a1 a3 cup clast fw ft fr fg a4 szs a0 sl a2 sc0 rails pn sc1 sc2 sc3 pt dead rt) := (show M_x_measured a0 a1 a3 cup clast fw ft fr fg a4 szs sl a2 sc0 rails pn sc1 sc2 sc3 pt dead rt = (if 0 ≤ a0.toInt ∧ a0.toInt < 4 then (K_x_measured_3 a1 a3 cup clast fw ft fr fg a4 szs a0 sl a2 sc0 rails pn sc1 sc2 sc3 pt dead rt) else (K_x_measured_2 cup clast fw ft fr fg)) from hM).trans (if_pos i_2)
    refine lv_iload_n hx hb dX10_measured_7 rfl (lv_at hl 2 rfl) ?_
    obtain ⟨hPc, hDc, hFc, hC9⟩ := xpk (wc := W_isLane cI cJ cZ cG cH a1) hP hD hS hA [] (by decide +kernel) rfl
    refine va_calli (va_runS (As := [.int a1]) (rest := []) ⟨hx, hb, hml, hown, hts⟩ (c_isLane l D cI cJ cZ cG cH H.size a1) (va_cwS 1 hts (xGS tbC wd649 wd650 wd57 wd1083) rfl rfl rfl (by decide +kernel) ⟨Nat.le_of_ble_eq_true rfl, Nat.le_of_ble_eq_true rfl⟩) ⟨xPc_blind, xPc_pre hPc hK hDc⟩ rfl rfl hl.1 rfl (lv_room (Nat.le_of_ble_eq_true rfl)) dX10_measured_8 ⟨Nat.le_of_ble_eq_true rfl, Nat.le_of_ble_eq_true rfl⟩) hS (fun q _ h => hFc q h) hFc (fun r3 u t H1 locs ht hvm hw3 hB hz1 hk1 hS => ?_)
    obtain ⟨hP1, hK1, hD1⟩ := hB
    rw [ht] at hP1
    obtain ⟨hP, hD⟩ : xPD D A [oX10 xo tp rd rn co wy sg sh pl sp lf, oX6 sh sca sla ssa, oAM sca cG 4 rr, oAI (rr 0) cI 40 sc0, oAI (rr 1) cI 40 sc1, oAI (rr 2) cI 40 sc2, oAI (rr 3) cI 40 sc3, oAI sla cI 4 sl, oAI ssa cI 4 szs, oX0 co fwa fta fra fga cxa cup clast cpeak cptick, oAI fwa cI 8 fw, oAI fta cI 8 ft, oAI fra cI 8 fr, oAI fga cI 8 fg, oX3 pl pna pta rails limit retry behind, oAI pna cI 64 pn, oAJ pta cJ 64 pt, oX5 rn hy rsa ria raa rta rga dead key tick held tries trips ldraw gdraw, oAI rta cI 8 rt] H1 := xjn 19 hP hD [] [0, 1, 2, 3, 4, 5, 6, 7, 8, 9, 10, 11, 12, 13, 14, 15, 16, 17, 18] hC9 rfl (by decide +kernel) (by decide +kernel) hk1 hFc hP1 hD1
    generalize H1 = H at hP hS ⊢
    have hw3 : r3 = if 0 ≤ a1.toInt ∧ a1.toInt ≤ 2 then 1 else 0 := hw3
    refine lv_if_ne (tgt := 16) hx hb dX10_measured_11 (by decide) (fun c_4 => ?_) (fun c_4 => ?_)
    · skip
      have i_4 : 0 ≤ a1.toInt ∧ a1.toInt ≤ 2 := (xbool hw3).2.mp c_4
      have hM : M_x_measured a0 a1 a3 cup clast fw ft fr fg a4 szs sl a2 sc0 rails pn sc1 sc2 sc3 pt dead rt = (K_x_measured_4 a3 cup clast fw ft fr fg a4 szs a0 sl a1 a2 sc0 rails pn sc1 sc2 sc3 pt dead rt) := (show M_x_measured a0 a1 a3 cup clast fw ft fr fg a4 szs sl a2 sc0 rails pn sc1 sc2 sc3 pt dead rt = (if 0 ≤ a1.toInt ∧ a1.toInt ≤ 2 then (K_x_measured_4 a3 cup clast fw ft fr fg a4 szs a0 sl a1 a2 sc0 rails pn sc1 sc2 sc3 pt dead rt) else (K_x_measured_5 cup clast fw ft fr fg)) from hM).trans (if_pos i_4)
      refine lv_iload hx hb dX10_measured_16 (lv_at hl 4 rfl) ?_
      refine lv_if_lt (tgt := 39) hx hb dX10_measured_18 (by decide) (fun c_5 => ?_) (fun c_5 => ?_)
      · skip
        have i_5 : a3.toInt < 0 := (ilt rfl (by decide)).mp c_5
        have hM : M_x_measured a0 a1 a3 cup clast fw ft fr fg a4 szs sl a2 sc0 rails pn sc1 sc2 sc3 pt dead rt = (K_x_measured_6 cup clast fw ft fr fg) := (show M_x_measured a0 a1 a3 cup clast fw ft fr fg a4 szs sl a2 sc0 rails pn sc1 sc2 sc3 pt dead rt = (if a3.toInt < 0 then (K_x_measured_6 cup clast fw ft fr fg) else (K_x_measured_7 a3 cup clast fw ft fr fg a4 szs a0 sl a1 a2 sc0 rails pn sc1 sc2 sc3 pt dead rt)) from hM).trans (if_pos i_5)
        refine lv_iconst (v := (-1)) hx hb dX10_measured_39 (by decide) ?_
        refine W.widen (k := 0) (n := 0) (by decide) (by decide) ?_
        exact W.iret (v := (-1)) hx hb hr (fun t ht hW => ⟨⟨(-1), (-1), rfl, ⟨rfl, trivial⟩, ⟨cup, clast, fw, ft, fr, fg, (xrng rfl (by omega) (by omega)), (xwk_rng h_fw (by decide) (by decide)), (xwk_rng h_ft (by decide) (by decide)), (xwk_rng h_fr (by decide) (by decide)), (xwk_rng h_fg (by decide) (by decide)), hM, h_le, xB_of9 ht hW hP hK hD [0, 1, 2, 3, 4, 5, 6, 7, 8, 9, 10, 11, 12, 13, 14, 15, 16, 17, 18] (by decide +kernel) rfl⟩⟩, hS.F ht⟩) hS.2.2 dX10_measured_40
      · skip
        have i_5 : ¬ (a3.toInt < 0) := fun h9 => c_5 ((ilt rfl (by decide)).mpr h9)
        have hM : M_x_measured a0 a1 a3 cup clast fw ft fr fg a4 szs sl a2 sc0 rails pn sc1 sc2 sc3 pt dead rt = (K_x_measured_7 a3 cup clast fw ft fr fg a4 szs a0 sl a1 a2 sc0 rails pn sc1 sc2 sc3 pt dead rt) := (show M_x_measured a0 a1 a3 cup clast fw ft fr fg a4 szs sl a2 sc0 rails pn sc1 sc2 sc3 pt dead rt = (if a3.toInt < 0 then (K_x_measured_6 cup clast fw ft fr fg) else (K_x_measured_7 a3 cup clast fw ft fr fg a4 szs a0 sl a1 a2 sc0 rails pn sc1 sc2 sc3 pt dead rt)) from hM).trans (if_neg i_5)
        refine lv_iload hx hb dX10_measured_21 (lv_at hl 4 rfl) ?_
        refine lv_bipush (v := 40) hx hb dX10_measured_23 (by decide) ?_
        refine lv_icmp_gt (tgt := 39) hx hb dX10_measured_25 (by decide) (fun c_6 => ?_) (fun c_6 => ?_)
        · skip
          have i_6 : 40 < a3.toInt := (ilt (by decide) rfl).mp c_6
          have hM : M_x_measured a0 a1 a3 cup clast fw ft fr fg a4 szs sl a2 sc0 rails pn sc1 sc2 sc3 pt dead rt = (K_x_measured_8 cup clast fw ft fr fg) := (show M_x_measured a0 a1 a3 cup clast fw ft fr fg a4 szs sl a2 sc0 rails pn sc1 sc2 sc3 pt dead rt = (if 40 < a3.toInt then (K_x_measured_8 cup clast fw ft fr fg) else (K_x_measured_9 a4 cup clast fw ft fr fg szs a0 sl a1 a3 a2 sc0 rails pn sc1 sc2 sc3 pt dead rt)) from hM).trans (if_pos i_6)
          refine lv_iconst (v := (-1)) hx hb dX10_measured_39 (by decide) ?_
          refine W.widen (k := 0) (n := 0) (by decide) (by decide) ?_
          exact W.iret (v := (-1)) hx hb hr (fun t ht hW => ⟨⟨(-1), (-1), rfl, ⟨rfl, trivial⟩, ⟨cup, clast, fw, ft, fr, fg, (xrng rfl (by omega) (by omega)), (xwk_rng h_fw (by decide) (by decide)), (xwk_rng h_ft (by decide) (by decide)), (xwk_rng h_fr (by decide) (by decide)), (xwk_rng h_fg (by decide) (by decide)), hM, h_le, xB_of9 ht hW hP hK hD [0, 1, 2, 3, 4, 5, 6, 7, 8, 9, 10, 11, 12, 13, 14, 15, 16, 17, 18] (by decide +kernel) rfl⟩⟩, hS.F ht⟩) hS.2.2 dX10_measured_40
        · skip
          have i_6 : ¬ (40 < a3.toInt) := fun h9 => c_6 ((ilt (by decide) rfl).mpr h9)
          have hM : M_x_measured a0 a1 a3 cup clast fw ft fr fg a4 szs sl a2 sc0 rails pn sc1 sc2 sc3 pt dead rt = (K_x_measured_9 a4 cup clast fw ft fr fg szs a0 sl a1 a3 a2 sc0 rails pn sc1 sc2 sc3 pt dead rt) := (show M_x_measured a0 a1 a3 cup clast fw ft fr fg a4 szs sl a2 sc0 rails pn sc1 sc2 sc3 pt dead rt = (if 40 < a3.toInt then (K_x_measured_8 cup clast fw ft fr fg) else (K_x_measured_9 a4 cup clast fw ft fr fg szs a0 sl a1 a3 a2 sc0 rails pn sc1 sc2 sc3 pt dead rt)) from hM).trans (if_neg i_6)
          refine lv_iload hx hb dX10_measured_28 (lv_at hl 5 rfl) ?_
          refine lv_if_lt (tgt := 39) hx hb dX10_measured_30 (by decide) (fun c_7 => ?_) (fun c_7 => ?_)
          · skip
            have i_7 : a4.toInt < 0 := (ilt rfl (by decide)).mp c_7
            have hM : M_x_measured a0 a1 a3 cup clast fw ft fr fg a4 szs sl a2 sc0 rails pn sc1 sc2 sc3 pt dead rt = (K_x_measured_10 cup clast fw ft fr fg) := (show M_x_measured a0 a1 a3 cup clast fw ft fr fg a4 szs sl a2 sc0 rails pn sc1 sc2 sc3 pt dead rt = (if a4.toInt < 0 then (K_x_measured_10 cup clast fw ft fr fg) else (K_x_measured_11 a4 szs a0 cup clast fw ft fr fg sl a1 a3 a2 sc0 rails pn sc1 sc2 sc3 pt dead rt)) from hM).trans (if_pos i_7)
            refine lv_iconst (v := (-1)) hx hb dX10_measured_39 (by decide) ?_
            refine W.widen (k := 0) (n := 0) (by decide) (by decide) ?_
            exact W.iret (v := (-1)) hx hb hr (fun t ht hW => ⟨⟨(-1), (-1), rfl, ⟨rfl, trivial⟩, ⟨cup, clast, fw, ft, fr, fg, (xrng rfl (by omega) (by omega)), (xwk_rng h_fw (by decide) (by decide)), (xwk_rng h_ft (by decide) (by decide)), (xwk_rng h_fr (by decide) (by decide)), (xwk_rng h_fg (by decide) (by decide)), hM, h_le, xB_of9 ht hW hP hK hD [0, 1, 2, 3, 4, 5, 6, 7, 8, 9, 10, 11, 12, 13, 14, 15, 16, 17, 18] (by decide +kernel) rfl⟩⟩, hS.F ht⟩) hS.2.2 dX10_measured_40
          · skip
            have i_7 : ¬ (a4.toInt < 0) := fun h9 => c_7 ((ilt rfl (by decide)).mpr h9)
            have hM : M_x_measured a0 a1 a3 cup clast fw ft fr fg a4 szs sl a2 sc0 rails pn sc1 sc2 sc3 pt dead rt = (K_x_measured_11 a4 szs a0 cup clast fw ft fr fg sl a1 a3 a2 sc0 rails pn sc1 sc2 sc3 pt dead rt) := (show M_x_measured a0 a1 a3 cup clast fw ft fr fg a4 szs sl a2 sc0 rails pn sc1 sc2 sc3 pt dead rt = (if a4.toInt < 0 then (K_x_measured_10 cup clast fw ft fr fg) else (K_x_measured_11 a4 szs a0 cup clast fw ft fr fg sl a1 a3 a2 sc0 rails pn sc1 sc2 sc3 pt dead rt)) from hM).trans (if_neg i_7)
            refine lv_iload hx hb dX10_measured_33 (lv_at hl 5 rfl) ?_
            refine lv_iconst (v := 2) hx hb dX10_measured_35 (by decide) ?_
            refine lv_icmp_le (tgt := 41) hx hb dX10_measured_36 (by decide) (fun c_8 => ?_) (fun c_8 => ?_)
            · skip
              have i_8 : a4.toInt ≤ 2 := (ile rfl (by decide)).mp c_8
              have hM : M_x_measured a0 a1 a3 cup clast fw ft fr fg a4 szs sl a2 sc0 rails pn sc1 sc2 sc3 pt dead rt = (K_x_measured_12 szs a0 cup clast fw ft fr fg sl a1 a3 a4 a2 sc0 rails pn sc1 sc2 sc3 pt dead rt) := (show M_x_measured a0 a1 a3 cup clast fw ft fr fg a4 szs sl a2 sc0 rails pn sc1 sc2 sc3 pt dead rt = (if a4.toInt ≤ 2 then (K_x_measured_12 szs a0 cup clast fw ft fr fg sl a1 a3 a4 a2 sc0 rails pn sc1 sc2 sc3 pt dead rt) else (K_x_measured_13 cup clast fw ft fr fg)) from hM).trans (if_pos i_8)
              refine lv_aload_n hx hb dX10_measured_41 rfl (lv_at hl 0 rfl) ?_
              refine va_get (D := D) (ci := 9) (v := .ref sh) (C := RX10) (T := TX10) (N := 10) hx hb hts (fun w h => tbC w (tbfX10 w h)) hown hK hP 0 rfl rfl 6 (by decide) (hts (.fieldLink RX10 49 "PowerRails" "sheets" "LPowerRails$Sheets;") (tbC _ wd253)) (fun _ h9 => h9) rfl dX10_measured_42 ?_
              refine va_get (D := D) (ci := 5) (v := .ref ssa) (C := RX6) (T := TX6) (N := 3) hx hb hts (fun w h => tbC w (tbfX6 w h)) hown hK hP 1 rfl rfl 2 (by decide) (hts (.fieldLink RX10 305 "PowerRails$Sheets" "sizes" "[I") (tbC _ wd196)) (fun _ h9 => h9) rfl dX10_measured_45 ?_
              refine lv_iload_n hx hb dX10_measured_48 rfl (lv_at hl 1 rfl) ?_
              refine va_iald hx hb hK hP 8 0 rfl rfl (vp_in_iff.mpr ⟨by omega, by omega⟩) dX10_measured_49 ?_
              refine lv_topi (fun v9 ev9 => ?_)
              have rv9 : (-4) ≤ v9.toInt ∧ v9.toInt ≤ 40 := xrd ev9 h_szs (xinK (vp_in_iff.mpr ⟨by omega, by omega⟩))
              refine lv_bipush (v := (-4)) hx hb dX10_measured_50 (by decide) ?_
              refine lv_icmp_ne (tgt := 58) hx hb dX10_measured_52 (by decide) (fun c_10 => ?_) (fun c_10 => ?_)
              · skip
                have i_10 : ¬ (v9.toInt = (-4)) := fun h9 => c_10 ((ieq rfl (by decide)).mpr h9)
                have hM : M_x_measured a0 a1 a3 cup clast fw ft fr fg a4 szs sl a2 sc0 rails pn sc1 sc2 sc3 pt dead rt = (K_x_measured_14 sl a0 a1 a3 a4 a2 szs sc0 rails pn sc1 sc2 sc3 pt fr fg dead rt ft fw cup clast) := (show M_x_measured a0 a1 a3 cup clast fw ft fr fg a4 szs sl a2 sc0 rails pn sc1 sc2 sc3 pt dead rt = (if v9.toInt = (-4) then (K_x_measured_15 cup clast fw ft fr fg) else (K_x_measured_14 sl a0 a1 a3 a4 a2 szs sc0 rails pn sc1 sc2 sc3 pt fr fg dead rt ft fw cup clast)) from (by rw [ev9]; exact hM)).trans (if_neg i_10)
                refine lv_aload_n hx hb dX10_measured_58 rfl (lv_at hl 0 rfl) ?_
                refine va_get (D := D) (ci := 9) (v := .ref sh) (C := RX10) (T := TX10) (N := 10) hx hb hts (fun w h => tbC w (tbfX10 w h)) hown hK hP 0 rfl rfl 6 (by decide) (hts (.fieldLink RX10 49 "PowerRails" "sheets" "LPowerRails$Sheets;") (tbC _ wd253)) (fun _ h9 => h9) rfl dX10_measured_59 ?_
                refine va_get (D := D) (ci := 5) (v := .ref sla) (C := RX6) (T := TX6) (N := 3) hx hb hts (fun w h => tbC w (tbfX6 w h)) hown hK hP 1 rfl rfl 1 (by decide) (hts (.fieldLink RX10 311 "PowerRails$Sheets" "lanes" "[I") (tbC _ wd194)) (fun _ h9 => h9) rfl dX10_measured_62 ?_
                refine lv_iload_n hx hb dX10_measured_65 rfl (lv_at hl 1 rfl) ?_
                refine va_iald hx hb hK hP 7 0 rfl rfl (vp_in_iff.mpr ⟨by omega, by omega⟩) dX10_measured_66 ?_
                refine lv_topi (fun v11 ev11 => ?_)
                refine lv_iload_n hx hb dX10_measured_67 rfl (lv_at hl 2 rfl) ?_
                refine lv_icmp_eq (tgt := 74) hx hb dX10_measured_68 (by decide) (fun c_12 => ?_) (fun c_12 => ?_)
                · skip
                  have i_12 : v11.toInt = a1.toInt := (ieq rfl rfl).mp c_12
                  have hM : M_x_measured a0 a1 a3 cup clast fw ft fr fg a4 szs sl a2 sc0 rails pn sc1 sc2 sc3 pt dead rt = (K_x_measured_16 a3 a4 a2 szs a0 sc0 rails pn sc1 sc2 sc3 pt fr fg dead rt ft fw) := (show M_x_measured a0 a1 a3 cup clast fw ft fr fg a4 szs sl a2 sc0 rails pn sc1 sc2 sc3 pt dead rt = (if v11.toInt = a1.toInt then (K_x_measured_16 a3 a4 a2 szs a0 sc0 rails pn sc1 sc2 sc3 pt fr fg dead rt ft fw) else (K_x_measured_17 cup clast fw ft fr fg)) from (by rw [ev11]; exact hM)).trans (if_pos i_12)
                  refine lv_aload_n hx hb dX10_measured_74 rfl (lv_at hl 0 rfl) ?_
                  obtain ⟨hPc, hDc, hFc, hC9⟩ := xpk (wc := W_followTimes cI cJ cZ cG cH xo tp rd rn co wy sg sh pl sp lf fwa fta fra fga cxa cup clast cpeak cptick fw ft fr fg pna pta rails limit retry behind pn pt hy rsa ria raa rta rga dead key tick held tries trips ldraw gdraw rt) hP hD hS hA [0, 9, 10, 11, 12, 13, 14, 15, 16, 17, 18] (by decide +kernel) rfl
                  refine va_callv (va_runV (As := []) (rest := []) ⟨hx, hb, hml, hown, hts⟩ (c_followTimes l D cI cJ cZ cG cH H.size xo tp rd rn co wy sg sh pl sp lf fwa fta fra fga cxa cup clast cpeak cptick fw ft fr fg pna pta rails limit retry behind pn pt hy rsa ria raa rta rga dead key tick held tries trips ldraw gdraw rt (xrng rfl (by omega) (by omega)) (xwk_rng h_fw (by decide) (by decide)) (xwk_rng h_ft (by decide) (by decide)) (xwk_rng h_fr (by decide) (by decide)) (xwk_rng h_fg (by decide) (by decide)) (xrng rfl (by omega) (by omega)) (xwk_rng h_pn (by decide) (by decide)) (xrng rfl (by omega) (by omega)) (xwk_rng h_rt (by decide) (by decide)) h_le) (cwV 0 hts (xGV tbC wd513 wd514 wd1 wd50 wd1043) rfl rfl rfl (by decide +kernel) ⟨Nat.le_of_ble_eq_true rfl, Nat.le_of_ble_eq_true rfl⟩) ⟨xPc_blind, va_recv hK hPc (ci := 9) (q0 := 0) rfl rfl, xPc_pre hPc hK hDc⟩ rfl rfl hl.1 rfl (lv_room (Nat.le_of_ble_eq_true rfl)) dX10_measured_75 ⟨Nat.le_of_ble_eq_true rfl, Nat.le_of_ble_eq_true rfl⟩) hS (fun q _ h => hFc q h) hFc (fun u t H1 locs ht hvm hw13 hB hz1 hk1 hS => ?_)
                  revert hB
                  refine xex6r (fun cup_14 clast_15 fw_16 ft_17 fr_18 fg_19 => ?_)
                  refine xan8r (fun hf19_0 hf19_1 hf19_2 hf19_3 hf19_4 hf19_5 hf19_6 => ?_)
                  refine xan4r (fun hf19_7 hP1 hK1 hD1 => ?_)
                  rw [ht] at hP1
                  obtain ⟨hP, hD⟩ : xPD D A [oX6 sh sca sla ssa, oAM sca cG 4 rr, oAI (rr 0) cI 40 sc0, oAI (rr 1) cI 40 sc1, oAI (rr 2) cI 40 sc2, oAI (rr 3) cI 40 sc3, oAI sla cI 4 sl, oAI ssa cI 4 szs, oX10 xo tp rd rn co wy sg sh pl sp lf, oX0 co fwa fta fra fga cxa cup_14 clast_15 cpeak cptick, oAI fwa cI 8 fw_16, oAI fta cI 8 ft_17, oAI fra cI 8 fr_18, oAI fga cI 8 fg_19, oX3 pl pna pta rails limit retry behind, oAI pna cI 64 pn, oAJ pta cJ 64 pt, oX5 rn hy rsa ria raa rta rga dead key tick held tries trips ldraw gdraw, oAI rta cI 8 rt] H1 := xjn 8 hP hD [0, 9, 10, 11, 12, 13, 14, 15, 16, 17, 18] [1, 2, 3, 4, 5, 6, 7, 8] hC9 rfl (by decide +kernel) (by decide +kernel) hk1 hFc hP1 hD1
                  generalize H1 = H at hP hS ⊢
                  have hf19_0 : 0 ≤ cup_14.toInt ∧ cup_14.toInt ≤ 255 := hf19_0
                  have hf19_1 : 0 ≤ clast_15.toInt ∧ clast_15.toInt ≤ 144 := hf19_1
                  have hf19_2 : ∀ j, j < 8 → 0 ≤ (fw_16 j).toInt ∧ (fw_16 j).toInt ≤ 511 := hf19_2
                  have hf19_3 : ∀ j, j < 8 → 0 ≤ (ft_17 j).toInt ∧ (ft_17 j).toInt ≤ 511 := hf19_3
                  have hf19_4 : ∀ j, j < 8 → 0 ≤ (fr_18 j).toInt ∧ (fr_18 j).toInt ≤ 655 := hf19_4
                  have hf19_5 : ∀ j, j < 8 → 0 ≤ (fg_19 j).toInt ∧ (fg_19 j).toInt ≤ 1166 := hf19_5
                  have hf19_6 : M_followTimes rails pt fr fg dead rt ft pn fw = (cup_14, clast_15, fw_16, ft_17, fr_18, fg_19) := hf19_6
                  have hf19_7 : ∀ j, j < 8 → (fr_18 j).toInt ≤ (fg_19 j).toInt := hf19_7
                  have h9M := congrArg (fun t9 => (K_x_measured_18 t9.1 t9.2.1 t9.2.2.1 t9.2.2.2.1 t9.2.2.2.2.1 t9.2.2.2.2.2 a3 a4 a2 szs a0 sc0 rails pn sc1 sc2 sc3)) hf19_6
                  have hM : M_x_measured a0 a1 a3 cup clast fw ft fr fg a4 szs sl a2 sc0 rails pn sc1 sc2 sc3 pt dead rt = (K_x_measured_18 cup_14 clast_15 fw_16 ft_17 fr_18 fg_19 a3 a4 a2 szs a0 sc0 rails pn sc1 sc2 sc3) := (show M_x_measured a0 a1 a3 cup clast fw ft fr fg a4 szs sl a2 sc0 rails pn sc1 sc2 sc3 pt dead rt = ((fun t9 => (K_x_measured_18 t9.1 t9.2.1 t9.2.2.1 t9.2.2.2.1 t9.2.2.2.2.1 t9.2.2.2.2.2 a3 a4 a2 szs a0 sc0 rails pn sc1 sc2 sc3)) (M_followTimes rails pt fr fg dead rt ft pn fw)) from hM).trans h9M
                  refine lv_aload_n hx hb dX10_measured_78 rfl (lv_at hl 0 rfl) ?_
                  refine lv_iload_n hx hb dX10_measured_79 rfl (lv_at hl 1 rfl) ?_
                  refine lv_iload_n hx hb dX10_measured_80 rfl (lv_at hl 3 rfl) ?_
                  refine lv_iload hx hb dX10_measured_81 (lv_at hl 4 rfl) ?_
                  refine lv_iload hx hb dX10_measured_83 (lv_at hl 5 rfl) ?_
                  obtain ⟨hPc, hDc, hFc, hC9⟩ := xpk (wc := W_compareSheet cI cJ cZ cG cH xo a0 a2 a3 a4 tp rd rn co wy sg sh pl sp lf sca sla ssa rr sc0 sc1 sc2 sc3 sl szs fwa fta fra fga cxa cup_14 clast_15 cpeak cptick fr_18 fg_19 pna pta rails limit retry behind pn) hP hD hS hA [8, 0, 1, 2, 3, 4, 5, 6, 7, 9, 12, 13, 14, 15] (by decide +kernel) rfl
                  refine va_calli (va_runV (As := [.int a0, .int a2, .int a3, .int a4]) (rest := []) ⟨hx, hb, hml, hown, hts⟩ (c_compareSheet l D cI cJ cZ cG cH H.size xo a0 a2 a3 a4 tp rd rn co wy sg sh pl sp lf sca sla ssa rr sc0 sc1 sc2 sc3 sl szs fwa fta fra fga cxa cup_14 clast_15 cpeak cptick fr_18 fg_19 pna pta rails limit retry behind pn (xrng rfl (by omega) (by omega)) (xrng rfl (by omega) (by omega)) (xwk_rng h_szs (by decide) (by decide)) (xrng rfl (by omega) (by omega)) (xwk_rng hf19_4 (by decide) (by decide)) (xwk_rng hf19_5 (by decide) (by decide)) (xrng rfl (by omega) (by omega)) (xwk_rng h_pn (by decide) (by decide)) hf19_7) (cwV 4 hts (xGV tbC wd663 wd664 wd4 wd50 wd1088) rfl rfl rfl (by decide +kernel) ⟨Nat.le_of_ble_eq_true rfl, Nat.le_of_ble_eq_true rfl⟩) ⟨xPc_blind, va_recv hK hPc (ci := 9) (q0 := 0) rfl rfl, xPc_pre hPc hK hDc⟩ rfl rfl hl.1 rfl (lv_room (Nat.le_of_ble_eq_true rfl)) dX10_measured_85 ⟨Nat.le_of_ble_eq_true rfl, Nat.le_of_ble_eq_true rfl⟩) hS (fun q _ h => hFc q h) hFc (fun r20 u t H1 locs ht hvm hw20 hB hz1 hk1 hS => ?_)
                  obtain ⟨hru9, hw20⟩ := hw20
                  subst hru9
                  obtain ⟨hf20_0, hP1, hK1, hD1⟩ := hB
                  rw [ht] at hP1
                  obtain ⟨hP, hD⟩ : xPD D A [oAI fwa cI 8 fw_16, oAI fta cI 8 ft_17, oAJ pta cJ 64 pt, oX5 rn hy rsa ria raa rta rga dead key tick held tries trips ldraw gdraw, oAI rta cI 8 rt, oX10 xo tp rd rn co wy sg sh pl sp lf, oX6 sh sca sla ssa, oAM sca cG 4 rr, oAI (rr 0) cI 40 sc0, oAI (rr 1) cI 40 sc1, oAI (rr 2) cI 40 sc2, oAI (rr 3) cI 40 sc3, oAI sla cI 4 sl, oAI ssa cI 4 szs, oX0 co fwa fta fra fga cxa cup_14 clast_15 cpeak cptick, oAI fra cI 8 fr_18, oAI fga cI 8 fg_19, oX3 pl pna pta rails limit retry behind, oAI pna cI 64 pn] H1 := xjn 5 hP hD [8, 0, 1, 2, 3, 4, 5, 6, 7, 9, 12, 13, 14, 15] [10, 11, 16, 17, 18] hC9 rfl (by decide +kernel) (by decide +kernel) hk1 hFc hP1 hD1
                  generalize H1 = H at hP hS ⊢
                  have hf20_0 : M_compareSheet a3 a4 a2 szs a0 sc0 rails fg_19 fr_18 pn cup_14 sc1 sc2 sc3 = (r20) := hf20_0
                  have h9M := congrArg (fun t9 => (K_x_measured_19 t9 cup_14 clast_15 fw_16 ft_17 fr_18 fg_19)) hf20_0
                  have hM : M_x_measured a0 a1 a3 cup clast fw ft fr fg a4 szs sl a2 sc0 rails pn sc1 sc2 sc3 pt dead rt = (K_x_measured_19 r20 cup_14 clast_15 fw_16 ft_17 fr_18 fg_19) := (show M_x_measured a0 a1 a3 cup clast fw ft fr fg a4 szs sl a2 sc0 rails pn sc1 sc2 sc3 pt dead rt = ((fun t9 => (K_x_measured_19 t9 cup_14 clast_15 fw_16 ft_17 fr_18 fg_19)) (M_compareSheet a3 a4 a2 szs a0 sc0 rails fg_19 fr_18 pn cup_14 sc1 sc2 sc3)) from hM).trans h9M
                  refine W.widen (k := 0) (n := 0) (by decide) (by decide) ?_
                  exact W.iret (v := r20) hx hb hr (fun t ht hW => ⟨⟨r20, r20, rfl, ⟨rfl, trivial⟩, ⟨cup_14, clast_15, fw_16, ft_17, fr_18, fg_19, (xrng rfl (by omega) (by omega)), (xwk_rng hf19_2 (by decide) (by decide)), (xwk_rng hf19_3 (by decide) (by decide)), (xwk_rng hf19_4 (by decide) (by decide)), (xwk_rng hf19_5 (by decide) (by decide)), hM, hf19_7, xB_of9 ht hW hP hK hD [5, 6, 7, 8, 9, 10, 11, 12, 13, 14, 0, 1, 15, 16, 17, 18, 2, 3, 4] (by decide +kernel) rfl⟩⟩, hS.F ht⟩) hS.2.2 dX10_measured_88
                · skip
                  have i_12 : ¬ (v11.toInt = a1.toInt) := fun h9 => c_12 ((ieq rfl rfl).mpr h9)
                  have hM : M_x_measured a0 a1 a3 cup clast fw ft fr fg a4 szs sl a2 sc0 rails pn sc1 sc2 sc3 pt dead rt = (K_x_measured_17 cup clast fw ft fr fg) := (show M_x_measured a0 a1 a3 cup clast fw ft fr fg a4 szs sl a2 sc0 rails pn sc1 sc2 sc3 pt dead rt = (if v11.toInt = a1.toInt then (K_x_measured_16 a3 a4 a2 szs a0 sc0 rails pn sc1 sc2 sc3 pt fr fg dead rt ft fw) else (K_x_measured_17 cup clast fw ft fr fg)) from (by rw [ev11]; exact hM)).trans (if_neg i_12)
                  refine lv_bipush (v := (-13)) hx hb dX10_measured_71 (by decide) ?_
                  refine W.widen (k := 0) (n := 0) (by decide) (by decide) ?_
                  exact W.iret (v := (-13)) hx hb hr (fun t ht hW => ⟨⟨(-13), (-13), rfl, ⟨rfl, trivial⟩, ⟨cup, clast, fw, ft, fr, fg, (xrng rfl (by omega) (by omega)), (xwk_rng h_fw (by decide) (by decide)), (xwk_rng h_ft (by decide) (by decide)), (xwk_rng h_fr (by decide) (by decide)), (xwk_rng h_fg (by decide) (by decide)), hM, h_le, xB_of9 ht hW hP hK hD [0, 1, 2, 3, 4, 5, 6, 7, 8, 9, 10, 11, 12, 13, 14, 15, 16, 17, 18] (by decide +kernel) rfl⟩⟩, hS.F ht⟩) hS.2.2 dX10_measured_73
              · skip
                have i_10 : v9.toInt = (-4) := (ieq rfl (by decide)).mp c_10
                have hM : M_x_measured a0 a1 a3 cup clast fw ft fr fg a4 szs sl a2 sc0 rails pn sc1 sc2 sc3 pt dead rt = (K_x_measured_15 cup clast fw ft fr fg) := (show M_x_measured a0 a1 a3 cup clast fw ft fr fg a4 szs sl a2 sc0 rails pn sc1 sc2 sc3 pt dead rt = (if v9.toInt = (-4) then (K_x_measured_15 cup clast fw ft fr fg) else (K_x_measured_14 sl a0 a1 a3 a4 a2 szs sc0 rails pn sc1 sc2 sc3 pt fr fg dead rt ft fw cup clast)) from (by rw [ev9]; exact hM)).trans (if_pos i_10)
                refine lv_bipush (v := (-11)) hx hb dX10_measured_55 (by decide) ?_
                refine W.widen (k := 0) (n := 0) (by decide) (by decide) ?_
                exact W.iret (v := (-11)) hx hb hr (fun t ht hW => ⟨⟨(-11), (-11), rfl, ⟨rfl, trivial⟩, ⟨cup, clast, fw, ft, fr, fg, (xrng rfl (by omega) (by omega)), (xwk_rng h_fw (by decide) (by decide)), (xwk_rng h_ft (by decide) (by decide)), (xwk_rng h_fr (by decide) (by decide)), (xwk_rng h_fg (by decide) (by decide)), hM, h_le, xB_of9 ht hW hP hK hD [0, 1, 2, 3, 4, 5, 6, 7, 8, 9, 10, 11, 12, 13, 14, 15, 16, 17, 18] (by decide +kernel) rfl⟩⟩, hS.F ht⟩) hS.2.2 dX10_measured_57
            · skip
              have i_8 : ¬ (a4.toInt ≤ 2) := fun h9 => c_8 ((ile rfl (by decide)).mpr h9)
              have hM : M_x_measured a0 a1 a3 cup clast fw ft fr fg a4 szs sl a2 sc0 rails pn sc1 sc2 sc3 pt dead rt = (K_x_measured_13 cup clast fw ft fr fg) := (show M_x_measured a0 a1 a3 cup clast fw ft fr fg a4 szs sl a2 sc0 rails pn sc1 sc2 sc3 pt dead rt = (if a4.toInt ≤ 2 then (K_x_measured_12 szs a0 cup clast fw ft fr fg sl a1 a3 a4 a2 sc0 rails pn sc1 sc2 sc3 pt dead rt) else (K_x_measured_13 cup clast fw ft fr fg)) from hM).trans (if_neg i_8)
              refine lv_iconst (v := (-1)) hx hb dX10_measured_39 (by decide) ?_
              refine W.widen (k := 0) (n := 0) (by decide) (by decide) ?_
              exact W.iret (v := (-1)) hx hb hr (fun t ht hW => ⟨⟨(-1), (-1), rfl, ⟨rfl, trivial⟩, ⟨cup, clast, fw, ft, fr, fg, (xrng rfl (by omega) (by omega)), (xwk_rng h_fw (by decide) (by decide)), (xwk_rng h_ft (by decide) (by decide)), (xwk_rng h_fr (by decide) (by decide)), (xwk_rng h_fg (by decide) (by decide)), hM, h_le, xB_of9 ht hW hP hK hD [0, 1, 2, 3, 4, 5, 6, 7, 8, 9, 10, 11, 12, 13, 14, 15, 16, 17, 18] (by decide +kernel) rfl⟩⟩, hS.F ht⟩) hS.2.2 dX10_measured_40
    · skip
      have i_4 : ¬ (0 ≤ a1.toInt ∧ a1.toInt ≤ 2) := (xbool hw3).1.mp c_4
      have hM : M_x_measured a0 a1 a3 cup clast fw ft fr fg a4 szs sl a2 sc0 rails pn sc1 sc2 sc3 pt dead rt = (K_x_measured_5 cup clast fw ft fr fg) := (show M_x_measured a0 a1 a3 cup clast fw ft fr fg a4 szs sl a2 sc0 rails pn sc1 sc2 sc3 pt dead rt = (if 0 ≤ a1.toInt ∧ a1.toInt ≤ 2 then (K_x_measured_4 a3 cup clast fw ft fr fg a4 szs a0 sl a1 a2 sc0 rails pn sc1 sc2 sc3 pt dead rt) else (K_x_measured_5 cup clast fw ft fr fg)) from hM).trans (if_neg i_4)
      refine lv_iconst (v := (-1)) hx hb dX10_measured_14 (by decide) ?_
      refine W.widen (k := 0) (n := 0) (by decide) (by decide) ?_
      exact W.iret (v := (-1)) hx hb hr (fun t ht hW => ⟨⟨(-1), (-1), rfl, ⟨rfl, trivial⟩, ⟨cup, clast, fw, ft, fr, fg, (xrng rfl (by omega) (by omega)), (xwk_rng h_fw (by decide) (by decide)), (xwk_rng h_ft (by decide) (by decide)), (xwk_rng h_fr (by decide) (by decide)), (xwk_rng h_fg (by decide) (by decide)), hM, h_le, xB_of9 ht hW hP hK hD [0, 1, 2, 3, 4, 5, 6, 7, 8, 9, 10, 11, 12, 13, 14, 15, 16, 17, 18] (by decide +kernel) rfl⟩⟩, hS.F ht⟩) hS.2.2 dX10_measured_15
def K_x_count_2 (rails : Int32) : (Int32) := (rails)
def K_x_count_6 (r2 : Int32) : (Int32) := (r2)
def K_x_count_4 (dead : Int32) : (Int32) := ((fun t9 => (K_x_count_6 t9)) (M_bitCount dead))
def K_x_count_7 (ysz : Int32) : (Int32) := (ysz)
def K_x_count_14 (r5 : Int32) : (Int32) := (r5)
def K_x_count_12 (rails : Int32) (pn : Nat → Int32) : (Int32) := ((fun t9 => (K_x_count_14 t9)) (M_countWays rails pn))
def K_x_count_13  : (Int32) := ((-6 : Int32))
def K_x_count_11 (r3 : Int32) (rails : Int32) (pn : Nat → Int32) : (Int32) := (if r3.toInt ≤ 20000 then (K_x_count_12 rails pn) else (K_x_count_13))
def K_x_count_9 (rails : Int32) (pn : Nat → Int32) : (Int32) := ((fun t9 => (K_x_count_11 t9 rails pn)) (M_countWays rails pn))
def K_x_count_15 (tl : Int32) : (Int32) := (tl)
def K_x_count_17 (szs : Nat → Int32) : (Int32) := ((szs 0))
def K_x_count_18  : (Int32) := ((-1 : Int32))
def K_x_count_16 (a0 : Int32) (szs : Nat → Int32) : (Int32) := (if (a0 : Int32).toInt = 5 then (K_x_count_17 szs) else (K_x_count_18))
def K_x_count_10 (a0 : Int32) (tl : Int32) (szs : Nat → Int32) : (Int32) := (if (a0 : Int32).toInt = 4 then (K_x_count_15 tl) else (K_x_count_16 a0 szs))
def K_x_count_8 (a0 : Int32) (rails : Int32) (pn : Nat → Int32) (tl : Int32) (szs : Nat → Int32) : (Int32) := (if (a0 : Int32).toInt = 3 then (K_x_count_9 rails pn) else (K_x_count_10 a0 tl szs))
def K_x_count_5 (a0 : Int32) (ysz : Int32) (rails : Int32) (pn : Nat → Int32) (tl : Int32) (szs : Nat → Int32) : (Int32) := (if (a0 : Int32).toInt = 2 then (K_x_count_7 ysz) else (K_x_count_8 a0 rails pn tl szs))
def K_x_count_3 (a0 : Int32) (dead : Int32) (ysz : Int32) (rails : Int32) (pn : Nat → Int32) (tl : Int32) (szs : Nat → Int32) : (Int32) := (if (a0 : Int32).toInt = 1 then (K_x_count_4 dead) else (K_x_count_5 a0 ysz rails pn tl szs))
def K_x_count_1 (a0 : Int32) (rails : Int32) (dead : Int32) (ysz : Int32) (pn : Nat → Int32) (tl : Int32) (szs : Nat → Int32) : (Int32) := (if (a0 : Int32).toInt = 0 then (K_x_count_2 rails) else (K_x_count_3 a0 dead ysz rails pn tl szs))
def M_x_count (a0 : Int32) (rails : Int32) (dead : Int32) (ysz : Int32) (pn : Nat → Int32) (tl : Int32) (szs : Nat → Int32) : (Int32) := (K_x_count_1 a0 rails dead ysz pn tl szs)
abbrev W_x_count (cI cJ cZ cG cH : ClassId) (xo : Nat) (a0 : Int32) (tp : Nat) (rd : Nat) (rn : Nat) (co : Nat) (wy : Nat) (sg : Nat) (sh : Nat) (pl : Nat) (sp : Nat) (lf : Int32) (tba : Nat) (tl : Int32) (sca : Nat) (sla : Nat) (ssa : Nat) (szs : Nat → Int32) (pna : Nat) (pta : Nat) (rails : Int32) (limit : Int32) (retry : Int32) (behind : Int32) (pn : Nat → Int32) (hy : Nat) (rsa : Nat) (ria : Nat) (raa : Nat) (rta : Nat) (rga : Nat) (dead : Int32) (key : Int32) (tick : Int32) (held : Int32) (tries : Int32) (trips : Int32) (ldraw : Int32) (gdraw : Int32) (yaa : Nat) (yba : Nat) (yca : Nat) (ysz : Int32) : va_W := [oX10 xo tp rd rn co wy sg sh pl sp lf, oX8 tp tba tl, oX6 sh sca sla ssa, oAI ssa cI 4 szs, oX3 pl pna pta rails limit retry behind, oAI pna cI 64 pn, oX5 rn hy rsa ria raa rta rga dead key tick held tries trips ldraw gdraw, oX2 hy yaa yba yca ysz]
abbrev Q_x_count (D : va_G) (cI cJ cZ cG cH : ClassId) (xo : Nat) (a0 : Int32) (tp : Nat) (rd : Nat) (rn : Nat) (co : Nat) (wy : Nat) (sg : Nat) (sh : Nat) (pl : Nat) (sp : Nat) (lf : Int32) (tba : Nat) (tl : Int32) (sca : Nat) (sla : Nat) (ssa : Nat) (szs : Nat → Int32) (pna : Nat) (pta : Nat) (rails : Int32) (limit : Int32) (retry : Int32) (behind : Int32) (pn : Nat → Int32) (hy : Nat) (rsa : Nat) (ria : Nat) (raa : Nat) (rta : Nat) (rga : Nat) (dead : Int32) (key : Int32) (tick : Int32) (held : Int32) (tries : Int32) (trips : Int32) (ldraw : Int32) (gdraw : Int32) (yaa : Nat) (yba : Nat) (yca : Nat) (ysz : Int32) (A : Nat → Prop) : Array Value → State → Outcome → State → Prop := va_Qi (fun (r : Int32) (u9 : Int32) => r = u9 ∧ (True)) (fun u9 t => (M_x_count a0 rails dead ysz pn tl szs = (u9)) ∧ xB D (tyL cI cJ cZ cG cH) [oX10 xo tp rd rn co wy sg sh pl sp lf, oX8 tp tba tl, oX6 sh sca sla ssa, oAI ssa cI 4 szs, oX3 pl pna pta rails limit retry behind, oAI pna cI 64 pn, oX5 rn hy rsa ria raa rta rga dead key tick held tries trips ldraw gdraw, oX2 hy yaa yba yca ysz] A t) A
abbrev rm_x_count : Room := { frames := 2, cells := 0, slots := 0, locals := 44 }
set_option maxRecDepth 100000 in
set_option maxHeartbeats 40000000 in
theorem c_x_count (l : Launch) (D : va_G) (cI cJ cZ cG cH : ClassId) (sz : Nat) (xo : Nat) (a0 : Int32) (tp : Nat) (rd : Nat) (rn : Nat) (co : Nat) (wy : Nat) (sg : Nat) (sh : Nat) (pl : Nat) (sp : Nat) (lf : Int32) (tba : Nat) (tl : Int32) (sca : Nat) (sla : Nat) (ssa : Nat) (szs : Nat → Int32) (pna : Nat) (pta : Nat) (rails : Int32) (limit : Int32) (retry : Int32) (behind : Int32) (pn : Nat → Int32) (hy : Nat) (rsa : Nat) (ria : Nat) (raa : Nat) (rta : Nat) (rga : Nat) (dead : Int32) (key : Int32) (tick : Int32) (held : Int32) (tries : Int32) (trips : Int32) (ldraw : Int32) (gdraw : Int32) (yaa : Nat) (yba : Nat) (yca : Nat) (ysz : Int32) (h_tl : 0 ≤ tl.toInt ∧ tl.toInt ≤ 400) (h_szs : ∀ j, j < 4 → (-4) ≤ (szs j).toInt ∧ (szs j).toInt ≤ 40) (h_rails : 0 ≤ rails.toInt ∧ rails.toInt ≤ 8) (h_pn : ∀ j, j < 64 → 0 ≤ (pn j).toInt ∧ (pn j).toInt ≤ 511) (h_key : 0 ≤ key.toInt ∧ key.toInt ≤ 1) (h_ysz : 0 ≤ ysz.toInt ∧ ysz.toInt ≤ 64) : Met l yX10_count (wt yX10_count cX10_count 2 (some .int)) rm_x_count (xPc [.ref xo, .int a0] D (tyL cI cJ cZ cG cH) (W_x_count cI cJ cZ cG cH xo a0 tp rd rn co wy sg sh pl sp lf tba tl sca sla ssa szs pna pta rails limit retry behind pn hy rsa ria raa rta rga dead key tick held tries trips ldraw gdraw yaa yba yca ysz) sz) (Q_x_count D cI cJ cZ cG cH xo a0 tp rd rn co wy sg sh pl sp lf tba tl sca sla ssa szs pna pta rails limit retry behind pn hy rsa ria raa rta rga dead key tick held tries trips ldraw gdraw yaa yba yca ysz (va_A (W_x_count cI cJ cZ cG cH xo a0 tp rd rn co wy sg sh pl sp lf tba tl sca sla ssa szs pna pta rails limit retry behind pn hy rsa ria raa rta rga dead key tick held tries trips ldraw gdraw yaa yba yca ysz) sz)) 0 0 (va_A (W_x_count cI cJ cZ cG cH xo a0 tp rd rn co wy sg sh pl sp lf tba tl sca sla ssa szs pna pta rails limit retry behind pn hy rsa ria raa rta rga dead key tick held tries trips ldraw gdraw yaa yba yca ysz) sz) := by
  refine xMet (cc := cX10_count) (maxL := 2) (ret := (some .int)) (Qf := Q_x_count D cI cJ cZ cG cH xo a0 tp rd rn co wy sg sh pl sp lf tba tl sca sla ssa szs pna pta rails limit retry behind pn hy rsa ria raa rta rga dead key tick held tries trips ldraw gdraw yaa yba yca ysz) (by decide) rfl (Nat.le_of_ble_eq_true rfl) ?_
  intro p e s m below meth c ls A hx hb hr hml hts hown hlocks hnm hsz hP hK hD hA hS hl
  have hown : s.vm.findClass RX10 = some m.cls := hown
  have hP : va_P D vwCl [oX10 xo tp rd rn co wy sg sh pl sp lf, oX8 tp tba tl, oX6 sh sca sla ssa, oAI ssa cI 4 szs, oX3 pl pna pta rails limit retry behind, oAI pna cI 64 pn, oX5 rn hy rsa ria raa rta rga dead key tick held tries trips ldraw gdraw, oX2 hy yaa yba yca ysz] s.heap := hP
  have hD : va_D A [oX10 xo tp rd rn co wy sg sh pl sp lf, oX8 tp tba tl, oX6 sh sca sla ssa, oAI ssa cI 4 szs, oX3 pl pna pta rails limit retry behind, oAI pna cI 64 pn, oX5 rn hy rsa ria raa rta rga dead key tick held tries trips ldraw gdraw, oX2 hy yaa yba yca ysz] := hD
  have hl : lv_has ls 2 [(0, .ref xo), (1, .int a0)] := hl
  have hM : M_x_count a0 rails dead ysz pn tl szs = (K_x_count_1 a0 rails dead ysz pn tl szs) := rfl
  refine lv_iload_n hx hb dX10_count_0 rfl (lv_at hl 1 rfl) ?_
  have i_1_e : (a0 : Int32).toInt = a0.toInt := rfl
  by_cases i_1_0 : (a0 : Int32).toInt = 0
  · skip
    have hM : M_x_count a0 rails dead ysz pn tl szs = (K_x_count_2 rails) := (show M_x_count a0 rails dead ysz pn tl szs = (if (a0 : Int32).toInt = 0 then (K_x_count_2 rails) else (K_x_count_3 a0 dead ysz rails pn tl szs)) from hM).trans (if_pos i_1_0)
    refine lv_tableIn (off := 39) (tgt := 40) hx hb dX10_count_1 (by omega) (by omega) (by rw [i_1_0]; rfl) (by decide) ?_
    refine lv_aload_n hx hb dX10_count_40 rfl (lv_at hl 0 rfl) ?_
    refine va_get (D := D) (ci := 9) (v := .ref pl) (C := RX10) (T := TX10) (N := 10) hx hb hts (fun w h => tbC w (tbfX10 w h)) hown hK hP 0 rfl rfl 7 (by decide) (hts (.fieldLink RX10 56 "PowerRails" "plan" "LPowerRails$Plan;") (tbC _ wd254)) (fun _ h9 => h9) rfl dX10_count_41 ?_
    refine va_get (D := D) (ci := 2) (v := .int rails) (C := RX3) (T := TX3) (N := 6) hx hb hts (fun w h => tbC w (tbfX3 w h)) hown hK hP 4 rfl rfl 2 (by decide) (hts (.fieldLink RX10 117 "PowerRails$Plan" "rails" "I") (tbC _ wd210)) (fun _ h9 => h9) rfl dX10_count_44 ?_
    refine W.widen (k := 0) (n := 0) (by decide) (by decide) ?_
    exact W.iret (v := rails) hx hb hr (fun t ht hW => ⟨⟨rails, rails, rfl, ⟨rfl, trivial⟩, ⟨hM, xB_of9 ht hW hP hK hD [0, 1, 2, 3, 4, 5, 6, 7] (by decide +kernel) rfl⟩⟩, hS.F ht⟩) hS.2.2 dX10_count_47
  have hM : M_x_count a0 rails dead ysz pn tl szs = (K_x_count_3 a0 dead ysz rails pn tl szs) := (show M_x_count a0 rails dead ysz pn tl szs = (if (a0 : Int32).toInt = 0 then (K_x_count_2 rails) else (K_x_count_3 a0 dead ysz rails pn tl szs)) from hM).trans (if_neg i_1_0)
  by_cases i_1_1 : (a0 : Int32).toInt = 1
  · skip
    have hM : M_x_count a0 rails dead ysz pn tl szs = (K_x_count_4 dead) := (show M_x_count a0 rails dead ysz pn tl szs = (if (a0 : Int32).toInt = 1 then (K_x_count_4 dead) else (K_x_count_5 a0 ysz rails pn tl szs)) from hM).trans (if_pos i_1_1)
    refine lv_tableIn (off := 47) (tgt := 48) hx hb dX10_count_1 (by omega) (by omega) (by rw [i_1_1]; rfl) (by decide) ?_
    refine lv_aload_n hx hb dX10_count_48 rfl (lv_at hl 0 rfl) ?_
    refine va_get (D := D) (ci := 9) (v := .ref rn) (C := RX10) (T := TX10) (N := 10) hx hb hts (fun w h => tbC w (tbfX10 w h)) hown hK hP 0 rfl rfl 2 (by decide) (hts (.fieldLink RX10 19 "PowerRails" "run" "LPowerRails$Run;") (tbC _ wd249)) (fun _ h9 => h9) rfl dX10_count_49 ?_
    refine va_get (D := D) (ci := 4) (v := .int dead) (C := RX5) (T := TX5) (N := 14) hx hb hts (fun w h => tbC w (tbfX5 w h)) hown hK hP 6 rfl rfl 6 (by decide) (hts (.fieldLink RX10 147 "PowerRails$Run" "dead" "I") (tbC _ wd118)) (fun _ h9 => h9) rfl dX10_count_52 ?_
    obtain ⟨hPc, hDc, hFc, hC9⟩ := xpk (wc := W_bitCount cI cJ cZ cG cH dead) hP hD hS hA [] (by decide +kernel) rfl
    refine va_calli (va_runS (As := [.int dead]) (rest := []) ⟨hx, hb, hml, hown, hts⟩ (c_bitCount l D cI cJ cZ cG cH s.heap.size dead) (va_cwS 1 hts (xGS tbC wd628 wd621 wd69 wd1073) rfl rfl rfl (by decide +kernel) ⟨Nat.le_of_ble_eq_true rfl, Nat.le_of_ble_eq_true rfl⟩) ⟨xPc_blind, xPc_pre hPc hK hDc⟩ rfl rfl hl.1 rfl (lv_room (Nat.le_of_ble_eq_true rfl)) dX10_count_55 ⟨Nat.le_of_ble_eq_true rfl, Nat.le_of_ble_eq_true rfl⟩) hS (fun q _ h => hFc q h) hFc (fun r2 u t H1 locs ht hvm hw2 hB hz1 hk1 hS => ?_)
    obtain ⟨hru9, hw2⟩ := hw2
    subst hru9
    obtain ⟨hf2_0, hP1, hK1, hD1⟩ := hB
    rw [ht] at hP1
    obtain ⟨hP, hD⟩ : xPD D A [oX10 xo tp rd rn co wy sg sh pl sp lf, oX8 tp tba tl, oX6 sh sca sla ssa, oAI ssa cI 4 szs, oX3 pl pna pta rails limit retry behind, oAI pna cI 64 pn, oX5 rn hy rsa ria raa rta rga dead key tick held tries trips ldraw gdraw, oX2 hy yaa yba yca ysz] H1 := xjn 8 hP hD [] [0, 1, 2, 3, 4, 5, 6, 7] hC9 rfl (by decide +kernel) (by decide +kernel) hk1 hFc hP1 hD1
    generalize H1 = H at hP hS ⊢
    have hf2_0 : M_bitCount dead = (r2) := hf2_0
    have hw2 : 0 ≤ r2.toInt ∧ r2.toInt ≤ 63 := hw2
    have h9M := congrArg (fun t9 => (K_x_count_6 t9)) hf2_0
    have hM : M_x_count a0 rails dead ysz pn tl szs = (K_x_count_6 r2) := (show M_x_count a0 rails dead ysz pn tl szs = ((fun t9 => (K_x_count_6 t9)) (M_bitCount dead)) from hM).trans h9M
    refine W.widen (k := 0) (n := 0) (by decide) (by decide) ?_
    exact W.iret (v := r2) hx hb hr (fun t ht hW => ⟨⟨r2, r2, rfl, ⟨rfl, trivial⟩, ⟨hM, xB_of9 ht hW hP hK hD [0, 1, 2, 3, 4, 5, 6, 7] (by decide +kernel) rfl⟩⟩, hS.F ht⟩) hS.2.2 dX10_count_58
  have hM : M_x_count a0 rails dead ysz pn tl szs = (K_x_count_5 a0 ysz rails pn tl szs) := (show M_x_count a0 rails dead ysz pn tl szs = (if (a0 : Int32).toInt = 1 then (K_x_count_4 dead) else (K_x_count_5 a0 ysz rails pn tl szs)) from hM).trans (if_neg i_1_1)
  by_cases i_1_2 : (a0 : Int32).toInt = 2
  · skip
    have hM : M_x_count a0 rails dead ysz pn tl szs = (K_x_count_7 ysz) := (show M_x_count a0 rails dead ysz pn tl szs = (if (a0 : Int32).toInt = 2 then (K_x_count_7 ysz) else (K_x_count_8 a0 rails pn tl szs)) from hM).trans (if_pos i_1_2)
    refine lv_tableIn (off := 58) (tgt := 59) hx hb dX10_count_1 (by omega) (by omega) (by rw [i_1_2]; rfl) (by decide) ?_
    refine lv_aload_n hx hb dX10_count_59 rfl (lv_at hl 0 rfl) ?_
    refine va_get (D := D) (ci := 9) (v := .ref rn) (C := RX10) (T := TX10) (N := 10) hx hb hts (fun w h => tbC w (tbfX10 w h)) hown hK hP 0 rfl rfl 2 (by decide) (hts (.fieldLink RX10 19 "PowerRails" "run" "LPowerRails$Run;") (tbC _ wd249)) (fun _ h9 => h9) rfl dX10_count_60 ?_
    refine va_get (D := D) (ci := 4) (v := .ref hy) (C := RX5) (T := TX5) (N := 14) hx hb hts (fun w h => tbC w (tbfX5 w h)) hown hK hP 6 rfl rfl 0 (by decide) (hts (.fieldLink RX10 187 "PowerRails$Run" "history" "LPowerRails$History;") (tbC _ wd107)) (fun _ h9 => h9) rfl dX10_count_63 ?_
    refine va_get (D := D) (ci := 1) (v := .int ysz) (C := RX2) (T := TX2) (N := 4) hx hb hts (fun w h => tbC w (tbfX2 w h)) hown hK hP 7 rfl rfl 3 (by decide) (hts (.fieldLink RX10 191 "PowerRails$History" "size" "I") (tbC _ wd105)) (fun _ h9 => h9) rfl dX10_count_66 ?_
    refine W.widen (k := 0) (n := 0) (by decide) (by decide) ?_
    exact W.iret (v := ysz) hx hb hr (fun t ht hW => ⟨⟨ysz, ysz, rfl, ⟨rfl, trivial⟩, ⟨hM, xB_of9 ht hW hP hK hD [0, 1, 2, 3, 4, 5, 6, 7] (by decide +kernel) rfl⟩⟩, hS.F ht⟩) hS.2.2 dX10_count_69
  have hM : M_x_count a0 rails dead ysz pn tl szs = (K_x_count_8 a0 rails pn tl szs) := (show M_x_count a0 rails dead ysz pn tl szs = (if (a0 : Int32).toInt = 2 then (K_x_count_7 ysz) else (K_x_count_8 a0 rails pn tl szs)) from hM).trans (if_neg i_1_2)
  by_cases i_1_3 : (a0 : Int32).toInt = 3
  · skip
    have hM : M_x_count a0 rails dead ysz pn tl szs = (K_x_count_9 rails pn) := (show M_x_count a0 rails dead ysz pn tl szs = (if (a0 : Int32).toInt = 3 then (K_x_count_9 rails pn) else (K_x_count_10 a0 tl szs)) from hM).trans (if_pos i_1_3)
    refine lv_tableIn (off := 69) (tgt := 70) hx hb dX10_count_1 (by omega) (by omega) (by rw [i_1_3]; rfl) (by decide) ?_
    refine lv_aload_n hx hb dX10_count_70 rfl (lv_at hl 0 rfl) ?_
    refine va_get (D := D) (ci := 9) (v := .ref pl) (C := RX10) (T := TX10) (N := 10) hx hb hts (fun w h => tbC w (tbfX10 w h)) hown hK hP 0 rfl rfl 7 (by decide) (hts (.fieldLink RX10 56 "PowerRails" "plan" "LPowerRails$Plan;") (tbC _ wd254)) (fun _ h9 => h9) rfl dX10_count_71 ?_
    obtain ⟨hPc, hDc, hFc, hC9⟩ := xpk (wc := W_countWays cI cJ cZ cG cH pl pna pta rails limit retry behind pn) hP hD hS hA [4, 5] (by decide +kernel) rfl
    refine va_calli (va_runV (As := []) (rest := []) ⟨hx, hb, hml, hown, hts⟩ (c_countWays l D cI cJ cZ cG cH s.heap.size pl pna pta rails limit retry behind pn (xrng rfl (by omega) (by omega)) (xwk_rng h_pn (by decide) (by decide))) (cwV 0 hts (xGV tbC wd545 wd546 wd547 wd59 wd1053) rfl rfl rfl (by decide +kernel) ⟨Nat.le_of_ble_eq_true rfl, Nat.le_of_ble_eq_true rfl⟩) ⟨xPc_blind, va_recv hK hPc (ci := 2) (q0 := 0) rfl rfl, xPc_pre hPc hK hDc⟩ rfl rfl hl.1 rfl (lv_room (Nat.le_of_ble_eq_true rfl)) dX10_count_74 ⟨Nat.le_of_ble_eq_true rfl, Nat.le_of_ble_eq_true rfl⟩) hS (fun q _ h => hFc q h) hFc (fun r3 u t H1 locs ht hvm hw3 hB hz1 hk1 hS => ?_)
    obtain ⟨hru9, hw3⟩ := hw3
    subst hru9
    obtain ⟨hf3_0, hP1, hK1, hD1⟩ := hB
    rw [ht] at hP1
    obtain ⟨hP, hD⟩ : xPD D A [oX10 xo tp rd rn co wy sg sh pl sp lf, oX8 tp tba tl, oX6 sh sca sla ssa, oAI ssa cI 4 szs, oX5 rn hy rsa ria raa rta rga dead key tick held tries trips ldraw gdraw, oX2 hy yaa yba yca ysz, oX3 pl pna pta rails limit retry behind, oAI pna cI 64 pn] H1 := xjn 6 hP hD [4, 5] [0, 1, 2, 3, 6, 7] hC9 rfl (by decide +kernel) (by decide +kernel) hk1 hFc hP1 hD1
    generalize H1 = H at hP hS ⊢
    have hf3_0 : M_countWays rails pn = (r3) := hf3_0
    have h9M := congrArg (fun t9 => (K_x_count_11 t9 rails pn)) hf3_0
    have hM : M_x_count a0 rails dead ysz pn tl szs = (K_x_count_11 r3 rails pn) := (show M_x_count a0 rails dead ysz pn tl szs = ((fun t9 => (K_x_count_11 t9 rails pn)) (M_countWays rails pn)) from hM).trans h9M
    refine lv_sipush (v := 20000) hx hb dX10_count_77 (by decide) ?_
    refine lv_icmp_le (tgt := 88) hx hb dX10_count_80 (by decide) (fun c_4 => ?_) (fun c_4 => ?_)
    · skip
      have i_4 : r3.toInt ≤ 20000 := (ile rfl (by decide)).mp c_4
      have hM : M_x_count a0 rails dead ysz pn tl szs = (K_x_count_12 rails pn) := (show M_x_count a0 rails dead ysz pn tl szs = (if r3.toInt ≤ 20000 then (K_x_count_12 rails pn) else (K_x_count_13)) from hM).trans (if_pos i_4)
      refine lv_aload_n hx hb dX10_count_88 rfl (lv_at hl 0 rfl) ?_
      refine va_get (D := D) (ci := 9) (v := .ref pl) (C := RX10) (T := TX10) (N := 10) hx hb hts (fun w h => tbC w (tbfX10 w h)) hown hK hP 0 rfl rfl 7 (by decide) (hts (.fieldLink RX10 56 "PowerRails" "plan" "LPowerRails$Plan;") (tbC _ wd254)) (fun _ h9 => h9) rfl dX10_count_89 ?_
      obtain ⟨hPc, hDc, hFc, hC9⟩ := xpk (wc := W_countWays cI cJ cZ cG cH pl pna pta rails limit retry behind pn) hP hD hS hA [6, 7] (by decide +kernel) rfl
      refine va_calli (va_runV (As := []) (rest := []) ⟨hx, hb, hml, hown, hts⟩ (c_countWays l D cI cJ cZ cG cH H.size pl pna pta rails limit retry behind pn (xrng rfl (by omega) (by omega)) (xwk_rng h_pn (by decide) (by decide))) (cwV 0 hts (xGV tbC wd545 wd546 wd547 wd59 wd1053) rfl rfl rfl (by decide +kernel) ⟨Nat.le_of_ble_eq_true rfl, Nat.le_of_ble_eq_true rfl⟩) ⟨xPc_blind, va_recv hK hPc (ci := 2) (q0 := 0) rfl rfl, xPc_pre hPc hK hDc⟩ rfl rfl hl.1 rfl (lv_room (Nat.le_of_ble_eq_true rfl)) dX10_count_92 ⟨Nat.le_of_ble_eq_true rfl, Nat.le_of_ble_eq_true rfl⟩) hS (fun q _ h => hFc q h) hFc (fun r5 u t H1 locs ht hvm hw5 hB hz1 hk1 hS => ?_)
      obtain ⟨hru9, hw5⟩ := hw5
      subst hru9
      obtain ⟨hf5_0, hP1, hK1, hD1⟩ := hB
      rw [ht] at hP1
      obtain ⟨hP, hD⟩ : xPD D A [oX10 xo tp rd rn co wy sg sh pl sp lf, oX8 tp tba tl, oX6 sh sca sla ssa, oAI ssa cI 4 szs, oX5 rn hy rsa ria raa rta rga dead key tick held tries trips ldraw gdraw, oX2 hy yaa yba yca ysz, oX3 pl pna pta rails limit retry behind, oAI pna cI 64 pn] H1 := xjn 6 hP hD [6, 7] [0, 1, 2, 3, 4, 5] hC9 rfl (by decide +kernel) (by decide +kernel) hk1 hFc hP1 hD1
      generalize H1 = H at hP hS ⊢
      have hf5_0 : M_countWays rails pn = (r5) := hf5_0
      have h9M := congrArg (fun t9 => (K_x_count_14 t9)) hf5_0
      have hM : M_x_count a0 rails dead ysz pn tl szs = (K_x_count_14 r5) := (show M_x_count a0 rails dead ysz pn tl szs = ((fun t9 => (K_x_count_14 t9)) (M_countWays rails pn)) from hM).trans h9M
      refine W.widen (k := 0) (n := 0) (by decide) (by decide) ?_
      exact W.iret (v := r5) hx hb hr (fun t ht hW => ⟨⟨r5, r5, rfl, ⟨rfl, trivial⟩, ⟨hM, xB_of9 ht hW hP hK hD [0, 1, 2, 3, 6, 7, 4, 5] (by decide +kernel) rfl⟩⟩, hS.F ht⟩) hS.2.2 dX10_count_95
    · skip
      have i_4 : ¬ (r3.toInt ≤ 20000) := fun h9 => c_4 ((ile rfl (by decide)).mpr h9)
      have hM : M_x_count a0 rails dead ysz pn tl szs = (K_x_count_13) := (show M_x_count a0 rails dead ysz pn tl szs = (if r3.toInt ≤ 20000 then (K_x_count_12 rails pn) else (K_x_count_13)) from hM).trans (if_neg i_4)
      refine lv_bipush (v := (-6)) hx hb dX10_count_83 (by decide) ?_
      refine lv_goto (tgt := 95) hx hb dX10_count_85 (by decide) ?_
      refine W.widen (k := 0) (n := 0) (by decide) (by decide) ?_
      exact W.iret (v := (-6)) hx hb hr (fun t ht hW => ⟨⟨(-6), (-6), rfl, ⟨rfl, trivial⟩, ⟨hM, xB_of9 ht hW hP hK hD [0, 1, 2, 3, 6, 7, 4, 5] (by decide +kernel) rfl⟩⟩, hS.F ht⟩) hS.2.2 dX10_count_95
  have hM : M_x_count a0 rails dead ysz pn tl szs = (K_x_count_10 a0 tl szs) := (show M_x_count a0 rails dead ysz pn tl szs = (if (a0 : Int32).toInt = 3 then (K_x_count_9 rails pn) else (K_x_count_10 a0 tl szs)) from hM).trans (if_neg i_1_3)
  by_cases i_1_4 : (a0 : Int32).toInt = 4
  · skip
    have hM : M_x_count a0 rails dead ysz pn tl szs = (K_x_count_15 tl) := (show M_x_count a0 rails dead ysz pn tl szs = (if (a0 : Int32).toInt = 4 then (K_x_count_15 tl) else (K_x_count_16 a0 szs)) from hM).trans (if_pos i_1_4)
    refine lv_tableIn (off := 95) (tgt := 96) hx hb dX10_count_1 (by omega) (by omega) (by rw [i_1_4]; rfl) (by decide) ?_
    refine lv_aload_n hx hb dX10_count_96 rfl (lv_at hl 0 rfl) ?_
    refine va_get (D := D) (ci := 9) (v := .ref tp) (C := RX10) (T := TX10) (N := 10) hx hb hts (fun w h => tbC w (tbfX10 w h)) hown hK hP 0 rfl rfl 0 (by decide) (hts (.fieldLink RX10 10 "PowerRails" "tape" "LPowerRails$Tape;") (tbC _ wd247)) (fun _ h9 => h9) rfl dX10_count_97 ?_
    refine va_get (D := D) (ci := 7) (v := .int tl) (C := RX8) (T := TX8) (N := 2) hx hb hts (fun w h => tbC w (tbfX8 w h)) hown hK hP 1 rfl rfl 1 (by decide) (hts (.fieldLink RX10 80 "PowerRails$Tape" "length" "I") (tbC _ wd84)) (fun _ h9 => h9) rfl dX10_count_100 ?_
    refine W.widen (k := 0) (n := 0) (by decide) (by decide) ?_
    exact W.iret (v := tl) hx hb hr (fun t ht hW => ⟨⟨tl, tl, rfl, ⟨rfl, trivial⟩, ⟨hM, xB_of9 ht hW hP hK hD [0, 1, 2, 3, 4, 5, 6, 7] (by decide +kernel) rfl⟩⟩, hS.F ht⟩) hS.2.2 dX10_count_103
  have hM : M_x_count a0 rails dead ysz pn tl szs = (K_x_count_16 a0 szs) := (show M_x_count a0 rails dead ysz pn tl szs = (if (a0 : Int32).toInt = 4 then (K_x_count_15 tl) else (K_x_count_16 a0 szs)) from hM).trans (if_neg i_1_4)
  by_cases i_1_5 : (a0 : Int32).toInt = 5
  · skip
    have hM : M_x_count a0 rails dead ysz pn tl szs = (K_x_count_17 szs) := (show M_x_count a0 rails dead ysz pn tl szs = (if (a0 : Int32).toInt = 5 then (K_x_count_17 szs) else (K_x_count_18)) from hM).trans (if_pos i_1_5)
    refine lv_tableIn (off := 103) (tgt := 104) hx hb dX10_count_1 (by omega) (by omega) (by rw [i_1_5]; rfl) (by decide) ?_
    refine lv_aload_n hx hb dX10_count_104 rfl (lv_at hl 0 rfl) ?_
    refine va_get (D := D) (ci := 9) (v := .ref sh) (C := RX10) (T := TX10) (N := 10) hx hb hts (fun w h => tbC w (tbfX10 w h)) hown hK hP 0 rfl rfl 6 (by decide) (hts (.fieldLink RX10 49 "PowerRails" "sheets" "LPowerRails$Sheets;") (tbC _ wd253)) (fun _ h9 => h9) rfl dX10_count_105 ?_
    refine va_get (D := D) (ci := 5) (v := .ref ssa) (C := RX6) (T := TX6) (N := 3) hx hb hts (fun w h => tbC w (tbfX6 w h)) hown hK hP 2 rfl rfl 2 (by decide) (hts (.fieldLink RX10 305 "PowerRails$Sheets" "sizes" "[I") (tbC _ wd196)) (fun _ h9 => h9) rfl dX10_count_108 ?_
    refine lv_iconst (v := 0) hx hb dX10_count_111 (by decide) ?_
    refine va_iald hx hb hK hP 3 0 rfl rfl (xin (by decide) (by decide)) dX10_count_112 ?_
    refine lv_topi (fun v6 ev6 => ?_)
    have ev6 : v6 = szs 0 := ev6
    have rv6 : (-4) ≤ v6.toInt ∧ v6.toInt ≤ 40 := xrd ev6 h_szs (by decide)
    refine W.widen (k := 0) (n := 0) (by decide) (by decide) ?_
    exact W.iret (v := v6) hx hb hr (fun t ht hW => ⟨⟨v6, v6, rfl, ⟨rfl, trivial⟩, ⟨(by rw [ev6]; exact hM), xB_of9 ht hW hP hK hD [0, 1, 2, 3, 4, 5, 6, 7] (by decide +kernel) rfl⟩⟩, hS.F ht⟩) hS.2.2 dX10_count_113
  have hM : M_x_count a0 rails dead ysz pn tl szs = (K_x_count_18) := (show M_x_count a0 rails dead ysz pn tl szs = (if (a0 : Int32).toInt = 5 then (K_x_count_17 szs) else (K_x_count_18)) from hM).trans (if_neg i_1_5)
  refine lv_tableOut (tgt := 114) hx hb dX10_count_1 (by omega) (by decide) ?_
  refine lv_iconst (v := (-1)) hx hb dX10_count_114 (by decide) ?_
  refine W.widen (k := 0) (n := 0) (by decide) (by decide) ?_
  exact W.iret (v := (-1)) hx hb hr (fun t ht hW => ⟨⟨(-1), (-1), rfl, ⟨rfl, trivial⟩, ⟨hM, xB_of9 ht hW hP hK hD [0, 1, 2, 3, 4, 5, 6, 7] (by decide +kernel) rfl⟩⟩, hS.F ht⟩) hS.2.2 dX10_count_115
