def sp_b (b0 : Int32) : Int32 := if b0.toInt = 0 then 0 else 1
abbrev W_asNumber (cI cJ cZ cG cH : ClassId) (b0 : Int32) : va_W := []
abbrev Q_asNumber (D : va_G) (cI cJ cZ cG cH : ClassId) (b0 : Int32) (A : Nat → Prop) : Array Value → State → Outcome → State → Prop := va_Qi (fun (r : Int32) (_ : Unit) => r = sp_b b0) (fun _ t => xB D (tyL cI cJ cZ cG cH) [] A t) A
abbrev rm_asNumber : Room := { frames := 0, cells := 0, slots := 0, locals := 0 }
set_option maxRecDepth 100000 in
set_option maxHeartbeats 40000000 in
theorem c_asNumber (l : Launch) (D : va_G) (cI cJ cZ cG cH : ClassId) (sz : Nat) (b0 : Int32) : Met l yX10_asNumber (wt yX10_asNumber cX10_asNumber 1 (some .int)) rm_asNumber (xPc [.int b0] D (tyL cI cJ cZ cG cH) (W_asNumber cI cJ cZ cG cH b0) sz) (Q_asNumber D cI cJ cZ cG cH b0 (va_A (W_asNumber cI cJ cZ cG cH b0) sz)) 0 0 (va_A (W_asNumber cI cJ cZ cG cH b0) sz) := by
  refine xMet (cc := cX10_asNumber) (maxL := 1) (ret := (some .int)) (Qf := Q_asNumber D cI cJ cZ cG cH b0) (by decide) rfl (Nat.le_of_ble_eq_true rfl) ?_
  intro p e s m below meth c ls A hx hb hr hml hts hown hlocks hnm hsz hP hK hD hA hS hl
  have hown : s.vm.findClass RX10 = some m.cls := hown
  have hP : va_P D vwCl [] s.heap := hP
  have hD : va_D A [] := hD
  have hl : lv_has ls 1 [(0, .int b0)] := hl
  refine lv_iload_n hx hb dX10_asNumber_0 rfl (lv_at hl 0 rfl) ?_
  refine lv_if_eq (tgt := 8) hx hb dX10_asNumber_1 (by decide) (fun c_1 => ?_) (fun c_1 => ?_)
  · skip
    have i_1 : b0.toInt = 0 := (ieq rfl (by decide)).mp c_1
    refine lv_iconst (v := 0) hx hb dX10_asNumber_8 (by decide) ?_
    refine W.widen (k := 0) (n := 0) (by decide) (by decide) ?_
    exact W.iret (v := 0) hx hb hr (fun t ht hW => ⟨⟨0, (), rfl, (by unfold sp_b; repeat (first | rw [if_pos (by omega)] | rw [if_neg (by omega)])), xB_of9 ht hW hP hK hD [] (by decide +kernel) rfl⟩, hS.F ht⟩) hS.2.2 dX10_asNumber_9
  · skip
    have i_1 : ¬ (b0.toInt = 0) := fun h9 => c_1 ((ieq rfl (by decide)).mpr h9)
    refine lv_iconst (v := 1) hx hb dX10_asNumber_4 (by decide) ?_
    refine lv_goto (tgt := 9) hx hb dX10_asNumber_5 (by decide) ?_
    refine W.widen (k := 0) (n := 0) (by decide) (by decide) ?_
    exact W.iret (v := 1) hx hb hr (fun t ht hW => ⟨⟨1, (), rfl, (by unfold sp_b; repeat (first | rw [if_pos (by omega)] | rw [if_neg (by omega)])), xB_of9 ht hW hP hK hD [] (by decide +kernel) rfl⟩, hS.F ht⟩) hS.2.2 dX10_asNumber_9
def K_alive_2 (r1 : Int32) (dead : Int32) : (Int32) := ((r1 &&& (dead ^^^ (-1 : Int32))))
def K_alive_1 (dead : Int32) (rails : Int32) : (Int32) := ((fun t9 => (K_alive_2 t9 dead)) (M_allRails rails))
def M_alive (dead : Int32) (rails : Int32) : (Int32) := (K_alive_1 dead rails)
abbrev W_alive (cI cJ cZ cG cH : ClassId) (xo : Nat) (tp : Nat) (rd : Nat) (rn : Nat) (co : Nat) (wy : Nat) (sg : Nat) (sh : Nat) (pl : Nat) (sp : Nat) (lf : Int32) (pna : Nat) (pta : Nat) (rails : Int32) (limit : Int32) (retry : Int32) (behind : Int32) (hy : Nat) (rsa : Nat) (ria : Nat) (raa : Nat) (rta : Nat) (rga : Nat) (dead : Int32) (key : Int32) (tick : Int32) (held : Int32) (tries : Int32) (trips : Int32) (ldraw : Int32) (gdraw : Int32) : va_W := [oX10 xo tp rd rn co wy sg sh pl sp lf, oX3 pl pna pta rails limit retry behind, oX5 rn hy rsa ria raa rta rga dead key tick held tries trips ldraw gdraw]
abbrev Q_alive (D : va_G) (cI cJ cZ cG cH : ClassId) (xo : Nat) (tp : Nat) (rd : Nat) (rn : Nat) (co : Nat) (wy : Nat) (sg : Nat) (sh : Nat) (pl : Nat) (sp : Nat) (lf : Int32) (pna : Nat) (pta : Nat) (rails : Int32) (limit : Int32) (retry : Int32) (behind : Int32) (hy : Nat) (rsa : Nat) (ria : Nat) (raa : Nat) (rta : Nat) (rga : Nat) (dead : Int32) (key : Int32) (tick : Int32) (held : Int32) (tries : Int32) (trips : Int32) (ldraw : Int32) (gdraw : Int32) (A : Nat → Prop) : Array Value → State → Outcome → State → Prop := va_Qi (fun (r : Int32) (u9 : Int32) => r = u9 ∧ (0 ≤ r.toInt ∧ r.toInt ≤ 255)) (fun u9 t => (M_alive dead rails = (u9)) ∧ xB D (tyL cI cJ cZ cG cH) [oX10 xo tp rd rn co wy sg sh pl sp lf, oX3 pl pna pta rails limit retry behind, oX5 rn hy rsa ria raa rta rga dead key tick held tries trips ldraw gdraw] A t) A
abbrev rm_alive : Room := { frames := 1, cells := 0, slots := 0, locals := 20 }
set_option maxRecDepth 100000 in
set_option maxHeartbeats 40000000 in
theorem c_alive (l : Launch) (D : va_G) (cI cJ cZ cG cH : ClassId) (sz : Nat) (xo : Nat) (tp : Nat) (rd : Nat) (rn : Nat) (co : Nat) (wy : Nat) (sg : Nat) (sh : Nat) (pl : Nat) (sp : Nat) (lf : Int32) (pna : Nat) (pta : Nat) (rails : Int32) (limit : Int32) (retry : Int32) (behind : Int32) (hy : Nat) (rsa : Nat) (ria : Nat) (raa : Nat) (rta : Nat) (rga : Nat) (dead : Int32) (key : Int32) (tick : Int32) (held : Int32) (tries : Int32) (trips : Int32) (ldraw : Int32) (gdraw : Int32) (h_rails : 0 ≤ rails.toInt ∧ rails.toInt ≤ 8) (h_key : 0 ≤ key.toInt ∧ key.toInt ≤ 1) : Met l yX10_alive (wt yX10_alive cX10_alive 1 (some .int)) rm_alive (xPc [.ref xo] D (tyL cI cJ cZ cG cH) (W_alive cI cJ cZ cG cH xo tp rd rn co wy sg sh pl sp lf pna pta rails limit retry behind hy rsa ria raa rta rga dead key tick held tries trips ldraw gdraw) sz) (Q_alive D cI cJ cZ cG cH xo tp rd rn co wy sg sh pl sp lf pna pta rails limit retry behind hy rsa ria raa rta rga dead key tick held tries trips ldraw gdraw (va_A (W_alive cI cJ cZ cG cH xo tp rd rn co wy sg sh pl sp lf pna pta rails limit retry behind hy rsa ria raa rta rga dead key tick held tries trips ldraw gdraw) sz)) 0 0 (va_A (W_alive cI cJ cZ cG cH xo tp rd rn co wy sg sh pl sp lf pna pta rails limit retry behind hy rsa ria raa rta rga dead key tick held tries trips ldraw gdraw) sz) := by
  refine xMet (cc := cX10_alive) (maxL := 1) (ret := (some .int)) (Qf := Q_alive D cI cJ cZ cG cH xo tp rd rn co wy sg sh pl sp lf pna pta rails limit retry behind hy rsa ria raa rta rga dead key tick held tries trips ldraw gdraw) (by decide) rfl (Nat.le_of_ble_eq_true rfl) ?_
  intro p e s m below meth c ls A hx hb hr hml hts hown hlocks hnm hsz hP hK hD hA hS hl
  have hown : s.vm.findClass RX10 = some m.cls := hown
  have hP : va_P D vwCl [oX10 xo tp rd rn co wy sg sh pl sp lf, oX3 pl pna pta rails limit retry behind, oX5 rn hy rsa ria raa rta rga dead key tick held tries trips ldraw gdraw] s.heap := hP
  have hD : va_D A [oX10 xo tp rd rn co wy sg sh pl sp lf, oX3 pl pna pta rails limit retry behind, oX5 rn hy rsa ria raa rta rga dead key tick held tries trips ldraw gdraw] := hD
  have hl : lv_has ls 1 [(0, .ref xo)] := hl
  have hM : M_alive dead rails = (K_alive_1 dead rails) := rfl
  refine lv_aload_n hx hb dX10_alive_0 rfl (lv_at hl 0 rfl) ?_
  refine va_get (D := D) (ci := 9) (v := .ref pl) (C := RX10) (T := TX10) (N := 10) hx hb hts (fun w h => tbC w (tbfX10 w h)) hown hK hP 0 rfl rfl 7 (by decide) (hts (.fieldLink RX10 56 "PowerRails" "plan" "LPowerRails$Plan;") (tbC _ wd254)) (fun _ h9 => h9) rfl dX10_alive_1 ?_
  obtain ⟨hPc, hDc, hFc, hC9⟩ := xpk (wc := W_allRails cI cJ cZ cG cH pl pna pta rails limit retry behind) hP hD hS hA [1] (by decide +kernel) rfl
  refine va_calli (va_runV (As := []) (rest := []) ⟨hx, hb, hml, hown, hts⟩ (c_allRails l D cI cJ cZ cG cH s.heap.size pl pna pta rails limit retry behind (xrng rfl (by omega) (by omega))) (cwV 0 hts (xGV tbC wd419 wd420 wd421 wd59 wd1012) rfl rfl rfl (by decide +kernel) ⟨Nat.le_of_ble_eq_true rfl, Nat.le_of_ble_eq_true rfl⟩) ⟨xPc_blind, va_recv hK hPc (ci := 2) (q0 := 0) rfl rfl, xPc_pre hPc hK hDc⟩ rfl rfl hl.1 rfl (lv_room (Nat.le_of_ble_eq_true rfl)) dX10_alive_4 ⟨Nat.le_of_ble_eq_true rfl, Nat.le_of_ble_eq_true rfl⟩) hS (fun q _ h => hFc q h) hFc (fun r1 u t H1 locs ht hvm hw1 hB hz1 hk1 hS => ?_)
  obtain ⟨hru9, hw1⟩ := hw1
  subst hru9
  obtain ⟨hf1_0, hP1, hK1, hD1⟩ := hB
  rw [ht] at hP1
  obtain ⟨hP, hD⟩ : xPD D A [oX10 xo tp rd rn co wy sg sh pl sp lf, oX5 rn hy rsa ria raa rta rga dead key tick held tries trips ldraw gdraw, oX3 pl pna pta rails limit retry behind] H1 := xjn 2 hP hD [1] [0, 2] hC9 rfl (by decide +kernel) (by decide +kernel) hk1 hFc hP1 hD1
  generalize H1 = H at hP hS ⊢
  have hf1_0 : M_allRails rails = (r1) := hf1_0
  have hw1 : 0 ≤ r1.toInt ∧ r1.toInt ≤ 255 := hw1
  have h9M := congrArg (fun t9 => (K_alive_2 t9 dead)) hf1_0
  have hM : M_alive dead rails = (K_alive_2 r1 dead) := (show M_alive dead rails = ((fun t9 => (K_alive_2 t9 dead)) (M_allRails rails)) from hM).trans h9M
  refine lv_aload_n hx hb dX10_alive_7 rfl (lv_at hl 0 rfl) ?_
  refine va_get (D := D) (ci := 9) (v := .ref rn) (C := RX10) (T := TX10) (N := 10) hx hb hts (fun w h => tbC w (tbfX10 w h)) hown hK hP 0 rfl rfl 2 (by decide) (hts (.fieldLink RX10 19 "PowerRails" "run" "LPowerRails$Run;") (tbC _ wd249)) (fun _ h9 => h9) rfl dX10_alive_8 ?_
  refine va_get (D := D) (ci := 4) (v := .int dead) (C := RX5) (T := TX5) (N := 14) hx hb hts (fun w h => tbC w (tbfX5 w h)) hown hK hP 1 rfl rfl 6 (by decide) (hts (.fieldLink RX10 147 "PowerRails$Run" "dead" "I") (tbC _ wd118)) (fun _ h9 => h9) rfl dX10_alive_11 ?_
  refine lv_iconst (v := (-1)) hx hb dX10_alive_14 (by decide) ?_
  refine lv_ixor hx hb dX10_alive_15 ?_
  refine lv_topi (fun v2 ev2 => ?_)
  refine lv_iand hx hb dX10_alive_16 ?_
  refine lv_topi (fun v3 ev3 => ?_)
  have rv3 : 0 ≤ v3.toInt ∧ v3.toInt ≤ r1.toInt := xandL' ev3 (show (r1 : Int32).toInt = r1.toInt from rfl) (by omega)
  refine W.widen (k := 0) (n := 0) (by decide) (by decide) ?_
  exact W.iret (v := v3) hx hb hr (fun t ht hW => ⟨⟨v3, v3, rfl, ⟨rfl, (xrng rfl (by omega) (by omega))⟩, ⟨(by rw [ev3, ev2]; exact hM), xB_of9 ht hW hP hK hD [0, 2, 1] (by decide +kernel) rfl⟩⟩, hS.F ht⟩) hS.2.2 dX10_alive_17
def K_canBeUp_5  : (Int32) := ((1 : Int32))
def K_canBeUp_4  : (Int32) := ((0 : Int32))
def K_canBeUp_3 (r2 : Int32) (a0 : Int32) : (Int32) := (if ((r2 >>> (a0 &&& 31)) &&& (1 : Int32)).toInt = 1 then (K_canBeUp_5) else (K_canBeUp_4))
def K_canBeUp_2 (a0 : Int32) (rails : Int32) (r1 : Int32) (pt : Nat → Int64) : (Int32) := ((fun t9 => (K_canBeUp_3 t9 a0)) (M_upAmong rails r1 pt))
def K_canBeUp_1 (a0 : Int32) (rails : Int32) (pt : Nat → Int64) (dead : Int32) : (Int32) := ((fun t9 => (K_canBeUp_2 a0 rails t9 pt)) (M_alive dead rails))
def M_canBeUp (a0 : Int32) (rails : Int32) (pt : Nat → Int64) (dead : Int32) : (Int32) := (K_canBeUp_1 a0 rails pt dead)
abbrev W_canBeUp (cI cJ cZ cG cH : ClassId) (xo : Nat) (a0 : Int32) (tp : Nat) (rd : Nat) (rn : Nat) (co : Nat) (wy : Nat) (sg : Nat) (sh : Nat) (pl : Nat) (sp : Nat) (lf : Int32) (pna : Nat) (pta : Nat) (rails : Int32) (limit : Int32) (retry : Int32) (behind : Int32) (pt : Nat → Int64) (hy : Nat) (rsa : Nat) (ria : Nat) (raa : Nat) (rta : Nat) (rga : Nat) (dead : Int32) (key : Int32) (tick : Int32) (held : Int32) (tries : Int32) (trips : Int32) (ldraw : Int32) (gdraw : Int32) : va_W := [oX10 xo tp rd rn co wy sg sh pl sp lf, oX3 pl pna pta rails limit retry behind, oAJ pta cJ 64 pt, oX5 rn hy rsa ria raa rta rga dead key tick held tries trips ldraw gdraw]
abbrev Q_canBeUp (D : va_G) (cI cJ cZ cG cH : ClassId) (xo : Nat) (a0 : Int32) (tp : Nat) (rd : Nat) (rn : Nat) (co : Nat) (wy : Nat) (sg : Nat) (sh : Nat) (pl : Nat) (sp : Nat) (lf : Int32) (pna : Nat) (pta : Nat) (rails : Int32) (limit : Int32) (retry : Int32) (behind : Int32) (pt : Nat → Int64) (hy : Nat) (rsa : Nat) (ria : Nat) (raa : Nat) (rta : Nat) (rga : Nat) (dead : Int32) (key : Int32) (tick : Int32) (held : Int32) (tries : Int32) (trips : Int32) (ldraw : Int32) (gdraw : Int32) (A : Nat → Prop) : Array Value → State → Outcome → State → Prop := va_Qi (fun (r : Int32) (u9 : Int32) => r = u9 ∧ (0 ≤ r.toInt ∧ r.toInt ≤ 1)) (fun u9 t => (M_canBeUp a0 rails pt dead = (u9)) ∧ xB D (tyL cI cJ cZ cG cH) [oX10 xo tp rd rn co wy sg sh pl sp lf, oX3 pl pna pta rails limit retry behind, oAJ pta cJ 64 pt, oX5 rn hy rsa ria raa rta rga dead key tick held tries trips ldraw gdraw] A t) A
abbrev rm_canBeUp : Room := { frames := 2, cells := 0, slots := 0, locals := 47 }
set_option maxRecDepth 100000 in
set_option maxHeartbeats 40000000 in
theorem c_canBeUp (l : Launch) (D : va_G) (cI cJ cZ cG cH : ClassId) (sz : Nat) (xo : Nat) (a0 : Int32) (tp : Nat) (rd : Nat) (rn : Nat) (co : Nat) (wy : Nat) (sg : Nat) (sh : Nat) (pl : Nat) (sp : Nat) (lf : Int32) (pna : Nat) (pta : Nat) (rails : Int32) (limit : Int32) (retry : Int32) (behind : Int32) (pt : Nat → Int64) (hy : Nat) (rsa : Nat) (ria : Nat) (raa : Nat) (rta : Nat) (rga : Nat) (dead : Int32) (key : Int32) (tick : Int32) (held : Int32) (tries : Int32) (trips : Int32) (ldraw : Int32) (gdraw : Int32) (h_rails : 0 ≤ rails.toInt ∧ rails.toInt ≤ 8) (h_key : 0 ≤ key.toInt ∧ key.toInt ≤ 1) : Met l yX10_canBeUp (wt yX10_canBeUp cX10_canBeUp 2 (some .boolean)) rm_canBeUp (xPc [.ref xo, .int a0] D (tyL cI cJ cZ cG cH) (W_canBeUp cI cJ cZ cG cH xo a0 tp rd rn co wy sg sh pl sp lf pna pta rails limit retry behind pt hy rsa ria raa rta rga dead key tick held tries trips ldraw gdraw) sz) (Q_canBeUp D cI cJ cZ cG cH xo a0 tp rd rn co wy sg sh pl sp lf pna pta rails limit retry behind pt hy rsa ria raa rta rga dead key tick held tries trips ldraw gdraw (va_A (W_canBeUp cI cJ cZ cG cH xo a0 tp rd rn co wy sg sh pl sp lf pna pta rails limit retry behind pt hy rsa ria raa rta rga dead key tick held tries trips ldraw gdraw) sz)) 0 0 (va_A (W_canBeUp cI cJ cZ cG cH xo a0 tp rd rn co wy sg sh pl sp lf pna pta rails limit retry behind pt hy rsa ria raa rta rga dead key tick held tries trips ldraw gdraw) sz) := by
  refine xMet (cc := cX10_canBeUp) (maxL := 2) (ret := (some .boolean)) (Qf := Q_canBeUp D cI cJ cZ cG cH xo a0 tp rd rn co wy sg sh pl sp lf pna pta rails limit retry behind pt hy rsa ria raa rta rga dead key tick held tries trips ldraw gdraw) (by decide) rfl (Nat.le_of_ble_eq_true rfl) ?_
  intro p e s m below meth c ls A hx hb hr hml hts hown hlocks hnm hsz hP hK hD hA hS hl
  have hown : s.vm.findClass RX10 = some m.cls := hown
  have hP : va_P D vwCl [oX10 xo tp rd rn co wy sg sh pl sp lf, oX3 pl pna pta rails limit retry behind, oAJ pta cJ 64 pt, oX5 rn hy rsa ria raa rta rga dead key tick held tries trips ldraw gdraw] s.heap := hP
  have hD : va_D A [oX10 xo tp rd rn co wy sg sh pl sp lf, oX3 pl pna pta rails limit retry behind, oAJ pta cJ 64 pt, oX5 rn hy rsa ria raa rta rga dead key tick held tries trips ldraw gdraw] := hD
  have hl : lv_has ls 2 [(0, .ref xo), (1, .int a0)] := hl
  have hM : M_canBeUp a0 rails pt dead = (K_canBeUp_1 a0 rails pt dead) := rfl
  refine lv_aload_n hx hb dX10_canBeUp_0 rfl (lv_at hl 0 rfl) ?_
  refine va_get (D := D) (ci := 9) (v := .ref pl) (C := RX10) (T := TX10) (N := 10) hx hb hts (fun w h => tbC w (tbfX10 w h)) hown hK hP 0 rfl rfl 7 (by decide) (hts (.fieldLink RX10 56 "PowerRails" "plan" "LPowerRails$Plan;") (tbC _ wd254)) (fun _ h9 => h9) rfl dX10_canBeUp_1 ?_
  refine lv_aload_n hx hb dX10_canBeUp_4 rfl (lv_at hl 0 rfl) ?_
  obtain ⟨hPc, hDc, hFc, hC9⟩ := xpk (wc := W_alive cI cJ cZ cG cH xo tp rd rn co wy sg sh pl sp lf pna pta rails limit retry behind hy rsa ria raa rta rga dead key tick held tries trips ldraw gdraw) hP hD hS hA [0, 1, 3] (by decide +kernel) rfl
  refine va_calli (va_runV (As := []) (rest := [.ref pl]) ⟨hx, hb, hml, hown, hts⟩ (c_alive l D cI cJ cZ cG cH s.heap.size xo tp rd rn co wy sg sh pl sp lf pna pta rails limit retry behind hy rsa ria raa rta rga dead key tick held tries trips ldraw gdraw (xrng rfl (by omega) (by omega)) (xrng rfl (by omega) (by omega))) (cwV 0 hts (xGV tbC wd523 wd524 wd2 wd50 wd1046) rfl rfl rfl (by decide +kernel) ⟨Nat.le_of_ble_eq_true rfl, Nat.le_of_ble_eq_true rfl⟩) ⟨xPc_blind, va_recv hK hPc (ci := 9) (q0 := 0) rfl rfl, xPc_pre hPc hK hDc⟩ rfl rfl hl.1 rfl (lv_room (Nat.le_of_ble_eq_true rfl)) dX10_canBeUp_5 ⟨Nat.le_of_ble_eq_true rfl, Nat.le_of_ble_eq_true rfl⟩) hS (fun q _ h => hFc q h) hFc (fun r1 u t H1 locs ht hvm hw1 hB hz1 hk1 hS => ?_)
  obtain ⟨hru9, hw1⟩ := hw1
  subst hru9
  obtain ⟨hf1_0, hP1, hK1, hD1⟩ := hB
  rw [ht] at hP1
  obtain ⟨hP, hD⟩ : xPD D A [oAJ pta cJ 64 pt, oX10 xo tp rd rn co wy sg sh pl sp lf, oX3 pl pna pta rails limit retry behind, oX5 rn hy rsa ria raa rta rga dead key tick held tries trips ldraw gdraw] H1 := xjn 1 hP hD [0, 1, 3] [2] hC9 rfl (by decide +kernel) (by decide +kernel) hk1 hFc hP1 hD1
  generalize H1 = H at hP hS ⊢
  have hf1_0 : M_alive dead rails = (r1) := hf1_0
  have hw1 : 0 ≤ r1.toInt ∧ r1.toInt ≤ 255 := hw1
  have h9M := congrArg (fun t9 => (K_canBeUp_2 a0 rails t9 pt)) hf1_0
  have hM : M_canBeUp a0 rails pt dead = (K_canBeUp_2 a0 rails r1 pt) := (show M_canBeUp a0 rails pt dead = ((fun t9 => (K_canBeUp_2 a0 rails t9 pt)) (M_alive dead rails)) from hM).trans h9M
  obtain ⟨hPc, hDc, hFc, hC9⟩ := xpk (wc := W_upAmong cI cJ cZ cG cH pl r1 pna pta rails limit retry behind pt) hP hD hS hA [2, 0] (by decide +kernel) rfl
  refine va_calli (va_runV (As := [.int r1]) (rest := []) ⟨hx, hb, hml, hown, hts⟩ (c_upAmong l D cI cJ cZ cG cH H.size pl r1 pna pta rails limit retry behind pt (xrng rfl (by omega) (by omega))) (cwV 1 hts (xGV tbC wd507 wd508 wd509 wd59 wd1041) rfl rfl rfl (by decide +kernel) ⟨Nat.le_of_ble_eq_true rfl, Nat.le_of_ble_eq_true rfl⟩) ⟨xPc_blind, va_recv hK hPc (ci := 2) (q0 := 0) rfl rfl, xPc_pre hPc hK hDc⟩ rfl rfl hl.1 rfl (lv_room (Nat.le_of_ble_eq_true rfl)) dX10_canBeUp_8 ⟨Nat.le_of_ble_eq_true rfl, Nat.le_of_ble_eq_true rfl⟩) hS (fun q _ h => hFc q h) hFc (fun r2 u t H1 locs ht hvm hw2 hB hz1 hk1 hS => ?_)
  obtain ⟨hru9, hw2⟩ := hw2
  subst hru9
  obtain ⟨hf2_0, hP1, hK1, hD1⟩ := hB
  rw [ht] at hP1
  obtain ⟨hP, hD⟩ : xPD D A [oX10 xo tp rd rn co wy sg sh pl sp lf, oX5 rn hy rsa ria raa rta rga dead key tick held tries trips ldraw gdraw, oX3 pl pna pta rails limit retry behind, oAJ pta cJ 64 pt] H1 := xjn 2 hP hD [2, 0] [1, 3] hC9 rfl (by decide +kernel) (by decide +kernel) hk1 hFc hP1 hD1
  generalize H1 = H at hP hS ⊢
  have hf2_0 : M_upAmong rails r1 pt = (r2) := hf2_0
  have hw2 : 0 ≤ r2.toInt ∧ r2.toInt ≤ 255 := hw2
  have h9M := congrArg (fun t9 => (K_canBeUp_3 t9 a0)) hf2_0
  have hM : M_canBeUp a0 rails pt dead = (K_canBeUp_3 r2 a0) := (show M_canBeUp a0 rails pt dead = ((fun t9 => (K_canBeUp_3 t9 a0)) (M_upAmong rails r1 pt)) from hM).trans h9M
  refine lv_iload_n hx hb dX10_canBeUp_11 rfl (lv_at hl 1 rfl) ?_
  refine lv_ishr hx hb dX10_canBeUp_12 ?_
  refine lv_topi (fun v3 ev3 => ?_)
  refine lv_iconst (v := 1) hx hb dX10_canBeUp_13 (by decide) ?_
  refine lv_iand hx hb dX10_canBeUp_14 ?_
  refine lv_topi (fun v4 ev4 => ?_)
  have rv4 : 0 ≤ v4.toInt ∧ v4.toInt ≤ 1 := xandL ev4 (show (1 : Int32).toInt = 1 from (by decide)) (by omega)
  refine lv_iconst (v := 1) hx hb dX10_canBeUp_15 (by decide) ?_
  refine lv_icmp_ne (tgt := 23) hx hb dX10_canBeUp_16 (by decide) (fun c_5 => ?_) (fun c_5 => ?_)
  · skip
    have i_5 : ¬ (v4.toInt = 1) := fun h9 => c_5 ((ieq rfl (by decide)).mpr h9)
    have hM : M_canBeUp a0 rails pt dead = (K_canBeUp_4) := (show M_canBeUp a0 rails pt dead = (if v4.toInt = 1 then (K_canBeUp_5) else (K_canBeUp_4)) from (by rw [ev4, ev3]; exact hM)).trans (if_neg i_5)
    refine lv_iconst (v := 0) hx hb dX10_canBeUp_23 (by decide) ?_
    refine W.widen (k := 0) (n := 0) (by decide) (by decide) ?_
    exact W.zret (v := 0) hx hb hr (by decide) (fun t ht hW => ⟨⟨0, 0, rfl, ⟨rfl, ⟨by decide, by decide⟩⟩, ⟨hM, xB_of9 ht hW hP hK hD [0, 2, 3, 1] (by decide +kernel) rfl⟩⟩, hS.F ht⟩) hS.2.2 dX10_canBeUp_24
  · skip
    have i_5 : v4.toInt = 1 := (ieq rfl (by decide)).mp c_5
    have hM : M_canBeUp a0 rails pt dead = (K_canBeUp_5) := (show M_canBeUp a0 rails pt dead = (if v4.toInt = 1 then (K_canBeUp_5) else (K_canBeUp_4)) from (by rw [ev4, ev3]; exact hM)).trans (if_pos i_5)
    refine lv_iconst (v := 1) hx hb dX10_canBeUp_19 (by decide) ?_
    refine lv_goto (tgt := 24) hx hb dX10_canBeUp_20 (by decide) ?_
    refine W.widen (k := 0) (n := 0) (by decide) (by decide) ?_
    exact W.zret (v := 1) hx hb hr (by decide) (fun t ht hW => ⟨⟨1, 1, rfl, ⟨rfl, ⟨by decide, by decide⟩⟩, ⟨hM, xB_of9 ht hW hP hK hD [0, 2, 3, 1] (by decide +kernel) rfl⟩⟩, hS.F ht⟩) hS.2.2 dX10_canBeUp_24
def K_followTimes_5 (cup_7 : Int32) (clast_8 : Int32) (fw_2 : Nat → Int32) (ft_4 : Nat → Int32) (fr_9 : Nat → Int32) (fg_10 : Nat → Int32) : (Int32) × (Int32) × (Nat → Int32) × (Nat → Int32) × (Nat → Int32) × (Nat → Int32) := (cup_7, clast_8, fw_2, ft_4, fr_9, fg_10)
def K_followTimes_4 (fw_2 : Nat → Int32) (ft_4 : Nat → Int32) (rails : Int32) (r5 : Int32) (pt : Nat → Int64) (fr : Nat → Int32) (fg : Nat → Int32) : (Int32) × (Int32) × (Nat → Int32) × (Nat → Int32) × (Nat → Int32) × (Nat → Int32) := ((fun t9 => (K_followTimes_5 t9.1 t9.2.1 fw_2 ft_4 t9.2.2.1 t9.2.2.2)) (M_follow rails r5 fw_2 ft_4 pt fr fg))
def K_followTimes_3 (fw_2 : Nat → Int32) (ft_4 : Nat → Int32) (rails : Int32) (pt : Nat → Int64) (fr : Nat → Int32) (fg : Nat → Int32) (dead : Int32) : (Int32) × (Int32) × (Nat → Int32) × (Nat → Int32) × (Nat → Int32) × (Nat → Int32) := ((fun t9 => (K_followTimes_4 fw_2 ft_4 rails t9 pt fr fg)) (M_alive dead rails))
def K_followTimes_2 (fw_2 : Nat → Int32) (rails : Int32) (pt : Nat → Int64) (fr : Nat → Int32) (fg : Nat → Int32) (dead : Int32) (rt : Nat → Int32) (ft : Nat → Int32) : (Int32) × (Int32) × (Nat → Int32) × (Nat → Int32) × (Nat → Int32) × (Nat → Int32) := ((fun t9 => (K_followTimes_3 fw_2 t9 rails pt fr fg dead)) (M_copyTakes rt ft))
def K_followTimes_1 (rails : Int32) (pt : Nat → Int64) (fr : Nat → Int32) (fg : Nat → Int32) (dead : Int32) (rt : Nat → Int32) (ft : Nat → Int32) (pn : Nat → Int32) (fw : Nat → Int32) : (Int32) × (Int32) × (Nat → Int32) × (Nat → Int32) × (Nat → Int32) × (Nat → Int32) := ((fun t9 => (K_followTimes_2 t9 rails pt fr fg dead rt ft)) (M_cSetWaits rails pn fw))
def M_followTimes (rails : Int32) (pt : Nat → Int64) (fr : Nat → Int32) (fg : Nat → Int32) (dead : Int32) (rt : Nat → Int32) (ft : Nat → Int32) (pn : Nat → Int32) (fw : Nat → Int32) : (Int32) × (Int32) × (Nat → Int32) × (Nat → Int32) × (Nat → Int32) × (Nat → Int32) := (K_followTimes_1 rails pt fr fg dead rt ft pn fw)
abbrev W_followTimes (cI cJ cZ cG cH : ClassId) (xo : Nat) (tp : Nat) (rd : Nat) (rn : Nat) (co : Nat) (wy : Nat) (sg : Nat) (sh : Nat) (pl : Nat) (sp : Nat) (lf : Int32) (fwa : Nat) (fta : Nat) (fra : Nat) (fga : Nat) (cxa : Nat) (cup : Int32) (clast : Int32) (cpeak : Int32) (cptick : Int32) (fw : Nat → Int32) (ft : Nat → Int32) (fr : Nat → Int32) (fg : Nat → Int32) (pna : Nat) (pta : Nat) (rails : Int32) (limit : Int32) (retry : Int32) (behind : Int32) (pn : Nat → Int32) (pt : Nat → Int64) (hy : Nat) (rsa : Nat) (ria : Nat) (raa : Nat) (rta : Nat) (rga : Nat) (dead : Int32) (key : Int32) (tick : Int32) (held : Int32) (tries : Int32) (trips : Int32) (ldraw : Int32) (gdraw : Int32) (rt : Nat → Int32) : va_W := [oX10 xo tp rd rn co wy sg sh pl sp lf, oX0 co fwa fta fra fga cxa cup clast cpeak cptick, oAI fwa cI 8 fw, oAI fta cI 8 ft, oAI fra cI 8 fr, oAI fga cI 8 fg, oX3 pl pna pta rails limit retry behind, oAI pna cI 64 pn, oAJ pta cJ 64 pt, oX5 rn hy rsa ria raa rta rga dead key tick held tries trips ldraw gdraw, oAI rta cI 8 rt]
abbrev Q_followTimes (D : va_G) (cI cJ cZ cG cH : ClassId) (xo : Nat) (tp : Nat) (rd : Nat) (rn : Nat) (co : Nat) (wy : Nat) (sg : Nat) (sh : Nat) (pl : Nat) (sp : Nat) (lf : Int32) (fwa : Nat) (fta : Nat) (fra : Nat) (fga : Nat) (cxa : Nat) (cup : Int32) (clast : Int32) (cpeak : Int32) (cptick : Int32) (fw : Nat → Int32) (ft : Nat → Int32) (fr : Nat → Int32) (fg : Nat → Int32) (pna : Nat) (pta : Nat) (rails : Int32) (limit : Int32) (retry : Int32) (behind : Int32) (pn : Nat → Int32) (pt : Nat → Int64) (hy : Nat) (rsa : Nat) (ria : Nat) (raa : Nat) (rta : Nat) (rga : Nat) (dead : Int32) (key : Int32) (tick : Int32) (held : Int32) (tries : Int32) (trips : Int32) (ldraw : Int32) (gdraw : Int32) (rt : Nat → Int32) (A : Nat → Prop) : Array Value → State → Outcome → State → Prop := va_Qv (fun (_ : Unit) => True) (fun _ t => ∃ (cup9 : Int32) (clast9 : Int32) (fw9 : Nat → Int32) (ft9 : Nat → Int32) (fr9 : Nat → Int32) (fg9 : Nat → Int32), (0 ≤ cup9.toInt ∧ cup9.toInt ≤ 255) ∧ (0 ≤ clast9.toInt ∧ clast9.toInt ≤ 144) ∧ (∀ j, j < 8 → 0 ≤ (fw9 j).toInt ∧ (fw9 j).toInt ≤ 511) ∧ (∀ j, j < 8 → 0 ≤ (ft9 j).toInt ∧ (ft9 j).toInt ≤ 511) ∧ (∀ j, j < 8 → 0 ≤ (fr9 j).toInt ∧ (fr9 j).toInt ≤ 655) ∧ (∀ j, j < 8 → 0 ≤ (fg9 j).toInt ∧ (fg9 j).toInt ≤ 1166) ∧ (M_followTimes rails pt fr fg dead rt ft pn fw = (cup9, clast9, fw9, ft9, fr9, fg9)) ∧ (∀ j, j < 8 → (fr9 j).toInt ≤ (fg9 j).toInt) ∧ xB D (tyL cI cJ cZ cG cH) [oX10 xo tp rd rn co wy sg sh pl sp lf, oX0 co fwa fta fra fga cxa cup9 clast9 cpeak cptick, oAI fwa cI 8 fw9, oAI fta cI 8 ft9, oAI fra cI 8 fr9, oAI fga cI 8 fg9, oX3 pl pna pta rails limit retry behind, oAI pna cI 64 pn, oAJ pta cJ 64 pt, oX5 rn hy rsa ria raa rta rga dead key tick held tries trips ldraw gdraw, oAI rta cI 8 rt] A t) A
abbrev rm_followTimes : Room := { frames := 3, cells := 0, slots := 0, locals := 72 }
set_option maxRecDepth 100000 in
set_option maxHeartbeats 40000000 in
theorem c_followTimes (l : Launch) (D : va_G) (cI cJ cZ cG cH : ClassId) (sz : Nat) (xo : Nat) (tp : Nat) (rd : Nat) (rn : Nat) (co : Nat) (wy : Nat) (sg : Nat) (sh : Nat) (pl : Nat) (sp : Nat) (lf : Int32) (fwa : Nat) (fta : Nat) (fra : Nat) (fga : Nat) (cxa : Nat) (cup : Int32) (clast : Int32) (cpeak : Int32) (cptick : Int32) (fw : Nat → Int32) (ft : Nat → Int32) (fr : Nat → Int32) (fg : Nat → Int32) (pna : Nat) (pta : Nat) (rails : Int32) (limit : Int32) (retry : Int32) (behind : Int32) (pn : Nat → Int32) (pt : Nat → Int64) (hy : Nat) (rsa : Nat) (ria : Nat) (raa : Nat) (rta : Nat) (rga : Nat) (dead : Int32) (key : Int32) (tick : Int32) (held : Int32) (tries : Int32) (trips : Int32) (ldraw : Int32) (gdraw : Int32) (rt : Nat → Int32) (h_clast : 0 ≤ clast.toInt ∧ clast.toInt ≤ 144) (h_fw : ∀ j, j < 8 → 0 ≤ (fw j).toInt ∧ (fw j).toInt ≤ 511) (h_ft : ∀ j, j < 8 → 0 ≤ (ft j).toInt ∧ (ft j).toInt ≤ 511) (h_fr : ∀ j, j < 8 → 0 ≤ (fr j).toInt ∧ (fr j).toInt ≤ 655) (h_fg : ∀ j, j < 8 → 0 ≤ (fg j).toInt ∧ (fg j).toInt ≤ 1166) (h_rails : 0 ≤ rails.toInt ∧ rails.toInt ≤ 8) (h_pn : ∀ j, j < 64 → 0 ≤ (pn j).toInt ∧ (pn j).toInt ≤ 511) (h_key : 0 ≤ key.toInt ∧ key.toInt ≤ 1) (h_rt : ∀ j, j < 8 → 0 ≤ (rt j).toInt ∧ (rt j).toInt ≤ 511) (h_le : ∀ j, j < 8 → (fr j).toInt ≤ (fg j).toInt) : Met l yX10_followTimes (wt yX10_followTimes cX10_followTimes 1 none) rm_followTimes (xPc [.ref xo] D (tyL cI cJ cZ cG cH) (W_followTimes cI cJ cZ cG cH xo tp rd rn co wy sg sh pl sp lf fwa fta fra fga cxa cup clast cpeak cptick fw ft fr fg pna pta rails limit retry behind pn pt hy rsa ria raa rta rga dead key tick held tries trips ldraw gdraw rt) sz) (Q_followTimes D cI cJ cZ cG cH xo tp rd rn co wy sg sh pl sp lf fwa fta fra fga cxa cup clast cpeak cptick fw ft fr fg pna pta rails limit retry behind pn pt hy rsa ria raa rta rga dead key tick held tries trips ldraw gdraw rt (va_A (W_followTimes cI cJ cZ cG cH xo tp rd rn co wy sg sh pl sp lf fwa fta fra fga cxa cup clast cpeak cptick fw ft fr fg pna pta rails limit retry behind pn pt hy rsa ria raa rta rga dead key tick held tries trips ldraw gdraw rt) sz)) 0 0 (va_A (W_followTimes cI cJ cZ cG cH xo tp rd rn co wy sg sh pl sp lf fwa fta fra fga cxa cup clast cpeak cptick fw ft fr fg pna pta rails limit retry behind pn pt hy rsa ria raa rta rga dead key tick held tries trips ldraw gdraw rt) sz) := by
  refine xMet (cc := cX10_followTimes) (maxL := 1) (ret := none) (Qf := Q_followTimes D cI cJ cZ cG cH xo tp rd rn co wy sg sh pl sp lf fwa fta fra fga cxa cup clast cpeak cptick fw ft fr fg pna pta rails limit retry behind pn pt hy rsa ria raa rta rga dead key tick held tries trips ldraw gdraw rt) (by decide) rfl (Nat.le_of_ble_eq_true rfl) ?_
  intro p e s m below meth c ls A hx hb hr hml hts hown hlocks hnm hsz hP hK hD hA hS hl
  have hown : s.vm.findClass RX10 = some m.cls := hown
  have hP : va_P D vwCl [oX10 xo tp rd rn co wy sg sh pl sp lf, oX0 co fwa fta fra fga cxa cup clast cpeak cptick, oAI fwa cI 8 fw, oAI fta cI 8 ft, oAI fra cI 8 fr, oAI fga cI 8 fg, oX3 pl pna pta rails limit retry behind, oAI pna cI 64 pn, oAJ pta cJ 64 pt, oX5 rn hy rsa ria raa rta rga dead key tick held tries trips ldraw gdraw, oAI rta cI 8 rt] s.heap := hP
  have hD : va_D A [oX10 xo tp rd rn co wy sg sh pl sp lf, oX0 co fwa fta fra fga cxa cup clast cpeak cptick, oAI fwa cI 8 fw, oAI fta cI 8 ft, oAI fra cI 8 fr, oAI fga cI 8 fg, oX3 pl pna pta rails limit retry behind, oAI pna cI 64 pn, oAJ pta cJ 64 pt, oX5 rn hy rsa ria raa rta rga dead key tick held tries trips ldraw gdraw, oAI rta cI 8 rt] := hD
  have hl : lv_has ls 1 [(0, .ref xo)] := hl
  have hM : M_followTimes rails pt fr fg dead rt ft pn fw = (K_followTimes_1 rails pt fr fg dead rt ft pn fw) := rfl
  refine lv_aload_n hx hb dX10_followTimes_0 rfl (lv_at hl 0 rfl) ?_
  refine va_get (D := D) (ci := 9) (v := .ref co) (C := RX10) (T := TX10) (N := 10) hx hb hts (fun w h => tbC w (tbfX10 w h)) hown hK hP 0 rfl rfl 3 (by decide) (hts (.fieldLink RX10 26 "PowerRails" "course" "LPowerRails$Course;") (tbC _ wd250)) (fun _ h9 => h9) rfl dX10_followTimes_1 ?_
  refine lv_aload_n hx hb dX10_followTimes_4 rfl (lv_at hl 0 rfl) ?_
  refine va_get (D := D) (ci := 9) (v := .ref pl) (C := RX10) (T := TX10) (N := 10) hx hb hts (fun w h => tbC w (tbfX10 w h)) hown hK hP 0 rfl rfl 7 (by decide) (hts (.fieldLink RX10 56 "PowerRails" "plan" "LPowerRails$Plan;") (tbC _ wd254)) (fun _ h9 => h9) rfl dX10_followTimes_5 ?_
  obtain ⟨hPc, hDc, hFc, hC9⟩ := xpk (wc := W_cSetWaits cI cJ cZ cG cH co pl fwa fta fra fga cxa cup clast cpeak cptick fw pna pta rails limit retry behind pn) hP hD hS hA [1, 2, 6, 7] (by decide +kernel) rfl
  refine va_callv (va_runV (As := [.ref pl]) (rest := []) ⟨hx, hb, hml, hown, hts⟩ (c_cSetWaits l D cI cJ cZ cG cH s.heap.size co pl fwa fta fra fga cxa cup clast cpeak cptick fw pna pta rails limit retry behind pn (xrng rfl (by omega) (by omega)) (xwk_rng h_fw (by decide) (by decide)) (xrng rfl (by omega) (by omega)) (xwk_rng h_pn (by decide) (by decide))) (cwV 1 hts (xGV tbC wd515 wd516 wd517 wd54 wd1044) rfl rfl rfl (by decide +kernel) ⟨Nat.le_of_ble_eq_true rfl, Nat.le_of_ble_eq_true rfl⟩) ⟨xPc_blind, va_recv hK hPc (ci := 0) (q0 := 0) rfl rfl, xPc_pre hPc hK hDc⟩ rfl rfl hl.1 rfl (lv_room (Nat.le_of_ble_eq_true rfl)) dX10_followTimes_8 ⟨Nat.le_of_ble_eq_true rfl, Nat.le_of_ble_eq_true rfl⟩) hS (fun q _ h => hFc q h) hFc (fun u t H1 locs ht hvm hw1 hB hz1 hk1 hS => ?_)
  obtain ⟨fw_2, hf2_0, hf2_1, hP1, hK1, hD1⟩ := hB
  rw [ht] at hP1
  obtain ⟨hP, hD⟩ : xPD D A [oX10 xo tp rd rn co wy sg sh pl sp lf, oAI fta cI 8 ft, oAI fra cI 8 fr, oAI fga cI 8 fg, oAJ pta cJ 64 pt, oX5 rn hy rsa ria raa rta rga dead key tick held tries trips ldraw gdraw, oAI rta cI 8 rt, oX0 co fwa fta fra fga cxa cup clast cpeak cptick, oAI fwa cI 8 fw_2, oX3 pl pna pta rails limit retry behind, oAI pna cI 64 pn] H1 := xjn 7 hP hD [1, 2, 6, 7] [0, 3, 4, 5, 8, 9, 10] hC9 rfl (by decide +kernel) (by decide +kernel) hk1 hFc hP1 hD1
  generalize H1 = H at hP hS ⊢
  have hf2_0 : ∀ j, j < 8 → 0 ≤ (fw_2 j).toInt ∧ (fw_2 j).toInt ≤ 511 := hf2_0
  have hf2_1 : M_cSetWaits rails pn fw = (fw_2) := hf2_1
  have h9M := congrArg (fun t9 => (K_followTimes_2 t9 rails pt fr fg dead rt ft)) hf2_1
  have hM : M_followTimes rails pt fr fg dead rt ft pn fw = (K_followTimes_2 fw_2 rails pt fr fg dead rt ft) := (show M_followTimes rails pt fr fg dead rt ft pn fw = ((fun t9 => (K_followTimes_2 t9 rails pt fr fg dead rt ft)) (M_cSetWaits rails pn fw)) from hM).trans h9M
  refine lv_aload_n hx hb dX10_followTimes_11 rfl (lv_at hl 0 rfl) ?_
  refine va_get (D := D) (ci := 9) (v := .ref co) (C := RX10) (T := TX10) (N := 10) hx hb hts (fun w h => tbC w (tbfX10 w h)) hown hK hP 0 rfl rfl 3 (by decide) (hts (.fieldLink RX10 26 "PowerRails" "course" "LPowerRails$Course;") (tbC _ wd250)) (fun _ h9 => h9) rfl dX10_followTimes_12 ?_
  refine lv_aload_n hx hb dX10_followTimes_15 rfl (lv_at hl 0 rfl) ?_
  refine va_get (D := D) (ci := 9) (v := .ref rn) (C := RX10) (T := TX10) (N := 10) hx hb hts (fun w h => tbC w (tbfX10 w h)) hown hK hP 0 rfl rfl 2 (by decide) (hts (.fieldLink RX10 19 "PowerRails" "run" "LPowerRails$Run;") (tbC _ wd249)) (fun _ h9 => h9) rfl dX10_followTimes_16 ?_
  refine va_get (D := D) (ci := 4) (v := .ref rta) (C := RX5) (T := TX5) (N := 14) hx hb hts (fun w h => tbC w (tbfX5 w h)) hown hK hP 5 rfl rfl 4 (by decide) (hts (.fieldLink RX10 150 "PowerRails$Run" "takes" "[I") (tbC _ wd114)) (fun _ h9 => h9) rfl dX10_followTimes_19 ?_
  obtain ⟨hPc, hDc, hFc, hC9⟩ := xpk (wc := W_copyTakes cI cJ cZ cG cH co rta fwa fta fra fga cxa cup clast cpeak cptick ft rt) hP hD hS hA [7, 1, 6] (by decide +kernel) rfl
  refine va_callv (va_runV (As := [.ref rta]) (rest := []) ⟨hx, hb, hml, hown, hts⟩ (c_copyTakes l D cI cJ cZ cG cH H.size co rta fwa fta fra fga cxa cup clast cpeak cptick ft rt (xrng rfl (by omega) (by omega)) (xwk_rng h_ft (by decide) (by decide)) (xwk_rng h_rt (by decide) (by decide))) (cwV 1 hts (xGV tbC wd519 wd520 wd521 wd54 wd1045) rfl rfl rfl (by decide +kernel) ⟨Nat.le_of_ble_eq_true rfl, Nat.le_of_ble_eq_true rfl⟩) ⟨xPc_blind, va_recv hK hPc (ci := 0) (q0 := 0) rfl rfl, xPc_pre hPc hK hDc⟩ rfl rfl hl.1 rfl (lv_room (Nat.le_of_ble_eq_true rfl)) dX10_followTimes_22 ⟨Nat.le_of_ble_eq_true rfl, Nat.le_of_ble_eq_true rfl⟩) hS (fun q _ h => hFc q h) hFc (fun u t H1 locs ht hvm hw3 hB hz1 hk1 hS => ?_)
  obtain ⟨ft_4, hf4_0, hf4_1, hP1, hK1, hD1⟩ := hB
  rw [ht] at hP1
  obtain ⟨hP, hD⟩ : xPD D A [oX10 xo tp rd rn co wy sg sh pl sp lf, oAI fra cI 8 fr, oAI fga cI 8 fg, oAJ pta cJ 64 pt, oX5 rn hy rsa ria raa rta rga dead key tick held tries trips ldraw gdraw, oAI fwa cI 8 fw_2, oX3 pl pna pta rails limit retry behind, oAI pna cI 64 pn, oX0 co fwa fta fra fga cxa cup clast cpeak cptick, oAI fta cI 8 ft_4, oAI rta cI 8 rt] H1 := xjn 8 hP hD [7, 1, 6] [0, 2, 3, 4, 5, 8, 9, 10] hC9 rfl (by decide +kernel) (by decide +kernel) hk1 hFc hP1 hD1
  generalize H1 = H at hP hS ⊢
  have hf4_0 : ∀ j, j < 8 → 0 ≤ (ft_4 j).toInt ∧ (ft_4 j).toInt ≤ 511 := hf4_0
  have hf4_1 : M_copyTakes rt ft = (ft_4) := hf4_1
  have h9M := congrArg (fun t9 => (K_followTimes_3 fw_2 t9 rails pt fr fg dead)) hf4_1
  have hM : M_followTimes rails pt fr fg dead rt ft pn fw = (K_followTimes_3 fw_2 ft_4 rails pt fr fg dead) := (show M_followTimes rails pt fr fg dead rt ft pn fw = ((fun t9 => (K_followTimes_3 fw_2 t9 rails pt fr fg dead)) (M_copyTakes rt ft)) from hM).trans h9M
  refine lv_aload_n hx hb dX10_followTimes_25 rfl (lv_at hl 0 rfl) ?_
  refine va_get (D := D) (ci := 9) (v := .ref co) (C := RX10) (T := TX10) (N := 10) hx hb hts (fun w h => tbC w (tbfX10 w h)) hown hK hP 0 rfl rfl 3 (by decide) (hts (.fieldLink RX10 26 "PowerRails" "course" "LPowerRails$Course;") (tbC _ wd250)) (fun _ h9 => h9) rfl dX10_followTimes_26 ?_
  refine lv_aload_n hx hb dX10_followTimes_29 rfl (lv_at hl 0 rfl) ?_
  refine va_get (D := D) (ci := 9) (v := .ref pl) (C := RX10) (T := TX10) (N := 10) hx hb hts (fun w h => tbC w (tbfX10 w h)) hown hK hP 0 rfl rfl 7 (by decide) (hts (.fieldLink RX10 56 "PowerRails" "plan" "LPowerRails$Plan;") (tbC _ wd254)) (fun _ h9 => h9) rfl dX10_followTimes_30 ?_
  refine lv_aload_n hx hb dX10_followTimes_33 rfl (lv_at hl 0 rfl) ?_
  obtain ⟨hPc, hDc, hFc, hC9⟩ := xpk (wc := W_alive cI cJ cZ cG cH xo tp rd rn co wy sg sh pl sp lf pna pta rails limit retry behind hy rsa ria raa rta rga dead key tick held tries trips ldraw gdraw) hP hD hS hA [0, 6, 4] (by decide +kernel) rfl
  refine va_calli (va_runV (As := []) (rest := [.ref pl, .ref co]) ⟨hx, hb, hml, hown, hts⟩ (c_alive l D cI cJ cZ cG cH H.size xo tp rd rn co wy sg sh pl sp lf pna pta rails limit retry behind hy rsa ria raa rta rga dead key tick held tries trips ldraw gdraw (xrng rfl (by omega) (by omega)) (xrng rfl (by omega) (by omega))) (cwV 0 hts (xGV tbC wd523 wd524 wd2 wd50 wd1046) rfl rfl rfl (by decide +kernel) ⟨Nat.le_of_ble_eq_true rfl, Nat.le_of_ble_eq_true rfl⟩) ⟨xPc_blind, va_recv hK hPc (ci := 9) (q0 := 0) rfl rfl, xPc_pre hPc hK hDc⟩ rfl rfl hl.1 rfl (lv_room (Nat.le_of_ble_eq_true rfl)) dX10_followTimes_34 ⟨Nat.le_of_ble_eq_true rfl, Nat.le_of_ble_eq_true rfl⟩) hS (fun q _ h => hFc q h) hFc (fun r5 u t H1 locs ht hvm hw5 hB hz1 hk1 hS => ?_)
  obtain ⟨hru9, hw5⟩ := hw5
  subst hru9
  obtain ⟨hf5_0, hP1, hK1, hD1⟩ := hB
  rw [ht] at hP1
  obtain ⟨hP, hD⟩ : xPD D A [oAI fra cI 8 fr, oAI fga cI 8 fg, oAJ pta cJ 64 pt, oAI fwa cI 8 fw_2, oAI pna cI 64 pn, oX0 co fwa fta fra fga cxa cup clast cpeak cptick, oAI fta cI 8 ft_4, oAI rta cI 8 rt, oX10 xo tp rd rn co wy sg sh pl sp lf, oX3 pl pna pta rails limit retry behind, oX5 rn hy rsa ria raa rta rga dead key tick held tries trips ldraw gdraw] H1 := xjn 8 hP hD [0, 6, 4] [1, 2, 3, 5, 7, 8, 9, 10] hC9 rfl (by decide +kernel) (by decide +kernel) hk1 hFc hP1 hD1
  generalize H1 = H at hP hS ⊢
  have hf5_0 : M_alive dead rails = (r5) := hf5_0
  have hw5 : 0 ≤ r5.toInt ∧ r5.toInt ≤ 255 := hw5
  have h9M := congrArg (fun t9 => (K_followTimes_4 fw_2 ft_4 rails t9 pt fr fg)) hf5_0
  have hM : M_followTimes rails pt fr fg dead rt ft pn fw = (K_followTimes_4 fw_2 ft_4 rails r5 pt fr fg) := (show M_followTimes rails pt fr fg dead rt ft pn fw = ((fun t9 => (K_followTimes_4 fw_2 ft_4 rails t9 pt fr fg)) (M_alive dead rails)) from hM).trans h9M
  obtain ⟨hPc, hDc, hFc, hC9⟩ := xpk (wc := W_follow cI cJ cZ cG cH co pl r5 fwa fta fra fga cxa cup clast cpeak cptick fw_2 ft_4 fr fg pna pta rails limit retry behind pt) hP hD hS hA [5, 3, 6, 0, 1, 9, 2] (by decide +kernel) rfl
  refine va_callv (va_runV (As := [.ref pl, .int r5]) (rest := []) ⟨hx, hb, hml, hown, hts⟩ (c_follow l D cI cJ cZ cG cH H.size co pl r5 fwa fta fra fga cxa cup clast cpeak cptick fw_2 ft_4 fr fg pna pta rails limit retry behind pt (xrng rfl (by omega) (by omega)) (xwk_rng hf2_0 (by decide) (by decide)) (xwk_rng hf4_0 (by decide) (by decide)) (xwk_rng h_fr (by decide) (by decide)) (xwk_rng h_fg (by decide) (by decide)) (xrng rfl (by omega) (by omega)) h_le) (cwV 2 hts (xGV tbC wd525 wd526 wd527 wd54 wd1047) rfl rfl rfl (by decide +kernel) ⟨Nat.le_of_ble_eq_true rfl, Nat.le_of_ble_eq_true rfl⟩) ⟨xPc_blind, va_recv hK hPc (ci := 0) (q0 := 0) rfl rfl, xPc_pre hPc hK hDc⟩ rfl rfl hl.1 rfl (lv_room (Nat.le_of_ble_eq_true rfl)) dX10_followTimes_37 ⟨Nat.le_of_ble_eq_true rfl, Nat.le_of_ble_eq_true rfl⟩) hS (fun q _ h => hFc q h) hFc (fun u t H1 locs ht hvm hw6 hB hz1 hk1 hS => ?_)
  revert hB
  refine xex4r (fun cup_7 clast_8 fr_9 fg_10 => ?_)
  refine xan8r (fun hf10_0 hf10_1 hf10_2 hf10_3 hf10_4 hf10_5 hP1 => ?_)
  refine xan2r (fun hK1 hD1 => ?_)
  rw [ht] at hP1
  obtain ⟨hP, hD⟩ : xPD D A [oAI pna cI 64 pn, oAI rta cI 8 rt, oX10 xo tp rd rn co wy sg sh pl sp lf, oX5 rn hy rsa ria raa rta rga dead key tick held tries trips ldraw gdraw, oX0 co fwa fta fra fga cxa cup_7 clast_8 cpeak cptick, oAI fwa cI 8 fw_2, oAI fta cI 8 ft_4, oAI fra cI 8 fr_9, oAI fga cI 8 fg_10, oX3 pl pna pta rails limit retry behind, oAJ pta cJ 64 pt] H1 := xjn 4 hP hD [5, 3, 6, 0, 1, 9, 2] [4, 7, 8, 10] hC9 rfl (by decide +kernel) (by decide +kernel) hk1 hFc hP1 hD1
  generalize H1 = H at hP hS ⊢
  have hf10_0 : 0 ≤ cup_7.toInt ∧ cup_7.toInt ≤ 255 := hf10_0
  have hf10_1 : 0 ≤ clast_8.toInt ∧ clast_8.toInt ≤ 144 := hf10_1
  have hf10_2 : ∀ j, j < 8 → 0 ≤ (fr_9 j).toInt ∧ (fr_9 j).toInt ≤ 655 := hf10_2
  have hf10_3 : ∀ j, j < 8 → 0 ≤ (fg_10 j).toInt ∧ (fg_10 j).toInt ≤ 1166 := hf10_3
  have hf10_4 : M_follow rails r5 fw_2 ft_4 pt fr fg = (cup_7, clast_8, fr_9, fg_10) := hf10_4
  have hf10_5 : ∀ j, j < 8 → (fr_9 j).toInt ≤ (fg_10 j).toInt := hf10_5
  have h9M := congrArg (fun t9 => (K_followTimes_5 t9.1 t9.2.1 fw_2 ft_4 t9.2.2.1 t9.2.2.2)) hf10_4
  have hM : M_followTimes rails pt fr fg dead rt ft pn fw = (K_followTimes_5 cup_7 clast_8 fw_2 ft_4 fr_9 fg_10) := (show M_followTimes rails pt fr fg dead rt ft pn fw = ((fun t9 => (K_followTimes_5 t9.1 t9.2.1 fw_2 ft_4 t9.2.2.1 t9.2.2.2)) (M_follow rails r5 fw_2 ft_4 pt fr fg)) from hM).trans h9M
  refine W.widen (k := 0) (n := 0) (by decide) (by decide) ?_
  exact W.vret hx hb hr (fun t ht hW => ⟨⟨(), rfl, trivial, ⟨cup_7, clast_8, fw_2, ft_4, fr_9, fg_10, (xrng rfl (by omega) (by omega)), (xrng rfl (by omega) (by omega)), (xwk_rng hf2_0 (by decide) (by decide)), (xwk_rng hf4_0 (by decide) (by decide)), (xwk_rng hf10_2 (by decide) (by decide)), (xwk_rng hf10_3 (by decide) (by decide)), hM, hf10_5, xB_of9 ht hW hP hK hD [2, 4, 5, 6, 7, 8, 9, 0, 10, 3, 1] (by decide +kernel) rfl⟩⟩, hS.F ht⟩) hS.2.2 dX10_followTimes_40
def K_forgetReckoned_2 (wk_2 : Nat → Int32) : (Nat → Int32) := (wk_2)
def K_forgetReckoned_1 (wk : Nat → Int32) : (Nat → Int32) := ((fun t9 => (K_forgetReckoned_2 t9)) (M_forget wk))
def M_forgetReckoned (wk : Nat → Int32) : (Nat → Int32) := (K_forgetReckoned_1 wk)
abbrev W_forgetReckoned (cI cJ cZ cG cH : ClassId) (xo : Nat) (tp : Nat) (rd : Nat) (rn : Nat) (co : Nat) (wy : Nat) (sg : Nat) (sh : Nat) (pl : Nat) (sp : Nat) (lf : Int32) (wba : Nat) (wka : Nat) (pk : Int32) (gpk : Int32) (lpk : Int32) (wk : Nat → Int32) (srwa : Nat) (kn : Int32) (slast : Int32) : va_W := [oX10 xo tp rd rn co wy sg sh pl sp lf, oX9 wy co wba wka pk gpk lpk, oAI wka cZ 64 wk, oX7 sg co srwa kn slast]
abbrev Q_forgetReckoned (D : va_G) (cI cJ cZ cG cH : ClassId) (xo : Nat) (tp : Nat) (rd : Nat) (rn : Nat) (co : Nat) (wy : Nat) (sg : Nat) (sh : Nat) (pl : Nat) (sp : Nat) (lf : Int32) (wba : Nat) (wka : Nat) (pk : Int32) (gpk : Int32) (lpk : Int32) (wk : Nat → Int32) (srwa : Nat) (kn : Int32) (slast : Int32) (A : Nat → Prop) : Array Value → State → Outcome → State → Prop := va_Qv (fun (_ : Unit) => True) (fun _ t => ∃ (wk9 : Nat → Int32), (∀ j, j < 64 → 0 ≤ (wk9 j).toInt ∧ (wk9 j).toInt ≤ 1) ∧ (M_forgetReckoned wk = (wk9)) ∧ xB D (tyL cI cJ cZ cG cH) [oX10 xo tp rd rn co wy sg sh pl sp lf, oX9 wy co wba wka 0 gpk lpk, oAI wka cZ 64 wk9, oX7 sg co srwa 0 slast] A t) A
abbrev rm_forgetReckoned : Room := { frames := 1, cells := 0, slots := 0, locals := 21 }
set_option maxRecDepth 100000 in
set_option maxHeartbeats 40000000 in
theorem c_forgetReckoned (l : Launch) (D : va_G) (cI cJ cZ cG cH : ClassId) (sz : Nat) (xo : Nat) (tp : Nat) (rd : Nat) (rn : Nat) (co : Nat) (wy : Nat) (sg : Nat) (sh : Nat) (pl : Nat) (sp : Nat) (lf : Int32) (wba : Nat) (wka : Nat) (pk : Int32) (gpk : Int32) (lpk : Int32) (wk : Nat → Int32) (srwa : Nat) (kn : Int32) (slast : Int32) (h_pk : 0 ≤ pk.toInt ∧ pk.toInt ≤ 1) (h_wk : ∀ j, j < 64 → 0 ≤ (wk j).toInt ∧ (wk j).toInt ≤ 1) (h_kn : 0 ≤ kn.toInt ∧ kn.toInt ≤ 1) : Met l yX10_forgetReckoned (wt yX10_forgetReckoned cX10_forgetReckoned 1 none) rm_forgetReckoned (xPc [.ref xo] D (tyL cI cJ cZ cG cH) (W_forgetReckoned cI cJ cZ cG cH xo tp rd rn co wy sg sh pl sp lf wba wka pk gpk lpk wk srwa kn slast) sz) (Q_forgetReckoned D cI cJ cZ cG cH xo tp rd rn co wy sg sh pl sp lf wba wka pk gpk lpk wk srwa kn slast (va_A (W_forgetReckoned cI cJ cZ cG cH xo tp rd rn co wy sg sh pl sp lf wba wka pk gpk lpk wk srwa kn slast) sz)) 0 0 (va_A (W_forgetReckoned cI cJ cZ cG cH xo tp rd rn co wy sg sh pl sp lf wba wka pk gpk lpk wk srwa kn slast) sz) := by
  refine xMet (cc := cX10_forgetReckoned) (maxL := 1) (ret := none) (Qf := Q_forgetReckoned D cI cJ cZ cG cH xo tp rd rn co wy sg sh pl sp lf wba wka pk gpk lpk wk srwa kn slast) (by decide) rfl (Nat.le_of_ble_eq_true rfl) ?_
  intro p e s m below meth c ls A hx hb hr hml hts hown hlocks hnm hsz hP hK hD hA hS hl
  have hown : s.vm.findClass RX10 = some m.cls := hown
  have hP : va_P D vwCl [oX10 xo tp rd rn co wy sg sh pl sp lf, oX9 wy co wba wka pk gpk lpk, oAI wka cZ 64 wk, oX7 sg co srwa kn slast] s.heap := hP
  have hD : va_D A [oX10 xo tp rd rn co wy sg sh pl sp lf, oX9 wy co wba wka pk gpk lpk, oAI wka cZ 64 wk, oX7 sg co srwa kn slast] := hD
  have hl : lv_has ls 1 [(0, .ref xo)] := hl
  have hM : M_forgetReckoned wk = (K_forgetReckoned_1 wk) := rfl
  refine lv_aload_n hx hb dX10_forgetReckoned_0 rfl (lv_at hl 0 rfl) ?_
  refine va_get (D := D) (ci := 9) (v := .ref wy) (C := RX10) (T := TX10) (N := 10) hx hb hts (fun w h => tbC w (tbfX10 w h)) hown hK hP 0 rfl rfl 4 (by decide) (hts (.fieldLink RX10 35 "PowerRails" "ways" "LPowerRails$Ways;") (tbC _ wd251)) (fun _ h9 => h9) rfl dX10_forgetReckoned_1 ?_
  obtain ⟨hPc, hDc, hFc, hC9⟩ := xpk (wc := W_forget cI cJ cZ cG cH wy co wba wka pk gpk lpk wk) hP hD hS hA [1, 2] (by decide +kernel) rfl
  refine va_callv (va_runV (As := []) (rest := []) ⟨hx, hb, hml, hown, hts⟩ (c_forget l D cI cJ cZ cG cH s.heap.size wy co wba wka pk gpk lpk wk (xrng rfl (by omega) (by omega)) (xwk_rng h_wk (by decide) (by decide))) (cwV 0 hts (xGV tbC wd400 wd401 wd402 wd55 wd1006) rfl rfl rfl (by decide +kernel) ⟨Nat.le_of_ble_eq_true rfl, Nat.le_of_ble_eq_true rfl⟩) ⟨xPc_blind, va_recv hK hPc (ci := 8) (q0 := 0) rfl rfl, xPc_pre hPc hK hDc⟩ rfl rfl hl.1 rfl (lv_room (Nat.le_of_ble_eq_true rfl)) dX10_forgetReckoned_4 ⟨Nat.le_of_ble_eq_true rfl, Nat.le_of_ble_eq_true rfl⟩) hS (fun q _ h => hFc q h) hFc (fun u t H1 locs ht hvm hw1 hB hz1 hk1 hS => ?_)
  obtain ⟨wk_2, hf2_0, hf2_1, hP1, hK1, hD1⟩ := hB
  rw [ht] at hP1
  obtain ⟨hP, hD⟩ : xPD D A [oX10 xo tp rd rn co wy sg sh pl sp lf, oX7 sg co srwa kn slast, oX9 wy co wba wka 0 gpk lpk, oAI wka cZ 64 wk_2] H1 := xjn 2 hP hD [1, 2] [0, 3] hC9 rfl (by decide +kernel) (by decide +kernel) hk1 hFc hP1 hD1
  generalize H1 = H at hP hS ⊢
  have hf2_0 : ∀ j, j < 64 → 0 ≤ (wk_2 j).toInt ∧ (wk_2 j).toInt ≤ 1 := hf2_0
  have hf2_1 : M_forget wk = (wk_2) := hf2_1
  have h9M := congrArg (fun t9 => (K_forgetReckoned_2 t9)) hf2_1
  have hM : M_forgetReckoned wk = (K_forgetReckoned_2 wk_2) := (show M_forgetReckoned wk = ((fun t9 => (K_forgetReckoned_2 t9)) (M_forget wk)) from hM).trans h9M
  refine lv_aload_n hx hb dX10_forgetReckoned_7 rfl (lv_at hl 0 rfl) ?_
  refine va_get (D := D) (ci := 9) (v := .ref sg) (C := RX10) (T := TX10) (N := 10) hx hb hts (fun w h => tbC w (tbfX10 w h)) hown hK hP 0 rfl rfl 5 (by decide) (hts (.fieldLink RX10 42 "PowerRails" "staggering" "LPowerRails$Stagger;") (tbC _ wd252)) (fun _ h9 => h9) rfl dX10_forgetReckoned_8 ?_
  refine lv_iconst (v := 0) hx hb dX10_forgetReckoned_11 (by decide) ?_
  refine va_put (D := D) (ci := 6) (v := .int 0) (ty := .boolean) (C := RX7) (T := TX7) (N := 4) hx hb hts (fun w h => tbC w (tbfX7 w h)) tyX7 tyX7_ok nmX7 hown hK hP hD hS 1 rfl rfl 2 (by decide) (hts (.fieldLink RX10 324 "PowerRails$Stagger" "known" "Z") (tbC _ wd180)) (fun _ h9 => h9) rfl (by decide +kernel) (by decide) rfl (Nat.le_of_ble_eq_true rfl) dX10_forgetReckoned_12 (fun H locs hP hD hS => ?_)
  obtain ⟨hP, hD⟩ : xPD D A [oX10 xo tp rd rn co wy sg sh pl sp lf, oX7 sg co srwa 0 slast, oX9 wy co wba wka 0 gpk lpk, oAI wka cZ 64 wk_2] H := ⟨hP, hD⟩
  refine W.widen (k := 0) (n := 0) (by decide) (by decide) ?_
  exact W.vret hx hb hr (fun t ht hW => ⟨⟨(), rfl, trivial, ⟨wk_2, (xwk_rng hf2_0 (by decide) (by decide)), hM, xB_of9 ht hW hP hK hD [0, 2, 3, 1] (by decide +kernel) rfl⟩⟩, hS.F ht⟩) hS.2.2 dX10_forgetReckoned_15
def K_compareSheet_6 (x418 : Int32) : (Int32) := (x418)
def K_compareSheet_8 (x417 : Int32) : (Int32) := (x417)
def K_compareSheet_7 (x416 : Int32) : (Int32) := (x416)
def K_compareSheet_5 (a3 : Int32) (x417 : Int32) (x416 : Int32) : (Int32) := (if a3.toInt = 1 then (K_compareSheet_8 x417) else (K_compareSheet_7 x416))
def K_compareSheet_3 (a3 : Int32) (x418 : Int32) (x417 : Int32) (x416 : Int32) : (Int32) := (if a3.toInt = 0 then (K_compareSheet_6 x418) else (K_compareSheet_5 a3 x417 x416))
def K_compareSheet_9  : (Int32) := ((-12 : Int32))
def K_compareSheet_15 (x415 : Int32) : (Int32) := (((-20 : Int32) - x415))
def K_compareSheet_21 (rec_2 : (Int32) → (Int32) → (Int32) → (Int32) → ((Int32))) (x415 : Int32) (v435 : Int32) (x417 : Int32) (x418 : Int32) : (Int32) := (rec_2 (x415 + 1) v435 x417 (x418 + 1))
def K_compareSheet_23 (rec_2 : (Int32) → (Int32) → (Int32) → (Int32) → ((Int32))) (x415 : Int32) (v435 : Int32) (x418 : Int32) : (Int32) := (rec_2 (x415 + 1) v435 x415 x418)
def K_compareSheet_22 (rec_2 : (Int32) → (Int32) → (Int32) → (Int32) → ((Int32))) (x415 : Int32) (v435 : Int32) (x417 : Int32) (x418 : Int32) : (Int32) := (rec_2 (x415 + 1) v435 x417 x418)
def K_compareSheet_20 (x417 : Int32) (rec_2 : (Int32) → (Int32) → (Int32) → (Int32) → ((Int32))) (x415 : Int32) (v435 : Int32) (x418 : Int32) : (Int32) := (if x417.toInt = (-4) then (K_compareSheet_23 rec_2 x415 v435 x418) else (K_compareSheet_22 rec_2 x415 v435 x417 x418))
def K_compareSheet_19 (v428 : Int32) (r432 : Int32) (rec_2 : (Int32) → (Int32) → (Int32) → (Int32) → ((Int32))) (x415 : Int32) (x416 : Int32) (x417 : Int32) (x418 : Int32) : (Int32) := (if (if 0 ≤ (v428 - r432) then (v428 - r432) else 0 - (v428 - r432)).toInt = 0 then (K_compareSheet_21 rec_2 x415 (x416 + (if 0 ≤ (v428 - r432) then (v428 - r432) else 0 - (v428 - r432))) x417 x418) else (K_compareSheet_20 x417 rec_2 x415 (x416 + (if 0 ≤ (v428 - r432) then (v428 - r432) else 0 - (v428 - r432))) x418))
def K_compareSheet_17 (v428 : Int32) (rec_2 : (Int32) → (Int32) → (Int32) → (Int32) → ((Int32))) (x415 : Int32) (x416 : Int32) (x417 : Int32) (x418 : Int32) (rails : Int32) (fg : Nat → Int32) (fr : Nat → Int32) (pn : Nat → Int32) (cup : Int32) : (Int32) := ((fun t9 => (K_compareSheet_19 v428 t9 rec_2 x415 x416 x417 x418)) (M_drawnAt rails x415 fg fr pn cup))
def K_compareSheet_18 (x415 : Int32) : (Int32) := (((-20 : Int32) - x415))
def K_compareSheet_16 (v428 : Int32) (rec_2 : (Int32) → (Int32) → (Int32) → (Int32) → ((Int32))) (x415 : Int32) (x416 : Int32) (x417 : Int32) (x418 : Int32) (rails : Int32) (fg : Nat → Int32) (fr : Nat → Int32) (pn : Nat → Int32) (cup : Int32) : (Int32) := (if v428.toInt ≤ 9999 then (K_compareSheet_17 v428 rec_2 x415 x416 x417 x418 rails fg fr pn cup) else (K_compareSheet_18 x415))
def K_compareSheet_13 (sc0 : Nat → Int32) (v423 : Int32) (x415 : Int32) (rec_2 : (Int32) → (Int32) → (Int32) → (Int32) → ((Int32))) (x416 : Int32) (x417 : Int32) (x418 : Int32) (rails : Int32) (fg : Nat → Int32) (fr : Nat → Int32) (pn : Nat → Int32) (cup : Int32) : (Int32) := (if (sc0 v423.toNatClampNeg).toInt < 0 then (K_compareSheet_15 x415) else (K_compareSheet_16 (sc0 v423.toNatClampNeg) rec_2 x415 x416 x417 x418 rails fg fr pn cup))
def K_compareSheet_26 (x415 : Int32) : (Int32) := (((-20 : Int32) - x415))
def K_compareSheet_32 (rec_2 : (Int32) → (Int32) → (Int32) → (Int32) → ((Int32))) (x415 : Int32) (v451 : Int32) (x417 : Int32) (x418 : Int32) : (Int32) := (rec_2 (x415 + 1) v451 x417 (x418 + 1))
def K_compareSheet_34 (rec_2 : (Int32) → (Int32) → (Int32) → (Int32) → ((Int32))) (x415 : Int32) (v451 : Int32) (x418 : Int32) : (Int32) := (rec_2 (x415 + 1) v451 x415 x418)
def K_compareSheet_33 (rec_2 : (Int32) → (Int32) → (Int32) → (Int32) → ((Int32))) (x415 : Int32) (v451 : Int32) (x417 : Int32) (x418 : Int32) : (Int32) := (rec_2 (x415 + 1) v451 x417 x418)
def K_compareSheet_31 (x417 : Int32) (rec_2 : (Int32) → (Int32) → (Int32) → (Int32) → ((Int32))) (x415 : Int32) (v451 : Int32) (x418 : Int32) : (Int32) := (if x417.toInt = (-4) then (K_compareSheet_34 rec_2 x415 v451 x418) else (K_compareSheet_33 rec_2 x415 v451 x417 x418))
def K_compareSheet_30 (v444 : Int32) (r448 : Int32) (rec_2 : (Int32) → (Int32) → (Int32) → (Int32) → ((Int32))) (x415 : Int32) (x416 : Int32) (x417 : Int32) (x418 : Int32) : (Int32) := (if (if 0 ≤ (v444 - r448) then (v444 - r448) else 0 - (v444 - r448)).toInt = 0 then (K_compareSheet_32 rec_2 x415 (x416 + (if 0 ≤ (v444 - r448) then (v444 - r448) else 0 - (v444 - r448))) x417 x418) else (K_compareSheet_31 x417 rec_2 x415 (x416 + (if 0 ≤ (v444 - r448) then (v444 - r448) else 0 - (v444 - r448))) x418))
def K_compareSheet_28 (v444 : Int32) (rec_2 : (Int32) → (Int32) → (Int32) → (Int32) → ((Int32))) (x415 : Int32) (x416 : Int32) (x417 : Int32) (x418 : Int32) (rails : Int32) (fg : Nat → Int32) (fr : Nat → Int32) (pn : Nat → Int32) (cup : Int32) : (Int32) := ((fun t9 => (K_compareSheet_30 v444 t9 rec_2 x415 x416 x417 x418)) (M_drawnAt rails x415 fg fr pn cup))
def K_compareSheet_29 (x415 : Int32) : (Int32) := (((-20 : Int32) - x415))
def K_compareSheet_27 (v444 : Int32) (rec_2 : (Int32) → (Int32) → (Int32) → (Int32) → ((Int32))) (x415 : Int32) (x416 : Int32) (x417 : Int32) (x418 : Int32) (rails : Int32) (fg : Nat → Int32) (fr : Nat → Int32) (pn : Nat → Int32) (cup : Int32) : (Int32) := (if v444.toInt ≤ 9999 then (K_compareSheet_28 v444 rec_2 x415 x416 x417 x418 rails fg fr pn cup) else (K_compareSheet_29 x415))
def K_compareSheet_24 (sc1 : Nat → Int32) (v423 : Int32) (x415 : Int32) (rec_2 : (Int32) → (Int32) → (Int32) → (Int32) → ((Int32))) (x416 : Int32) (x417 : Int32) (x418 : Int32) (rails : Int32) (fg : Nat → Int32) (fr : Nat → Int32) (pn : Nat → Int32) (cup : Int32) : (Int32) := (if (sc1 v423.toNatClampNeg).toInt < 0 then (K_compareSheet_26 x415) else (K_compareSheet_27 (sc1 v423.toNatClampNeg) rec_2 x415 x416 x417 x418 rails fg fr pn cup))
def K_compareSheet_37 (x415 : Int32) : (Int32) := (((-20 : Int32) - x415))
def K_compareSheet_43 (rec_2 : (Int32) → (Int32) → (Int32) → (Int32) → ((Int32))) (x415 : Int32) (v467 : Int32) (x417 : Int32) (x418 : Int32) : (Int32) := (rec_2 (x415 + 1) v467 x417 (x418 + 1))
def K_compareSheet_45 (rec_2 : (Int32) → (Int32) → (Int32) → (Int32) → ((Int32))) (x415 : Int32) (v467 : Int32) (x418 : Int32) : (Int32) := (rec_2 (x415 + 1) v467 x415 x418)
def K_compareSheet_44 (rec_2 : (Int32) → (Int32) → (Int32) → (Int32) → ((Int32))) (x415 : Int32) (v467 : Int32) (x417 : Int32) (x418 : Int32) : (Int32) := (rec_2 (x415 + 1) v467 x417 x418)
def K_compareSheet_42 (x417 : Int32) (rec_2 : (Int32) → (Int32) → (Int32) → (Int32) → ((Int32))) (x415 : Int32) (v467 : Int32) (x418 : Int32) : (Int32) := (if x417.toInt = (-4) then (K_compareSheet_45 rec_2 x415 v467 x418) else (K_compareSheet_44 rec_2 x415 v467 x417 x418))
def K_compareSheet_41 (v460 : Int32) (r464 : Int32) (rec_2 : (Int32) → (Int32) → (Int32) → (Int32) → ((Int32))) (x415 : Int32) (x416 : Int32) (x417 : Int32) (x418 : Int32) : (Int32) := (if (if 0 ≤ (v460 - r464) then (v460 - r464) else 0 - (v460 - r464)).toInt = 0 then (K_compareSheet_43 rec_2 x415 (x416 + (if 0 ≤ (v460 - r464) then (v460 - r464) else 0 - (v460 - r464))) x417 x418) else (K_compareSheet_42 x417 rec_2 x415 (x416 + (if 0 ≤ (v460 - r464) then (v460 - r464) else 0 - (v460 - r464))) x418))
def K_compareSheet_39 (v460 : Int32) (rec_2 : (Int32) → (Int32) → (Int32) → (Int32) → ((Int32))) (x415 : Int32) (x416 : Int32) (x417 : Int32) (x418 : Int32) (rails : Int32) (fg : Nat → Int32) (fr : Nat → Int32) (pn : Nat → Int32) (cup : Int32) : (Int32) := ((fun t9 => (K_compareSheet_41 v460 t9 rec_2 x415 x416 x417 x418)) (M_drawnAt rails x415 fg fr pn cup))
def K_compareSheet_40 (x415 : Int32) : (Int32) := (((-20 : Int32) - x415))
def K_compareSheet_38 (v460 : Int32) (rec_2 : (Int32) → (Int32) → (Int32) → (Int32) → ((Int32))) (x415 : Int32) (x416 : Int32) (x417 : Int32) (x418 : Int32) (rails : Int32) (fg : Nat → Int32) (fr : Nat → Int32) (pn : Nat → Int32) (cup : Int32) : (Int32) := (if v460.toInt ≤ 9999 then (K_compareSheet_39 v460 rec_2 x415 x416 x417 x418 rails fg fr pn cup) else (K_compareSheet_40 x415))
def K_compareSheet_35 (sc2 : Nat → Int32) (v423 : Int32) (x415 : Int32) (rec_2 : (Int32) → (Int32) → (Int32) → (Int32) → ((Int32))) (x416 : Int32) (x417 : Int32) (x418 : Int32) (rails : Int32) (fg : Nat → Int32) (fr : Nat → Int32) (pn : Nat → Int32) (cup : Int32) : (Int32) := (if (sc2 v423.toNatClampNeg).toInt < 0 then (K_compareSheet_37 x415) else (K_compareSheet_38 (sc2 v423.toNatClampNeg) rec_2 x415 x416 x417 x418 rails fg fr pn cup))
def K_compareSheet_46 (x415 : Int32) : (Int32) := (((-20 : Int32) - x415))
def K_compareSheet_52 (rec_2 : (Int32) → (Int32) → (Int32) → (Int32) → ((Int32))) (x415 : Int32) (v483 : Int32) (x417 : Int32) (x418 : Int32) : (Int32) := (rec_2 (x415 + 1) v483 x417 (x418 + 1))
def K_compareSheet_54 (rec_2 : (Int32) → (Int32) → (Int32) → (Int32) → ((Int32))) (x415 : Int32) (v483 : Int32) (x418 : Int32) : (Int32) := (rec_2 (x415 + 1) v483 x415 x418)
def K_compareSheet_53 (rec_2 : (Int32) → (Int32) → (Int32) → (Int32) → ((Int32))) (x415 : Int32) (v483 : Int32) (x417 : Int32) (x418 : Int32) : (Int32) := (rec_2 (x415 + 1) v483 x417 x418)
def K_compareSheet_51 (x417 : Int32) (rec_2 : (Int32) → (Int32) → (Int32) → (Int32) → ((Int32))) (x415 : Int32) (v483 : Int32) (x418 : Int32) : (Int32) := (if x417.toInt = (-4) then (K_compareSheet_54 rec_2 x415 v483 x418) else (K_compareSheet_53 rec_2 x415 v483 x417 x418))
def K_compareSheet_50 (v476 : Int32) (r480 : Int32) (rec_2 : (Int32) → (Int32) → (Int32) → (Int32) → ((Int32))) (x415 : Int32) (x416 : Int32) (x417 : Int32) (x418 : Int32) : (Int32) := (if (if 0 ≤ (v476 - r480) then (v476 - r480) else 0 - (v476 - r480)).toInt = 0 then (K_compareSheet_52 rec_2 x415 (x416 + (if 0 ≤ (v476 - r480) then (v476 - r480) else 0 - (v476 - r480))) x417 x418) else (K_compareSheet_51 x417 rec_2 x415 (x416 + (if 0 ≤ (v476 - r480) then (v476 - r480) else 0 - (v476 - r480))) x418))
def K_compareSheet_48 (v476 : Int32) (rec_2 : (Int32) → (Int32) → (Int32) → (Int32) → ((Int32))) (x415 : Int32) (x416 : Int32) (x417 : Int32) (x418 : Int32) (rails : Int32) (fg : Nat → Int32) (fr : Nat → Int32) (pn : Nat → Int32) (cup : Int32) : (Int32) := ((fun t9 => (K_compareSheet_50 v476 t9 rec_2 x415 x416 x417 x418)) (M_drawnAt rails x415 fg fr pn cup))
def K_compareSheet_49 (x415 : Int32) : (Int32) := (((-20 : Int32) - x415))
def K_compareSheet_47 (v476 : Int32) (rec_2 : (Int32) → (Int32) → (Int32) → (Int32) → ((Int32))) (x415 : Int32) (x416 : Int32) (x417 : Int32) (x418 : Int32) (rails : Int32) (fg : Nat → Int32) (fr : Nat → Int32) (pn : Nat → Int32) (cup : Int32) : (Int32) := (if v476.toInt ≤ 9999 then (K_compareSheet_48 v476 rec_2 x415 x416 x417 x418 rails fg fr pn cup) else (K_compareSheet_49 x415))
def K_compareSheet_36 (sc3 : Nat → Int32) (v423 : Int32) (x415 : Int32) (rec_2 : (Int32) → (Int32) → (Int32) → (Int32) → ((Int32))) (x416 : Int32) (x417 : Int32) (x418 : Int32) (rails : Int32) (fg : Nat → Int32) (fr : Nat → Int32) (pn : Nat → Int32) (cup : Int32) : (Int32) := (if (sc3 v423.toNatClampNeg).toInt < 0 then (K_compareSheet_46 x415) else (K_compareSheet_47 (sc3 v423.toNatClampNeg) rec_2 x415 x416 x417 x418 rails fg fr pn cup))
def K_compareSheet_25 (a0 : Int32) (sc2 : Nat → Int32) (v423 : Int32) (x415 : Int32) (rec_2 : (Int32) → (Int32) → (Int32) → (Int32) → ((Int32))) (x416 : Int32) (x417 : Int32) (x418 : Int32) (rails : Int32) (fg : Nat → Int32) (fr : Nat → Int32) (pn : Nat → Int32) (cup : Int32) (sc3 : Nat → Int32) : (Int32) := (if a0.toInt = 2 then (K_compareSheet_35 sc2 v423 x415 rec_2 x416 x417 x418 rails fg fr pn cup) else (K_compareSheet_36 sc3 v423 x415 rec_2 x416 x417 x418 rails fg fr pn cup))
def K_compareSheet_14 (a0 : Int32) (sc1 : Nat → Int32) (v423 : Int32) (x415 : Int32) (rec_2 : (Int32) → (Int32) → (Int32) → (Int32) → ((Int32))) (x416 : Int32) (x417 : Int32) (x418 : Int32) (rails : Int32) (fg : Nat → Int32) (fr : Nat → Int32) (pn : Nat → Int32) (cup : Int32) (sc2 : Nat → Int32) (sc3 : Nat → Int32) : (Int32) := (if a0.toInt = 1 then (K_compareSheet_24 sc1 v423 x415 rec_2 x416 x417 x418 rails fg fr pn cup) else (K_compareSheet_25 a0 sc2 v423 x415 rec_2 x416 x417 x418 rails fg fr pn cup sc3))
def K_compareSheet_11 (a0 : Int32) (sc0 : Nat → Int32) (v423 : Int32) (x415 : Int32) (rec_2 : (Int32) → (Int32) → (Int32) → (Int32) → ((Int32))) (x416 : Int32) (x417 : Int32) (x418 : Int32) (rails : Int32) (fg : Nat → Int32) (fr : Nat → Int32) (pn : Nat → Int32) (cup : Int32) (sc1 : Nat → Int32) (sc2 : Nat → Int32) (sc3 : Nat → Int32) : (Int32) := (if a0.toInt = 0 then (K_compareSheet_13 sc0 v423 x415 rec_2 x416 x417 x418 rails fg fr pn cup) else (K_compareSheet_14 a0 sc1 v423 x415 rec_2 x416 x417 x418 rails fg fr pn cup sc2 sc3))
def K_compareSheet_12  : (Int32) := ((-12 : Int32))
def K_compareSheet_10 (v423 : Int32) (szs : Nat → Int32) (a0 : Int32) (sc0 : Nat → Int32) (x415 : Int32) (rec_2 : (Int32) → (Int32) → (Int32) → (Int32) → ((Int32))) (x416 : Int32) (x417 : Int32) (x418 : Int32) (rails : Int32) (fg : Nat → Int32) (fr : Nat → Int32) (pn : Nat → Int32) (cup : Int32) (sc1 : Nat → Int32) (sc2 : Nat → Int32) (sc3 : Nat → Int32) : (Int32) := (if v423.toInt < (szs a0.toNatClampNeg).toInt then (K_compareSheet_11 a0 sc0 v423 x415 rec_2 x416 x417 x418 rails fg fr pn cup sc1 sc2 sc3) else (K_compareSheet_12))
def K_compareSheet_4 (a1 : Int32) (x415 : Int32) (szs : Nat → Int32) (a0 : Int32) (sc0 : Nat → Int32) (rec_2 : (Int32) → (Int32) → (Int32) → (Int32) → ((Int32))) (x416 : Int32) (x417 : Int32) (x418 : Int32) (rails : Int32) (fg : Nat → Int32) (fr : Nat → Int32) (pn : Nat → Int32) (cup : Int32) (sc1 : Nat → Int32) (sc2 : Nat → Int32) (sc3 : Nat → Int32) : (Int32) := (if (a1 + x415).toInt < 0 then (K_compareSheet_9) else (K_compareSheet_10 (a1 + x415) szs a0 sc0 x415 rec_2 x416 x417 x418 rails fg fr pn cup sc1 sc2 sc3))
def K_compareSheet_2 (a2 : Int32) (x415 : Int32) (a3 : Int32) (x418 : Int32) (x417 : Int32) (x416 : Int32) (a1 : Int32) (szs : Nat → Int32) (a0 : Int32) (sc0 : Nat → Int32) (rec_2 : (Int32) → (Int32) → (Int32) → (Int32) → ((Int32))) (rails : Int32) (fg : Nat → Int32) (fr : Nat → Int32) (pn : Nat → Int32) (cup : Int32) (sc1 : Nat → Int32) (sc2 : Nat → Int32) (sc3 : Nat → Int32) : (Int32) := (if a2.toInt ≤ x415.toInt then (K_compareSheet_3 a3 x418 x417 x416) else (K_compareSheet_4 a1 x415 szs a0 sc0 rec_2 x416 x417 x418 rails fg fr pn cup sc1 sc2 sc3))
def K_compareSheet_L2 (a2 : Int32) (a3 : Int32) (a1 : Int32) (szs : Nat → Int32) (a0 : Int32) (sc0 : Nat → Int32) (rails : Int32) (fg : Nat → Int32) (fr : Nat → Int32) (pn : Nat → Int32) (cup : Int32) (sc1 : Nat → Int32) (sc2 : Nat → Int32) (sc3 : Nat → Int32) : Nat → (Int32) → (Int32) → (Int32) → (Int32) → (Int32)
  | 0, _, _, _, _ => (0)
  | n9 + 1, x415, x416, x417, x418 => (K_compareSheet_2 a2 x415 a3 x418 x417 x416 a1 szs a0 sc0 (K_compareSheet_L2 a2 a3 a1 szs a0 sc0 rails fg fr pn cup sc1 sc2 sc3 n9) rails fg fr pn cup sc1 sc2 sc3)
def K_compareSheet_1 (a2 : Int32) (a3 : Int32) (a1 : Int32) (szs : Nat → Int32) (a0 : Int32) (sc0 : Nat → Int32) (rails : Int32) (fg : Nat → Int32) (fr : Nat → Int32) (pn : Nat → Int32) (cup : Int32) (sc1 : Nat → Int32) (sc2 : Nat → Int32) (sc3 : Nat → Int32) : (Int32) := (K_compareSheet_L2 a2 a3 a1 szs a0 sc0 rails fg fr pn cup sc1 sc2 sc3 100000 (0 : Int32) (0 : Int32) (-4 : Int32) (0 : Int32))
def M_compareSheet (a2 : Int32) (a3 : Int32) (a1 : Int32) (szs : Nat → Int32) (a0 : Int32) (sc0 : Nat → Int32) (rails : Int32) (fg : Nat → Int32) (fr : Nat → Int32) (pn : Nat → Int32) (cup : Int32) (sc1 : Nat → Int32) (sc2 : Nat → Int32) (sc3 : Nat → Int32) : (Int32) := (K_compareSheet_1 a2 a3 a1 szs a0 sc0 rails fg fr pn cup sc1 sc2 sc3)
abbrev W_compareSheet (cI cJ cZ cG cH : ClassId) (xo : Nat) (a0 : Int32) (a1 : Int32) (a2 : Int32) (a3 : Int32) (tp : Nat) (rd : Nat) (rn : Nat) (co : Nat) (wy : Nat) (sg : Nat) (sh : Nat) (pl : Nat) (sp : Nat) (lf : Int32) (sca : Nat) (sla : Nat) (ssa : Nat) (rr : Nat → Nat) (sc0 : Nat → Int32) (sc1 : Nat → Int32) (sc2 : Nat → Int32) (sc3 : Nat → Int32) (sl : Nat → Int32) (szs : Nat → Int32) (fwa : Nat) (fta : Nat) (fra : Nat) (fga : Nat) (cxa : Nat) (cup : Int32) (clast : Int32) (cpeak : Int32) (cptick : Int32) (fr : Nat → Int32) (fg : Nat → Int32) (pna : Nat) (pta : Nat) (rails : Int32) (limit : Int32) (retry : Int32) (behind : Int32) (pn : Nat → Int32) : va_W := [oX10 xo tp rd rn co wy sg sh pl sp lf, oX6 sh sca sla ssa, oAM sca cG 4 rr, oAI (rr 0) cI 40 sc0, oAI (rr 1) cI 40 sc1, oAI (rr 2) cI 40 sc2, oAI (rr 3) cI 40 sc3, oAI sla cI 4 sl, oAI ssa cI 4 szs, oX0 co fwa fta fra fga cxa cup clast cpeak cptick, oAI fra cI 8 fr, oAI fga cI 8 fg, oX3 pl pna pta rails limit retry behind, oAI pna cI 64 pn]
abbrev Q_compareSheet (D : va_G) (cI cJ cZ cG cH : ClassId) (xo : Nat) (a0 : Int32) (a1 : Int32) (a2 : Int32) (a3 : Int32) (tp : Nat) (rd : Nat) (rn : Nat) (co : Nat) (wy : Nat) (sg : Nat) (sh : Nat) (pl : Nat) (sp : Nat) (lf : Int32) (sca : Nat) (sla : Nat) (ssa : Nat) (rr : Nat → Nat) (sc0 : Nat → Int32) (sc1 : Nat → Int32) (sc2 : Nat → Int32) (sc3 : Nat → Int32) (sl : Nat → Int32) (szs : Nat → Int32) (fwa : Nat) (fta : Nat) (fra : Nat) (fga : Nat) (cxa : Nat) (cup : Int32) (clast : Int32) (cpeak : Int32) (cptick : Int32) (fr : Nat → Int32) (fg : Nat → Int32) (pna : Nat) (pta : Nat) (rails : Int32) (limit : Int32) (retry : Int32) (behind : Int32) (pn : Nat → Int32) (A : Nat → Prop) : Array Value → State → Outcome → State → Prop := va_Qi (fun (r : Int32) (u9 : Int32) => r = u9 ∧ (True)) (fun u9 t => (M_compareSheet a2 a3 a1 szs a0 sc0 rails fg fr pn cup sc1 sc2 sc3 = (u9)) ∧ xB D (tyL cI cJ cZ cG cH) [oX10 xo tp rd rn co wy sg sh pl sp lf, oX6 sh sca sla ssa, oAM sca cG 4 rr, oAI (rr 0) cI 40 sc0, oAI (rr 1) cI 40 sc1, oAI (rr 2) cI 40 sc2, oAI (rr 3) cI 40 sc3, oAI sla cI 4 sl, oAI ssa cI 4 szs, oX0 co fwa fta fra fga cxa cup clast cpeak cptick, oAI fra cI 8 fr, oAI fga cI 8 fg, oX3 pl pna pta rails limit retry behind, oAI pna cI 64 pn] A t) A
abbrev rm_compareSheet : Room := { frames := 2, cells := 0, slots := 0, locals := 46 }
set_option maxRecDepth 100000 in
set_option maxHeartbeats 40000000 in
theorem c_compareSheet (l : Launch) (D : va_G) (cI cJ cZ cG cH : ClassId) (sz : Nat) (xo : Nat) (a0 : Int32) (a1 : Int32) (a2 : Int32) (a3 : Int32) (tp : Nat) (rd : Nat) (rn : Nat) (co : Nat) (wy : Nat) (sg : Nat) (sh : Nat) (pl : Nat) (sp : Nat) (lf : Int32) (sca : Nat) (sla : Nat) (ssa : Nat) (rr : Nat → Nat) (sc0 : Nat → Int32) (sc1 : Nat → Int32) (sc2 : Nat → Int32) (sc3 : Nat → Int32) (sl : Nat → Int32) (szs : Nat → Int32) (fwa : Nat) (fta : Nat) (fra : Nat) (fga : Nat) (cxa : Nat) (cup : Int32) (clast : Int32) (cpeak : Int32) (cptick : Int32) (fr : Nat → Int32) (fg : Nat → Int32) (pna : Nat) (pta : Nat) (rails : Int32) (limit : Int32) (retry : Int32) (behind : Int32) (pn : Nat → Int32) (h_a0 : 0 ≤ a0.toInt ∧ a0.toInt ≤ 3) (h_a2 : 0 ≤ a2.toInt ∧ a2.toInt ≤ 40) (h_szs : ∀ j, j < 4 → (-4) ≤ (szs j).toInt ∧ (szs j).toInt ≤ 40) (h_clast : 0 ≤ clast.toInt ∧ clast.toInt ≤ 144) (h_fr : ∀ j, j < 8 → 0 ≤ (fr j).toInt ∧ (fr j).toInt ≤ 655) (h_fg : ∀ j, j < 8 → 0 ≤ (fg j).toInt ∧ (fg j).toInt ≤ 1166) (h_rails : 0 ≤ rails.toInt ∧ rails.toInt ≤ 8) (h_pn : ∀ j, j < 64 → 0 ≤ (pn j).toInt ∧ (pn j).toInt ≤ 511) (h_le : ∀ j, j < 8 → (fr j).toInt ≤ (fg j).toInt) : Met l yX10_compareSheet (wt yX10_compareSheet cX10_compareSheet 12 (some .int)) rm_compareSheet (xPc [.ref xo, .int a0, .int a1, .int a2, .int a3] D (tyL cI cJ cZ cG cH) (W_compareSheet cI cJ cZ cG cH xo a0 a1 a2 a3 tp rd rn co wy sg sh pl sp lf sca sla ssa rr sc0 sc1 sc2 sc3 sl szs fwa fta fra fga cxa cup clast cpeak cptick fr fg pna pta rails limit retry behind pn) sz) (Q_compareSheet D cI cJ cZ cG cH xo a0 a1 a2 a3 tp rd rn co wy sg sh pl sp lf sca sla ssa rr sc0 sc1 sc2 sc3 sl szs fwa fta fra fga cxa cup clast cpeak cptick fr fg pna pta rails limit retry behind pn (va_A (W_compareSheet cI cJ cZ cG cH xo a0 a1 a2 a3 tp rd rn co wy sg sh pl sp lf sca sla ssa rr sc0 sc1 sc2 sc3 sl szs fwa fta fra fga cxa cup clast cpeak cptick fr fg pna pta rails limit retry behind pn) sz)) 0 0 (va_A (W_compareSheet cI cJ cZ cG cH xo a0 a1 a2 a3 tp rd rn co wy sg sh pl sp lf sca sla ssa rr sc0 sc1 sc2 sc3 sl szs fwa fta fra fga cxa cup clast cpeak cptick fr fg pna pta rails limit retry behind pn) sz) := by
  refine xMet (cc := cX10_compareSheet) (maxL := 12) (ret := (some .int)) (Qf := Q_compareSheet D cI cJ cZ cG cH xo a0 a1 a2 a3 tp rd rn co wy sg sh pl sp lf sca sla ssa rr sc0 sc1 sc2 sc3 sl szs fwa fta fra fga cxa cup clast cpeak cptick fr fg pna pta rails limit retry behind pn) (by decide) rfl (Nat.le_of_ble_eq_true rfl) ?_
  intro p e s m below meth c ls A hx hb hr hml hts hown hlocks hnm hsz hP hK hD hA hS hl
  have hown : s.vm.findClass RX10 = some m.cls := hown
  have hP : va_P D vwCl [oX10 xo tp rd rn co wy sg sh pl sp lf, oX6 sh sca sla ssa, oAM sca cG 4 rr, oAI (rr 0) cI 40 sc0, oAI (rr 1) cI 40 sc1, oAI (rr 2) cI 40 sc2, oAI (rr 3) cI 40 sc3, oAI sla cI 4 sl, oAI ssa cI 4 szs, oX0 co fwa fta fra fga cxa cup clast cpeak cptick, oAI fra cI 8 fr, oAI fga cI 8 fg, oX3 pl pna pta rails limit retry behind, oAI pna cI 64 pn] s.heap := hP
  have hD : va_D A [oX10 xo tp rd rn co wy sg sh pl sp lf, oX6 sh sca sla ssa, oAM sca cG 4 rr, oAI (rr 0) cI 40 sc0, oAI (rr 1) cI 40 sc1, oAI (rr 2) cI 40 sc2, oAI (rr 3) cI 40 sc3, oAI sla cI 4 sl, oAI ssa cI 4 szs, oX0 co fwa fta fra fga cxa cup clast cpeak cptick, oAI fra cI 8 fr, oAI fga cI 8 fg, oX3 pl pna pta rails limit retry behind, oAI pna cI 64 pn] := hD
  have hl : lv_has ls 12 [(0, .ref xo), (1, .int a0), (2, .int a1), (3, .int a2), (4, .int a3)] := hl
  have hM : M_compareSheet a2 a3 a1 szs a0 sc0 rails fg fr pn cup sc1 sc2 sc3 = (K_compareSheet_1 a2 a3 a1 szs a0 sc0 rails fg fr pn cup sc1 sc2 sc3) := rfl
  refine lv_iconst (v := 0) hx hb dX10_compareSheet_0 (by decide) ?_
  refine lv_istore (lv' := [(5, .int 0), (0, .ref xo), (1, .int a0), (2, .int a1), (3, .int a2), (4, .int a3)]) hx hb dX10_compareSheet_1 hl (by decide) rfl (fun ls hl => ?_)
  refine lv_bipush (v := (-4)) hx hb dX10_compareSheet_3 (by decide) ?_
  refine lv_istore (lv' := [(6, .int (-4)), (5, .int 0), (0, .ref xo), (1, .int a0), (2, .int a1), (3, .int a2), (4, .int a3)]) hx hb dX10_compareSheet_5 hl (by decide) rfl (fun ls hl => ?_)
  refine lv_iconst (v := 0) hx hb dX10_compareSheet_7 (by decide) ?_
  refine lv_istore (lv' := [(7, .int 0), (6, .int (-4)), (5, .int 0), (0, .ref xo), (1, .int a0), (2, .int a1), (3, .int a2), (4, .int a3)]) hx hb dX10_compareSheet_8 hl (by decide) rfl (fun ls hl => ?_)
  refine lv_iconst (v := 0) hx hb dX10_compareSheet_10 (by decide) ?_
  refine lv_istore (lv' := [(8, .int 0), (7, .int 0), (6, .int (-4)), (5, .int 0), (0, .ref xo), (1, .int a0), (2, .int a1), (3, .int a2), (4, .int a3)]) hx hb dX10_compareSheet_11 hl (by decide) rfl (fun ls hl => ?_)
  have hl419 : ∀ (nhl419 : Nat) (x415 : Int32) (x416 : Int32) (x417 : Int32) (x418 : Int32), ((40 - x415.toInt).toNat < nhl419) → (hx415 : 0 ≤ x415.toInt ∧ x415.toInt ≤ 40) → (hx417 : (-4) ≤ x417.toInt ∧ x417.toInt ≤ 39) → (hM : M_compareSheet a2 a3 a1 szs a0 sc0 rails fg fr pn cup sc1 sc2 sc3 = (K_compareSheet_L2 a2 a3 a1 szs a0 sc0 rails fg fr pn cup sc1 sc2 sc3 nhl419 x415 x416 x417 x418)) → ∀ (H : Heap) (locs : List Loc), va_P D vwCl [oX10 xo tp rd rn co wy sg sh pl sp lf, oX6 sh sca sla ssa, oAM sca cG 4 rr, oAI (rr 0) cI 40 sc0, oAI (rr 1) cI 40 sc1, oAI (rr 2) cI 40 sc2, oAI (rr 3) cI 40 sc3, oAI sla cI 4 sl, oAI ssa cI 4 szs, oX0 co fwa fta fra fga cxa cup clast cpeak cptick, oAI fra cI 8 fr, oAI fga cI 8 fg, oX3 pl pna pta rails limit retry behind, oAI pna cI 64 pn] H → va_D A [oX10 xo tp rd rn co wy sg sh pl sp lf, oX6 sh sca sla ssa, oAM sca cG 4 rr, oAI (rr 0) cI 40 sc0, oAI (rr 1) cI 40 sc1, oAI (rr 2) cI 40 sc2, oAI (rr 3) cI 40 sc3, oAI sla cI 4 sl, oAI ssa cI 4 szs, oX0 co fwa fta fra fga cxa cup clast cpeak cptick, oAI fra cI 8 fr, oAI fga cI 8 fg, oX3 pl pna pta rails limit retry behind, oAI pna cI 64 pn] → va_S A s.heap H locs → ∀ (ls : Array Slot), lv_has ls 12 [(8, .int x415), (7, .int x416), (6, .int x417), (5, .int x418), (0, .ref xo), (1, .int a0), (2, .int a1), (3, .int a2), (4, .int a3)] → W p l e rm_compareSheet s m [Value.ref xo, Value.int a0, Value.int a1, Value.int a2, Value.int a3].toArray below meth c H locs 0 0 (MQ below ((Q_compareSheet D cI cJ cZ cG cH xo a0 a1 a2 a3 tp rd rn co wy sg sh pl sp lf sca sla ssa rr sc0 sc1 sc2 sc3 sl szs fwa fta fra fga cxa cup clast cpeak cptick fr fg pna pta rails limit retry behind pn) A) [Value.ref xo, Value.int a0, Value.int a1, Value.int a2, Value.int a3].toArray s 0 0 A) (F0 m 13 ls []) := by
    intro nhl419
    induction nhl419 with
    | zero =>
      intro x415 x416 x417 x418 hmhl419
      exact absurd hmhl419 (Nat.not_lt_zero _)
    | succ nhl419 ihhl419 =>
      intro x415 x416 x417 x418 hmhl419 hx415 hx417 hM H locs hP hD hS ls hl
      have hM : M_compareSheet a2 a3 a1 szs a0 sc0 rails fg fr pn cup sc1 sc2 sc3 = (K_compareSheet_2 a2 x415 a3 x418 x417 x416 a1 szs a0 sc0 (K_compareSheet_L2 a2 a3 a1 szs a0 sc0 rails fg fr pn cup sc1 sc2 sc3 nhl419) rails fg fr pn cup sc1 sc2 sc3) := hM
      refine lv_iload hx hb dX10_compareSheet_13 (lv_at hl 0 rfl) ?_
      refine lv_iload_n hx hb dX10_compareSheet_15 rfl (lv_at hl 7 rfl) ?_
      refine lv_icmp_ge (tgt := 136) hx hb dX10_compareSheet_16 (by decide) (fun c_420 => ?_) (fun c_420 => ?_)
      · skip
        have i_420 : a2.toInt ≤ x415.toInt := (ile rfl rfl).mp c_420
        have hM : M_compareSheet a2 a3 a1 szs a0 sc0 rails fg fr pn cup sc1 sc2 sc3 = (K_compareSheet_3 a3 x418 x417 x416) := (show M_compareSheet a2 a3 a1 szs a0 sc0 rails fg fr pn cup sc1 sc2 sc3 = (if a2.toInt ≤ x415.toInt then (K_compareSheet_3 a3 x418 x417 x416) else (K_compareSheet_4 a1 x415 szs a0 sc0 (K_compareSheet_L2 a2 a3 a1 szs a0 sc0 rails fg fr pn cup sc1 sc2 sc3 nhl419) x416 x417 x418 rails fg fr pn cup sc1 sc2 sc3)) from hM).trans (if_pos i_420)
        refine lv_iload hx hb dX10_compareSheet_136 (lv_at hl 8 rfl) ?_
        refine lv_if_ne (tgt := 146) hx hb dX10_compareSheet_138 (by decide) (fun c_421 => ?_) (fun c_421 => ?_)
        · skip
          have i_421 : ¬ (a3.toInt = 0) := fun h9 => c_421 ((ieq rfl (by decide)).mpr h9)
          have hM : M_compareSheet a2 a3 a1 szs a0 sc0 rails fg fr pn cup sc1 sc2 sc3 = (K_compareSheet_5 a3 x417 x416) := (show M_compareSheet a2 a3 a1 szs a0 sc0 rails fg fr pn cup sc1 sc2 sc3 = (if a3.toInt = 0 then (K_compareSheet_6 x418) else (K_compareSheet_5 a3 x417 x416)) from hM).trans (if_neg i_421)
          refine lv_iload hx hb dX10_compareSheet_146 (lv_at hl 8 rfl) ?_
          refine lv_iconst (v := 1) hx hb dX10_compareSheet_148 (by decide) ?_
          refine lv_icmp_ne (tgt := 157) hx hb dX10_compareSheet_149 (by decide) (fun c_422 => ?_) (fun c_422 => ?_)
          · skip
            have i_422 : ¬ (a3.toInt = 1) := fun h9 => c_422 ((ieq rfl (by decide)).mpr h9)
            have hM : M_compareSheet a2 a3 a1 szs a0 sc0 rails fg fr pn cup sc1 sc2 sc3 = (K_compareSheet_7 x416) := (show M_compareSheet a2 a3 a1 szs a0 sc0 rails fg fr pn cup sc1 sc2 sc3 = (if a3.toInt = 1 then (K_compareSheet_8 x417) else (K_compareSheet_7 x416)) from hM).trans (if_neg i_422)
            refine lv_iload hx hb dX10_compareSheet_157 (lv_at hl 1 rfl) ?_
            refine W.widen (k := 0) (n := 0) (by decide) (by decide) ?_
            exact W.iret (v := x416) hx hb hr (fun t ht hW => ⟨⟨x416, x416, rfl, ⟨rfl, trivial⟩, ⟨hM, xB_of9 ht hW hP hK hD [0, 1, 2, 3, 4, 5, 6, 7, 8, 9, 10, 11, 12, 13] (by decide +kernel) rfl⟩⟩, hS.F ht⟩) hS.2.2 dX10_compareSheet_159
          · skip
            have i_422 : a3.toInt = 1 := (ieq rfl (by decide)).mp c_422
            have hM : M_compareSheet a2 a3 a1 szs a0 sc0 rails fg fr pn cup sc1 sc2 sc3 = (K_compareSheet_8 x417) := (show M_compareSheet a2 a3 a1 szs a0 sc0 rails fg fr pn cup sc1 sc2 sc3 = (if a3.toInt = 1 then (K_compareSheet_8 x417) else (K_compareSheet_7 x416)) from hM).trans (if_pos i_422)
            refine lv_iload hx hb dX10_compareSheet_152 (lv_at hl 2 rfl) ?_
            refine lv_goto (tgt := 159) hx hb dX10_compareSheet_154 (by decide) ?_
            refine W.widen (k := 0) (n := 0) (by decide) (by decide) ?_
            exact W.iret (v := x417) hx hb hr (fun t ht hW => ⟨⟨x417, x417, rfl, ⟨rfl, trivial⟩, ⟨hM, xB_of9 ht hW hP hK hD [0, 1, 2, 3, 4, 5, 6, 7, 8, 9, 10, 11, 12, 13] (by decide +kernel) rfl⟩⟩, hS.F ht⟩) hS.2.2 dX10_compareSheet_159
        · skip
          have i_421 : a3.toInt = 0 := (ieq rfl (by decide)).mp c_421
          have hM : M_compareSheet a2 a3 a1 szs a0 sc0 rails fg fr pn cup sc1 sc2 sc3 = (K_compareSheet_6 x418) := (show M_compareSheet a2 a3 a1 szs a0 sc0 rails fg fr pn cup sc1 sc2 sc3 = (if a3.toInt = 0 then (K_compareSheet_6 x418) else (K_compareSheet_5 a3 x417 x416)) from hM).trans (if_pos i_421)
          refine lv_iload hx hb dX10_compareSheet_141 (lv_at hl 3 rfl) ?_
          refine lv_goto (tgt := 159) hx hb dX10_compareSheet_143 (by decide) ?_
          refine W.widen (k := 0) (n := 0) (by decide) (by decide) ?_
          exact W.iret (v := x418) hx hb hr (fun t ht hW => ⟨⟨x418, x418, rfl, ⟨rfl, trivial⟩, ⟨hM, xB_of9 ht hW hP hK hD [0, 1, 2, 3, 4, 5, 6, 7, 8, 9, 10, 11, 12, 13] (by decide +kernel) rfl⟩⟩, hS.F ht⟩) hS.2.2 dX10_compareSheet_159
      · skip
        have i_420 : ¬ (a2.toInt ≤ x415.toInt) := fun h9 => c_420 ((ile rfl rfl).mpr h9)
        have hM : M_compareSheet a2 a3 a1 szs a0 sc0 rails fg fr pn cup sc1 sc2 sc3 = (K_compareSheet_4 a1 x415 szs a0 sc0 (K_compareSheet_L2 a2 a3 a1 szs a0 sc0 rails fg fr pn cup sc1 sc2 sc3 nhl419) x416 x417 x418 rails fg fr pn cup sc1 sc2 sc3) := (show M_compareSheet a2 a3 a1 szs a0 sc0 rails fg fr pn cup sc1 sc2 sc3 = (if a2.toInt ≤ x415.toInt then (K_compareSheet_3 a3 x418 x417 x416) else (K_compareSheet_4 a1 x415 szs a0 sc0 (K_compareSheet_L2 a2 a3 a1 szs a0 sc0 rails fg fr pn cup sc1 sc2 sc3 nhl419) x416 x417 x418 rails fg fr pn cup sc1 sc2 sc3)) from hM).trans (if_neg i_420)
        refine lv_iload_n hx hb dX10_compareSheet_19 rfl (lv_at hl 6 rfl) ?_
        refine lv_iload hx hb dX10_compareSheet_20 (lv_at hl 0 rfl) ?_
        refine lv_iadd hx hb dX10_compareSheet_22 ?_
        refine lv_topi (fun v423 ev423 => ?_)
        refine lv_istore (lv' := [(9, .int v423), (8, .int x415), (7, .int x416), (6, .int x417), (5, .int x418), (0, .ref xo), (1, .int a0), (2, .int a1), (3, .int a2), (4, .int a3)]) hx hb dX10_compareSheet_23 hl (by decide) rfl (fun ls hl => ?_)
        refine lv_iload hx hb dX10_compareSheet_25 (lv_at hl 0 rfl) ?_
        refine lv_if_lt (tgt := 44) hx hb dX10_compareSheet_27 (by decide) (fun c_424 => ?_) (fun c_424 => ?_)
        · skip
          have i_424 : v423.toInt < 0 := (ilt rfl (by decide)).mp c_424
          have hM : M_compareSheet a2 a3 a1 szs a0 sc0 rails fg fr pn cup sc1 sc2 sc3 = (K_compareSheet_9) := (show M_compareSheet a2 a3 a1 szs a0 sc0 rails fg fr pn cup sc1 sc2 sc3 = (if v423.toInt < 0 then (K_compareSheet_9) else (K_compareSheet_10 v423 szs a0 sc0 x415 (K_compareSheet_L2 a2 a3 a1 szs a0 sc0 rails fg fr pn cup sc1 sc2 sc3 nhl419) x416 x417 x418 rails fg fr pn cup sc1 sc2 sc3)) from (by rw [ev423]; exact hM)).trans (if_pos i_424)
          refine lv_bipush (v := (-12)) hx hb dX10_compareSheet_44 (by decide) ?_
          refine W.widen (k := 0) (n := 0) (by decide) (by decide) ?_
          exact W.iret (v := (-12)) hx hb hr (fun t ht hW => ⟨⟨(-12), (-12), rfl, ⟨rfl, trivial⟩, ⟨hM, xB_of9 ht hW hP hK hD [0, 1, 2, 3, 4, 5, 6, 7, 8, 9, 10, 11, 12, 13] (by decide +kernel) rfl⟩⟩, hS.F ht⟩) hS.2.2 dX10_compareSheet_46
        · skip
          have i_424 : ¬ (v423.toInt < 0) := fun h9 => c_424 ((ilt rfl (by decide)).mpr h9)
          have hM : M_compareSheet a2 a3 a1 szs a0 sc0 rails fg fr pn cup sc1 sc2 sc3 = (K_compareSheet_10 v423 szs a0 sc0 x415 (K_compareSheet_L2 a2 a3 a1 szs a0 sc0 rails fg fr pn cup sc1 sc2 sc3 nhl419) x416 x417 x418 rails fg fr pn cup sc1 sc2 sc3) := (show M_compareSheet a2 a3 a1 szs a0 sc0 rails fg fr pn cup sc1 sc2 sc3 = (if v423.toInt < 0 then (K_compareSheet_9) else (K_compareSheet_10 v423 szs a0 sc0 x415 (K_compareSheet_L2 a2 a3 a1 szs a0 sc0 rails fg fr pn cup sc1 sc2 sc3 nhl419) x416 x417 x418 rails fg fr pn cup sc1 sc2 sc3)) from (by rw [ev423]; exact hM)).trans (if_neg i_424)
          refine lv_iload hx hb dX10_compareSheet_30 (lv_at hl 0 rfl) ?_
          refine lv_aload_n hx hb dX10_compareSheet_32 rfl (lv_at hl 5 rfl) ?_
          refine va_get (D := D) (ci := 9) (v := .ref sh) (C := RX10) (T := TX10) (N := 10) hx hb hts (fun w h => tbC w (tbfX10 w h)) hown hK hP 0 rfl rfl 6 (by decide) (hts (.fieldLink RX10 49 "PowerRails" "sheets" "LPowerRails$Sheets;") (tbC _ wd253)) (fun _ h9 => h9) rfl dX10_compareSheet_33 ?_
          refine va_get (D := D) (ci := 5) (v := .ref ssa) (C := RX6) (T := TX6) (N := 3) hx hb hts (fun w h => tbC w (tbfX6 w h)) hown hK hP 1 rfl rfl 2 (by decide) (hts (.fieldLink RX10 305 "PowerRails$Sheets" "sizes" "[I") (tbC _ wd196)) (fun _ h9 => h9) rfl dX10_compareSheet_36 ?_
          refine lv_iload_n hx hb dX10_compareSheet_39 rfl (lv_at hl 6 rfl) ?_
          refine va_iald hx hb hK hP 8 0 rfl rfl (vp_in_iff.mpr ⟨by omega, by omega⟩) dX10_compareSheet_40 ?_
          refine lv_topi (fun v425 ev425 => ?_)
          have rv425 : (-4) ≤ v425.toInt ∧ v425.toInt ≤ 40 := xrd ev425 h_szs (xinK (vp_in_iff.mpr ⟨by omega, by omega⟩))
          refine lv_icmp_lt (tgt := 47) hx hb dX10_compareSheet_41 (by decide) (fun c_426 => ?_) (fun c_426 => ?_)
          · skip
            have i_426 : v423.toInt < v425.toInt := (ilt rfl rfl).mp c_426
            have hM : M_compareSheet a2 a3 a1 szs a0 sc0 rails fg fr pn cup sc1 sc2 sc3 = (K_compareSheet_11 a0 sc0 v423 x415 (K_compareSheet_L2 a2 a3 a1 szs a0 sc0 rails fg fr pn cup sc1 sc2 sc3 nhl419) x416 x417 x418 rails fg fr pn cup sc1 sc2 sc3) := (show M_compareSheet a2 a3 a1 szs a0 sc0 rails fg fr pn cup sc1 sc2 sc3 = (if v423.toInt < v425.toInt then (K_compareSheet_11 a0 sc0 v423 x415 (K_compareSheet_L2 a2 a3 a1 szs a0 sc0 rails fg fr pn cup sc1 sc2 sc3 nhl419) x416 x417 x418 rails fg fr pn cup sc1 sc2 sc3) else (K_compareSheet_12)) from (by rw [ev425]; exact hM)).trans (if_pos i_426)
            refine lv_aload_n hx hb dX10_compareSheet_47 rfl (lv_at hl 5 rfl) ?_
            refine va_get (D := D) (ci := 9) (v := .ref sh) (C := RX10) (T := TX10) (N := 10) hx hb hts (fun w h => tbC w (tbfX10 w h)) hown hK hP 0 rfl rfl 6 (by decide) (hts (.fieldLink RX10 49 "PowerRails" "sheets" "LPowerRails$Sheets;") (tbC _ wd253)) (fun _ h9 => h9) rfl dX10_compareSheet_48 ?_
            refine va_get (D := D) (ci := 5) (v := .ref sca) (C := RX6) (T := TX6) (N := 3) hx hb hts (fun w h => tbC w (tbfX6 w h)) hown hK hP 1 rfl rfl 0 (by decide) (hts (.fieldLink RX10 327 "PowerRails$Sheets" "cells" "[[I") (tbC _ wd192)) (fun _ h9 => h9) rfl dX10_compareSheet_51 ?_
            refine lv_iload_n hx hb dX10_compareSheet_54 rfl (lv_at hl 6 rfl) ?_
            by_cases h427 : a0.toInt = 0
            · skip
              have hM : M_compareSheet a2 a3 a1 szs a0 sc0 rails fg fr pn cup sc1 sc2 sc3 = (K_compareSheet_13 sc0 v423 x415 (K_compareSheet_L2 a2 a3 a1 szs a0 sc0 rails fg fr pn cup sc1 sc2 sc3 nhl419) x416 x417 x418 rails fg fr pn cup) := (show M_compareSheet a2 a3 a1 szs a0 sc0 rails fg fr pn cup sc1 sc2 sc3 = (if a0.toInt = 0 then (K_compareSheet_13 sc0 v423 x415 (K_compareSheet_L2 a2 a3 a1 szs a0 sc0 rails fg fr pn cup sc1 sc2 sc3 nhl419) x416 x417 x418 rails fg fr pn cup) else (K_compareSheet_14 a0 sc1 v423 x415 (K_compareSheet_L2 a2 a3 a1 szs a0 sc0 rails fg fr pn cup sc1 sc2 sc3 nhl419) x416 x417 x418 rails fg fr pn cup sc2 sc3)) from hM).trans (if_pos h427)
              refine xaldA hx hb hK hP 2 3 rfl rfl (vp_in_iff.mpr ⟨by omega, by omega⟩) dX10_compareSheet_55 (v := .ref (rr 0)) (by rw [xclamp (j := 0) (rfl.trans h427)]; rfl) ?_
              refine lv_iload hx hb dX10_compareSheet_56 (lv_at hl 0 rfl) ?_
              refine va_iald hx hb hK hP 3 0 rfl rfl (vp_in_iff.mpr ⟨by omega, by omega⟩) dX10_compareSheet_58 ?_
              refine lv_topi (fun v428 ev428 => ?_)
              refine lv_istore (lv' := [(10, .int v428), (9, .int v423), (8, .int x415), (7, .int x416), (6, .int x417), (5, .int x418), (0, .ref xo), (1, .int a0), (2, .int a1), (3, .int a2), (4, .int a3)]) hx hb dX10_compareSheet_59 hl (by decide) rfl (fun ls hl => ?_)
              refine lv_iload hx hb dX10_compareSheet_61 (lv_at hl 0 rfl) ?_
              refine lv_if_lt (tgt := 74) hx hb dX10_compareSheet_63 (by decide) (fun c_429 => ?_) (fun c_429 => ?_)
              · skip
                have i_429 : v428.toInt < 0 := (ilt rfl (by decide)).mp c_429
                have hM : M_compareSheet a2 a3 a1 szs a0 sc0 rails fg fr pn cup sc1 sc2 sc3 = (K_compareSheet_15 x415) := (show M_compareSheet a2 a3 a1 szs a0 sc0 rails fg fr pn cup sc1 sc2 sc3 = (if v428.toInt < 0 then (K_compareSheet_15 x415) else (K_compareSheet_16 v428 (K_compareSheet_L2 a2 a3 a1 szs a0 sc0 rails fg fr pn cup sc1 sc2 sc3 nhl419) x415 x416 x417 x418 rails fg fr pn cup)) from (by rw [ev428]; exact hM)).trans (if_pos i_429)
                refine lv_bipush (v := (-20)) hx hb dX10_compareSheet_74 (by decide) ?_
                refine lv_iload hx hb dX10_compareSheet_76 (lv_at hl 2 rfl) ?_
                refine lv_isub hx hb dX10_compareSheet_78 ?_
                refine lv_topi (fun v430 ev430 => ?_)
                have tv430 : v430.toInt = ((-20) - x415.toInt) := (congrArg Int32.toInt ev430).trans (xsub (by decide) rfl (by omega) (by omega))
                refine W.widen (k := 0) (n := 0) (by decide) (by decide) ?_
                exact W.iret (v := v430) hx hb hr (fun t ht hW => ⟨⟨v430, v430, rfl, ⟨rfl, trivial⟩, ⟨(by rw [ev430]; exact hM), xB_of9 ht hW hP hK hD [0, 1, 2, 3, 4, 5, 6, 7, 8, 9, 10, 11, 12, 13] (by decide +kernel) rfl⟩⟩, hS.F ht⟩) hS.2.2 dX10_compareSheet_79
              · skip
                have i_429 : ¬ (v428.toInt < 0) := fun h9 => c_429 ((ilt rfl (by decide)).mpr h9)
                have hM : M_compareSheet a2 a3 a1 szs a0 sc0 rails fg fr pn cup sc1 sc2 sc3 = (K_compareSheet_16 v428 (K_compareSheet_L2 a2 a3 a1 szs a0 sc0 rails fg fr pn cup sc1 sc2 sc3 nhl419) x415 x416 x417 x418 rails fg fr pn cup) := (show M_compareSheet a2 a3 a1 szs a0 sc0 rails fg fr pn cup sc1 sc2 sc3 = (if v428.toInt < 0 then (K_compareSheet_15 x415) else (K_compareSheet_16 v428 (K_compareSheet_L2 a2 a3 a1 szs a0 sc0 rails fg fr pn cup sc1 sc2 sc3 nhl419) x415 x416 x417 x418 rails fg fr pn cup)) from (by rw [ev428]; exact hM)).trans (if_neg i_429)
                refine lv_iload hx hb dX10_compareSheet_66 (lv_at hl 0 rfl) ?_
                refine lv_sipush (v := 9999) hx hb dX10_compareSheet_68 (by decide) ?_
                refine lv_icmp_le (tgt := 80) hx hb dX10_compareSheet_71 (by decide) (fun c_431 => ?_) (fun c_431 => ?_)
                · skip
                  have i_431 : v428.toInt ≤ 9999 := (ile rfl (by decide)).mp c_431
                  have hM : M_compareSheet a2 a3 a1 szs a0 sc0 rails fg fr pn cup sc1 sc2 sc3 = (K_compareSheet_17 v428 (K_compareSheet_L2 a2 a3 a1 szs a0 sc0 rails fg fr pn cup sc1 sc2 sc3 nhl419) x415 x416 x417 x418 rails fg fr pn cup) := (show M_compareSheet a2 a3 a1 szs a0 sc0 rails fg fr pn cup sc1 sc2 sc3 = (if v428.toInt ≤ 9999 then (K_compareSheet_17 v428 (K_compareSheet_L2 a2 a3 a1 szs a0 sc0 rails fg fr pn cup sc1 sc2 sc3 nhl419) x415 x416 x417 x418 rails fg fr pn cup) else (K_compareSheet_18 x415)) from hM).trans (if_pos i_431)
                  refine lv_iload hx hb dX10_compareSheet_80 (lv_at hl 0 rfl) ?_
                  refine lv_aload_n hx hb dX10_compareSheet_82 rfl (lv_at hl 6 rfl) ?_
                  refine va_get (D := D) (ci := 9) (v := .ref co) (C := RX10) (T := TX10) (N := 10) hx hb hts (fun w h => tbC w (tbfX10 w h)) hown hK hP 0 rfl rfl 3 (by decide) (hts (.fieldLink RX10 26 "PowerRails" "course" "LPowerRails$Course;") (tbC _ wd250)) (fun _ h9 => h9) rfl dX10_compareSheet_83 ?_
                  refine lv_aload_n hx hb dX10_compareSheet_86 rfl (lv_at hl 6 rfl) ?_
                  refine va_get (D := D) (ci := 9) (v := .ref pl) (C := RX10) (T := TX10) (N := 10) hx hb hts (fun w h => tbC w (tbfX10 w h)) hown hK hP 0 rfl rfl 7 (by decide) (hts (.fieldLink RX10 56 "PowerRails" "plan" "LPowerRails$Plan;") (tbC _ wd254)) (fun _ h9 => h9) rfl dX10_compareSheet_87 ?_
                  refine lv_iload hx hb dX10_compareSheet_90 (lv_at hl 2 rfl) ?_
                  obtain ⟨hPc, hDc, hFc, hC9⟩ := xpk (wc := W_drawnAt cI cJ cZ cG cH co pl x415 fwa fta fra fga cxa cup clast cpeak cptick fr fg pna pta rails limit retry behind pn) hP hD hS hA [9, 10, 11, 12, 13] (by decide +kernel) rfl
                  refine va_calli (va_runV (As := [.ref pl, .int x415]) (rest := [.int v428]) ⟨hx, hb, hml, hown, hts⟩ (c_drawnAt l D cI cJ cZ cG cH H.size co pl x415 fwa fta fra fga cxa cup clast cpeak cptick fr fg pna pta rails limit retry behind pn (xrng rfl (by omega) (by omega)) (xwk_rng h_fr (by decide) (by decide)) (xwk_rng h_fg (by decide) (by decide)) (xrng rfl (by omega) (by omega)) (xwk_rng h_pn (by decide) (by decide)) h_le) (cwV 2 hts (xGV tbC wd571 wd572 wd573 wd54 wd1059) rfl rfl rfl (by decide +kernel) ⟨Nat.le_of_ble_eq_true rfl, Nat.le_of_ble_eq_true rfl⟩) ⟨xPc_blind, va_recv hK hPc (ci := 0) (q0 := 0) rfl rfl, xPc_pre hPc hK hDc⟩ rfl rfl hl.1 rfl (lv_room (Nat.le_of_ble_eq_true rfl)) dX10_compareSheet_92 ⟨Nat.le_of_ble_eq_true rfl, Nat.le_of_ble_eq_true rfl⟩) hS (fun q _ h => hFc q h) hFc (fun r432 u t H1 locs ht hvm hw432 hB hz1 hk1 hS => ?_)
                  obtain ⟨hru9, hw432⟩ := hw432
                  subst hru9
                  obtain ⟨hf432_0, hP1, hK1, hD1⟩ := hB
                  rw [ht] at hP1
                  obtain ⟨hP, hD⟩ : xPD D A [oX10 xo tp rd rn co wy sg sh pl sp lf, oX6 sh sca sla ssa, oAM sca cG 4 rr, oAI (rr 0) cI 40 sc0, oAI (rr 1) cI 40 sc1, oAI (rr 2) cI 40 sc2, oAI (rr 3) cI 40 sc3, oAI sla cI 4 sl, oAI ssa cI 4 szs, oX0 co fwa fta fra fga cxa cup clast cpeak cptick, oAI fra cI 8 fr, oAI fga cI 8 fg, oX3 pl pna pta rails limit retry behind, oAI pna cI 64 pn] H1 := xjn 9 hP hD [9, 10, 11, 12, 13] [0, 1, 2, 3, 4, 5, 6, 7, 8] hC9 rfl (by decide +kernel) (by decide +kernel) hk1 hFc hP1 hD1
                  generalize H1 = H at hP hS ⊢
                  have hf432_0 : M_drawnAt rails x415 fg fr pn cup = (r432) := hf432_0
                  have h9M := congrArg (fun t9 => (K_compareSheet_19 v428 t9 (K_compareSheet_L2 a2 a3 a1 szs a0 sc0 rails fg fr pn cup sc1 sc2 sc3 nhl419) x415 x416 x417 x418)) hf432_0
                  have hM : M_compareSheet a2 a3 a1 szs a0 sc0 rails fg fr pn cup sc1 sc2 sc3 = (K_compareSheet_19 v428 r432 (K_compareSheet_L2 a2 a3 a1 szs a0 sc0 rails fg fr pn cup sc1 sc2 sc3 nhl419) x415 x416 x417 x418) := (show M_compareSheet a2 a3 a1 szs a0 sc0 rails fg fr pn cup sc1 sc2 sc3 = ((fun t9 => (K_compareSheet_19 v428 t9 (K_compareSheet_L2 a2 a3 a1 szs a0 sc0 rails fg fr pn cup sc1 sc2 sc3 nhl419) x415 x416 x417 x418)) (M_drawnAt rails x415 fg fr pn cup)) from hM).trans h9M
                  refine lv_isub hx hb dX10_compareSheet_95 ?_
                  refine lv_topi (fun v433 ev433 => ?_)
                  refine va_mabs hx hb (hml.trans hl.1.symm) hown (hts (.methodLink RX10 331 Lib.Math.abs.name) (tbC _ wd665)) (hts (.static Lib.Math.abs.name) (tbC _ wd666)) (hts (.initialized "java/lang/Math") (tbC _ wd67)) (hts (.code Lib.Math.abs.name Lib.Math.abs.code 1 (some .int)) (tbC _ wd1089)) (Nat.le_of_ble_eq_true rfl) (Nat.le_of_ble_eq_true rfl) (Nat.le_of_ble_eq_true rfl) (Nat.le_of_ble_eq_true rfl) dX10_compareSheet_96 ?_
                  refine lv_topi (fun v434 ev434 => ?_)
                  refine lv_istore (lv' := [(11, .int v434), (10, .int v428), (9, .int v423), (8, .int x415), (7, .int x416), (6, .int x417), (5, .int x418), (0, .ref xo), (1, .int a0), (2, .int a1), (3, .int a2), (4, .int a3)]) hx hb dX10_compareSheet_99 hl (by decide) rfl (fun ls hl => ?_)
                  refine lv_iload hx hb dX10_compareSheet_101 (lv_at hl 4 rfl) ?_
                  refine lv_iload hx hb dX10_compareSheet_103 (lv_at hl 0 rfl) ?_
                  refine lv_iadd hx hb dX10_compareSheet_105 ?_
                  refine lv_topi (fun v435 ev435 => ?_)
                  refine lv_istore (lv' := [(7, .int v435), (11, .int v434), (10, .int v428), (9, .int v423), (8, .int x415), (6, .int x417), (5, .int x418), (0, .ref xo), (1, .int a0), (2, .int a1), (3, .int a2), (4, .int a3)]) hx hb dX10_compareSheet_106 hl (by decide) rfl (fun ls hl => ?_)
                  refine lv_iload hx hb dX10_compareSheet_108 (lv_at hl 1 rfl) ?_
                  refine lv_if_ne (tgt := 119) hx hb dX10_compareSheet_110 (by decide) (fun c_436 => ?_) (fun c_436 => ?_)
                  · skip
                    have i_436 : ¬ (v434.toInt = 0) := fun h9 => c_436 ((ieq rfl (by decide)).mpr h9)
                    have hM : M_compareSheet a2 a3 a1 szs a0 sc0 rails fg fr pn cup sc1 sc2 sc3 = (K_compareSheet_20 x417 (K_compareSheet_L2 a2 a3 a1 szs a0 sc0 rails fg fr pn cup sc1 sc2 sc3 nhl419) x415 v435 x418) := (show M_compareSheet a2 a3 a1 szs a0 sc0 rails fg fr pn cup sc1 sc2 sc3 = (if v434.toInt = 0 then (K_compareSheet_21 (K_compareSheet_L2 a2 a3 a1 szs a0 sc0 rails fg fr pn cup sc1 sc2 sc3 nhl419) x415 v435 x417 x418) else (K_compareSheet_20 x417 (K_compareSheet_L2 a2 a3 a1 szs a0 sc0 rails fg fr pn cup sc1 sc2 sc3 nhl419) x415 v435 x418)) from (by rw [ev435, ev434, ev433]; exact hM)).trans (if_neg i_436)
                    refine lv_iload hx hb dX10_compareSheet_119 (lv_at hl 5 rfl) ?_
                    refine lv_bipush (v := (-4)) hx hb dX10_compareSheet_121 (by decide) ?_
                    refine lv_icmp_ne (tgt := 130) hx hb dX10_compareSheet_123 (by decide) (fun c_437 => ?_) (fun c_437 => ?_)
                    · skip
                      have i_437 : ¬ (x417.toInt = (-4)) := fun h9 => c_437 ((ieq rfl (by decide)).mpr h9)
                      have hM : M_compareSheet a2 a3 a1 szs a0 sc0 rails fg fr pn cup sc1 sc2 sc3 = (K_compareSheet_22 (K_compareSheet_L2 a2 a3 a1 szs a0 sc0 rails fg fr pn cup sc1 sc2 sc3 nhl419) x415 v435 x417 x418) := (show M_compareSheet a2 a3 a1 szs a0 sc0 rails fg fr pn cup sc1 sc2 sc3 = (if x417.toInt = (-4) then (K_compareSheet_23 (K_compareSheet_L2 a2 a3 a1 szs a0 sc0 rails fg fr pn cup sc1 sc2 sc3 nhl419) x415 v435 x418) else (K_compareSheet_22 (K_compareSheet_L2 a2 a3 a1 szs a0 sc0 rails fg fr pn cup sc1 sc2 sc3 nhl419) x415 v435 x417 x418)) from hM).trans (if_neg i_437)
                      obtain ⟨x438, ex438⟩ : ∃ y : Int32, y = x415 + 1 := ⟨_, rfl⟩
                      have tx438 : x438.toInt = (x415.toInt + 1) := (congrArg Int32.toInt ex438).trans (xadd rfl (by decide) (by omega) (by omega))
                      refine lv_iinc (v := x438) (lv' := [(8, .int x438), (7, .int v435), (11, .int v434), (10, .int v428), (9, .int v423), (6, .int x417), (5, .int x418), (0, .ref xo), (1, .int a0), (2, .int a1), (3, .int a2), (4, .int a3)]) hx hb dX10_compareSheet_130 hl (k := 4) rfl (by rw [ex438]; rfl) (by decide) rfl (fun ls hl => ?_)
                      refine lv_goto (tgt := 13) hx hb dX10_compareSheet_133 (by decide) ?_
                      exact ihhl419 x438 v435 x417 x418 (by omega) (xrng tx438 (by omega) (by omega)) (xrng rfl (by omega) (by omega)) (by rw [ex438]; exact hM) _ _ hP hD hS ls (lv_sub hl [0, 1, 5, 6, 7, 8, 9, 10, 11] rfl)
                    · skip
                      have i_437 : x417.toInt = (-4) := (ieq rfl (by decide)).mp c_437
                      have hM : M_compareSheet a2 a3 a1 szs a0 sc0 rails fg fr pn cup sc1 sc2 sc3 = (K_compareSheet_23 (K_compareSheet_L2 a2 a3 a1 szs a0 sc0 rails fg fr pn cup sc1 sc2 sc3 nhl419) x415 v435 x418) := (show M_compareSheet a2 a3 a1 szs a0 sc0 rails fg fr pn cup sc1 sc2 sc3 = (if x417.toInt = (-4) then (K_compareSheet_23 (K_compareSheet_L2 a2 a3 a1 szs a0 sc0 rails fg fr pn cup sc1 sc2 sc3 nhl419) x415 v435 x418) else (K_compareSheet_22 (K_compareSheet_L2 a2 a3 a1 szs a0 sc0 rails fg fr pn cup sc1 sc2 sc3 nhl419) x415 v435 x417 x418)) from hM).trans (if_pos i_437)
                      refine lv_iload hx hb dX10_compareSheet_126 (lv_at hl 4 rfl) ?_
                      refine lv_istore (lv' := [(6, .int x415), (7, .int v435), (11, .int v434), (10, .int v428), (9, .int v423), (8, .int x415), (5, .int x418), (0, .ref xo), (1, .int a0), (2, .int a1), (3, .int a2), (4, .int a3)]) hx hb dX10_compareSheet_128 hl (by decide) rfl (fun ls hl => ?_)
                      obtain ⟨x439, ex439⟩ : ∃ y : Int32, y = x415 + 1 := ⟨_, rfl⟩
                      have tx439 : x439.toInt = (x415.toInt + 1) := (congrArg Int32.toInt ex439).trans (xadd rfl (by decide) (by omega) (by omega))
                      refine lv_iinc (v := x439) (lv' := [(8, .int x439), (6, .int x415), (7, .int v435), (11, .int v434), (10, .int v428), (9, .int v423), (5, .int x418), (0, .ref xo), (1, .int a0), (2, .int a1), (3, .int a2), (4, .int a3)]) hx hb dX10_compareSheet_130 hl (k := 5) rfl (by rw [ex439]; rfl) (by decide) rfl (fun ls hl => ?_)
                      refine lv_goto (tgt := 13) hx hb dX10_compareSheet_133 (by decide) ?_
                      exact ihhl419 x439 v435 x415 x418 (by omega) (xrng tx439 (by omega) (by omega)) (xrng rfl (by omega) (by omega)) (by rw [ex439]; exact hM) _ _ hP hD hS ls (lv_sub hl [0, 2, 1, 6, 7, 8, 9, 10, 11] rfl)
                  · skip
                    have i_436 : v434.toInt = 0 := (ieq rfl (by decide)).mp c_436
                    have hM : M_compareSheet a2 a3 a1 szs a0 sc0 rails fg fr pn cup sc1 sc2 sc3 = (K_compareSheet_21 (K_compareSheet_L2 a2 a3 a1 szs a0 sc0 rails fg fr pn cup sc1 sc2 sc3 nhl419) x415 v435 x417 x418) := (show M_compareSheet a2 a3 a1 szs a0 sc0 rails fg fr pn cup sc1 sc2 sc3 = (if v434.toInt = 0 then (K_compareSheet_21 (K_compareSheet_L2 a2 a3 a1 szs a0 sc0 rails fg fr pn cup sc1 sc2 sc3 nhl419) x415 v435 x417 x418) else (K_compareSheet_20 x417 (K_compareSheet_L2 a2 a3 a1 szs a0 sc0 rails fg fr pn cup sc1 sc2 sc3 nhl419) x415 v435 x418)) from (by rw [ev435, ev434, ev433]; exact hM)).trans (if_pos i_436)
                    obtain ⟨x440, ex440⟩ : ∃ y : Int32, y = x418 + 1 := ⟨_, rfl⟩
                    refine lv_iinc (v := x440) (lv' := [(5, .int x440), (7, .int v435), (11, .int v434), (10, .int v428), (9, .int v423), (8, .int x415), (6, .int x417), (0, .ref xo), (1, .int a0), (2, .int a1), (3, .int a2), (4, .int a3)]) hx hb dX10_compareSheet_113 hl (k := 6) rfl (by rw [ex440]; rfl) (by decide) rfl (fun ls hl => ?_)
                    refine lv_goto (tgt := 130) hx hb dX10_compareSheet_116 (by decide) ?_
                    obtain ⟨x441, ex441⟩ : ∃ y : Int32, y = x415 + 1 := ⟨_, rfl⟩
                    have tx441 : x441.toInt = (x415.toInt + 1) := (congrArg Int32.toInt ex441).trans (xadd rfl (by decide) (by omega) (by omega))
                    refine lv_iinc (v := x441) (lv' := [(8, .int x441), (5, .int x440), (7, .int v435), (11, .int v434), (10, .int v428), (9, .int v423), (6, .int x417), (0, .ref xo), (1, .int a0), (2, .int a1), (3, .int a2), (4, .int a3)]) hx hb dX10_compareSheet_130 hl (k := 5) rfl (by rw [ex441]; rfl) (by decide) rfl (fun ls hl => ?_)
                    refine lv_goto (tgt := 13) hx hb dX10_compareSheet_133 (by decide) ?_
                    exact ihhl419 x441 v435 x417 x440 (by omega) (xrng tx441 (by omega) (by omega)) (xrng rfl (by omega) (by omega)) (by rw [ex441, ex440]; exact hM) _ _ hP hD hS ls (lv_sub hl [0, 2, 6, 1, 7, 8, 9, 10, 11] rfl)
                · skip
                  have i_431 : ¬ (v428.toInt ≤ 9999) := fun h9 => c_431 ((ile rfl (by decide)).mpr h9)
                  have hM : M_compareSheet a2 a3 a1 szs a0 sc0 rails fg fr pn cup sc1 sc2 sc3 = (K_compareSheet_18 x415) := (show M_compareSheet a2 a3 a1 szs a0 sc0 rails fg fr pn cup sc1 sc2 sc3 = (if v428.toInt ≤ 9999 then (K_compareSheet_17 v428 (K_compareSheet_L2 a2 a3 a1 szs a0 sc0 rails fg fr pn cup sc1 sc2 sc3 nhl419) x415 x416 x417 x418 rails fg fr pn cup) else (K_compareSheet_18 x415)) from hM).trans (if_neg i_431)
                  refine lv_bipush (v := (-20)) hx hb dX10_compareSheet_74 (by decide) ?_
                  refine lv_iload hx hb dX10_compareSheet_76 (lv_at hl 2 rfl) ?_
                  refine lv_isub hx hb dX10_compareSheet_78 ?_
                  refine lv_topi (fun v442 ev442 => ?_)
                  have tv442 : v442.toInt = ((-20) - x415.toInt) := (congrArg Int32.toInt ev442).trans (xsub (by decide) rfl (by omega) (by omega))
                  refine W.widen (k := 0) (n := 0) (by decide) (by decide) ?_
                  exact W.iret (v := v442) hx hb hr (fun t ht hW => ⟨⟨v442, v442, rfl, ⟨rfl, trivial⟩, ⟨(by rw [ev442]; exact hM), xB_of9 ht hW hP hK hD [0, 1, 2, 3, 4, 5, 6, 7, 8, 9, 10, 11, 12, 13] (by decide +kernel) rfl⟩⟩, hS.F ht⟩) hS.2.2 dX10_compareSheet_79
            have hM : M_compareSheet a2 a3 a1 szs a0 sc0 rails fg fr pn cup sc1 sc2 sc3 = (K_compareSheet_14 a0 sc1 v423 x415 (K_compareSheet_L2 a2 a3 a1 szs a0 sc0 rails fg fr pn cup sc1 sc2 sc3 nhl419) x416 x417 x418 rails fg fr pn cup sc2 sc3) := (show M_compareSheet a2 a3 a1 szs a0 sc0 rails fg fr pn cup sc1 sc2 sc3 = (if a0.toInt = 0 then (K_compareSheet_13 sc0 v423 x415 (K_compareSheet_L2 a2 a3 a1 szs a0 sc0 rails fg fr pn cup sc1 sc2 sc3 nhl419) x416 x417 x418 rails fg fr pn cup) else (K_compareSheet_14 a0 sc1 v423 x415 (K_compareSheet_L2 a2 a3 a1 szs a0 sc0 rails fg fr pn cup sc1 sc2 sc3 nhl419) x416 x417 x418 rails fg fr pn cup sc2 sc3)) from hM).trans (if_neg h427)
            by_cases h443 : a0.toInt = 1
            · skip
              have hM : M_compareSheet a2 a3 a1 szs a0 sc0 rails fg fr pn cup sc1 sc2 sc3 = (K_compareSheet_24 sc1 v423 x415 (K_compareSheet_L2 a2 a3 a1 szs a0 sc0 rails fg fr pn cup sc1 sc2 sc3 nhl419) x416 x417 x418 rails fg fr pn cup) := (show M_compareSheet a2 a3 a1 szs a0 sc0 rails fg fr pn cup sc1 sc2 sc3 = (if a0.toInt = 1 then (K_compareSheet_24 sc1 v423 x415 (K_compareSheet_L2 a2 a3 a1 szs a0 sc0 rails fg fr pn cup sc1 sc2 sc3 nhl419) x416 x417 x418 rails fg fr pn cup) else (K_compareSheet_25 a0 sc2 v423 x415 (K_compareSheet_L2 a2 a3 a1 szs a0 sc0 rails fg fr pn cup sc1 sc2 sc3 nhl419) x416 x417 x418 rails fg fr pn cup sc3)) from hM).trans (if_pos h443)
              refine xaldA hx hb hK hP 2 3 rfl rfl (vp_in_iff.mpr ⟨by omega, by omega⟩) dX10_compareSheet_55 (v := .ref (rr 1)) (by rw [xclamp (j := 1) (rfl.trans h443)]; rfl) ?_
              refine lv_iload hx hb dX10_compareSheet_56 (lv_at hl 0 rfl) ?_
              refine va_iald hx hb hK hP 4 0 rfl rfl (vp_in_iff.mpr ⟨by omega, by omega⟩) dX10_compareSheet_58 ?_
              refine lv_topi (fun v444 ev444 => ?_)
              refine lv_istore (lv' := [(10, .int v444), (9, .int v423), (8, .int x415), (7, .int x416), (6, .int x417), (5, .int x418), (0, .ref xo), (1, .int a0), (2, .int a1), (3, .int a2), (4, .int a3)]) hx hb dX10_compareSheet_59 hl (by decide) rfl (fun ls hl => ?_)
              refine lv_iload hx hb dX10_compareSheet_61 (lv_at hl 0 rfl) ?_
              refine lv_if_lt (tgt := 74) hx hb dX10_compareSheet_63 (by decide) (fun c_445 => ?_) (fun c_445 => ?_)
              · skip
                have i_445 : v444.toInt < 0 := (ilt rfl (by decide)).mp c_445
                have hM : M_compareSheet a2 a3 a1 szs a0 sc0 rails fg fr pn cup sc1 sc2 sc3 = (K_compareSheet_26 x415) := (show M_compareSheet a2 a3 a1 szs a0 sc0 rails fg fr pn cup sc1 sc2 sc3 = (if v444.toInt < 0 then (K_compareSheet_26 x415) else (K_compareSheet_27 v444 (K_compareSheet_L2 a2 a3 a1 szs a0 sc0 rails fg fr pn cup sc1 sc2 sc3 nhl419) x415 x416 x417 x418 rails fg fr pn cup)) from (by rw [ev444]; exact hM)).trans (if_pos i_445)
                refine lv_bipush (v := (-20)) hx hb dX10_compareSheet_74 (by decide) ?_
                refine lv_iload hx hb dX10_compareSheet_76 (lv_at hl 2 rfl) ?_
                refine lv_isub hx hb dX10_compareSheet_78 ?_
                refine lv_topi (fun v446 ev446 => ?_)
                have tv446 : v446.toInt = ((-20) - x415.toInt) := (congrArg Int32.toInt ev446).trans (xsub (by decide) rfl (by omega) (by omega))
                refine W.widen (k := 0) (n := 0) (by decide) (by decide) ?_
                exact W.iret (v := v446) hx hb hr (fun t ht hW => ⟨⟨v446, v446, rfl, ⟨rfl, trivial⟩, ⟨(by rw [ev446]; exact hM), xB_of9 ht hW hP hK hD [0, 1, 2, 3, 4, 5, 6, 7, 8, 9, 10, 11, 12, 13] (by decide +kernel) rfl⟩⟩, hS.F ht⟩) hS.2.2 dX10_compareSheet_79
              · skip
                have i_445 : ¬ (v444.toInt < 0) := fun h9 => c_445 ((ilt rfl (by decide)).mpr h9)
                have hM : M_compareSheet a2 a3 a1 szs a0 sc0 rails fg fr pn cup sc1 sc2 sc3 = (K_compareSheet_27 v444 (K_compareSheet_L2 a2 a3 a1 szs a0 sc0 rails fg fr pn cup sc1 sc2 sc3 nhl419) x415 x416 x417 x418 rails fg fr pn cup) := (show M_compareSheet a2 a3 a1 szs a0 sc0 rails fg fr pn cup sc1 sc2 sc3 = (if v444.toInt < 0 then (K_compareSheet_26 x415) else (K_compareSheet_27 v444 (K_compareSheet_L2 a2 a3 a1 szs a0 sc0 rails fg fr pn cup sc1 sc2 sc3 nhl419) x415 x416 x417 x418 rails fg fr pn cup)) from (by rw [ev444]; exact hM)).trans (if_neg i_445)
                refine lv_iload hx hb dX10_compareSheet_66 (lv_at hl 0 rfl) ?_
                refine lv_sipush (v := 9999) hx hb dX10_compareSheet_68 (by decide) ?_
                refine lv_icmp_le (tgt := 80) hx hb dX10_compareSheet_71 (by decide) (fun c_447 => ?_) (fun c_447 => ?_)
                · skip
                  have i_447 : v444.toInt ≤ 9999 := (ile rfl (by decide)).mp c_447
                  have hM : M_compareSheet a2 a3 a1 szs a0 sc0 rails fg fr pn cup sc1 sc2 sc3 = (K_compareSheet_28 v444 (K_compareSheet_L2 a2 a3 a1 szs a0 sc0 rails fg fr pn cup sc1 sc2 sc3 nhl419) x415 x416 x417 x418 rails fg fr pn cup) := (show M_compareSheet a2 a3 a1 szs a0 sc0 rails fg fr pn cup sc1 sc2 sc3 = (if v444.toInt ≤ 9999 then (K_compareSheet_28 v444 (K_compareSheet_L2 a2 a3 a1 szs a0 sc0 rails fg fr pn cup sc1 sc2 sc3 nhl419) x415 x416 x417 x418 rails fg fr pn cup) else (K_compareSheet_29 x415)) from hM).trans (if_pos i_447)
                  refine lv_iload hx hb dX10_compareSheet_80 (lv_at hl 0 rfl) ?_
                  refine lv_aload_n hx hb dX10_compareSheet_82 rfl (lv_at hl 6 rfl) ?_
                  refine va_get (D := D) (ci := 9) (v := .ref co) (C := RX10) (T := TX10) (N := 10) hx hb hts (fun w h => tbC w (tbfX10 w h)) hown hK hP 0 rfl rfl 3 (by decide) (hts (.fieldLink RX10 26 "PowerRails" "course" "LPowerRails$Course;") (tbC _ wd250)) (fun _ h9 => h9) rfl dX10_compareSheet_83 ?_
                  refine lv_aload_n hx hb dX10_compareSheet_86 rfl (lv_at hl 6 rfl) ?_
                  refine va_get (D := D) (ci := 9) (v := .ref pl) (C := RX10) (T := TX10) (N := 10) hx hb hts (fun w h => tbC w (tbfX10 w h)) hown hK hP 0 rfl rfl 7 (by decide) (hts (.fieldLink RX10 56 "PowerRails" "plan" "LPowerRails$Plan;") (tbC _ wd254)) (fun _ h9 => h9) rfl dX10_compareSheet_87 ?_
                  refine lv_iload hx hb dX10_compareSheet_90 (lv_at hl 2 rfl) ?_
                  obtain ⟨hPc, hDc, hFc, hC9⟩ := xpk (wc := W_drawnAt cI cJ cZ cG cH co pl x415 fwa fta fra fga cxa cup clast cpeak cptick fr fg pna pta rails limit retry behind pn) hP hD hS hA [9, 10, 11, 12, 13] (by decide +kernel) rfl
                  refine va_calli (va_runV (As := [.ref pl, .int x415]) (rest := [.int v444]) ⟨hx, hb, hml, hown, hts⟩ (c_drawnAt l D cI cJ cZ cG cH H.size co pl x415 fwa fta fra fga cxa cup clast cpeak cptick fr fg pna pta rails limit retry behind pn (xrng rfl (by omega) (by omega)) (xwk_rng h_fr (by decide) (by decide)) (xwk_rng h_fg (by decide) (by decide)) (xrng rfl (by omega) (by omega)) (xwk_rng h_pn (by decide) (by decide)) h_le) (cwV 2 hts (xGV tbC wd571 wd572 wd573 wd54 wd1059) rfl rfl rfl (by decide +kernel) ⟨Nat.le_of_ble_eq_true rfl, Nat.le_of_ble_eq_true rfl⟩) ⟨xPc_blind, va_recv hK hPc (ci := 0) (q0 := 0) rfl rfl, xPc_pre hPc hK hDc⟩ rfl rfl hl.1 rfl (lv_room (Nat.le_of_ble_eq_true rfl)) dX10_compareSheet_92 ⟨Nat.le_of_ble_eq_true rfl, Nat.le_of_ble_eq_true rfl⟩) hS (fun q _ h => hFc q h) hFc (fun r448 u t H1 locs ht hvm hw448 hB hz1 hk1 hS => ?_)
                  obtain ⟨hru9, hw448⟩ := hw448
                  subst hru9
                  obtain ⟨hf448_0, hP1, hK1, hD1⟩ := hB
                  rw [ht] at hP1
                  obtain ⟨hP, hD⟩ : xPD D A [oX10 xo tp rd rn co wy sg sh pl sp lf, oX6 sh sca sla ssa, oAM sca cG 4 rr, oAI (rr 0) cI 40 sc0, oAI (rr 1) cI 40 sc1, oAI (rr 2) cI 40 sc2, oAI (rr 3) cI 40 sc3, oAI sla cI 4 sl, oAI ssa cI 4 szs, oX0 co fwa fta fra fga cxa cup clast cpeak cptick, oAI fra cI 8 fr, oAI fga cI 8 fg, oX3 pl pna pta rails limit retry behind, oAI pna cI 64 pn] H1 := xjn 9 hP hD [9, 10, 11, 12, 13] [0, 1, 2, 3, 4, 5, 6, 7, 8] hC9 rfl (by decide +kernel) (by decide +kernel) hk1 hFc hP1 hD1
                  generalize H1 = H at hP hS ⊢
                  have hf448_0 : M_drawnAt rails x415 fg fr pn cup = (r448) := hf448_0
                  have h9M := congrArg (fun t9 => (K_compareSheet_30 v444 t9 (K_compareSheet_L2 a2 a3 a1 szs a0 sc0 rails fg fr pn cup sc1 sc2 sc3 nhl419) x415 x416 x417 x418)) hf448_0
                  have hM : M_compareSheet a2 a3 a1 szs a0 sc0 rails fg fr pn cup sc1 sc2 sc3 = (K_compareSheet_30 v444 r448 (K_compareSheet_L2 a2 a3 a1 szs a0 sc0 rails fg fr pn cup sc1 sc2 sc3 nhl419) x415 x416 x417 x418) := (show M_compareSheet a2 a3 a1 szs a0 sc0 rails fg fr pn cup sc1 sc2 sc3 = ((fun t9 => (K_compareSheet_30 v444 t9 (K_compareSheet_L2 a2 a3 a1 szs a0 sc0 rails fg fr pn cup sc1 sc2 sc3 nhl419) x415 x416 x417 x418)) (M_drawnAt rails x415 fg fr pn cup)) from hM).trans h9M
                  refine lv_isub hx hb dX10_compareSheet_95 ?_
                  refine lv_topi (fun v449 ev449 => ?_)
                  refine va_mabs hx hb (hml.trans hl.1.symm) hown (hts (.methodLink RX10 331 Lib.Math.abs.name) (tbC _ wd665)) (hts (.static Lib.Math.abs.name) (tbC _ wd666)) (hts (.initialized "java/lang/Math") (tbC _ wd67)) (hts (.code Lib.Math.abs.name Lib.Math.abs.code 1 (some .int)) (tbC _ wd1089)) (Nat.le_of_ble_eq_true rfl) (Nat.le_of_ble_eq_true rfl) (Nat.le_of_ble_eq_true rfl) (Nat.le_of_ble_eq_true rfl) dX10_compareSheet_96 ?_
                  refine lv_topi (fun v450 ev450 => ?_)
                  refine lv_istore (lv' := [(11, .int v450), (10, .int v444), (9, .int v423), (8, .int x415), (7, .int x416), (6, .int x417), (5, .int x418), (0, .ref xo), (1, .int a0), (2, .int a1), (3, .int a2), (4, .int a3)]) hx hb dX10_compareSheet_99 hl (by decide) rfl (fun ls hl => ?_)
                  refine lv_iload hx hb dX10_compareSheet_101 (lv_at hl 4 rfl) ?_
                  refine lv_iload hx hb dX10_compareSheet_103 (lv_at hl 0 rfl) ?_
                  refine lv_iadd hx hb dX10_compareSheet_105 ?_
                  refine lv_topi (fun v451 ev451 => ?_)
                  refine lv_istore (lv' := [(7, .int v451), (11, .int v450), (10, .int v444), (9, .int v423), (8, .int x415), (6, .int x417), (5, .int x418), (0, .ref xo), (1, .int a0), (2, .int a1), (3, .int a2), (4, .int a3)]) hx hb dX10_compareSheet_106 hl (by decide) rfl (fun ls hl => ?_)
                  refine lv_iload hx hb dX10_compareSheet_108 (lv_at hl 1 rfl) ?_
                  refine lv_if_ne (tgt := 119) hx hb dX10_compareSheet_110 (by decide) (fun c_452 => ?_) (fun c_452 => ?_)
                  · skip
                    have i_452 : ¬ (v450.toInt = 0) := fun h9 => c_452 ((ieq rfl (by decide)).mpr h9)
                    have hM : M_compareSheet a2 a3 a1 szs a0 sc0 rails fg fr pn cup sc1 sc2 sc3 = (K_compareSheet_31 x417 (K_compareSheet_L2 a2 a3 a1 szs a0 sc0 rails fg fr pn cup sc1 sc2 sc3 nhl419) x415 v451 x418) := (show M_compareSheet a2 a3 a1 szs a0 sc0 rails fg fr pn cup sc1 sc2 sc3 = (if v450.toInt = 0 then (K_compareSheet_32 (K_compareSheet_L2 a2 a3 a1 szs a0 sc0 rails fg fr pn cup sc1 sc2 sc3 nhl419) x415 v451 x417 x418) else (K_compareSheet_31 x417 (K_compareSheet_L2 a2 a3 a1 szs a0 sc0 rails fg fr pn cup sc1 sc2 sc3 nhl419) x415 v451 x418)) from (by rw [ev451, ev450, ev449]; exact hM)).trans (if_neg i_452)
                    refine lv_iload hx hb dX10_compareSheet_119 (lv_at hl 5 rfl) ?_
                    refine lv_bipush (v := (-4)) hx hb dX10_compareSheet_121 (by decide) ?_
                    refine lv_icmp_ne (tgt := 130) hx hb dX10_compareSheet_123 (by decide) (fun c_453 => ?_) (fun c_453 => ?_)
                    · skip
                      have i_453 : ¬ (x417.toInt = (-4)) := fun h9 => c_453 ((ieq rfl (by decide)).mpr h9)
                      have hM : M_compareSheet a2 a3 a1 szs a0 sc0 rails fg fr pn cup sc1 sc2 sc3 = (K_compareSheet_33 (K_compareSheet_L2 a2 a3 a1 szs a0 sc0 rails fg fr pn cup sc1 sc2 sc3 nhl419) x415 v451 x417 x418) := (show M_compareSheet a2 a3 a1 szs a0 sc0 rails fg fr pn cup sc1 sc2 sc3 = (if x417.toInt = (-4) then (K_compareSheet_34 (K_compareSheet_L2 a2 a3 a1 szs a0 sc0 rails fg fr pn cup sc1 sc2 sc3 nhl419) x415 v451 x418) else (K_compareSheet_33 (K_compareSheet_L2 a2 a3 a1 szs a0 sc0 rails fg fr pn cup sc1 sc2 sc3 nhl419) x415 v451 x417 x418)) from hM).trans (if_neg i_453)
                      obtain ⟨x454, ex454⟩ : ∃ y : Int32, y = x415 + 1 := ⟨_, rfl⟩
                      have tx454 : x454.toInt = (x415.toInt + 1) := (congrArg Int32.toInt ex454).trans (xadd rfl (by decide) (by omega) (by omega))
                      refine lv_iinc (v := x454) (lv' := [(8, .int x454), (7, .int v451), (11, .int v450), (10, .int v444), (9, .int v423), (6, .int x417), (5, .int x418), (0, .ref xo), (1, .int a0), (2, .int a1), (3, .int a2), (4, .int a3)]) hx hb dX10_compareSheet_130 hl (k := 4) rfl (by rw [ex454]; rfl) (by decide) rfl (fun ls hl => ?_)
                      refine lv_goto (tgt := 13) hx hb dX10_compareSheet_133 (by decide) ?_
                      exact ihhl419 x454 v451 x417 x418 (by omega) (xrng tx454 (by omega) (by omega)) (xrng rfl (by omega) (by omega)) (by rw [ex454]; exact hM) _ _ hP hD hS ls (lv_sub hl [0, 1, 5, 6, 7, 8, 9, 10, 11] rfl)
                    · skip
                      have i_453 : x417.toInt = (-4) := (ieq rfl (by decide)).mp c_453
                      have hM : M_compareSheet a2 a3 a1 szs a0 sc0 rails fg fr pn cup sc1 sc2 sc3 = (K_compareSheet_34 (K_compareSheet_L2 a2 a3 a1 szs a0 sc0 rails fg fr pn cup sc1 sc2 sc3 nhl419) x415 v451 x418) := (show M_compareSheet a2 a3 a1 szs a0 sc0 rails fg fr pn cup sc1 sc2 sc3 = (if x417.toInt = (-4) then (K_compareSheet_34 (K_compareSheet_L2 a2 a3 a1 szs a0 sc0 rails fg fr pn cup sc1 sc2 sc3 nhl419) x415 v451 x418) else (K_compareSheet_33 (K_compareSheet_L2 a2 a3 a1 szs a0 sc0 rails fg fr pn cup sc1 sc2 sc3 nhl419) x415 v451 x417 x418)) from hM).trans (if_pos i_453)
                      refine lv_iload hx hb dX10_compareSheet_126 (lv_at hl 4 rfl) ?_
                      refine lv_istore (lv' := [(6, .int x415), (7, .int v451), (11, .int v450), (10, .int v444), (9, .int v423), (8, .int x415), (5, .int x418), (0, .ref xo), (1, .int a0), (2, .int a1), (3, .int a2), (4, .int a3)]) hx hb dX10_compareSheet_128 hl (by decide) rfl (fun ls hl => ?_)
                      obtain ⟨x455, ex455⟩ : ∃ y : Int32, y = x415 + 1 := ⟨_, rfl⟩
                      have tx455 : x455.toInt = (x415.toInt + 1) := (congrArg Int32.toInt ex455).trans (xadd rfl (by decide) (by omega) (by omega))
                      refine lv_iinc (v := x455) (lv' := [(8, .int x455), (6, .int x415), (7, .int v451), (11, .int v450), (10, .int v444), (9, .int v423), (5, .int x418), (0, .ref xo), (1, .int a0), (2, .int a1), (3, .int a2), (4, .int a3)]) hx hb dX10_compareSheet_130 hl (k := 5) rfl (by rw [ex455]; rfl) (by decide) rfl (fun ls hl => ?_)
                      refine lv_goto (tgt := 13) hx hb dX10_compareSheet_133 (by decide) ?_
                      exact ihhl419 x455 v451 x415 x418 (by omega) (xrng tx455 (by omega) (by omega)) (xrng rfl (by omega) (by omega)) (by rw [ex455]; exact hM) _ _ hP hD hS ls (lv_sub hl [0, 2, 1, 6, 7, 8, 9, 10, 11] rfl)
                  · skip
                    have i_452 : v450.toInt = 0 := (ieq rfl (by decide)).mp c_452
                    have hM : M_compareSheet a2 a3 a1 szs a0 sc0 rails fg fr pn cup sc1 sc2 sc3 = (K_compareSheet_32 (K_compareSheet_L2 a2 a3 a1 szs a0 sc0 rails fg fr pn cup sc1 sc2 sc3 nhl419) x415 v451 x417 x418) := (show M_compareSheet a2 a3 a1 szs a0 sc0 rails fg fr pn cup sc1 sc2 sc3 = (if v450.toInt = 0 then (K_compareSheet_32 (K_compareSheet_L2 a2 a3 a1 szs a0 sc0 rails fg fr pn cup sc1 sc2 sc3 nhl419) x415 v451 x417 x418) else (K_compareSheet_31 x417 (K_compareSheet_L2 a2 a3 a1 szs a0 sc0 rails fg fr pn cup sc1 sc2 sc3 nhl419) x415 v451 x418)) from (by rw [ev451, ev450, ev449]; exact hM)).trans (if_pos i_452)
                    obtain ⟨x456, ex456⟩ : ∃ y : Int32, y = x418 + 1 := ⟨_, rfl⟩
                    refine lv_iinc (v := x456) (lv' := [(5, .int x456), (7, .int v451), (11, .int v450), (10, .int v444), (9, .int v423), (8, .int x415), (6, .int x417), (0, .ref xo), (1, .int a0), (2, .int a1), (3, .int a2), (4, .int a3)]) hx hb dX10_compareSheet_113 hl (k := 6) rfl (by rw [ex456]; rfl) (by decide) rfl (fun ls hl => ?_)
                    refine lv_goto (tgt := 130) hx hb dX10_compareSheet_116 (by decide) ?_
                    obtain ⟨x457, ex457⟩ : ∃ y : Int32, y = x415 + 1 := ⟨_, rfl⟩
                    have tx457 : x457.toInt = (x415.toInt + 1) := (congrArg Int32.toInt ex457).trans (xadd rfl (by decide) (by omega) (by omega))
                    refine lv_iinc (v := x457) (lv' := [(8, .int x457), (5, .int x456), (7, .int v451), (11, .int v450), (10, .int v444), (9, .int v423), (6, .int x417), (0, .ref xo), (1, .int a0), (2, .int a1), (3, .int a2), (4, .int a3)]) hx hb dX10_compareSheet_130 hl (k := 5) rfl (by rw [ex457]; rfl) (by decide) rfl (fun ls hl => ?_)
                    refine lv_goto (tgt := 13) hx hb dX10_compareSheet_133 (by decide) ?_
                    exact ihhl419 x457 v451 x417 x456 (by omega) (xrng tx457 (by omega) (by omega)) (xrng rfl (by omega) (by omega)) (by rw [ex457, ex456]; exact hM) _ _ hP hD hS ls (lv_sub hl [0, 2, 6, 1, 7, 8, 9, 10, 11] rfl)
                · skip
                  have i_447 : ¬ (v444.toInt ≤ 9999) := fun h9 => c_447 ((ile rfl (by decide)).mpr h9)
                  have hM : M_compareSheet a2 a3 a1 szs a0 sc0 rails fg fr pn cup sc1 sc2 sc3 = (K_compareSheet_29 x415) := (show M_compareSheet a2 a3 a1 szs a0 sc0 rails fg fr pn cup sc1 sc2 sc3 = (if v444.toInt ≤ 9999 then (K_compareSheet_28 v444 (K_compareSheet_L2 a2 a3 a1 szs a0 sc0 rails fg fr pn cup sc1 sc2 sc3 nhl419) x415 x416 x417 x418 rails fg fr pn cup) else (K_compareSheet_29 x415)) from hM).trans (if_neg i_447)
                  refine lv_bipush (v := (-20)) hx hb dX10_compareSheet_74 (by decide) ?_
                  refine lv_iload hx hb dX10_compareSheet_76 (lv_at hl 2 rfl) ?_
                  refine lv_isub hx hb dX10_compareSheet_78 ?_
                  refine lv_topi (fun v458 ev458 => ?_)
                  have tv458 : v458.toInt = ((-20) - x415.toInt) := (congrArg Int32.toInt ev458).trans (xsub (by decide) rfl (by omega) (by omega))
                  refine W.widen (k := 0) (n := 0) (by decide) (by decide) ?_
                  exact W.iret (v := v458) hx hb hr (fun t ht hW => ⟨⟨v458, v458, rfl, ⟨rfl, trivial⟩, ⟨(by rw [ev458]; exact hM), xB_of9 ht hW hP hK hD [0, 1, 2, 3, 4, 5, 6, 7, 8, 9, 10, 11, 12, 13] (by decide +kernel) rfl⟩⟩, hS.F ht⟩) hS.2.2 dX10_compareSheet_79
            have hM : M_compareSheet a2 a3 a1 szs a0 sc0 rails fg fr pn cup sc1 sc2 sc3 = (K_compareSheet_25 a0 sc2 v423 x415 (K_compareSheet_L2 a2 a3 a1 szs a0 sc0 rails fg fr pn cup sc1 sc2 sc3 nhl419) x416 x417 x418 rails fg fr pn cup sc3) := (show M_compareSheet a2 a3 a1 szs a0 sc0 rails fg fr pn cup sc1 sc2 sc3 = (if a0.toInt = 1 then (K_compareSheet_24 sc1 v423 x415 (K_compareSheet_L2 a2 a3 a1 szs a0 sc0 rails fg fr pn cup sc1 sc2 sc3 nhl419) x416 x417 x418 rails fg fr pn cup) else (K_compareSheet_25 a0 sc2 v423 x415 (K_compareSheet_L2 a2 a3 a1 szs a0 sc0 rails fg fr pn cup sc1 sc2 sc3 nhl419) x416 x417 x418 rails fg fr pn cup sc3)) from hM).trans (if_neg h443)
            by_cases h459 : a0.toInt = 2
            · skip
              have hM : M_compareSheet a2 a3 a1 szs a0 sc0 rails fg fr pn cup sc1 sc2 sc3 = (K_compareSheet_35 sc2 v423 x415 (K_compareSheet_L2 a2 a3 a1 szs a0 sc0 rails fg fr pn cup sc1 sc2 sc3 nhl419) x416 x417 x418 rails fg fr pn cup) := (show M_compareSheet a2 a3 a1 szs a0 sc0 rails fg fr pn cup sc1 sc2 sc3 = (if a0.toInt = 2 then (K_compareSheet_35 sc2 v423 x415 (K_compareSheet_L2 a2 a3 a1 szs a0 sc0 rails fg fr pn cup sc1 sc2 sc3 nhl419) x416 x417 x418 rails fg fr pn cup) else (K_compareSheet_36 sc3 v423 x415 (K_compareSheet_L2 a2 a3 a1 szs a0 sc0 rails fg fr pn cup sc1 sc2 sc3 nhl419) x416 x417 x418 rails fg fr pn cup)) from hM).trans (if_pos h459)
              refine xaldA hx hb hK hP 2 3 rfl rfl (vp_in_iff.mpr ⟨by omega, by omega⟩) dX10_compareSheet_55 (v := .ref (rr 2)) (by rw [xclamp (j := 2) (rfl.trans h459)]; rfl) ?_
              refine lv_iload hx hb dX10_compareSheet_56 (lv_at hl 0 rfl) ?_
              refine va_iald hx hb hK hP 5 0 rfl rfl (vp_in_iff.mpr ⟨by omega, by omega⟩) dX10_compareSheet_58 ?_
              refine lv_topi (fun v460 ev460 => ?_)
              refine lv_istore (lv' := [(10, .int v460), (9, .int v423), (8, .int x415), (7, .int x416), (6, .int x417), (5, .int x418), (0, .ref xo), (1, .int a0), (2, .int a1), (3, .int a2), (4, .int a3)]) hx hb dX10_compareSheet_59 hl (by decide) rfl (fun ls hl => ?_)
              refine lv_iload hx hb dX10_compareSheet_61 (lv_at hl 0 rfl) ?_
              refine lv_if_lt (tgt := 74) hx hb dX10_compareSheet_63 (by decide) (fun c_461 => ?_) (fun c_461 => ?_)
              · skip
                have i_461 : v460.toInt < 0 := (ilt rfl (by decide)).mp c_461
                have hM : M_compareSheet a2 a3 a1 szs a0 sc0 rails fg fr pn cup sc1 sc2 sc3 = (K_compareSheet_37 x415) := (show M_compareSheet a2 a3 a1 szs a0 sc0 rails fg fr pn cup sc1 sc2 sc3 = (if v460.toInt < 0 then (K_compareSheet_37 x415) else (K_compareSheet_38 v460 (K_compareSheet_L2 a2 a3 a1 szs a0 sc0 rails fg fr pn cup sc1 sc2 sc3 nhl419) x415 x416 x417 x418 rails fg fr pn cup)) from (by rw [ev460]; exact hM)).trans (if_pos i_461)
                refine lv_bipush (v := (-20)) hx hb dX10_compareSheet_74 (by decide) ?_
                refine lv_iload hx hb dX10_compareSheet_76 (lv_at hl 2 rfl) ?_
                refine lv_isub hx hb dX10_compareSheet_78 ?_
                refine lv_topi (fun v462 ev462 => ?_)
                have tv462 : v462.toInt = ((-20) - x415.toInt) := (congrArg Int32.toInt ev462).trans (xsub (by decide) rfl (by omega) (by omega))
                refine W.widen (k := 0) (n := 0) (by decide) (by decide) ?_
                exact W.iret (v := v462) hx hb hr (fun t ht hW => ⟨⟨v462, v462, rfl, ⟨rfl, trivial⟩, ⟨(by rw [ev462]; exact hM), xB_of9 ht hW hP hK hD [0, 1, 2, 3, 4, 5, 6, 7, 8, 9, 10, 11, 12, 13] (by decide +kernel) rfl⟩⟩, hS.F ht⟩) hS.2.2 dX10_compareSheet_79
              · skip
                have i_461 : ¬ (v460.toInt < 0) := fun h9 => c_461 ((ilt rfl (by decide)).mpr h9)
                have hM : M_compareSheet a2 a3 a1 szs a0 sc0 rails fg fr pn cup sc1 sc2 sc3 = (K_compareSheet_38 v460 (K_compareSheet_L2 a2 a3 a1 szs a0 sc0 rails fg fr pn cup sc1 sc2 sc3 nhl419) x415 x416 x417 x418 rails fg fr pn cup) := (show M_compareSheet a2 a3 a1 szs a0 sc0 rails fg fr pn cup sc1 sc2 sc3 = (if v460.toInt < 0 then (K_compareSheet_37 x415) else (K_compareSheet_38 v460 (K_compareSheet_L2 a2 a3 a1 szs a0 sc0 rails fg fr pn cup sc1 sc2 sc3 nhl419) x415 x416 x417 x418 rails fg fr pn cup)) from (by rw [ev460]; exact hM)).trans (if_neg i_461)
                refine lv_iload hx hb dX10_compareSheet_66 (lv_at hl 0 rfl) ?_
                refine lv_sipush (v := 9999) hx hb dX10_compareSheet_68 (by decide) ?_
                refine lv_icmp_le (tgt := 80) hx hb dX10_compareSheet_71 (by decide) (fun c_463 => ?_) (fun c_463 => ?_)
                · skip
                  have i_463 : v460.toInt ≤ 9999 := (ile rfl (by decide)).mp c_463
                  have hM : M_compareSheet a2 a3 a1 szs a0 sc0 rails fg fr pn cup sc1 sc2 sc3 = (K_compareSheet_39 v460 (K_compareSheet_L2 a2 a3 a1 szs a0 sc0 rails fg fr pn cup sc1 sc2 sc3 nhl419) x415 x416 x417 x418 rails fg fr pn cup) := (show M_compareSheet a2 a3 a1 szs a0 sc0 rails fg fr pn cup sc1 sc2 sc3 = (if v460.toInt ≤ 9999 then (K_compareSheet_39 v460 (K_compareSheet_L2 a2 a3 a1 szs a0 sc0 rails fg fr pn cup sc1 sc2 sc3 nhl419) x415 x416 x417 x418 rails fg fr pn cup) else (K_compareSheet_40 x415)) from hM).trans (if_pos i_463)
                  refine lv_iload hx hb dX10_compareSheet_80 (lv_at hl 0 rfl) ?_
                  refine lv_aload_n hx hb dX10_compareSheet_82 rfl (lv_at hl 6 rfl) ?_
                  refine va_get (D := D) (ci := 9) (v := .ref co) (C := RX10) (T := TX10) (N := 10) hx hb hts (fun w h => tbC w (tbfX10 w h)) hown hK hP 0 rfl rfl 3 (by decide) (hts (.fieldLink RX10 26 "PowerRails" "course" "LPowerRails$Course;") (tbC _ wd250)) (fun _ h9 => h9) rfl dX10_compareSheet_83 ?_
                  refine lv_aload_n hx hb dX10_compareSheet_86 rfl (lv_at hl 6 rfl) ?_
                  refine va_get (D := D) (ci := 9) (v := .ref pl) (C := RX10) (T := TX10) (N := 10) hx hb hts (fun w h => tbC w (tbfX10 w h)) hown hK hP 0 rfl rfl 7 (by decide) (hts (.fieldLink RX10 56 "PowerRails" "plan" "LPowerRails$Plan;") (tbC _ wd254)) (fun _ h9 => h9) rfl dX10_compareSheet_87 ?_
                  refine lv_iload hx hb dX10_compareSheet_90 (lv_at hl 2 rfl) ?_
                  obtain ⟨hPc, hDc, hFc, hC9⟩ := xpk (wc := W_drawnAt cI cJ cZ cG cH co pl x415 fwa fta fra fga cxa cup clast cpeak cptick fr fg pna pta rails limit retry behind pn) hP hD hS hA [9, 10, 11, 12, 13] (by decide +kernel) rfl
                  refine va_calli (va_runV (As := [.ref pl, .int x415]) (rest := [.int v460]) ⟨hx, hb, hml, hown, hts⟩ (c_drawnAt l D cI cJ cZ cG cH H.size co pl x415 fwa fta fra fga cxa cup clast cpeak cptick fr fg pna pta rails limit retry behind pn (xrng rfl (by omega) (by omega)) (xwk_rng h_fr (by decide) (by decide)) (xwk_rng h_fg (by decide) (by decide)) (xrng rfl (by omega) (by omega)) (xwk_rng h_pn (by decide) (by decide)) h_le) (cwV 2 hts (xGV tbC wd571 wd572 wd573 wd54 wd1059) rfl rfl rfl (by decide +kernel) ⟨Nat.le_of_ble_eq_true rfl, Nat.le_of_ble_eq_true rfl⟩) ⟨xPc_blind, va_recv hK hPc (ci := 0) (q0 := 0) rfl rfl, xPc_pre hPc hK hDc⟩ rfl rfl hl.1 rfl (lv_room (Nat.le_of_ble_eq_true rfl)) dX10_compareSheet_92 ⟨Nat.le_of_ble_eq_true rfl, Nat.le_of_ble_eq_true rfl⟩) hS (fun q _ h => hFc q h) hFc (fun r464 u t H1 locs ht hvm hw464 hB hz1 hk1 hS => ?_)
                  obtain ⟨hru9, hw464⟩ := hw464
                  subst hru9
                  obtain ⟨hf464_0, hP1, hK1, hD1⟩ := hB
                  rw [ht] at hP1
                  obtain ⟨hP, hD⟩ : xPD D A [oX10 xo tp rd rn co wy sg sh pl sp lf, oX6 sh sca sla ssa, oAM sca cG 4 rr, oAI (rr 0) cI 40 sc0, oAI (rr 1) cI 40 sc1, oAI (rr 2) cI 40 sc2, oAI (rr 3) cI 40 sc3, oAI sla cI 4 sl, oAI ssa cI 4 szs, oX0 co fwa fta fra fga cxa cup clast cpeak cptick, oAI fra cI 8 fr, oAI fga cI 8 fg, oX3 pl pna pta rails limit retry behind, oAI pna cI 64 pn] H1 := xjn 9 hP hD [9, 10, 11, 12, 13] [0, 1, 2, 3, 4, 5, 6, 7, 8] hC9 rfl (by decide +kernel) (by decide +kernel) hk1 hFc hP1 hD1
                  generalize H1 = H at hP hS ⊢
                  have hf464_0 : M_drawnAt rails x415 fg fr pn cup = (r464) := hf464_0
                  have h9M := congrArg (fun t9 => (K_compareSheet_41 v460 t9 (K_compareSheet_L2 a2 a3 a1 szs a0 sc0 rails fg fr pn cup sc1 sc2 sc3 nhl419) x415 x416 x417 x418)) hf464_0
                  have hM : M_compareSheet a2 a3 a1 szs a0 sc0 rails fg fr pn cup sc1 sc2 sc3 = (K_compareSheet_41 v460 r464 (K_compareSheet_L2 a2 a3 a1 szs a0 sc0 rails fg fr pn cup sc1 sc2 sc3 nhl419) x415 x416 x417 x418) := (show M_compareSheet a2 a3 a1 szs a0 sc0 rails fg fr pn cup sc1 sc2 sc3 = ((fun t9 => (K_compareSheet_41 v460 t9 (K_compareSheet_L2 a2 a3 a1 szs a0 sc0 rails fg fr pn cup sc1 sc2 sc3 nhl419) x415 x416 x417 x418)) (M_drawnAt rails x415 fg fr pn cup)) from hM).trans h9M
                  refine lv_isub hx hb dX10_compareSheet_95 ?_
                  refine lv_topi (fun v465 ev465 => ?_)
                  refine va_mabs hx hb (hml.trans hl.1.symm) hown (hts (.methodLink RX10 331 Lib.Math.abs.name) (tbC _ wd665)) (hts (.static Lib.Math.abs.name) (tbC _ wd666)) (hts (.initialized "java/lang/Math") (tbC _ wd67)) (hts (.code Lib.Math.abs.name Lib.Math.abs.code 1 (some .int)) (tbC _ wd1089)) (Nat.le_of_ble_eq_true rfl) (Nat.le_of_ble_eq_true rfl) (Nat.le_of_ble_eq_true rfl) (Nat.le_of_ble_eq_true rfl) dX10_compareSheet_96 ?_
                  refine lv_topi (fun v466 ev466 => ?_)
                  refine lv_istore (lv' := [(11, .int v466), (10, .int v460), (9, .int v423), (8, .int x415), (7, .int x416), (6, .int x417), (5, .int x418), (0, .ref xo), (1, .int a0), (2, .int a1), (3, .int a2), (4, .int a3)]) hx hb dX10_compareSheet_99 hl (by decide) rfl (fun ls hl => ?_)
                  refine lv_iload hx hb dX10_compareSheet_101 (lv_at hl 4 rfl) ?_
                  refine lv_iload hx hb dX10_compareSheet_103 (lv_at hl 0 rfl) ?_
                  refine lv_iadd hx hb dX10_compareSheet_105 ?_
                  refine lv_topi (fun v467 ev467 => ?_)
                  refine lv_istore (lv' := [(7, .int v467), (11, .int v466), (10, .int v460), (9, .int v423), (8, .int x415), (6, .int x417), (5, .int x418), (0, .ref xo), (1, .int a0), (2, .int a1), (3, .int a2), (4, .int a3)]) hx hb dX10_compareSheet_106 hl (by decide) rfl (fun ls hl => ?_)
                  refine lv_iload hx hb dX10_compareSheet_108 (lv_at hl 1 rfl) ?_
                  refine lv_if_ne (tgt := 119) hx hb dX10_compareSheet_110 (by decide) (fun c_468 => ?_) (fun c_468 => ?_)
                  · skip
                    have i_468 : ¬ (v466.toInt = 0) := fun h9 => c_468 ((ieq rfl (by decide)).mpr h9)
                    have hM : M_compareSheet a2 a3 a1 szs a0 sc0 rails fg fr pn cup sc1 sc2 sc3 = (K_compareSheet_42 x417 (K_compareSheet_L2 a2 a3 a1 szs a0 sc0 rails fg fr pn cup sc1 sc2 sc3 nhl419) x415 v467 x418) := (show M_compareSheet a2 a3 a1 szs a0 sc0 rails fg fr pn cup sc1 sc2 sc3 = (if v466.toInt = 0 then (K_compareSheet_43 (K_compareSheet_L2 a2 a3 a1 szs a0 sc0 rails fg fr pn cup sc1 sc2 sc3 nhl419) x415 v467 x417 x418) else (K_compareSheet_42 x417 (K_compareSheet_L2 a2 a3 a1 szs a0 sc0 rails fg fr pn cup sc1 sc2 sc3 nhl419) x415 v467 x418)) from (by rw [ev467, ev466, ev465]; exact hM)).trans (if_neg i_468)
                    refine lv_iload hx hb dX10_compareSheet_119 (lv_at hl 5 rfl) ?_
                    refine lv_bipush (v := (-4)) hx hb dX10_compareSheet_121 (by decide) ?_
                    refine lv_icmp_ne (tgt := 130) hx hb dX10_compareSheet_123 (by decide) (fun c_469 => ?_) (fun c_469 => ?_)
                    · skip
                      have i_469 : ¬ (x417.toInt = (-4)) := fun h9 => c_469 ((ieq rfl (by decide)).mpr h9)
                      have hM : M_compareSheet a2 a3 a1 szs a0 sc0 rails fg fr pn cup sc1 sc2 sc3 = (K_compareSheet_44 (K_compareSheet_L2 a2 a3 a1 szs a0 sc0 rails fg fr pn cup sc1 sc2 sc3 nhl419) x415 v467 x417 x418) := (show M_compareSheet a2 a3 a1 szs a0 sc0 rails fg fr pn cup sc1 sc2 sc3 = (if x417.toInt = (-4) then (K_compareSheet_45 (K_compareSheet_L2 a2 a3 a1 szs a0 sc0 rails fg fr pn cup sc1 sc2 sc3 nhl419) x415 v467 x418) else (K_compareSheet_44 (K_compareSheet_L2 a2 a3 a1 szs a0 sc0 rails fg fr pn cup sc1 sc2 sc3 nhl419) x415 v467 x417 x418)) from hM).trans (if_neg i_469)
                      obtain ⟨x470, ex470⟩ : ∃ y : Int32, y = x415 + 1 := ⟨_, rfl⟩
                      have tx470 : x470.toInt = (x415.toInt + 1) := (congrArg Int32.toInt ex470).trans (xadd rfl (by decide) (by omega) (by omega))
                      refine lv_iinc (v := x470) (lv' := [(8, .int x470), (7, .int v467), (11, .int v466), (10, .int v460), (9, .int v423), (6, .int x417), (5, .int x418), (0, .ref xo), (1, .int a0), (2, .int a1), (3, .int a2), (4, .int a3)]) hx hb dX10_compareSheet_130 hl (k := 4) rfl (by rw [ex470]; rfl) (by decide) rfl (fun ls hl => ?_)
                      refine lv_goto (tgt := 13) hx hb dX10_compareSheet_133 (by decide) ?_
                      exact ihhl419 x470 v467 x417 x418 (by omega) (xrng tx470 (by omega) (by omega)) (xrng rfl (by omega) (by omega)) (by rw [ex470]; exact hM) _ _ hP hD hS ls (lv_sub hl [0, 1, 5, 6, 7, 8, 9, 10, 11] rfl)
                    · skip
                      have i_469 : x417.toInt = (-4) := (ieq rfl (by decide)).mp c_469
                      have hM : M_compareSheet a2 a3 a1 szs a0 sc0 rails fg fr pn cup sc1 sc2 sc3 = (K_compareSheet_45 (K_compareSheet_L2 a2 a3 a1 szs a0 sc0 rails fg fr pn cup sc1 sc2 sc3 nhl419) x415 v467 x418) := (show M_compareSheet a2 a3 a1 szs a0 sc0 rails fg fr pn cup sc1 sc2 sc3 = (if x417.toInt = (-4) then (K_compareSheet_45 (K_compareSheet_L2 a2 a3 a1 szs a0 sc0 rails fg fr pn cup sc1 sc2 sc3 nhl419) x415 v467 x418) else (K_compareSheet_44 (K_compareSheet_L2 a2 a3 a1 szs a0 sc0 rails fg fr pn cup sc1 sc2 sc3 nhl419) x415 v467 x417 x418)) from hM).trans (if_pos i_469)
                      refine lv_iload hx hb dX10_compareSheet_126 (lv_at hl 4 rfl) ?_
                      refine lv_istore (lv' := [(6, .int x415), (7, .int v467), (11, .int v466), (10, .int v460), (9, .int v423), (8, .int x415), (5, .int x418), (0, .ref xo), (1, .int a0), (2, .int a1), (3, .int a2), (4, .int a3)]) hx hb dX10_compareSheet_128 hl (by decide) rfl (fun ls hl => ?_)
                      obtain ⟨x471, ex471⟩ : ∃ y : Int32, y = x415 + 1 := ⟨_, rfl⟩
                      have tx471 : x471.toInt = (x415.toInt + 1) := (congrArg Int32.toInt ex471).trans (xadd rfl (by decide) (by omega) (by omega))
                      refine lv_iinc (v := x471) (lv' := [(8, .int x471), (6, .int x415), (7, .int v467), (11, .int v466), (10, .int v460), (9, .int v423), (5, .int x418), (0, .ref xo), (1, .int a0), (2, .int a1), (3, .int a2), (4, .int a3)]) hx hb dX10_compareSheet_130 hl (k := 5) rfl (by rw [ex471]; rfl) (by decide) rfl (fun ls hl => ?_)
                      refine lv_goto (tgt := 13) hx hb dX10_compareSheet_133 (by decide) ?_
                      exact ihhl419 x471 v467 x415 x418 (by omega) (xrng tx471 (by omega) (by omega)) (xrng rfl (by omega) (by omega)) (by rw [ex471]; exact hM) _ _ hP hD hS ls (lv_sub hl [0, 2, 1, 6, 7, 8, 9, 10, 11] rfl)
                  · skip
                    have i_468 : v466.toInt = 0 := (ieq rfl (by decide)).mp c_468
                    have hM : M_compareSheet a2 a3 a1 szs a0 sc0 rails fg fr pn cup sc1 sc2 sc3 = (K_compareSheet_43 (K_compareSheet_L2 a2 a3 a1 szs a0 sc0 rails fg fr pn cup sc1 sc2 sc3 nhl419) x415 v467 x417 x418) := (show M_compareSheet a2 a3 a1 szs a0 sc0 rails fg fr pn cup sc1 sc2 sc3 = (if v466.toInt = 0 then (K_compareSheet_43 (K_compareSheet_L2 a2 a3 a1 szs a0 sc0 rails fg fr pn cup sc1 sc2 sc3 nhl419) x415 v467 x417 x418) else (K_compareSheet_42 x417 (K_compareSheet_L2 a2 a3 a1 szs a0 sc0 rails fg fr pn cup sc1 sc2 sc3 nhl419) x415 v467 x418)) from (by rw [ev467, ev466, ev465]; exact hM)).trans (if_pos i_468)
                    obtain ⟨x472, ex472⟩ : ∃ y : Int32, y = x418 + 1 := ⟨_, rfl⟩
                    refine lv_iinc (v := x472) (lv' := [(5, .int x472), (7, .int v467), (11, .int v466), (10, .int v460), (9, .int v423), (8, .int x415), (6, .int x417), (0, .ref xo), (1, .int a0), (2, .int a1), (3, .int a2), (4, .int a3)]) hx hb dX10_compareSheet_113 hl (k := 6) rfl (by rw [ex472]; rfl) (by decide) rfl (fun ls hl => ?_)
                    refine lv_goto (tgt := 130) hx hb dX10_compareSheet_116 (by decide) ?_
                    obtain ⟨x473, ex473⟩ : ∃ y : Int32, y = x415 + 1 := ⟨_, rfl⟩
                    have tx473 : x473.toInt = (x415.toInt + 1) := (congrArg Int32.toInt ex473).trans (xadd rfl (by decide) (by omega) (by omega))
                    refine lv_iinc (v := x473) (lv' := [(8, .int x473), (5, .int x472), (7, .int v467), (11, .int v466), (10, .int v460), (9, .int v423), (6, .int x417), (0, .ref xo), (1, .int a0), (2, .int a1), (3, .int a2), (4, .int a3)]) hx hb dX10_compareSheet_130 hl (k := 5) rfl (by rw [ex473]; rfl) (by decide) rfl (fun ls hl => ?_)
                    refine lv_goto (tgt := 13) hx hb dX10_compareSheet_133 (by decide) ?_
                    exact ihhl419 x473 v467 x417 x472 (by omega) (xrng tx473 (by omega) (by omega)) (xrng rfl (by omega) (by omega)) (by rw [ex473, ex472]; exact hM) _ _ hP hD hS ls (lv_sub hl [0, 2, 6, 1, 7, 8, 9, 10, 11] rfl)
                · skip
                  have i_463 : ¬ (v460.toInt ≤ 9999) := fun h9 => c_463 ((ile rfl (by decide)).mpr h9)
                  have hM : M_compareSheet a2 a3 a1 szs a0 sc0 rails fg fr pn cup sc1 sc2 sc3 = (K_compareSheet_40 x415) := (show M_compareSheet a2 a3 a1 szs a0 sc0 rails fg fr pn cup sc1 sc2 sc3 = (if v460.toInt ≤ 9999 then (K_compareSheet_39 v460 (K_compareSheet_L2 a2 a3 a1 szs a0 sc0 rails fg fr pn cup sc1 sc2 sc3 nhl419) x415 x416 x417 x418 rails fg fr pn cup) else (K_compareSheet_40 x415)) from hM).trans (if_neg i_463)
                  refine lv_bipush (v := (-20)) hx hb dX10_compareSheet_74 (by decide) ?_
                  refine lv_iload hx hb dX10_compareSheet_76 (lv_at hl 2 rfl) ?_
                  refine lv_isub hx hb dX10_compareSheet_78 ?_
                  refine lv_topi (fun v474 ev474 => ?_)
                  have tv474 : v474.toInt = ((-20) - x415.toInt) := (congrArg Int32.toInt ev474).trans (xsub (by decide) rfl (by omega) (by omega))
                  refine W.widen (k := 0) (n := 0) (by decide) (by decide) ?_
                  exact W.iret (v := v474) hx hb hr (fun t ht hW => ⟨⟨v474, v474, rfl, ⟨rfl, trivial⟩, ⟨(by rw [ev474]; exact hM), xB_of9 ht hW hP hK hD [0, 1, 2, 3, 4, 5, 6, 7, 8, 9, 10, 11, 12, 13] (by decide +kernel) rfl⟩⟩, hS.F ht⟩) hS.2.2 dX10_compareSheet_79
            have hM : M_compareSheet a2 a3 a1 szs a0 sc0 rails fg fr pn cup sc1 sc2 sc3 = (K_compareSheet_36 sc3 v423 x415 (K_compareSheet_L2 a2 a3 a1 szs a0 sc0 rails fg fr pn cup sc1 sc2 sc3 nhl419) x416 x417 x418 rails fg fr pn cup) := (show M_compareSheet a2 a3 a1 szs a0 sc0 rails fg fr pn cup sc1 sc2 sc3 = (if a0.toInt = 2 then (K_compareSheet_35 sc2 v423 x415 (K_compareSheet_L2 a2 a3 a1 szs a0 sc0 rails fg fr pn cup sc1 sc2 sc3 nhl419) x416 x417 x418 rails fg fr pn cup) else (K_compareSheet_36 sc3 v423 x415 (K_compareSheet_L2 a2 a3 a1 szs a0 sc0 rails fg fr pn cup sc1 sc2 sc3 nhl419) x416 x417 x418 rails fg fr pn cup)) from hM).trans (if_neg h459)
            have h475 : a0.toInt = 3 := by omega
            refine xaldA hx hb hK hP 2 3 rfl rfl (vp_in_iff.mpr ⟨by omega, by omega⟩) dX10_compareSheet_55 (v := .ref (rr 3)) (by rw [xclamp (j := 3) (rfl.trans h475)]; rfl) ?_
            refine lv_iload hx hb dX10_compareSheet_56 (lv_at hl 0 rfl) ?_
            refine va_iald hx hb hK hP 6 0 rfl rfl (vp_in_iff.mpr ⟨by omega, by omega⟩) dX10_compareSheet_58 ?_
            refine lv_topi (fun v476 ev476 => ?_)
            refine lv_istore (lv' := [(10, .int v476), (9, .int v423), (8, .int x415), (7, .int x416), (6, .int x417), (5, .int x418), (0, .ref xo), (1, .int a0), (2, .int a1), (3, .int a2), (4, .int a3)]) hx hb dX10_compareSheet_59 hl (by decide) rfl (fun ls hl => ?_)
            refine lv_iload hx hb dX10_compareSheet_61 (lv_at hl 0 rfl) ?_
            refine lv_if_lt (tgt := 74) hx hb dX10_compareSheet_63 (by decide) (fun c_477 => ?_) (fun c_477 => ?_)
            · skip
              have i_477 : v476.toInt < 0 := (ilt rfl (by decide)).mp c_477
              have hM : M_compareSheet a2 a3 a1 szs a0 sc0 rails fg fr pn cup sc1 sc2 sc3 = (K_compareSheet_46 x415) := (show M_compareSheet a2 a3 a1 szs a0 sc0 rails fg fr pn cup sc1 sc2 sc3 = (if v476.toInt < 0 then (K_compareSheet_46 x415) else (K_compareSheet_47 v476 (K_compareSheet_L2 a2 a3 a1 szs a0 sc0 rails fg fr pn cup sc1 sc2 sc3 nhl419) x415 x416 x417 x418 rails fg fr pn cup)) from (by rw [ev476]; exact hM)).trans (if_pos i_477)
              refine lv_bipush (v := (-20)) hx hb dX10_compareSheet_74 (by decide) ?_
              refine lv_iload hx hb dX10_compareSheet_76 (lv_at hl 2 rfl) ?_
              refine lv_isub hx hb dX10_compareSheet_78 ?_
              refine lv_topi (fun v478 ev478 => ?_)
              have tv478 : v478.toInt = ((-20) - x415.toInt) := (congrArg Int32.toInt ev478).trans (xsub (by decide) rfl (by omega) (by omega))
              refine W.widen (k := 0) (n := 0) (by decide) (by decide) ?_
              exact W.iret (v := v478) hx hb hr (fun t ht hW => ⟨⟨v478, v478, rfl, ⟨rfl, trivial⟩, ⟨(by rw [ev478]; exact hM), xB_of9 ht hW hP hK hD [0, 1, 2, 3, 4, 5, 6, 7, 8, 9, 10, 11, 12, 13] (by decide +kernel) rfl⟩⟩, hS.F ht⟩) hS.2.2 dX10_compareSheet_79
            · skip
              have i_477 : ¬ (v476.toInt < 0) := fun h9 => c_477 ((ilt rfl (by decide)).mpr h9)
              have hM : M_compareSheet a2 a3 a1 szs a0 sc0 rails fg fr pn cup sc1 sc2 sc3 = (K_compareSheet_47 v476 (K_compareSheet_L2 a2 a3 a1 szs a0 sc0 rails fg fr pn cup sc1 sc2 sc3 nhl419) x415 x416 x417 x418 rails fg fr pn cup) := (show M_compareSheet a2 a3 a1 szs a0 sc0 rails fg fr pn cup sc1 sc2 sc3 = (if v476.toInt < 0 then (K_compareSheet_46 x415) else (K_compareSheet_47 v476 (K_compareSheet_L2 a2 a3 a1 szs a0 sc0 rails fg fr pn cup sc1 sc2 sc3 nhl419) x415 x416 x417 x418 rails fg fr pn cup)) from (by rw [ev476]; exact hM)).trans (if_neg i_477)
              refine lv_iload hx hb dX10_compareSheet_66 (lv_at hl 0 rfl) ?_
              refine lv_sipush (v := 9999) hx hb dX10_compareSheet_68 (by decide) ?_
              refine lv_icmp_le (tgt := 80) hx hb dX10_compareSheet_71 (by decide) (fun c_479 => ?_) (fun c_479 => ?_)
              · skip
                have i_479 : v476.toInt ≤ 9999 := (ile rfl (by decide)).mp c_479
                have hM : M_compareSheet a2 a3 a1 szs a0 sc0 rails fg fr pn cup sc1 sc2 sc3 = (K_compareSheet_48 v476 (K_compareSheet_L2 a2 a3 a1 szs a0 sc0 rails fg fr pn cup sc1 sc2 sc3 nhl419) x415 x416 x417 x418 rails fg fr pn cup) := (show M_compareSheet a2 a3 a1 szs a0 sc0 rails fg fr pn cup sc1 sc2 sc3 = (if v476.toInt ≤ 9999 then (K_compareSheet_48 v476 (K_compareSheet_L2 a2 a3 a1 szs a0 sc0 rails fg fr pn cup sc1 sc2 sc3 nhl419) x415 x416 x417 x418 rails fg fr pn cup) else (K_compareSheet_49 x415)) from hM).trans (if_pos i_479)
                refine lv_iload hx hb dX10_compareSheet_80 (lv_at hl 0 rfl) ?_
                refine lv_aload_n hx hb dX10_compareSheet_82 rfl (lv_at hl 6 rfl) ?_
                refine va_get (D := D) (ci := 9) (v := .ref co) (C := RX10) (T := TX10) (N := 10) hx hb hts (fun w h => tbC w (tbfX10 w h)) hown hK hP 0 rfl rfl 3 (by decide) (hts (.fieldLink RX10 26 "PowerRails" "course" "LPowerRails$Course;") (tbC _ wd250)) (fun _ h9 => h9) rfl dX10_compareSheet_83 ?_
                refine lv_aload_n hx hb dX10_compareSheet_86 rfl (lv_at hl 6 rfl) ?_
                refine va_get (D := D) (ci := 9) (v := .ref pl) (C := RX10) (T := TX10) (N := 10) hx hb hts (fun w h => tbC w (tbfX10 w h)) hown hK hP 0 rfl rfl 7 (by decide) (hts (.fieldLink RX10 56 "PowerRails" "plan" "LPowerRails$Plan;") (tbC _ wd254)) (fun _ h9 => h9) rfl dX10_compareSheet_87 ?_
                refine lv_iload hx hb dX10_compareSheet_90 (lv_at hl 2 rfl) ?_
                obtain ⟨hPc, hDc, hFc, hC9⟩ := xpk (wc := W_drawnAt cI cJ cZ cG cH co pl x415 fwa fta fra fga cxa cup clast cpeak cptick fr fg pna pta rails limit retry behind pn) hP hD hS hA [9, 10, 11, 12, 13] (by decide +kernel) rfl
                refine va_calli (va_runV (As := [.ref pl, .int x415]) (rest := [.int v476]) ⟨hx, hb, hml, hown, hts⟩ (c_drawnAt l D cI cJ cZ cG cH H.size co pl x415 fwa fta fra fga cxa cup clast cpeak cptick fr fg pna pta rails limit retry behind pn (xrng rfl (by omega) (by omega)) (xwk_rng h_fr (by decide) (by decide)) (xwk_rng h_fg (by decide) (by decide)) (xrng rfl (by omega) (by omega)) (xwk_rng h_pn (by decide) (by decide)) h_le) (cwV 2 hts (xGV tbC wd571 wd572 wd573 wd54 wd1059) rfl rfl rfl (by decide +kernel) ⟨Nat.le_of_ble_eq_true rfl, Nat.le_of_ble_eq_true rfl⟩) ⟨xPc_blind, va_recv hK hPc (ci := 0) (q0 := 0) rfl rfl, xPc_pre hPc hK hDc⟩ rfl rfl hl.1 rfl (lv_room (Nat.le_of_ble_eq_true rfl)) dX10_compareSheet_92 ⟨Nat.le_of_ble_eq_true rfl, Nat.le_of_ble_eq_true rfl⟩) hS (fun q _ h => hFc q h) hFc (fun r480 u t H1 locs ht hvm hw480 hB hz1 hk1 hS => ?_)
                obtain ⟨hru9, hw480⟩ := hw480
                subst hru9
                obtain ⟨hf480_0, hP1, hK1, hD1⟩ := hB
                rw [ht] at hP1
                obtain ⟨hP, hD⟩ : xPD D A [oX10 xo tp rd rn co wy sg sh pl sp lf, oX6 sh sca sla ssa, oAM sca cG 4 rr, oAI (rr 0) cI 40 sc0, oAI (rr 1) cI 40 sc1, oAI (rr 2) cI 40 sc2, oAI (rr 3) cI 40 sc3, oAI sla cI 4 sl, oAI ssa cI 4 szs, oX0 co fwa fta fra fga cxa cup clast cpeak cptick, oAI fra cI 8 fr, oAI fga cI 8 fg, oX3 pl pna pta rails limit retry behind, oAI pna cI 64 pn] H1 := xjn 9 hP hD [9, 10, 11, 12, 13] [0, 1, 2, 3, 4, 5, 6, 7, 8] hC9 rfl (by decide +kernel) (by decide +kernel) hk1 hFc hP1 hD1
                generalize H1 = H at hP hS ⊢
                have hf480_0 : M_drawnAt rails x415 fg fr pn cup = (r480) := hf480_0
                have h9M := congrArg (fun t9 => (K_compareSheet_50 v476 t9 (K_compareSheet_L2 a2 a3 a1 szs a0 sc0 rails fg fr pn cup sc1 sc2 sc3 nhl419) x415 x416 x417 x418)) hf480_0
                have hM : M_compareSheet a2 a3 a1 szs a0 sc0 rails fg fr pn cup sc1 sc2 sc3 = (K_compareSheet_50 v476 r480 (K_compareSheet_L2 a2 a3 a1 szs a0 sc0 rails fg fr pn cup sc1 sc2 sc3 nhl419) x415 x416 x417 x418) := (show M_compareSheet a2 a3 a1 szs a0 sc0 rails fg fr pn cup sc1 sc2 sc3 = ((fun t9 => (K_compareSheet_50 v476 t9 (K_compareSheet_L2 a2 a3 a1 szs a0 sc0 rails fg fr pn cup sc1 sc2 sc3 nhl419) x415 x416 x417 x418)) (M_drawnAt rails x415 fg fr pn cup)) from hM).trans h9M
                refine lv_isub hx hb dX10_compareSheet_95 ?_
                refine lv_topi (fun v481 ev481 => ?_)
                refine va_mabs hx hb (hml.trans hl.1.symm) hown (hts (.methodLink RX10 331 Lib.Math.abs.name) (tbC _ wd665)) (hts (.static Lib.Math.abs.name) (tbC _ wd666)) (hts (.initialized "java/lang/Math") (tbC _ wd67)) (hts (.code Lib.Math.abs.name Lib.Math.abs.code 1 (some .int)) (tbC _ wd1089)) (Nat.le_of_ble_eq_true rfl) (Nat.le_of_ble_eq_true rfl) (Nat.le_of_ble_eq_true rfl) (Nat.le_of_ble_eq_true rfl) dX10_compareSheet_96 ?_
                refine lv_topi (fun v482 ev482 => ?_)
                refine lv_istore (lv' := [(11, .int v482), (10, .int v476), (9, .int v423), (8, .int x415), (7, .int x416), (6, .int x417), (5, .int x418), (0, .ref xo), (1, .int a0), (2, .int a1), (3, .int a2), (4, .int a3)]) hx hb dX10_compareSheet_99 hl (by decide) rfl (fun ls hl => ?_)
                refine lv_iload hx hb dX10_compareSheet_101 (lv_at hl 4 rfl) ?_
                refine lv_iload hx hb dX10_compareSheet_103 (lv_at hl 0 rfl) ?_
                refine lv_iadd hx hb dX10_compareSheet_105 ?_
                refine lv_topi (fun v483 ev483 => ?_)
                refine lv_istore (lv' := [(7, .int v483), (11, .int v482), (10, .int v476), (9, .int v423), (8, .int x415), (6, .int x417), (5, .int x418), (0, .ref xo), (1, .int a0), (2, .int a1), (3, .int a2), (4, .int a3)]) hx hb dX10_compareSheet_106 hl (by decide) rfl (fun ls hl => ?_)
                refine lv_iload hx hb dX10_compareSheet_108 (lv_at hl 1 rfl) ?_
                refine lv_if_ne (tgt := 119) hx hb dX10_compareSheet_110 (by decide) (fun c_484 => ?_) (fun c_484 => ?_)
                · skip
                  have i_484 : ¬ (v482.toInt = 0) := fun h9 => c_484 ((ieq rfl (by decide)).mpr h9)
                  have hM : M_compareSheet a2 a3 a1 szs a0 sc0 rails fg fr pn cup sc1 sc2 sc3 = (K_compareSheet_51 x417 (K_compareSheet_L2 a2 a3 a1 szs a0 sc0 rails fg fr pn cup sc1 sc2 sc3 nhl419) x415 v483 x418) := (show M_compareSheet a2 a3 a1 szs a0 sc0 rails fg fr pn cup sc1 sc2 sc3 = (if v482.toInt = 0 then (K_compareSheet_52 (K_compareSheet_L2 a2 a3 a1 szs a0 sc0 rails fg fr pn cup sc1 sc2 sc3 nhl419) x415 v483 x417 x418) else (K_compareSheet_51 x417 (K_compareSheet_L2 a2 a3 a1 szs a0 sc0 rails fg fr pn cup sc1 sc2 sc3 nhl419) x415 v483 x418)) from (by rw [ev483, ev482, ev481]; exact hM)).trans (if_neg i_484)
                  refine lv_iload hx hb dX10_compareSheet_119 (lv_at hl 5 rfl) ?_
                  refine lv_bipush (v := (-4)) hx hb dX10_compareSheet_121 (by decide) ?_
                  refine lv_icmp_ne (tgt := 130) hx hb dX10_compareSheet_123 (by decide) (fun c_485 => ?_) (fun c_485 => ?_)
                  · skip
                    have i_485 : ¬ (x417.toInt = (-4)) := fun h9 => c_485 ((ieq rfl (by decide)).mpr h9)
                    have hM : M_compareSheet a2 a3 a1 szs a0 sc0 rails fg fr pn cup sc1 sc2 sc3 = (K_compareSheet_53 (K_compareSheet_L2 a2 a3 a1 szs a0 sc0 rails fg fr pn cup sc1 sc2 sc3 nhl419) x415 v483 x417 x418) := (show M_compareSheet a2 a3 a1 szs a0 sc0 rails fg fr pn cup sc1 sc2 sc3 = (if x417.toInt = (-4) then (K_compareSheet_54 (K_compareSheet_L2 a2 a3 a1 szs a0 sc0 rails fg fr pn cup sc1 sc2 sc3 nhl419) x415 v483 x418) else (K_compareSheet_53 (K_compareSheet_L2 a2 a3 a1 szs a0 sc0 rails fg fr pn cup sc1 sc2 sc3 nhl419) x415 v483 x417 x418)) from hM).trans (if_neg i_485)
                    obtain ⟨x486, ex486⟩ : ∃ y : Int32, y = x415 + 1 := ⟨_, rfl⟩
                    have tx486 : x486.toInt = (x415.toInt + 1) := (congrArg Int32.toInt ex486).trans (xadd rfl (by decide) (by omega) (by omega))
                    refine lv_iinc (v := x486) (lv' := [(8, .int x486), (7, .int v483), (11, .int v482), (10, .int v476), (9, .int v423), (6, .int x417), (5, .int x418), (0, .ref xo), (1, .int a0), (2, .int a1), (3, .int a2), (4, .int a3)]) hx hb dX10_compareSheet_130 hl (k := 4) rfl (by rw [ex486]; rfl) (by decide) rfl (fun ls hl => ?_)
                    refine lv_goto (tgt := 13) hx hb dX10_compareSheet_133 (by decide) ?_
                    exact ihhl419 x486 v483 x417 x418 (by omega) (xrng tx486 (by omega) (by omega)) (xrng rfl (by omega) (by omega)) (by rw [ex486]; exact hM) _ _ hP hD hS ls (lv_sub hl [0, 1, 5, 6, 7, 8, 9, 10, 11] rfl)
                  · skip
                    have i_485 : x417.toInt = (-4) := (ieq rfl (by decide)).mp c_485
                    have hM : M_compareSheet a2 a3 a1 szs a0 sc0 rails fg fr pn cup sc1 sc2 sc3 = (K_compareSheet_54 (K_compareSheet_L2 a2 a3 a1 szs a0 sc0 rails fg fr pn cup sc1 sc2 sc3 nhl419) x415 v483 x418) := (show M_compareSheet a2 a3 a1 szs a0 sc0 rails fg fr pn cup sc1 sc2 sc3 = (if x417.toInt = (-4) then (K_compareSheet_54 (K_compareSheet_L2 a2 a3 a1 szs a0 sc0 rails fg fr pn cup sc1 sc2 sc3 nhl419) x415 v483 x418) else (K_compareSheet_53 (K_compareSheet_L2 a2 a3 a1 szs a0 sc0 rails fg fr pn cup sc1 sc2 sc3 nhl419) x415 v483 x417 x418)) from hM).trans (if_pos i_485)
                    refine lv_iload hx hb dX10_compareSheet_126 (lv_at hl 4 rfl) ?_
                    refine lv_istore (lv' := [(6, .int x415), (7, .int v483), (11, .int v482), (10, .int v476), (9, .int v423), (8, .int x415), (5, .int x418), (0, .ref xo), (1, .int a0), (2, .int a1), (3, .int a2), (4, .int a3)]) hx hb dX10_compareSheet_128 hl (by decide) rfl (fun ls hl => ?_)
                    obtain ⟨x487, ex487⟩ : ∃ y : Int32, y = x415 + 1 := ⟨_, rfl⟩
                    have tx487 : x487.toInt = (x415.toInt + 1) := (congrArg Int32.toInt ex487).trans (xadd rfl (by decide) (by omega) (by omega))
                    refine lv_iinc (v := x487) (lv' := [(8, .int x487), (6, .int x415), (7, .int v483), (11, .int v482), (10, .int v476), (9, .int v423), (5, .int x418), (0, .ref xo), (1, .int a0), (2, .int a1), (3, .int a2), (4, .int a3)]) hx hb dX10_compareSheet_130 hl (k := 5) rfl (by rw [ex487]; rfl) (by decide) rfl (fun ls hl => ?_)
                    refine lv_goto (tgt := 13) hx hb dX10_compareSheet_133 (by decide) ?_
                    exact ihhl419 x487 v483 x415 x418 (by omega) (xrng tx487 (by omega) (by omega)) (xrng rfl (by omega) (by omega)) (by rw [ex487]; exact hM) _ _ hP hD hS ls (lv_sub hl [0, 2, 1, 6, 7, 8, 9, 10, 11] rfl)
                · skip
                  have i_484 : v482.toInt = 0 := (ieq rfl (by decide)).mp c_484
                  have hM : M_compareSheet a2 a3 a1 szs a0 sc0 rails fg fr pn cup sc1 sc2 sc3 = (K_compareSheet_52 (K_compareSheet_L2 a2 a3 a1 szs a0 sc0 rails fg fr pn cup sc1 sc2 sc3 nhl419) x415 v483 x417 x418) := (show M_compareSheet a2 a3 a1 szs a0 sc0 rails fg fr pn cup sc1 sc2 sc3 = (if v482.toInt = 0 then (K_compareSheet_52 (K_compareSheet_L2 a2 a3 a1 szs a0 sc0 rails fg fr pn cup sc1 sc2 sc3 nhl419) x415 v483 x417 x418) else (K_compareSheet_51 x417 (K_compareSheet_L2 a2 a3 a1 szs a0 sc0 rails fg fr pn cup sc1 sc2 sc3 nhl419) x415 v483 x418)) from (by rw [ev483, ev482, ev481]; exact hM)).trans (if_pos i_484)
                  obtain ⟨x488, ex488⟩ : ∃ y : Int32, y = x418 + 1 := ⟨_, rfl⟩
                  refine lv_iinc (v := x488) (lv' := [(5, .int x488), (7, .int v483), (11, .int v482), (10, .int v476), (9, .int v423), (8, .int x415), (6, .int x417), (0, .ref xo), (1, .int a0), (2, .int a1), (3, .int a2), (4, .int a3)]) hx hb dX10_compareSheet_113 hl (k := 6) rfl (by rw [ex488]; rfl) (by decide) rfl (fun ls hl => ?_)
                  refine lv_goto (tgt := 130) hx hb dX10_compareSheet_116 (by decide) ?_
                  obtain ⟨x489, ex489⟩ : ∃ y : Int32, y = x415 + 1 := ⟨_, rfl⟩
                  have tx489 : x489.toInt = (x415.toInt + 1) := (congrArg Int32.toInt ex489).trans (xadd rfl (by decide) (by omega) (by omega))
                  refine lv_iinc (v := x489) (lv' := [(8, .int x489), (5, .int x488), (7, .int v483), (11, .int v482), (10, .int v476), (9, .int v423), (6, .int x417), (0, .ref xo), (1, .int a0), (2, .int a1), (3, .int a2), (4, .int a3)]) hx hb dX10_compareSheet_130 hl (k := 5) rfl (by rw [ex489]; rfl) (by decide) rfl (fun ls hl => ?_)
                  refine lv_goto (tgt := 13) hx hb dX10_compareSheet_133 (by decide) ?_
                  exact ihhl419 x489 v483 x417 x488 (by omega) (xrng tx489 (by omega) (by omega)) (xrng rfl (by omega) (by omega)) (by rw [ex489, ex488]; exact hM) _ _ hP hD hS ls (lv_sub hl [0, 2, 6, 1, 7, 8, 9, 10, 11] rfl)
              · skip
                have i_479 : ¬ (v476.toInt ≤ 9999) := fun h9 => c_479 ((ile rfl (by decide)).mpr h9)
                have hM : M_compareSheet a2 a3 a1 szs a0 sc0 rails fg fr pn cup sc1 sc2 sc3 = (K_compareSheet_49 x415) := (show M_compareSheet a2 a3 a1 szs a0 sc0 rails fg fr pn cup sc1 sc2 sc3 = (if v476.toInt ≤ 9999 then (K_compareSheet_48 v476 (K_compareSheet_L2 a2 a3 a1 szs a0 sc0 rails fg fr pn cup sc1 sc2 sc3 nhl419) x415 x416 x417 x418 rails fg fr pn cup) else (K_compareSheet_49 x415)) from hM).trans (if_neg i_479)
                refine lv_bipush (v := (-20)) hx hb dX10_compareSheet_74 (by decide) ?_
                refine lv_iload hx hb dX10_compareSheet_76 (lv_at hl 2 rfl) ?_
                refine lv_isub hx hb dX10_compareSheet_78 ?_
                refine lv_topi (fun v490 ev490 => ?_)
                have tv490 : v490.toInt = ((-20) - x415.toInt) := (congrArg Int32.toInt ev490).trans (xsub (by decide) rfl (by omega) (by omega))
                refine W.widen (k := 0) (n := 0) (by decide) (by decide) ?_
                exact W.iret (v := v490) hx hb hr (fun t ht hW => ⟨⟨v490, v490, rfl, ⟨rfl, trivial⟩, ⟨(by rw [ev490]; exact hM), xB_of9 ht hW hP hK hD [0, 1, 2, 3, 4, 5, 6, 7, 8, 9, 10, 11, 12, 13] (by decide +kernel) rfl⟩⟩, hS.F ht⟩) hS.2.2 dX10_compareSheet_79
          · skip
            have i_426 : ¬ (v423.toInt < v425.toInt) := fun h9 => c_426 ((ilt rfl rfl).mpr h9)
            have hM : M_compareSheet a2 a3 a1 szs a0 sc0 rails fg fr pn cup sc1 sc2 sc3 = (K_compareSheet_12) := (show M_compareSheet a2 a3 a1 szs a0 sc0 rails fg fr pn cup sc1 sc2 sc3 = (if v423.toInt < v425.toInt then (K_compareSheet_11 a0 sc0 v423 x415 (K_compareSheet_L2 a2 a3 a1 szs a0 sc0 rails fg fr pn cup sc1 sc2 sc3 nhl419) x416 x417 x418 rails fg fr pn cup sc1 sc2 sc3) else (K_compareSheet_12)) from (by rw [ev425]; exact hM)).trans (if_neg i_426)
            refine lv_bipush (v := (-12)) hx hb dX10_compareSheet_44 (by decide) ?_
            refine W.widen (k := 0) (n := 0) (by decide) (by decide) ?_
            exact W.iret (v := (-12)) hx hb hr (fun t ht hW => ⟨⟨(-12), (-12), rfl, ⟨rfl, trivial⟩, ⟨hM, xB_of9 ht hW hP hK hD [0, 1, 2, 3, 4, 5, 6, 7, 8, 9, 10, 11, 12, 13] (by decide +kernel) rfl⟩⟩, hS.F ht⟩) hS.2.2 dX10_compareSheet_46
  exact hl419 100000 0 0 (-4) 0 (by have z9_0 : (0 : Int32).toInt = 0 := (by decide); have z9_1 : (-4 : Int32).toInt = -4 := (by decide); omega) ⟨by decide, by decide⟩ ⟨by decide, by decide⟩ hM _ _ hP hD hS ls (lv_sub hl [0, 1, 2, 3, 4, 5, 6, 7, 8] rfl)
def K_x_feed_3 (tl_2 : Int32) (tb_3 : Nat → Int32) : (Int32) × (Int32) × (Nat → Int32) := ((-3 : Int32), tl_2, tb_3)
def K_x_feed_4 (tl_2 : Int32) (tb_3 : Nat → Int32) : (Int32) × (Int32) × (Nat → Int32) := (tl_2, tl_2, tb_3)
def K_x_feed_2 (r1 : Int32) (tl_2 : Int32) (tb_3 : Nat → Int32) : (Int32) × (Int32) × (Nat → Int32) := (if r1.toInt = 0 then (K_x_feed_3 tl_2 tb_3) else (K_x_feed_4 tl_2 tb_3))
def K_x_feed_1 (tl : Int32) (tb : Nat → Int32) (jv : Int64) : (Int32) × (Int32) × (Nat → Int32) := ((fun t9 => (K_x_feed_2 t9.1 t9.2.1 t9.2.2)) (M_push tl tb jv))
def M_x_feed (tl : Int32) (tb : Nat → Int32) (jv : Int64) : (Int32) × (Int32) × (Nat → Int32) := (K_x_feed_1 tl tb jv)
abbrev W_x_feed (cI cJ cZ cG cH : ClassId) (xo : Nat) (jv : Int64) (tp : Nat) (rd : Nat) (rn : Nat) (co : Nat) (wy : Nat) (sg : Nat) (sh : Nat) (pl : Nat) (sp : Nat) (lf : Int32) (tba : Nat) (tl : Int32) (tb : Nat → Int32) : va_W := [oX10 xo tp rd rn co wy sg sh pl sp lf, oX8 tp tba tl, oAI tba cI 400 tb]
abbrev Q_x_feed (D : va_G) (cI cJ cZ cG cH : ClassId) (xo : Nat) (jv : Int64) (tp : Nat) (rd : Nat) (rn : Nat) (co : Nat) (wy : Nat) (sg : Nat) (sh : Nat) (pl : Nat) (sp : Nat) (lf : Int32) (tba : Nat) (tl : Int32) (tb : Nat → Int32) (A : Nat → Prop) : Array Value → State → Outcome → State → Prop := va_Qi (fun (r : Int32) (u9 : Int32) => r = u9 ∧ ((tl.toInt ≤ 392 ∧ r.toInt = tl.toInt + 8) ∨ (392 < tl.toInt ∧ r.toInt = -3))) (fun u9 t => ∃ (tl9 : Int32) (tb9 : Nat → Int32), (0 ≤ tl9.toInt ∧ tl9.toInt ≤ 400) ∧ ((tl.toInt ≤ 392 ∧ tl9.toInt = tl.toInt + 8) ∨ (392 < tl.toInt ∧ tl9.toInt = tl.toInt)) ∧ (M_x_feed tl tb jv = (u9, tl9, tb9)) ∧ xB D (tyL cI cJ cZ cG cH) [oX10 xo tp rd rn co wy sg sh pl sp lf, oX8 tp tba tl9, oAI tba cI 400 tb9] A t) A
abbrev rm_x_feed : Room := { frames := 1, cells := 0, slots := 0, locals := 23 }
set_option maxRecDepth 100000 in
set_option maxHeartbeats 40000000 in
theorem c_x_feed (l : Launch) (D : va_G) (cI cJ cZ cG cH : ClassId) (sz : Nat) (xo : Nat) (jv : Int64) (tp : Nat) (rd : Nat) (rn : Nat) (co : Nat) (wy : Nat) (sg : Nat) (sh : Nat) (pl : Nat) (sp : Nat) (lf : Int32) (tba : Nat) (tl : Int32) (tb : Nat → Int32) (h_tl : 0 ≤ tl.toInt ∧ tl.toInt ≤ 400) : Met l yX10_feed (wt yX10_feed cX10_feed 3 (some .int)) rm_x_feed (xPc [.ref xo, .long jv] D (tyL cI cJ cZ cG cH) (W_x_feed cI cJ cZ cG cH xo jv tp rd rn co wy sg sh pl sp lf tba tl tb) sz) (Q_x_feed D cI cJ cZ cG cH xo jv tp rd rn co wy sg sh pl sp lf tba tl tb (va_A (W_x_feed cI cJ cZ cG cH xo jv tp rd rn co wy sg sh pl sp lf tba tl tb) sz)) 0 0 (va_A (W_x_feed cI cJ cZ cG cH xo jv tp rd rn co wy sg sh pl sp lf tba tl tb) sz) := by
  refine xMet (cc := cX10_feed) (maxL := 3) (ret := (some .int)) (Qf := Q_x_feed D cI cJ cZ cG cH xo jv tp rd rn co wy sg sh pl sp lf tba tl tb) (by decide) rfl (Nat.le_of_ble_eq_true rfl) ?_
  intro p e s m below meth c ls A hx hb hr hml hts hown hlocks hnm hsz hP hK hD hA hS hl
  have hown : s.vm.findClass RX10 = some m.cls := hown
  have hP : va_P D vwCl [oX10 xo tp rd rn co wy sg sh pl sp lf, oX8 tp tba tl, oAI tba cI 400 tb] s.heap := hP
  have hD : va_D A [oX10 xo tp rd rn co wy sg sh pl sp lf, oX8 tp tba tl, oAI tba cI 400 tb] := hD
  have hl : lv_has ls 3 [(0, .ref xo), (1, .long jv)] := hl
  have hM : M_x_feed tl tb jv = (K_x_feed_1 tl tb jv) := rfl
  refine lv_aload_n hx hb dX10_feed_0 rfl (lv_at hl 0 rfl) ?_
  refine va_get (D := D) (ci := 9) (v := .ref tp) (C := RX10) (T := TX10) (N := 10) hx hb hts (fun w h => tbC w (tbfX10 w h)) hown hK hP 0 rfl rfl 0 (by decide) (hts (.fieldLink RX10 10 "PowerRails" "tape" "LPowerRails$Tape;") (tbC _ wd247)) (fun _ h9 => h9) rfl dX10_feed_1 ?_
  refine lv_lload_n hx hb dX10_feed_4 rfl (lv_at hl 1 rfl) ?_
  obtain ⟨hPc, hDc, hFc, hC9⟩ := xpk (wc := W_push cI cJ cZ cG cH tp jv tba tl tb) hP hD hS hA [1, 2] (by decide +kernel) rfl
  refine va_calli (va_runV (As := [.long jv]) (rest := []) ⟨hx, hb, hml, hown, hts⟩ (c_push l D cI cJ cZ cG cH s.heap.size tp jv tba tl tb (xrng rfl (by omega) (by omega))) (cwV 1 hts (xGV tbC wd260 wd261 wd262 wd51 wd961) rfl rfl rfl (by decide +kernel) ⟨Nat.le_of_ble_eq_true rfl, Nat.le_of_ble_eq_true rfl⟩) ⟨xPc_blind, va_recv hK hPc (ci := 7) (q0 := 0) rfl rfl, xPc_pre hPc hK hDc⟩ rfl rfl hl.1 rfl (lv_room (Nat.le_of_ble_eq_true rfl)) dX10_feed_5 ⟨Nat.le_of_ble_eq_true rfl, Nat.le_of_ble_eq_true rfl⟩) hS (fun q _ h => hFc q h) hFc (fun r1 u t H1 locs ht hvm hw1 hB hz1 hk1 hS => ?_)
  obtain ⟨hru9, hw1⟩ := hw1
  subst hru9
  obtain ⟨tl_2, tb_3, hf3_0, hf3_1, hf3_2, hP1, hK1, hD1⟩ := hB
  rw [ht] at hP1
  obtain ⟨hP, hD⟩ : xPD D A [oX10 xo tp rd rn co wy sg sh pl sp lf, oX8 tp tba tl_2, oAI tba cI 400 tb_3] H1 := xjn 1 hP hD [1, 2] [0] hC9 rfl (by decide +kernel) (by decide +kernel) hk1 hFc hP1 hD1
  generalize H1 = H at hP hS ⊢
  have hf3_0 : 0 ≤ tl_2.toInt ∧ tl_2.toInt ≤ 400 := hf3_0
  have hf3_1 : (r1.toInt = 0 ∧ 392 < tl.toInt ∧ tl_2.toInt = tl.toInt) ∨ (r1.toInt = 1 ∧ tl.toInt ≤ 392 ∧ tl_2.toInt = tl.toInt + 8) := hf3_1
  have hf3_2 : M_push tl tb jv = (r1, tl_2, tb_3) := hf3_2
  have hw1 : 0 ≤ r1.toInt ∧ r1.toInt ≤ 1 := hw1
  have h9M := congrArg (fun t9 => (K_x_feed_2 t9.1 t9.2.1 t9.2.2)) hf3_2
  have hM : M_x_feed tl tb jv = (K_x_feed_2 r1 tl_2 tb_3) := (show M_x_feed tl tb jv = ((fun t9 => (K_x_feed_2 t9.1 t9.2.1 t9.2.2)) (M_push tl tb jv)) from hM).trans h9M
  refine lv_if_eq (tgt := 21) hx hb dX10_feed_8 (by decide) (fun c_4 => ?_) (fun c_4 => ?_)
  · skip
    have i_4 : r1.toInt = 0 := (ieq rfl (by decide)).mp c_4
    have hM : M_x_feed tl tb jv = (K_x_feed_3 tl_2 tb_3) := (show M_x_feed tl tb jv = (if r1.toInt = 0 then (K_x_feed_3 tl_2 tb_3) else (K_x_feed_4 tl_2 tb_3)) from hM).trans (if_pos i_4)
    refine lv_bipush (v := (-3)) hx hb dX10_feed_21 (by decide) ?_
    refine W.widen (k := 0) (n := 0) (by decide) (by decide) ?_
    exact W.iret (v := (-3)) hx hb hr (fun t ht hW => ⟨⟨(-3), (-3), rfl, ⟨rfl, (by have z9_0 : (-3 : Int32).toInt = -3 := (by decide); omega)⟩, ⟨tl_2, tb_3, (xrng rfl (by omega) (by omega)), (by have z9 : (1 : Int32).toInt = 1 := (by decide); have z8 : (0 : Int32).toInt = 0 := (by decide); omega), hM, xB_of9 ht hW hP hK hD [0, 1, 2] (by decide +kernel) rfl⟩⟩, hS.F ht⟩) hS.2.2 dX10_feed_23
  · skip
    have i_4 : ¬ (r1.toInt = 0) := fun h9 => c_4 ((ieq rfl (by decide)).mpr h9)
    have hM : M_x_feed tl tb jv = (K_x_feed_4 tl_2 tb_3) := (show M_x_feed tl tb jv = (if r1.toInt = 0 then (K_x_feed_3 tl_2 tb_3) else (K_x_feed_4 tl_2 tb_3)) from hM).trans (if_neg i_4)
    refine lv_aload_n hx hb dX10_feed_11 rfl (lv_at hl 0 rfl) ?_
    refine va_get (D := D) (ci := 9) (v := .ref tp) (C := RX10) (T := TX10) (N := 10) hx hb hts (fun w h => tbC w (tbfX10 w h)) hown hK hP 0 rfl rfl 0 (by decide) (hts (.fieldLink RX10 10 "PowerRails" "tape" "LPowerRails$Tape;") (tbC _ wd247)) (fun _ h9 => h9) rfl dX10_feed_12 ?_
    refine va_get (D := D) (ci := 7) (v := .int tl_2) (C := RX8) (T := TX8) (N := 2) hx hb hts (fun w h => tbC w (tbfX8 w h)) hown hK hP 1 rfl rfl 1 (by decide) (hts (.fieldLink RX10 80 "PowerRails$Tape" "length" "I") (tbC _ wd84)) (fun _ h9 => h9) rfl dX10_feed_15 ?_
    refine lv_goto (tgt := 23) hx hb dX10_feed_18 (by decide) ?_
    refine W.widen (k := 0) (n := 0) (by decide) (by decide) ?_
    exact W.iret (v := tl_2) hx hb hr (fun t ht hW => ⟨⟨tl_2, tl_2, rfl, ⟨rfl, (by omega)⟩, ⟨tl_2, tb_3, (xrng rfl (by omega) (by omega)), (by have z9 : (1 : Int32).toInt = 1 := (by decide); have z8 : (0 : Int32).toInt = 0 := (by decide); omega), hM, xB_of9 ht hW hP hK hD [0, 1, 2] (by decide +kernel) rfl⟩⟩, hS.F ht⟩) hS.2.2 dX10_feed_23
def K_x_end_2 (tl : Int32) : (Int32) × (Int32) := ((-1 : Int32), tl)
def K_x_end_4 (tl : Int32) (a0 : Int32) : (Int32) × (Int32) := (tl, a0)
def K_x_end_5 (tl : Int32) : (Int32) × (Int32) := ((-1 : Int32), tl)
def K_x_end_3 (a0 : Int32) (tl : Int32) : (Int32) × (Int32) := (if a0.toInt ≤ tl.toInt then (K_x_end_4 tl a0) else (K_x_end_5 tl))
def K_x_end_1 (a0 : Int32) (tl : Int32) : (Int32) × (Int32) := (if a0.toInt < 0 then (K_x_end_2 tl) else (K_x_end_3 a0 tl))
def M_x_end (a0 : Int32) (tl : Int32) : (Int32) × (Int32) := (K_x_end_1 a0 tl)
abbrev W_x_end (cI cJ cZ cG cH : ClassId) (xo : Nat) (a0 : Int32) (tp : Nat) (rd : Nat) (rn : Nat) (co : Nat) (wy : Nat) (sg : Nat) (sh : Nat) (pl : Nat) (sp : Nat) (lf : Int32) (tba : Nat) (tl : Int32) : va_W := [oX10 xo tp rd rn co wy sg sh pl sp lf, oX8 tp tba tl]
abbrev Q_x_end (D : va_G) (cI cJ cZ cG cH : ClassId) (xo : Nat) (a0 : Int32) (tp : Nat) (rd : Nat) (rn : Nat) (co : Nat) (wy : Nat) (sg : Nat) (sh : Nat) (pl : Nat) (sp : Nat) (lf : Int32) (tba : Nat) (tl : Int32) (A : Nat → Prop) : Array Value → State → Outcome → State → Prop := va_Qi (fun (r : Int32) (u9 : Int32) => r = u9 ∧ (((0 ≤ a0.toInt ∧ a0.toInt ≤ tl.toInt) ∧ r.toInt = tl.toInt) ∨ ((a0.toInt < 0 ∨ tl.toInt < a0.toInt) ∧ r.toInt = -1))) (fun u9 t => ∃ (tl9 : Int32), (0 ≤ tl9.toInt ∧ tl9.toInt ≤ 400) ∧ (((0 ≤ a0.toInt ∧ a0.toInt ≤ tl.toInt) ∧ tl9.toInt = a0.toInt) ∨ ((a0.toInt < 0 ∨ tl.toInt < a0.toInt) ∧ tl9.toInt = tl.toInt)) ∧ (M_x_end a0 tl = (u9, tl9)) ∧ xB D (tyL cI cJ cZ cG cH) [oX10 xo tp rd rn co wy sg sh pl sp lf, oX8 tp tba tl9] A t) A
abbrev rm_x_end : Room := { frames := 0, cells := 0, slots := 0, locals := 0 }
set_option maxRecDepth 100000 in
set_option maxHeartbeats 40000000 in
theorem c_x_end (l : Launch) (D : va_G) (cI cJ cZ cG cH : ClassId) (sz : Nat) (xo : Nat) (a0 : Int32) (tp : Nat) (rd : Nat) (rn : Nat) (co : Nat) (wy : Nat) (sg : Nat) (sh : Nat) (pl : Nat) (sp : Nat) (lf : Int32) (tba : Nat) (tl : Int32) (h_tl : 0 ≤ tl.toInt ∧ tl.toInt ≤ 400) : Met l yX10_end (wt yX10_end cX10_end 3 (some .int)) rm_x_end (xPc [.ref xo, .int a0] D (tyL cI cJ cZ cG cH) (W_x_end cI cJ cZ cG cH xo a0 tp rd rn co wy sg sh pl sp lf tba tl) sz) (Q_x_end D cI cJ cZ cG cH xo a0 tp rd rn co wy sg sh pl sp lf tba tl (va_A (W_x_end cI cJ cZ cG cH xo a0 tp rd rn co wy sg sh pl sp lf tba tl) sz)) 0 0 (va_A (W_x_end cI cJ cZ cG cH xo a0 tp rd rn co wy sg sh pl sp lf tba tl) sz) := by
  refine xMet (cc := cX10_end) (maxL := 3) (ret := (some .int)) (Qf := Q_x_end D cI cJ cZ cG cH xo a0 tp rd rn co wy sg sh pl sp lf tba tl) (by decide) rfl (Nat.le_of_ble_eq_true rfl) ?_
  intro p e s m below meth c ls A hx hb hr hml hts hown hlocks hnm hsz hP hK hD hA hS hl
  have hown : s.vm.findClass RX10 = some m.cls := hown
  have hP : va_P D vwCl [oX10 xo tp rd rn co wy sg sh pl sp lf, oX8 tp tba tl] s.heap := hP
  have hD : va_D A [oX10 xo tp rd rn co wy sg sh pl sp lf, oX8 tp tba tl] := hD
  have hl : lv_has ls 3 [(0, .ref xo), (1, .int a0)] := hl
  have hM : M_x_end a0 tl = (K_x_end_1 a0 tl) := rfl
  refine lv_iload_n hx hb dX10_end_0 rfl (lv_at hl 1 rfl) ?_
  refine lv_if_lt (tgt := 15) hx hb dX10_end_1 (by decide) (fun c_1 => ?_) (fun c_1 => ?_)
  · skip
    have i_1 : a0.toInt < 0 := (ilt rfl (by decide)).mp c_1
    have hM : M_x_end a0 tl = (K_x_end_2 tl) := (show M_x_end a0 tl = (if a0.toInt < 0 then (K_x_end_2 tl) else (K_x_end_3 a0 tl)) from hM).trans (if_pos i_1)
    refine lv_iconst (v := (-1)) hx hb dX10_end_15 (by decide) ?_
    refine W.widen (k := 0) (n := 0) (by decide) (by decide) ?_
    exact W.iret (v := (-1)) hx hb hr (fun t ht hW => ⟨⟨(-1), (-1), rfl, ⟨rfl, (by have z9_0 : (-1 : Int32).toInt = -1 := (by decide); omega)⟩, ⟨tl, (xrng rfl (by omega) (by omega)), (by have z9 : (1 : Int32).toInt = 1 := (by decide); have z8 : (0 : Int32).toInt = 0 := (by decide); omega), hM, xB_of9 ht hW hP hK hD [0, 1] (by decide +kernel) rfl⟩⟩, hS.F ht⟩) hS.2.2 dX10_end_16
  · skip
    have i_1 : ¬ (a0.toInt < 0) := fun h9 => c_1 ((ilt rfl (by decide)).mpr h9)
    have hM : M_x_end a0 tl = (K_x_end_3 a0 tl) := (show M_x_end a0 tl = (if a0.toInt < 0 then (K_x_end_2 tl) else (K_x_end_3 a0 tl)) from hM).trans (if_neg i_1)
    refine lv_iload_n hx hb dX10_end_4 rfl (lv_at hl 1 rfl) ?_
    refine lv_aload_n hx hb dX10_end_5 rfl (lv_at hl 0 rfl) ?_
    refine va_get (D := D) (ci := 9) (v := .ref tp) (C := RX10) (T := TX10) (N := 10) hx hb hts (fun w h => tbC w (tbfX10 w h)) hown hK hP 0 rfl rfl 0 (by decide) (hts (.fieldLink RX10 10 "PowerRails" "tape" "LPowerRails$Tape;") (tbC _ wd247)) (fun _ h9 => h9) rfl dX10_end_6 ?_
    refine va_get (D := D) (ci := 7) (v := .int tl) (C := RX8) (T := TX8) (N := 2) hx hb hts (fun w h => tbC w (tbfX8 w h)) hown hK hP 1 rfl rfl 1 (by decide) (hts (.fieldLink RX10 80 "PowerRails$Tape" "length" "I") (tbC _ wd84)) (fun _ h9 => h9) rfl dX10_end_9 ?_
    refine lv_icmp_le (tgt := 17) hx hb dX10_end_12 (by decide) (fun c_2 => ?_) (fun c_2 => ?_)
    · skip
      have i_2 : a0.toInt ≤ tl.toInt := (ile rfl rfl).mp c_2
      have hM : M_x_end a0 tl = (K_x_end_4 tl a0) := (show M_x_end a0 tl = (if a0.toInt ≤ tl.toInt then (K_x_end_4 tl a0) else (K_x_end_5 tl)) from hM).trans (if_pos i_2)
      refine lv_aload_n hx hb dX10_end_17 rfl (lv_at hl 0 rfl) ?_
      refine va_get (D := D) (ci := 9) (v := .ref tp) (C := RX10) (T := TX10) (N := 10) hx hb hts (fun w h => tbC w (tbfX10 w h)) hown hK hP 0 rfl rfl 0 (by decide) (hts (.fieldLink RX10 10 "PowerRails" "tape" "LPowerRails$Tape;") (tbC _ wd247)) (fun _ h9 => h9) rfl dX10_end_18 ?_
      refine va_get (D := D) (ci := 7) (v := .int tl) (C := RX8) (T := TX8) (N := 2) hx hb hts (fun w h => tbC w (tbfX8 w h)) hown hK hP 1 rfl rfl 1 (by decide) (hts (.fieldLink RX10 80 "PowerRails$Tape" "length" "I") (tbC _ wd84)) (fun _ h9 => h9) rfl dX10_end_21 ?_
      refine lv_istore_n (lv' := [(2, .int tl), (0, .ref xo), (1, .int a0)]) hx hb dX10_end_24 rfl hl (by decide) rfl (fun ls hl => ?_)
      refine lv_aload_n hx hb dX10_end_25 rfl (lv_at hl 1 rfl) ?_
      refine va_get (D := D) (ci := 9) (v := .ref tp) (C := RX10) (T := TX10) (N := 10) hx hb hts (fun w h => tbC w (tbfX10 w h)) hown hK hP 0 rfl rfl 0 (by decide) (hts (.fieldLink RX10 10 "PowerRails" "tape" "LPowerRails$Tape;") (tbC _ wd247)) (fun _ h9 => h9) rfl dX10_end_26 ?_
      refine lv_iload_n hx hb dX10_end_29 rfl (lv_at hl 2 rfl) ?_
      refine va_put (D := D) (ci := 7) (v := .int a0) (ty := .int) (C := RX8) (T := TX8) (N := 2) hx hb hts (fun w h => tbC w (tbfX8 w h)) tyX8 tyX8_ok nmX8 hown hK hP hD hS 1 rfl rfl 1 (by decide) (hts (.fieldLink RX10 80 "PowerRails$Tape" "length" "I") (tbC _ wd84)) (fun _ h9 => h9) rfl (by decide +kernel) rfl rfl (Nat.le_of_ble_eq_true rfl) dX10_end_30 (fun H locs hP hD hS => ?_)
      obtain ⟨hP, hD⟩ : xPD D A [oX10 xo tp rd rn co wy sg sh pl sp lf, oX8 tp tba a0] H := ⟨hP, hD⟩
      refine lv_iload_n hx hb dX10_end_33 rfl (lv_at hl 0 rfl) ?_
      refine W.widen (k := 0) (n := 0) (by decide) (by decide) ?_
      exact W.iret (v := tl) hx hb hr (fun t ht hW => ⟨⟨tl, tl, rfl, ⟨rfl, (by omega)⟩, ⟨a0, (xrng rfl (by omega) (by omega)), (by have z9 : (1 : Int32).toInt = 1 := (by decide); have z8 : (0 : Int32).toInt = 0 := (by decide); omega), hM, xB_of9 ht hW hP hK hD [0, 1] (by decide +kernel) rfl⟩⟩, hS.F ht⟩) hS.2.2 dX10_end_34
    · skip
      have i_2 : ¬ (a0.toInt ≤ tl.toInt) := fun h9 => c_2 ((ile rfl rfl).mpr h9)
      have hM : M_x_end a0 tl = (K_x_end_5 tl) := (show M_x_end a0 tl = (if a0.toInt ≤ tl.toInt then (K_x_end_4 tl a0) else (K_x_end_5 tl)) from hM).trans (if_neg i_2)
      refine lv_iconst (v := (-1)) hx hb dX10_end_15 (by decide) ?_
      refine W.widen (k := 0) (n := 0) (by decide) (by decide) ?_
      exact W.iret (v := (-1)) hx hb hr (fun t ht hW => ⟨⟨(-1), (-1), rfl, ⟨rfl, (by have z9_0 : (-1 : Int32).toInt = -1 := (by decide); omega)⟩, ⟨tl, (xrng rfl (by omega) (by omega)), (by have z9 : (1 : Int32).toInt = 1 := (by decide); have z8 : (0 : Int32).toInt = 0 := (by decide); omega), hM, xB_of9 ht hW hP hK hD [0, 1] (by decide +kernel) rfl⟩⟩, hS.F ht⟩) hS.2.2 dX10_end_16
abbrev W_x_fault (cI cJ cZ cG cH : ClassId) (xo : Nat) (tp : Nat) (rd : Nat) (rn : Nat) (co : Nat) (wy : Nat) (sg : Nat) (sh : Nat) (pl : Nat) (sp : Nat) (lf : Int32) : va_W := [oX10 xo tp rd rn co wy sg sh pl sp lf]
abbrev Q_x_fault (D : va_G) (cI cJ cZ cG cH : ClassId) (xo : Nat) (tp : Nat) (rd : Nat) (rn : Nat) (co : Nat) (wy : Nat) (sg : Nat) (sh : Nat) (pl : Nat) (sp : Nat) (lf : Int32) (A : Nat → Prop) : Array Value → State → Outcome → State → Prop := va_Qi (fun (r : Int32) (_ : Unit) => r = lf) (fun _ t => xB D (tyL cI cJ cZ cG cH) [oX10 xo tp rd rn co wy sg sh pl sp lf] A t) A
abbrev rm_x_fault : Room := { frames := 0, cells := 0, slots := 0, locals := 0 }
set_option maxRecDepth 100000 in
set_option maxHeartbeats 40000000 in
theorem c_x_fault (l : Launch) (D : va_G) (cI cJ cZ cG cH : ClassId) (sz : Nat) (xo : Nat) (tp : Nat) (rd : Nat) (rn : Nat) (co : Nat) (wy : Nat) (sg : Nat) (sh : Nat) (pl : Nat) (sp : Nat) (lf : Int32) : Met l yX10_fault (wt yX10_fault cX10_fault 1 (some .int)) rm_x_fault (xPc [.ref xo] D (tyL cI cJ cZ cG cH) (W_x_fault cI cJ cZ cG cH xo tp rd rn co wy sg sh pl sp lf) sz) (Q_x_fault D cI cJ cZ cG cH xo tp rd rn co wy sg sh pl sp lf (va_A (W_x_fault cI cJ cZ cG cH xo tp rd rn co wy sg sh pl sp lf) sz)) 0 0 (va_A (W_x_fault cI cJ cZ cG cH xo tp rd rn co wy sg sh pl sp lf) sz) := by
  refine xMet (cc := cX10_fault) (maxL := 1) (ret := (some .int)) (Qf := Q_x_fault D cI cJ cZ cG cH xo tp rd rn co wy sg sh pl sp lf) (by decide) rfl (Nat.le_of_ble_eq_true rfl) ?_
  intro p e s m below meth c ls A hx hb hr hml hts hown hlocks hnm hsz hP hK hD hA hS hl
  have hown : s.vm.findClass RX10 = some m.cls := hown
  have hP : va_P D vwCl [oX10 xo tp rd rn co wy sg sh pl sp lf] s.heap := hP
  have hD : va_D A [oX10 xo tp rd rn co wy sg sh pl sp lf] := hD
  have hl : lv_has ls 1 [(0, .ref xo)] := hl
  refine lv_aload_n hx hb dX10_fault_0 rfl (lv_at hl 0 rfl) ?_
  refine va_get (D := D) (ci := 9) (v := .int lf) (C := RX10) (T := TX10) (N := 10) hx hb hts (fun w h => tbC w (tbfX10 w h)) hown hK hP 0 rfl rfl 9 (by decide) (hts (.fieldLink RX10 72 "PowerRails" "latestFault" "I") (tbC _ wd256)) (fun _ h9 => h9) rfl dX10_fault_1 ?_
  refine W.widen (k := 0) (n := 0) (by decide) (by decide) ?_
  exact W.iret (v := lf) hx hb hr (fun t ht hW => ⟨⟨lf, (), rfl, rfl, xB_of9 ht hW hP hK hD [0] (by decide +kernel) rfl⟩, hS.F ht⟩) hS.2.2 dX10_fault_4
def K_x_rail_4  : (Int32) := ((-1 : Int32))
def K_x_rail_8 (r5 : Int32) : (Int32) := (r5)
def K_x_rail_6 (pn : Nat → Int32) (a0 : Int32) (a1 : Int32) : (Int32) := ((fun t9 => (K_x_rail_8 t9)) (M_number pn a0 a1))
def K_x_rail_7  : (Int32) := ((-1 : Int32))
def K_x_rail_5 (a1 : Int32) (pn : Nat → Int32) (a0 : Int32) : (Int32) := (if a1.toInt ≤ 7 then (K_x_rail_6 pn a0 a1) else (K_x_rail_7))
def K_x_rail_3 (a1 : Int32) (pn : Nat → Int32) (a0 : Int32) : (Int32) := (if a1.toInt < 0 then (K_x_rail_4) else (K_x_rail_5 a1 pn a0))
def K_x_rail_2  : (Int32) := ((-1 : Int32))
def K_x_rail_1 (a0 : Int32) (rails : Int32) (a1 : Int32) (pn : Nat → Int32) : (Int32) := (if 0 ≤ a0.toInt ∧ a0.toInt < rails.toInt then (K_x_rail_3 a1 pn a0) else (K_x_rail_2))
def M_x_rail (a0 : Int32) (rails : Int32) (a1 : Int32) (pn : Nat → Int32) : (Int32) := (K_x_rail_1 a0 rails a1 pn)
abbrev W_x_rail (cI cJ cZ cG cH : ClassId) (xo : Nat) (a0 : Int32) (a1 : Int32) (tp : Nat) (rd : Nat) (rn : Nat) (co : Nat) (wy : Nat) (sg : Nat) (sh : Nat) (pl : Nat) (sp : Nat) (lf : Int32) (pna : Nat) (pta : Nat) (rails : Int32) (limit : Int32) (retry : Int32) (behind : Int32) (pn : Nat → Int32) : va_W := [oX10 xo tp rd rn co wy sg sh pl sp lf, oX3 pl pna pta rails limit retry behind, oAI pna cI 64 pn]
abbrev Q_x_rail (D : va_G) (cI cJ cZ cG cH : ClassId) (xo : Nat) (a0 : Int32) (a1 : Int32) (tp : Nat) (rd : Nat) (rn : Nat) (co : Nat) (wy : Nat) (sg : Nat) (sh : Nat) (pl : Nat) (sp : Nat) (lf : Int32) (pna : Nat) (pta : Nat) (rails : Int32) (limit : Int32) (retry : Int32) (behind : Int32) (pn : Nat → Int32) (A : Nat → Prop) : Array Value → State → Outcome → State → Prop := va_Qi (fun (r : Int32) (u9 : Int32) => r = u9 ∧ ((-1) ≤ r.toInt ∧ r.toInt ≤ 511)) (fun u9 t => (M_x_rail a0 rails a1 pn = (u9)) ∧ xB D (tyL cI cJ cZ cG cH) [oX10 xo tp rd rn co wy sg sh pl sp lf, oX3 pl pna pta rails limit retry behind, oAI pna cI 64 pn] A t) A
abbrev rm_x_rail : Room := { frames := 1, cells := 0, slots := 0, locals := 22 }
set_option maxRecDepth 100000 in
set_option maxHeartbeats 40000000 in
theorem c_x_rail (l : Launch) (D : va_G) (cI cJ cZ cG cH : ClassId) (sz : Nat) (xo : Nat) (a0 : Int32) (a1 : Int32) (tp : Nat) (rd : Nat) (rn : Nat) (co : Nat) (wy : Nat) (sg : Nat) (sh : Nat) (pl : Nat) (sp : Nat) (lf : Int32) (pna : Nat) (pta : Nat) (rails : Int32) (limit : Int32) (retry : Int32) (behind : Int32) (pn : Nat → Int32) (h_rails : 0 ≤ rails.toInt ∧ rails.toInt ≤ 8) (h_pn : ∀ j, j < 64 → 0 ≤ (pn j).toInt ∧ (pn j).toInt ≤ 511) : Met l yX10_rail (wt yX10_rail cX10_rail 3 (some .int)) rm_x_rail (xPc [.ref xo, .int a0, .int a1] D (tyL cI cJ cZ cG cH) (W_x_rail cI cJ cZ cG cH xo a0 a1 tp rd rn co wy sg sh pl sp lf pna pta rails limit retry behind pn) sz) (Q_x_rail D cI cJ cZ cG cH xo a0 a1 tp rd rn co wy sg sh pl sp lf pna pta rails limit retry behind pn (va_A (W_x_rail cI cJ cZ cG cH xo a0 a1 tp rd rn co wy sg sh pl sp lf pna pta rails limit retry behind pn) sz)) 0 0 (va_A (W_x_rail cI cJ cZ cG cH xo a0 a1 tp rd rn co wy sg sh pl sp lf pna pta rails limit retry behind pn) sz) := by
  refine xMet (cc := cX10_rail) (maxL := 3) (ret := (some .int)) (Qf := Q_x_rail D cI cJ cZ cG cH xo a0 a1 tp rd rn co wy sg sh pl sp lf pna pta rails limit retry behind pn) (by decide) rfl (Nat.le_of_ble_eq_true rfl) ?_
  intro p e s m below meth c ls A hx hb hr hml hts hown hlocks hnm hsz hP hK hD hA hS hl
  have hown : s.vm.findClass RX10 = some m.cls := hown
  have hP : va_P D vwCl [oX10 xo tp rd rn co wy sg sh pl sp lf, oX3 pl pna pta rails limit retry behind, oAI pna cI 64 pn] s.heap := hP
  have hD : va_D A [oX10 xo tp rd rn co wy sg sh pl sp lf, oX3 pl pna pta rails limit retry behind, oAI pna cI 64 pn] := hD
  have hl : lv_has ls 3 [(0, .ref xo), (1, .int a0), (2, .int a1)] := hl
  have hM : M_x_rail a0 rails a1 pn = (K_x_rail_1 a0 rails a1 pn) := rfl
  refine lv_aload_n hx hb dX10_rail_0 rfl (lv_at hl 0 rfl) ?_
  refine va_get (D := D) (ci := 9) (v := .ref pl) (C := RX10) (T := TX10) (N := 10) hx hb hts (fun w h => tbC w (tbfX10 w h)) hown hK hP 0 rfl rfl 7 (by decide) (hts (.fieldLink RX10 56 "PowerRails" "plan" "LPowerRails$Plan;") (tbC _ wd254)) (fun _ h9 => h9) rfl dX10_rail_1 ?_
  refine lv_iload_n hx hb dX10_rail_4 rfl (lv_at hl 1 rfl) ?_
  obtain ⟨hPc, hDc, hFc, hC9⟩ := xpk (wc := W_hasRail cI cJ cZ cG cH pl a0 pna pta rails limit retry behind) hP hD hS hA [1] (by decide +kernel) rfl
  refine va_calli (va_runV (As := [.int a0]) (rest := []) ⟨hx, hb, hml, hown, hts⟩ (c_hasRail l D cI cJ cZ cG cH s.heap.size pl a0 pna pta rails limit retry behind (xrng rfl (by omega) (by omega))) (cwV 1 hts (xGV tbC wd409 wd410 wd411 wd59 wd1009) rfl rfl rfl (by decide +kernel) ⟨Nat.le_of_ble_eq_true rfl, Nat.le_of_ble_eq_true rfl⟩) ⟨xPc_blind, va_recv hK hPc (ci := 2) (q0 := 0) rfl rfl, xPc_pre hPc hK hDc⟩ rfl rfl hl.1 rfl (lv_room (Nat.le_of_ble_eq_true rfl)) dX10_rail_5 ⟨Nat.le_of_ble_eq_true rfl, Nat.le_of_ble_eq_true rfl⟩) hS (fun q _ h => hFc q h) hFc (fun r1 u t H1 locs ht hvm hw1 hB hz1 hk1 hS => ?_)
  obtain ⟨hP1, hK1, hD1⟩ := hB
  rw [ht] at hP1
  obtain ⟨hP, hD⟩ : xPD D A [oX10 xo tp rd rn co wy sg sh pl sp lf, oAI pna cI 64 pn, oX3 pl pna pta rails limit retry behind] H1 := xjn 2 hP hD [1] [0, 2] hC9 rfl (by decide +kernel) (by decide +kernel) hk1 hFc hP1 hD1
  generalize H1 = H at hP hS ⊢
  have hw1 : r1 = if 0 ≤ a0.toInt ∧ a0.toInt < rails.toInt then 1 else 0 := hw1
  refine lv_if_eq (tgt := 21) hx hb dX10_rail_8 (by decide) (fun c_2 => ?_) (fun c_2 => ?_)
  · skip
    have i_2 : ¬ (0 ≤ a0.toInt ∧ a0.toInt < rails.toInt) := (xbool hw1).1.mp c_2
    have hM : M_x_rail a0 rails a1 pn = (K_x_rail_2) := (show M_x_rail a0 rails a1 pn = (if 0 ≤ a0.toInt ∧ a0.toInt < rails.toInt then (K_x_rail_3 a1 pn a0) else (K_x_rail_2)) from hM).trans (if_neg i_2)
    refine lv_iconst (v := (-1)) hx hb dX10_rail_21 (by decide) ?_
    refine W.widen (k := 0) (n := 0) (by decide) (by decide) ?_
    exact W.iret (v := (-1)) hx hb hr (fun t ht hW => ⟨⟨(-1), (-1), rfl, ⟨rfl, ⟨by decide, by decide⟩⟩, ⟨hM, xB_of9 ht hW hP hK hD [0, 2, 1] (by decide +kernel) rfl⟩⟩, hS.F ht⟩) hS.2.2 dX10_rail_22
  · skip
    have i_2 : 0 ≤ a0.toInt ∧ a0.toInt < rails.toInt := (xbool hw1).2.mp c_2
    have hM : M_x_rail a0 rails a1 pn = (K_x_rail_3 a1 pn a0) := (show M_x_rail a0 rails a1 pn = (if 0 ≤ a0.toInt ∧ a0.toInt < rails.toInt then (K_x_rail_3 a1 pn a0) else (K_x_rail_2)) from hM).trans (if_pos i_2)
    refine lv_iload_n hx hb dX10_rail_11 rfl (lv_at hl 2 rfl) ?_
    refine lv_if_lt (tgt := 21) hx hb dX10_rail_12 (by decide) (fun c_3 => ?_) (fun c_3 => ?_)
    · skip
      have i_3 : a1.toInt < 0 := (ilt rfl (by decide)).mp c_3
      have hM : M_x_rail a0 rails a1 pn = (K_x_rail_4) := (show M_x_rail a0 rails a1 pn = (if a1.toInt < 0 then (K_x_rail_4) else (K_x_rail_5 a1 pn a0)) from hM).trans (if_pos i_3)
      refine lv_iconst (v := (-1)) hx hb dX10_rail_21 (by decide) ?_
      refine W.widen (k := 0) (n := 0) (by decide) (by decide) ?_
      exact W.iret (v := (-1)) hx hb hr (fun t ht hW => ⟨⟨(-1), (-1), rfl, ⟨rfl, ⟨by decide, by decide⟩⟩, ⟨hM, xB_of9 ht hW hP hK hD [0, 2, 1] (by decide +kernel) rfl⟩⟩, hS.F ht⟩) hS.2.2 dX10_rail_22
    · skip
      have i_3 : ¬ (a1.toInt < 0) := fun h9 => c_3 ((ilt rfl (by decide)).mpr h9)
      have hM : M_x_rail a0 rails a1 pn = (K_x_rail_5 a1 pn a0) := (show M_x_rail a0 rails a1 pn = (if a1.toInt < 0 then (K_x_rail_4) else (K_x_rail_5 a1 pn a0)) from hM).trans (if_neg i_3)
      refine lv_iload_n hx hb dX10_rail_15 rfl (lv_at hl 2 rfl) ?_
      refine lv_bipush (v := 7) hx hb dX10_rail_16 (by decide) ?_
      refine lv_icmp_le (tgt := 23) hx hb dX10_rail_18 (by decide) (fun c_4 => ?_) (fun c_4 => ?_)
      · skip
        have i_4 : a1.toInt ≤ 7 := (ile rfl (by decide)).mp c_4
        have hM : M_x_rail a0 rails a1 pn = (K_x_rail_6 pn a0 a1) := (show M_x_rail a0 rails a1 pn = (if a1.toInt ≤ 7 then (K_x_rail_6 pn a0 a1) else (K_x_rail_7)) from hM).trans (if_pos i_4)
        refine lv_aload_n hx hb dX10_rail_23 rfl (lv_at hl 0 rfl) ?_
        refine va_get (D := D) (ci := 9) (v := .ref pl) (C := RX10) (T := TX10) (N := 10) hx hb hts (fun w h => tbC w (tbfX10 w h)) hown hK hP 0 rfl rfl 7 (by decide) (hts (.fieldLink RX10 56 "PowerRails" "plan" "LPowerRails$Plan;") (tbC _ wd254)) (fun _ h9 => h9) rfl dX10_rail_24 ?_
        refine lv_iload_n hx hb dX10_rail_27 rfl (lv_at hl 1 rfl) ?_
        refine lv_iload_n hx hb dX10_rail_28 rfl (lv_at hl 2 rfl) ?_
        obtain ⟨hPc, hDc, hFc, hC9⟩ := xpk (wc := W_number cI cJ cZ cG cH pl a0 a1 pna pta rails limit retry behind pn) hP hD hS hA [2, 1] (by decide +kernel) rfl
        refine va_calli (va_runV (As := [.int a0, .int a1]) (rest := []) ⟨hx, hb, hml, hown, hts⟩ (c_number l D cI cJ cZ cG cH H.size pl a0 a1 pna pta rails limit retry behind pn (xrng rfl (by omega) (by omega)) (xrng rfl (by omega) (by omega)) (xrng rfl (by omega) (by omega)) (xwk_rng h_pn (by decide) (by decide))) (cwV 2 hts (xGV tbC wd412 wd368 wd369 wd59 wd996) rfl rfl rfl (by decide +kernel) ⟨Nat.le_of_ble_eq_true rfl, Nat.le_of_ble_eq_true rfl⟩) ⟨xPc_blind, va_recv hK hPc (ci := 2) (q0 := 0) rfl rfl, xPc_pre hPc hK hDc⟩ rfl rfl hl.1 rfl (lv_room (Nat.le_of_ble_eq_true rfl)) dX10_rail_29 ⟨Nat.le_of_ble_eq_true rfl, Nat.le_of_ble_eq_true rfl⟩) hS (fun q _ h => hFc q h) hFc (fun r5 u t H1 locs ht hvm hw5 hB hz1 hk1 hS => ?_)
        obtain ⟨hru9, hw5⟩ := hw5
        subst hru9
        obtain ⟨hf5_0, hP1, hK1, hD1⟩ := hB
        rw [ht] at hP1
        obtain ⟨hP, hD⟩ : xPD D A [oX10 xo tp rd rn co wy sg sh pl sp lf, oX3 pl pna pta rails limit retry behind, oAI pna cI 64 pn] H1 := xjn 1 hP hD [2, 1] [0] hC9 rfl (by decide +kernel) (by decide +kernel) hk1 hFc hP1 hD1
        generalize H1 = H at hP hS ⊢
        have hf5_0 : M_number pn a0 a1 = (r5) := hf5_0
        have hw5 : 0 ≤ r5.toInt ∧ r5.toInt ≤ 511 := hw5
        have h9M := congrArg (fun t9 => (K_x_rail_8 t9)) hf5_0
        have hM : M_x_rail a0 rails a1 pn = (K_x_rail_8 r5) := (show M_x_rail a0 rails a1 pn = ((fun t9 => (K_x_rail_8 t9)) (M_number pn a0 a1)) from hM).trans h9M
        refine W.widen (k := 0) (n := 0) (by decide) (by decide) ?_
        exact W.iret (v := r5) hx hb hr (fun t ht hW => ⟨⟨r5, r5, rfl, ⟨rfl, (xrng rfl (by omega) (by omega))⟩, ⟨hM, xB_of9 ht hW hP hK hD [0, 1, 2] (by decide +kernel) rfl⟩⟩, hS.F ht⟩) hS.2.2 dX10_rail_32
      · skip
        have i_4 : ¬ (a1.toInt ≤ 7) := fun h9 => c_4 ((ile rfl (by decide)).mpr h9)
        have hM : M_x_rail a0 rails a1 pn = (K_x_rail_7) := (show M_x_rail a0 rails a1 pn = (if a1.toInt ≤ 7 then (K_x_rail_6 pn a0 a1) else (K_x_rail_7)) from hM).trans (if_neg i_4)
        refine lv_iconst (v := (-1)) hx hb dX10_rail_21 (by decide) ?_
        refine W.widen (k := 0) (n := 0) (by decide) (by decide) ?_
        exact W.iret (v := (-1)) hx hb hr (fun t ht hW => ⟨⟨(-1), (-1), rfl, ⟨rfl, ⟨by decide, by decide⟩⟩, ⟨hM, xB_of9 ht hW hP hK hD [0, 2, 1] (by decide +kernel) rfl⟩⟩, hS.F ht⟩) hS.2.2 dX10_rail_22
def sp_rule (a0 x y z w : Int32) : Int32 := if a0.toInt = 0 then x else if a0.toInt = 1 then y else if a0.toInt = 2 then z else if a0.toInt = 3 then w else -1
theorem xrule_eq {a x y z w x9 y9 z9 w9 : Int32} (hw : w = w9) (h : x = x9 ∧ y = y9 ∧ z = z9) : sp_rule a x y z w = sp_rule a x9 y9 z9 w9 := by rw [hw, h.1, h.2.1, h.2.2]
abbrev W_x_rule (cI cJ cZ cG cH : ClassId) (xo : Nat) (a0 : Int32) (tp : Nat) (rd : Nat) (rn : Nat) (co : Nat) (wy : Nat) (sg : Nat) (sh : Nat) (pl : Nat) (sp : Nat) (lf : Int32) (pna : Nat) (pta : Nat) (rails : Int32) (limit : Int32) (retry : Int32) (behind : Int32) : va_W := [oX10 xo tp rd rn co wy sg sh pl sp lf, oX3 pl pna pta rails limit retry behind]
abbrev Q_x_rule (D : va_G) (cI cJ cZ cG cH : ClassId) (xo : Nat) (a0 : Int32) (tp : Nat) (rd : Nat) (rn : Nat) (co : Nat) (wy : Nat) (sg : Nat) (sh : Nat) (pl : Nat) (sp : Nat) (lf : Int32) (pna : Nat) (pta : Nat) (rails : Int32) (limit : Int32) (retry : Int32) (behind : Int32) (A : Nat → Prop) : Array Value → State → Outcome → State → Prop := va_Qi (fun (r : Int32) (_ : Unit) => r = sp_rule a0 limit retry behind rails) (fun _ t => xB D (tyL cI cJ cZ cG cH) [oX10 xo tp rd rn co wy sg sh pl sp lf, oX3 pl pna pta rails limit retry behind] A t) A
abbrev rm_x_rule : Room := { frames := 0, cells := 0, slots := 0, locals := 0 }
set_option maxRecDepth 100000 in
set_option maxHeartbeats 40000000 in
theorem c_x_rule (l : Launch) (D : va_G) (cI cJ cZ cG cH : ClassId) (sz : Nat) (xo : Nat) (a0 : Int32) (tp : Nat) (rd : Nat) (rn : Nat) (co : Nat) (wy : Nat) (sg : Nat) (sh : Nat) (pl : Nat) (sp : Nat) (lf : Int32) (pna : Nat) (pta : Nat) (rails : Int32) (limit : Int32) (retry : Int32) (behind : Int32) (h_rails : 0 ≤ rails.toInt ∧ rails.toInt ≤ 8) : Met l yX10_rule (wt yX10_rule cX10_rule 2 (some .int)) rm_x_rule (xPc [.ref xo, .int a0] D (tyL cI cJ cZ cG cH) (W_x_rule cI cJ cZ cG cH xo a0 tp rd rn co wy sg sh pl sp lf pna pta rails limit retry behind) sz) (Q_x_rule D cI cJ cZ cG cH xo a0 tp rd rn co wy sg sh pl sp lf pna pta rails limit retry behind (va_A (W_x_rule cI cJ cZ cG cH xo a0 tp rd rn co wy sg sh pl sp lf pna pta rails limit retry behind) sz)) 0 0 (va_A (W_x_rule cI cJ cZ cG cH xo a0 tp rd rn co wy sg sh pl sp lf pna pta rails limit retry behind) sz) := by
  refine xMet (cc := cX10_rule) (maxL := 2) (ret := (some .int)) (Qf := Q_x_rule D cI cJ cZ cG cH xo a0 tp rd rn co wy sg sh pl sp lf pna pta rails limit retry behind) (by decide) rfl (Nat.le_of_ble_eq_true rfl) ?_
  intro p e s m below meth c ls A hx hb hr hml hts hown hlocks hnm hsz hP hK hD hA hS hl
  have hown : s.vm.findClass RX10 = some m.cls := hown
  have hP : va_P D vwCl [oX10 xo tp rd rn co wy sg sh pl sp lf, oX3 pl pna pta rails limit retry behind] s.heap := hP
  have hD : va_D A [oX10 xo tp rd rn co wy sg sh pl sp lf, oX3 pl pna pta rails limit retry behind] := hD
  have hl : lv_has ls 2 [(0, .ref xo), (1, .int a0)] := hl
  refine lv_iload_n hx hb dX10_rule_0 rfl (lv_at hl 1 rfl) ?_
  have i_1_e : (a0 : Int32).toInt = a0.toInt := rfl
  by_cases i_1_0 : (a0 : Int32).toInt = 0
  · refine lv_tableIn (off := 31) (tgt := 32) hx hb dX10_rule_1 (by omega) (by omega) (by rw [i_1_0]; rfl) (by decide) ?_
    refine lv_aload_n hx hb dX10_rule_32 rfl (lv_at hl 0 rfl) ?_
    refine va_get (D := D) (ci := 9) (v := .ref pl) (C := RX10) (T := TX10) (N := 10) hx hb hts (fun w h => tbC w (tbfX10 w h)) hown hK hP 0 rfl rfl 7 (by decide) (hts (.fieldLink RX10 56 "PowerRails" "plan" "LPowerRails$Plan;") (tbC _ wd254)) (fun _ h9 => h9) rfl dX10_rule_33 ?_
    refine va_get (D := D) (ci := 2) (v := .int limit) (C := RX3) (T := TX3) (N := 6) hx hb hts (fun w h => tbC w (tbfX3 w h)) hown hK hP 1 rfl rfl 3 (by decide) (hts (.fieldLink RX10 108 "PowerRails$Plan" "limit" "I") (tbC _ wd214)) (fun _ h9 => h9) rfl dX10_rule_36 ?_
    refine W.widen (k := 0) (n := 0) (by decide) (by decide) ?_
    exact W.iret (v := limit) hx hb hr (fun t ht hW => ⟨⟨limit, (), rfl, (by unfold sp_rule; repeat (first | rw [if_pos (by omega)] | rw [if_neg (by omega)])), xB_of9 ht hW hP hK hD [0, 1] (by decide +kernel) rfl⟩, hS.F ht⟩) hS.2.2 dX10_rule_39
  by_cases i_1_1 : (a0 : Int32).toInt = 1
  · refine lv_tableIn (off := 39) (tgt := 40) hx hb dX10_rule_1 (by omega) (by omega) (by rw [i_1_1]; rfl) (by decide) ?_
    refine lv_aload_n hx hb dX10_rule_40 rfl (lv_at hl 0 rfl) ?_
    refine va_get (D := D) (ci := 9) (v := .ref pl) (C := RX10) (T := TX10) (N := 10) hx hb hts (fun w h => tbC w (tbfX10 w h)) hown hK hP 0 rfl rfl 7 (by decide) (hts (.fieldLink RX10 56 "PowerRails" "plan" "LPowerRails$Plan;") (tbC _ wd254)) (fun _ h9 => h9) rfl dX10_rule_41 ?_
    refine va_get (D := D) (ci := 2) (v := .int retry) (C := RX3) (T := TX3) (N := 6) hx hb hts (fun w h => tbC w (tbfX3 w h)) hown hK hP 1 rfl rfl 4 (by decide) (hts (.fieldLink RX10 111 "PowerRails$Plan" "retry" "I") (tbC _ wd219)) (fun _ h9 => h9) rfl dX10_rule_44 ?_
    refine W.widen (k := 0) (n := 0) (by decide) (by decide) ?_
    exact W.iret (v := retry) hx hb hr (fun t ht hW => ⟨⟨retry, (), rfl, (by unfold sp_rule; repeat (first | rw [if_pos (by omega)] | rw [if_neg (by omega)])), xB_of9 ht hW hP hK hD [0, 1] (by decide +kernel) rfl⟩, hS.F ht⟩) hS.2.2 dX10_rule_47
  by_cases i_1_2 : (a0 : Int32).toInt = 2
  · refine lv_tableIn (off := 47) (tgt := 48) hx hb dX10_rule_1 (by omega) (by omega) (by rw [i_1_2]; rfl) (by decide) ?_
    refine lv_aload_n hx hb dX10_rule_48 rfl (lv_at hl 0 rfl) ?_
    refine va_get (D := D) (ci := 9) (v := .ref pl) (C := RX10) (T := TX10) (N := 10) hx hb hts (fun w h => tbC w (tbfX10 w h)) hown hK hP 0 rfl rfl 7 (by decide) (hts (.fieldLink RX10 56 "PowerRails" "plan" "LPowerRails$Plan;") (tbC _ wd254)) (fun _ h9 => h9) rfl dX10_rule_49 ?_
    refine va_get (D := D) (ci := 2) (v := .int behind) (C := RX3) (T := TX3) (N := 6) hx hb hts (fun w h => tbC w (tbfX3 w h)) hown hK hP 1 rfl rfl 5 (by decide) (hts (.fieldLink RX10 114 "PowerRails$Plan" "behind" "I") (tbC _ wd222)) (fun _ h9 => h9) rfl dX10_rule_52 ?_
    refine W.widen (k := 0) (n := 0) (by decide) (by decide) ?_
    exact W.iret (v := behind) hx hb hr (fun t ht hW => ⟨⟨behind, (), rfl, (by unfold sp_rule; repeat (first | rw [if_pos (by omega)] | rw [if_neg (by omega)])), xB_of9 ht hW hP hK hD [0, 1] (by decide +kernel) rfl⟩, hS.F ht⟩) hS.2.2 dX10_rule_55
  by_cases i_1_3 : (a0 : Int32).toInt = 3
  · refine lv_tableIn (off := 55) (tgt := 56) hx hb dX10_rule_1 (by omega) (by omega) (by rw [i_1_3]; rfl) (by decide) ?_
    refine lv_aload_n hx hb dX10_rule_56 rfl (lv_at hl 0 rfl) ?_
    refine va_get (D := D) (ci := 9) (v := .ref pl) (C := RX10) (T := TX10) (N := 10) hx hb hts (fun w h => tbC w (tbfX10 w h)) hown hK hP 0 rfl rfl 7 (by decide) (hts (.fieldLink RX10 56 "PowerRails" "plan" "LPowerRails$Plan;") (tbC _ wd254)) (fun _ h9 => h9) rfl dX10_rule_57 ?_
    refine va_get (D := D) (ci := 2) (v := .int rails) (C := RX3) (T := TX3) (N := 6) hx hb hts (fun w h => tbC w (tbfX3 w h)) hown hK hP 1 rfl rfl 2 (by decide) (hts (.fieldLink RX10 117 "PowerRails$Plan" "rails" "I") (tbC _ wd210)) (fun _ h9 => h9) rfl dX10_rule_60 ?_
    refine W.widen (k := 0) (n := 0) (by decide) (by decide) ?_
    exact W.iret (v := rails) hx hb hr (fun t ht hW => ⟨⟨rails, (), rfl, (by unfold sp_rule; repeat (first | rw [if_pos (by omega)] | rw [if_neg (by omega)])), xB_of9 ht hW hP hK hD [0, 1] (by decide +kernel) rfl⟩, hS.F ht⟩) hS.2.2 dX10_rule_63
  refine lv_tableOut (tgt := 64) hx hb dX10_rule_1 (by omega) (by decide) ?_
  refine lv_iconst (v := (-1)) hx hb dX10_rule_64 (by decide) ?_
  refine W.widen (k := 0) (n := 0) (by decide) (by decide) ?_
  exact W.iret (v := (-1)) hx hb hr (fun t ht hW => ⟨⟨(-1), (), rfl, (by unfold sp_rule; repeat (first | rw [if_pos (by omega)] | rw [if_neg (by omega)])), xB_of9 ht hW hP hK hD [0, 1] (by decide +kernel) rfl⟩, hS.F ht⟩) hS.2.2 dX10_rule_65
def K_x_holds_7 (r8 : Int32) : (Int32) := ((sp_b r8))
def K_x_holds_5 (pt : Nat → Int64) (a0 : Int32) (a1 : Int32) : (Int32) := ((fun t9 => (K_x_holds_7 t9)) (M_holdsWith pt a0 a1))
def K_x_holds_6  : (Int32) := ((-1 : Int32))
def K_x_holds_4 (a1 : Int32) (r3 : Int32) (pt : Nat → Int64) (a0 : Int32) : (Int32) := (if (a1 &&& ((r3 ||| (256 : Int32)) ^^^ (-1 : Int32))).toInt = 0 then (K_x_holds_5 pt a0 a1) else (K_x_holds_6))
def K_x_holds_3 (a1 : Int32) (pt : Nat → Int64) (a0 : Int32) (rails : Int32) : (Int32) := ((fun t9 => (K_x_holds_4 a1 t9 pt a0)) (M_allRails rails))
def K_x_holds_2  : (Int32) := ((-1 : Int32))
def K_x_holds_1 (a0 : Int32) (rails : Int32) (a1 : Int32) (pt : Nat → Int64) : (Int32) := (if 0 ≤ a0.toInt ∧ a0.toInt < rails.toInt then (K_x_holds_3 a1 pt a0 rails) else (K_x_holds_2))
def M_x_holds (a0 : Int32) (rails : Int32) (a1 : Int32) (pt : Nat → Int64) : (Int32) := (K_x_holds_1 a0 rails a1 pt)
abbrev W_x_holds (cI cJ cZ cG cH : ClassId) (xo : Nat) (a0 : Int32) (a1 : Int32) (tp : Nat) (rd : Nat) (rn : Nat) (co : Nat) (wy : Nat) (sg : Nat) (sh : Nat) (pl : Nat) (sp : Nat) (lf : Int32) (pna : Nat) (pta : Nat) (rails : Int32) (limit : Int32) (retry : Int32) (behind : Int32) (pt : Nat → Int64) : va_W := [oX10 xo tp rd rn co wy sg sh pl sp lf, oX3 pl pna pta rails limit retry behind, oAJ pta cJ 64 pt]
abbrev Q_x_holds (D : va_G) (cI cJ cZ cG cH : ClassId) (xo : Nat) (a0 : Int32) (a1 : Int32) (tp : Nat) (rd : Nat) (rn : Nat) (co : Nat) (wy : Nat) (sg : Nat) (sh : Nat) (pl : Nat) (sp : Nat) (lf : Int32) (pna : Nat) (pta : Nat) (rails : Int32) (limit : Int32) (retry : Int32) (behind : Int32) (pt : Nat → Int64) (A : Nat → Prop) : Array Value → State → Outcome → State → Prop := va_Qi (fun (r : Int32) (u9 : Int32) => r = u9 ∧ (True)) (fun u9 t => (M_x_holds a0 rails a1 pt = (u9)) ∧ xB D (tyL cI cJ cZ cG cH) [oX10 xo tp rd rn co wy sg sh pl sp lf, oX3 pl pna pta rails limit retry behind, oAJ pta cJ 64 pt] A t) A
abbrev rm_x_holds : Room := { frames := 1, cells := 0, slots := 0, locals := 22 }
set_option maxRecDepth 100000 in
set_option maxHeartbeats 40000000 in
theorem c_x_holds (l : Launch) (D : va_G) (cI cJ cZ cG cH : ClassId) (sz : Nat) (xo : Nat) (a0 : Int32) (a1 : Int32) (tp : Nat) (rd : Nat) (rn : Nat) (co : Nat) (wy : Nat) (sg : Nat) (sh : Nat) (pl : Nat) (sp : Nat) (lf : Int32) (pna : Nat) (pta : Nat) (rails : Int32) (limit : Int32) (retry : Int32) (behind : Int32) (pt : Nat → Int64) (h_rails : 0 ≤ rails.toInt ∧ rails.toInt ≤ 8) : Met l yX10_holds (wt yX10_holds cX10_holds 3 (some .int)) rm_x_holds (xPc [.ref xo, .int a0, .int a1] D (tyL cI cJ cZ cG cH) (W_x_holds cI cJ cZ cG cH xo a0 a1 tp rd rn co wy sg sh pl sp lf pna pta rails limit retry behind pt) sz) (Q_x_holds D cI cJ cZ cG cH xo a0 a1 tp rd rn co wy sg sh pl sp lf pna pta rails limit retry behind pt (va_A (W_x_holds cI cJ cZ cG cH xo a0 a1 tp rd rn co wy sg sh pl sp lf pna pta rails limit retry behind pt) sz)) 0 0 (va_A (W_x_holds cI cJ cZ cG cH xo a0 a1 tp rd rn co wy sg sh pl sp lf pna pta rails limit retry behind pt) sz) := by
  refine xMet (cc := cX10_holds) (maxL := 3) (ret := (some .int)) (Qf := Q_x_holds D cI cJ cZ cG cH xo a0 a1 tp rd rn co wy sg sh pl sp lf pna pta rails limit retry behind pt) (by decide) rfl (Nat.le_of_ble_eq_true rfl) ?_
  intro p e s m below meth c ls A hx hb hr hml hts hown hlocks hnm hsz hP hK hD hA hS hl
  have hown : s.vm.findClass RX10 = some m.cls := hown
  have hP : va_P D vwCl [oX10 xo tp rd rn co wy sg sh pl sp lf, oX3 pl pna pta rails limit retry behind, oAJ pta cJ 64 pt] s.heap := hP
  have hD : va_D A [oX10 xo tp rd rn co wy sg sh pl sp lf, oX3 pl pna pta rails limit retry behind, oAJ pta cJ 64 pt] := hD
  have hl : lv_has ls 3 [(0, .ref xo), (1, .int a0), (2, .int a1)] := hl
  have hM : M_x_holds a0 rails a1 pt = (K_x_holds_1 a0 rails a1 pt) := rfl
  refine lv_aload_n hx hb dX10_holds_0 rfl (lv_at hl 0 rfl) ?_
  refine va_get (D := D) (ci := 9) (v := .ref pl) (C := RX10) (T := TX10) (N := 10) hx hb hts (fun w h => tbC w (tbfX10 w h)) hown hK hP 0 rfl rfl 7 (by decide) (hts (.fieldLink RX10 56 "PowerRails" "plan" "LPowerRails$Plan;") (tbC _ wd254)) (fun _ h9 => h9) rfl dX10_holds_1 ?_
  refine lv_iload_n hx hb dX10_holds_4 rfl (lv_at hl 1 rfl) ?_
  obtain ⟨hPc, hDc, hFc, hC9⟩ := xpk (wc := W_hasRail cI cJ cZ cG cH pl a0 pna pta rails limit retry behind) hP hD hS hA [1] (by decide +kernel) rfl
  refine va_calli (va_runV (As := [.int a0]) (rest := []) ⟨hx, hb, hml, hown, hts⟩ (c_hasRail l D cI cJ cZ cG cH s.heap.size pl a0 pna pta rails limit retry behind (xrng rfl (by omega) (by omega))) (cwV 1 hts (xGV tbC wd409 wd410 wd411 wd59 wd1009) rfl rfl rfl (by decide +kernel) ⟨Nat.le_of_ble_eq_true rfl, Nat.le_of_ble_eq_true rfl⟩) ⟨xPc_blind, va_recv hK hPc (ci := 2) (q0 := 0) rfl rfl, xPc_pre hPc hK hDc⟩ rfl rfl hl.1 rfl (lv_room (Nat.le_of_ble_eq_true rfl)) dX10_holds_5 ⟨Nat.le_of_ble_eq_true rfl, Nat.le_of_ble_eq_true rfl⟩) hS (fun q _ h => hFc q h) hFc (fun r1 u t H1 locs ht hvm hw1 hB hz1 hk1 hS => ?_)
  obtain ⟨hP1, hK1, hD1⟩ := hB
  rw [ht] at hP1
  obtain ⟨hP, hD⟩ : xPD D A [oX10 xo tp rd rn co wy sg sh pl sp lf, oAJ pta cJ 64 pt, oX3 pl pna pta rails limit retry behind] H1 := xjn 2 hP hD [1] [0, 2] hC9 rfl (by decide +kernel) (by decide +kernel) hk1 hFc hP1 hD1
  generalize H1 = H at hP hS ⊢
  have hw1 : r1 = if 0 ≤ a0.toInt ∧ a0.toInt < rails.toInt then 1 else 0 := hw1
  refine lv_if_eq (tgt := 29) hx hb dX10_holds_8 (by decide) (fun c_2 => ?_) (fun c_2 => ?_)
  · skip
    have i_2 : ¬ (0 ≤ a0.toInt ∧ a0.toInt < rails.toInt) := (xbool hw1).1.mp c_2
    have hM : M_x_holds a0 rails a1 pt = (K_x_holds_2) := (show M_x_holds a0 rails a1 pt = (if 0 ≤ a0.toInt ∧ a0.toInt < rails.toInt then (K_x_holds_3 a1 pt a0 rails) else (K_x_holds_2)) from hM).trans (if_neg i_2)
    refine lv_iconst (v := (-1)) hx hb dX10_holds_29 (by decide) ?_
    refine W.widen (k := 0) (n := 0) (by decide) (by decide) ?_
    exact W.iret (v := (-1)) hx hb hr (fun t ht hW => ⟨⟨(-1), (-1), rfl, ⟨rfl, trivial⟩, ⟨hM, xB_of9 ht hW hP hK hD [0, 2, 1] (by decide +kernel) rfl⟩⟩, hS.F ht⟩) hS.2.2 dX10_holds_30
  · skip
    have i_2 : 0 ≤ a0.toInt ∧ a0.toInt < rails.toInt := (xbool hw1).2.mp c_2
    have hM : M_x_holds a0 rails a1 pt = (K_x_holds_3 a1 pt a0 rails) := (show M_x_holds a0 rails a1 pt = (if 0 ≤ a0.toInt ∧ a0.toInt < rails.toInt then (K_x_holds_3 a1 pt a0 rails) else (K_x_holds_2)) from hM).trans (if_pos i_2)
    refine lv_iload_n hx hb dX10_holds_11 rfl (lv_at hl 2 rfl) ?_
    refine lv_aload_n hx hb dX10_holds_12 rfl (lv_at hl 0 rfl) ?_
    refine va_get (D := D) (ci := 9) (v := .ref pl) (C := RX10) (T := TX10) (N := 10) hx hb hts (fun w h => tbC w (tbfX10 w h)) hown hK hP 0 rfl rfl 7 (by decide) (hts (.fieldLink RX10 56 "PowerRails" "plan" "LPowerRails$Plan;") (tbC _ wd254)) (fun _ h9 => h9) rfl dX10_holds_13 ?_
    obtain ⟨hPc, hDc, hFc, hC9⟩ := xpk (wc := W_allRails cI cJ cZ cG cH pl pna pta rails limit retry behind) hP hD hS hA [2] (by decide +kernel) rfl
    refine va_calli (va_runV (As := []) (rest := [.int a1]) ⟨hx, hb, hml, hown, hts⟩ (c_allRails l D cI cJ cZ cG cH H.size pl pna pta rails limit retry behind (xrng rfl (by omega) (by omega))) (cwV 0 hts (xGV tbC wd419 wd420 wd421 wd59 wd1012) rfl rfl rfl (by decide +kernel) ⟨Nat.le_of_ble_eq_true rfl, Nat.le_of_ble_eq_true rfl⟩) ⟨xPc_blind, va_recv hK hPc (ci := 2) (q0 := 0) rfl rfl, xPc_pre hPc hK hDc⟩ rfl rfl hl.1 rfl (lv_room (Nat.le_of_ble_eq_true rfl)) dX10_holds_16 ⟨Nat.le_of_ble_eq_true rfl, Nat.le_of_ble_eq_true rfl⟩) hS (fun q _ h => hFc q h) hFc (fun r3 u t H1 locs ht hvm hw3 hB hz1 hk1 hS => ?_)
    obtain ⟨hru9, hw3⟩ := hw3
    subst hru9
    obtain ⟨hf3_0, hP1, hK1, hD1⟩ := hB
    rw [ht] at hP1
    obtain ⟨hP, hD⟩ : xPD D A [oX10 xo tp rd rn co wy sg sh pl sp lf, oAJ pta cJ 64 pt, oX3 pl pna pta rails limit retry behind] H1 := xjn 2 hP hD [2] [0, 1] hC9 rfl (by decide +kernel) (by decide +kernel) hk1 hFc hP1 hD1
    generalize H1 = H at hP hS ⊢
    have hf3_0 : M_allRails rails = (r3) := hf3_0
    have hw3 : 0 ≤ r3.toInt ∧ r3.toInt ≤ 255 := hw3
    have h9M := congrArg (fun t9 => (K_x_holds_4 a1 t9 pt a0)) hf3_0
    have hM : M_x_holds a0 rails a1 pt = (K_x_holds_4 a1 r3 pt a0) := (show M_x_holds a0 rails a1 pt = ((fun t9 => (K_x_holds_4 a1 t9 pt a0)) (M_allRails rails)) from hM).trans h9M
    refine lv_sipush (v := 256) hx hb dX10_holds_19 (by decide) ?_
    refine lv_ior hx hb dX10_holds_22 ?_
    refine lv_topi (fun v4 ev4 => ?_)
    have rv4 : 0 ≤ v4.toInt ∧ v4.toInt ≤ 511 := xorL 9 ev4 (show (r3 : Int32).toInt = r3.toInt from rfl) (show (256 : Int32).toInt = 256 from (by decide)) (by decide) (by decide) (by omega) (by omega) (by omega) (by omega)
    refine lv_iconst (v := (-1)) hx hb dX10_holds_23 (by decide) ?_
    refine lv_ixor hx hb dX10_holds_24 ?_
    refine lv_topi (fun v5 ev5 => ?_)
    refine lv_iand hx hb dX10_holds_25 ?_
    refine lv_topi (fun v6 ev6 => ?_)
    refine lv_if_eq (tgt := 31) hx hb dX10_holds_26 (by decide) (fun c_7 => ?_) (fun c_7 => ?_)
    · skip
      have i_7 : v6.toInt = 0 := (ieq rfl (by decide)).mp c_7
      have hM : M_x_holds a0 rails a1 pt = (K_x_holds_5 pt a0 a1) := (show M_x_holds a0 rails a1 pt = (if v6.toInt = 0 then (K_x_holds_5 pt a0 a1) else (K_x_holds_6)) from (by rw [ev6, ev5, ev4]; exact hM)).trans (if_pos i_7)
      refine lv_aload_n hx hb dX10_holds_31 rfl (lv_at hl 0 rfl) ?_
      refine va_get (D := D) (ci := 9) (v := .ref pl) (C := RX10) (T := TX10) (N := 10) hx hb hts (fun w h => tbC w (tbfX10 w h)) hown hK hP 0 rfl rfl 7 (by decide) (hts (.fieldLink RX10 56 "PowerRails" "plan" "LPowerRails$Plan;") (tbC _ wd254)) (fun _ h9 => h9) rfl dX10_holds_32 ?_
      refine lv_iload_n hx hb dX10_holds_35 rfl (lv_at hl 1 rfl) ?_
      refine lv_iload_n hx hb dX10_holds_36 rfl (lv_at hl 2 rfl) ?_
      obtain ⟨hPc, hDc, hFc, hC9⟩ := xpk (wc := W_holdsWith cI cJ cZ cG cH pl a0 a1 pna pta rails limit retry behind pt) hP hD hS hA [2, 1] (by decide +kernel) rfl
      refine va_calli (va_runV (As := [.int a0, .int a1]) (rest := []) ⟨hx, hb, hml, hown, hts⟩ (c_holdsWith l D cI cJ cZ cG cH H.size pl a0 a1 pna pta rails limit retry behind pt (xrng rfl (by omega) (by omega)) (xrng rfl (by omega) (by omega))) (cwV 2 hts (xGV tbC wd422 wd423 wd424 wd59 wd1013) rfl rfl rfl (by decide +kernel) ⟨Nat.le_of_ble_eq_true rfl, Nat.le_of_ble_eq_true rfl⟩) ⟨xPc_blind, va_recv hK hPc (ci := 2) (q0 := 0) rfl rfl, xPc_pre hPc hK hDc⟩ rfl rfl hl.1 rfl (lv_room (Nat.le_of_ble_eq_true rfl)) dX10_holds_37 ⟨Nat.le_of_ble_eq_true rfl, Nat.le_of_ble_eq_true rfl⟩) hS (fun q _ h => hFc q h) hFc (fun r8 u t H1 locs ht hvm hw8 hB hz1 hk1 hS => ?_)
      obtain ⟨hru9, hw8⟩ := hw8
      subst hru9
      obtain ⟨hf8_0, hP1, hK1, hD1⟩ := hB
      rw [ht] at hP1
      obtain ⟨hP, hD⟩ : xPD D A [oX10 xo tp rd rn co wy sg sh pl sp lf, oX3 pl pna pta rails limit retry behind, oAJ pta cJ 64 pt] H1 := xjn 1 hP hD [2, 1] [0] hC9 rfl (by decide +kernel) (by decide +kernel) hk1 hFc hP1 hD1
      generalize H1 = H at hP hS ⊢
      have hf8_0 : M_holdsWith pt a0 a1 = (r8) := hf8_0
      have hw8 : 0 ≤ r8.toInt ∧ r8.toInt ≤ 1 := hw8
      have h9M := congrArg (fun t9 => (K_x_holds_7 t9)) hf8_0
      have hM : M_x_holds a0 rails a1 pt = (K_x_holds_7 r8) := (show M_x_holds a0 rails a1 pt = ((fun t9 => (K_x_holds_7 t9)) (M_holdsWith pt a0 a1)) from hM).trans h9M
      obtain ⟨hPc, hDc, hFc, hC9⟩ := xpk (wc := W_asNumber cI cJ cZ cG cH r8) hP hD hS hA [] (by decide +kernel) rfl
      refine va_calli (va_runS (As := [.int r8]) (rest := []) ⟨hx, hb, hml, hown, hts⟩ (c_asNumber l D cI cJ cZ cG cH H.size r8) (va_cwS 1 hts (xGS tbC wd425 wd426 wd50 wd1014) rfl rfl rfl (by decide +kernel) ⟨Nat.le_of_ble_eq_true rfl, Nat.le_of_ble_eq_true rfl⟩) ⟨xPc_blind, xPc_pre hPc hK hDc⟩ rfl rfl hl.1 rfl (lv_room (Nat.le_of_ble_eq_true rfl)) dX10_holds_40 ⟨Nat.le_of_ble_eq_true rfl, Nat.le_of_ble_eq_true rfl⟩) hS (fun q _ h => hFc q h) hFc (fun r9 u t H1 locs ht hvm hw9 hB hz1 hk1 hS => ?_)
      obtain ⟨hP1, hK1, hD1⟩ := hB
      rw [ht] at hP1
      obtain ⟨hP, hD⟩ : xPD D A [oX10 xo tp rd rn co wy sg sh pl sp lf, oX3 pl pna pta rails limit retry behind, oAJ pta cJ 64 pt] H1 := xjn 3 hP hD [] [0, 1, 2] hC9 rfl (by decide +kernel) (by decide +kernel) hk1 hFc hP1 hD1
      generalize H1 = H at hP hS ⊢
      have hw9 : r9 = sp_b r8 := hw9
      refine W.widen (k := 0) (n := 0) (by decide) (by decide) ?_
      exact W.iret (v := r9) hx hb hr (fun t ht hW => ⟨⟨r9, r9, rfl, ⟨rfl, trivial⟩, ⟨(by rw [hw9]; exact hM), xB_of9 ht hW hP hK hD [0, 1, 2] (by decide +kernel) rfl⟩⟩, hS.F ht⟩) hS.2.2 dX10_holds_43
    · skip
      have i_7 : ¬ (v6.toInt = 0) := fun h9 => c_7 ((ieq rfl (by decide)).mpr h9)
      have hM : M_x_holds a0 rails a1 pt = (K_x_holds_6) := (show M_x_holds a0 rails a1 pt = (if v6.toInt = 0 then (K_x_holds_5 pt a0 a1) else (K_x_holds_6)) from (by rw [ev6, ev5, ev4]; exact hM)).trans (if_neg i_7)
      refine lv_iconst (v := (-1)) hx hb dX10_holds_29 (by decide) ?_
      refine W.widen (k := 0) (n := 0) (by decide) (by decide) ?_
      exact W.iret (v := (-1)) hx hb hr (fun t ht hW => ⟨⟨(-1), (-1), rfl, ⟨rfl, trivial⟩, ⟨hM, xB_of9 ht hW hP hK hD [0, 2, 1] (by decide +kernel) rfl⟩⟩, hS.F ht⟩) hS.2.2 dX10_holds_30
def K_x_words_6 (r5 : Int32) : (Int32) := (r5)
def K_x_words_4 (pt : Nat → Int64) (a0 : Int32) : (Int32) := ((fun t9 => (K_x_words_6 t9)) (M_countLeastSets pt a0))
def K_x_words_9 (r9 : Int32) : (Int32) := (r9)
def K_x_words_7 (a1 : Int32) (pt : Nat → Int64) (a0 : Int32) : (Int32) := ((fun t9 => (K_x_words_9 t9)) (M_leastSet (a1 - (10 : Int32)) pt a0))
def K_x_words_8  : (Int32) := ((-1 : Int32))
def K_x_words_5 (a1 : Int32) (pt : Nat → Int64) (a0 : Int32) : (Int32) := (if 10 ≤ a1.toInt then (K_x_words_7 a1 pt a0) else (K_x_words_8))
def K_x_words_3 (a1 : Int32) (pt : Nat → Int64) (a0 : Int32) : (Int32) := (if a1.toInt = 0 then (K_x_words_4 pt a0) else (K_x_words_5 a1 pt a0))
def K_x_words_2  : (Int32) := ((-1 : Int32))
def K_x_words_1 (a0 : Int32) (rails : Int32) (a1 : Int32) (pt : Nat → Int64) : (Int32) := (if 0 ≤ a0.toInt ∧ a0.toInt < rails.toInt then (K_x_words_3 a1 pt a0) else (K_x_words_2))
def M_x_words (a0 : Int32) (rails : Int32) (a1 : Int32) (pt : Nat → Int64) : (Int32) := (K_x_words_1 a0 rails a1 pt)
abbrev W_x_words (cI cJ cZ cG cH : ClassId) (xo : Nat) (a0 : Int32) (a1 : Int32) (tp : Nat) (rd : Nat) (rn : Nat) (co : Nat) (wy : Nat) (sg : Nat) (sh : Nat) (pl : Nat) (sp : Nat) (lf : Int32) (pna : Nat) (pta : Nat) (rails : Int32) (limit : Int32) (retry : Int32) (behind : Int32) (pt : Nat → Int64) : va_W := [oX10 xo tp rd rn co wy sg sh pl sp lf, oX3 pl pna pta rails limit retry behind, oAJ pta cJ 64 pt]
abbrev Q_x_words (D : va_G) (cI cJ cZ cG cH : ClassId) (xo : Nat) (a0 : Int32) (a1 : Int32) (tp : Nat) (rd : Nat) (rn : Nat) (co : Nat) (wy : Nat) (sg : Nat) (sh : Nat) (pl : Nat) (sp : Nat) (lf : Int32) (pna : Nat) (pta : Nat) (rails : Int32) (limit : Int32) (retry : Int32) (behind : Int32) (pt : Nat → Int64) (A : Nat → Prop) : Array Value → State → Outcome → State → Prop := va_Qi (fun (r : Int32) (u9 : Int32) => r = u9 ∧ (True)) (fun u9 t => (M_x_words a0 rails a1 pt = (u9)) ∧ xB D (tyL cI cJ cZ cG cH) [oX10 xo tp rd rn co wy sg sh pl sp lf, oX3 pl pna pta rails limit retry behind, oAJ pta cJ 64 pt] A t) A
abbrev rm_x_words : Room := { frames := 3, cells := 0, slots := 0, locals := 69 }
set_option maxRecDepth 100000 in
set_option maxHeartbeats 40000000 in
theorem c_x_words (l : Launch) (D : va_G) (cI cJ cZ cG cH : ClassId) (sz : Nat) (xo : Nat) (a0 : Int32) (a1 : Int32) (tp : Nat) (rd : Nat) (rn : Nat) (co : Nat) (wy : Nat) (sg : Nat) (sh : Nat) (pl : Nat) (sp : Nat) (lf : Int32) (pna : Nat) (pta : Nat) (rails : Int32) (limit : Int32) (retry : Int32) (behind : Int32) (pt : Nat → Int64) (h_rails : 0 ≤ rails.toInt ∧ rails.toInt ≤ 8) : Met l yX10_words (wt yX10_words cX10_words 3 (some .int)) rm_x_words (xPc [.ref xo, .int a0, .int a1] D (tyL cI cJ cZ cG cH) (W_x_words cI cJ cZ cG cH xo a0 a1 tp rd rn co wy sg sh pl sp lf pna pta rails limit retry behind pt) sz) (Q_x_words D cI cJ cZ cG cH xo a0 a1 tp rd rn co wy sg sh pl sp lf pna pta rails limit retry behind pt (va_A (W_x_words cI cJ cZ cG cH xo a0 a1 tp rd rn co wy sg sh pl sp lf pna pta rails limit retry behind pt) sz)) 0 0 (va_A (W_x_words cI cJ cZ cG cH xo a0 a1 tp rd rn co wy sg sh pl sp lf pna pta rails limit retry behind pt) sz) := by
  refine xMet (cc := cX10_words) (maxL := 3) (ret := (some .int)) (Qf := Q_x_words D cI cJ cZ cG cH xo a0 a1 tp rd rn co wy sg sh pl sp lf pna pta rails limit retry behind pt) (by decide) rfl (Nat.le_of_ble_eq_true rfl) ?_
  intro p e s m below meth c ls A hx hb hr hml hts hown hlocks hnm hsz hP hK hD hA hS hl
  have hown : s.vm.findClass RX10 = some m.cls := hown
  have hP : va_P D vwCl [oX10 xo tp rd rn co wy sg sh pl sp lf, oX3 pl pna pta rails limit retry behind, oAJ pta cJ 64 pt] s.heap := hP
  have hD : va_D A [oX10 xo tp rd rn co wy sg sh pl sp lf, oX3 pl pna pta rails limit retry behind, oAJ pta cJ 64 pt] := hD
  have hl : lv_has ls 3 [(0, .ref xo), (1, .int a0), (2, .int a1)] := hl
  have hM : M_x_words a0 rails a1 pt = (K_x_words_1 a0 rails a1 pt) := rfl
  refine lv_aload_n hx hb dX10_words_0 rfl (lv_at hl 0 rfl) ?_
  refine va_get (D := D) (ci := 9) (v := .ref pl) (C := RX10) (T := TX10) (N := 10) hx hb hts (fun w h => tbC w (tbfX10 w h)) hown hK hP 0 rfl rfl 7 (by decide) (hts (.fieldLink RX10 56 "PowerRails" "plan" "LPowerRails$Plan;") (tbC _ wd254)) (fun _ h9 => h9) rfl dX10_words_1 ?_
  refine lv_iload_n hx hb dX10_words_4 rfl (lv_at hl 1 rfl) ?_
  obtain ⟨hPc, hDc, hFc, hC9⟩ := xpk (wc := W_hasRail cI cJ cZ cG cH pl a0 pna pta rails limit retry behind) hP hD hS hA [1] (by decide +kernel) rfl
  refine va_calli (va_runV (As := [.int a0]) (rest := []) ⟨hx, hb, hml, hown, hts⟩ (c_hasRail l D cI cJ cZ cG cH s.heap.size pl a0 pna pta rails limit retry behind (xrng rfl (by omega) (by omega))) (cwV 1 hts (xGV tbC wd409 wd410 wd411 wd59 wd1009) rfl rfl rfl (by decide +kernel) ⟨Nat.le_of_ble_eq_true rfl, Nat.le_of_ble_eq_true rfl⟩) ⟨xPc_blind, va_recv hK hPc (ci := 2) (q0 := 0) rfl rfl, xPc_pre hPc hK hDc⟩ rfl rfl hl.1 rfl (lv_room (Nat.le_of_ble_eq_true rfl)) dX10_words_5 ⟨Nat.le_of_ble_eq_true rfl, Nat.le_of_ble_eq_true rfl⟩) hS (fun q _ h => hFc q h) hFc (fun r1 u t H1 locs ht hvm hw1 hB hz1 hk1 hS => ?_)
  obtain ⟨hP1, hK1, hD1⟩ := hB
  rw [ht] at hP1
  obtain ⟨hP, hD⟩ : xPD D A [oX10 xo tp rd rn co wy sg sh pl sp lf, oAJ pta cJ 64 pt, oX3 pl pna pta rails limit retry behind] H1 := xjn 2 hP hD [1] [0, 2] hC9 rfl (by decide +kernel) (by decide +kernel) hk1 hFc hP1 hD1
  generalize H1 = H at hP hS ⊢
  have hw1 : r1 = if 0 ≤ a0.toInt ∧ a0.toInt < rails.toInt then 1 else 0 := hw1
  refine lv_if_eq (tgt := 21) hx hb dX10_words_8 (by decide) (fun c_2 => ?_) (fun c_2 => ?_)
  · skip
    have i_2 : ¬ (0 ≤ a0.toInt ∧ a0.toInt < rails.toInt) := (xbool hw1).1.mp c_2
    have hM : M_x_words a0 rails a1 pt = (K_x_words_2) := (show M_x_words a0 rails a1 pt = (if 0 ≤ a0.toInt ∧ a0.toInt < rails.toInt then (K_x_words_3 a1 pt a0) else (K_x_words_2)) from hM).trans (if_neg i_2)
    refine lv_iconst (v := (-1)) hx hb dX10_words_21 (by decide) ?_
    refine W.widen (k := 0) (n := 0) (by decide) (by decide) ?_
    exact W.iret (v := (-1)) hx hb hr (fun t ht hW => ⟨⟨(-1), (-1), rfl, ⟨rfl, trivial⟩, ⟨hM, xB_of9 ht hW hP hK hD [0, 2, 1] (by decide +kernel) rfl⟩⟩, hS.F ht⟩) hS.2.2 dX10_words_22
  · skip
    have i_2 : 0 ≤ a0.toInt ∧ a0.toInt < rails.toInt := (xbool hw1).2.mp c_2
    have hM : M_x_words a0 rails a1 pt = (K_x_words_3 a1 pt a0) := (show M_x_words a0 rails a1 pt = (if 0 ≤ a0.toInt ∧ a0.toInt < rails.toInt then (K_x_words_3 a1 pt a0) else (K_x_words_2)) from hM).trans (if_pos i_2)
    refine lv_iload_n hx hb dX10_words_11 rfl (lv_at hl 2 rfl) ?_
    refine lv_if_eq (tgt := 23) hx hb dX10_words_12 (by decide) (fun c_3 => ?_) (fun c_3 => ?_)
    · skip
      have i_3 : a1.toInt = 0 := (ieq rfl (by decide)).mp c_3
      have hM : M_x_words a0 rails a1 pt = (K_x_words_4 pt a0) := (show M_x_words a0 rails a1 pt = (if a1.toInt = 0 then (K_x_words_4 pt a0) else (K_x_words_5 a1 pt a0)) from hM).trans (if_pos i_3)
      refine lv_iload_n hx hb dX10_words_23 rfl (lv_at hl 2 rfl) ?_
      refine lv_if_ne (tgt := 36) hx hb dX10_words_24 (by decide) (fun c_4 => ?_) (fun c_4 => ?_)
      · skip
        have i_4 : ¬ (a1.toInt = 0) := fun h9 => c_4 ((ieq rfl (by decide)).mpr h9)
        exfalso
        omega
      · skip
        have i_4 : a1.toInt = 0 := (ieq rfl (by decide)).mp c_4
        refine lv_aload_n hx hb dX10_words_27 rfl (lv_at hl 0 rfl) ?_
        refine va_get (D := D) (ci := 9) (v := .ref pl) (C := RX10) (T := TX10) (N := 10) hx hb hts (fun w h => tbC w (tbfX10 w h)) hown hK hP 0 rfl rfl 7 (by decide) (hts (.fieldLink RX10 56 "PowerRails" "plan" "LPowerRails$Plan;") (tbC _ wd254)) (fun _ h9 => h9) rfl dX10_words_28 ?_
        refine lv_iload_n hx hb dX10_words_31 rfl (lv_at hl 1 rfl) ?_
        obtain ⟨hPc, hDc, hFc, hC9⟩ := xpk (wc := W_countLeastSets cI cJ cZ cG cH pl a0 pna pta rails limit retry behind pt) hP hD hS hA [2, 1] (by decide +kernel) rfl
        refine va_calli (va_runV (As := [.int a0]) (rest := []) ⟨hx, hb, hml, hown, hts⟩ (c_countLeastSets l D cI cJ cZ cG cH H.size pl a0 pna pta rails limit retry behind pt (xrng rfl (by omega) (by omega)) (xrng rfl (by omega) (by omega))) (cwV 1 hts (xGV tbC wd430 wd431 wd432 wd59 wd1016) rfl rfl rfl (by decide +kernel) ⟨Nat.le_of_ble_eq_true rfl, Nat.le_of_ble_eq_true rfl⟩) ⟨xPc_blind, va_recv hK hPc (ci := 2) (q0 := 0) rfl rfl, xPc_pre hPc hK hDc⟩ rfl rfl hl.1 rfl (lv_room (Nat.le_of_ble_eq_true rfl)) dX10_words_32 ⟨Nat.le_of_ble_eq_true rfl, Nat.le_of_ble_eq_true rfl⟩) hS (fun q _ h => hFc q h) hFc (fun r5 u t H1 locs ht hvm hw5 hB hz1 hk1 hS => ?_)
        obtain ⟨hru9, hw5⟩ := hw5
        subst hru9
        obtain ⟨hf5_0, hP1, hK1, hD1⟩ := hB
        rw [ht] at hP1
        obtain ⟨hP, hD⟩ : xPD D A [oX10 xo tp rd rn co wy sg sh pl sp lf, oX3 pl pna pta rails limit retry behind, oAJ pta cJ 64 pt] H1 := xjn 1 hP hD [2, 1] [0] hC9 rfl (by decide +kernel) (by decide +kernel) hk1 hFc hP1 hD1
        generalize H1 = H at hP hS ⊢
        have hf5_0 : M_countLeastSets pt a0 = (r5) := hf5_0
        have h9M := congrArg (fun t9 => (K_x_words_6 t9)) hf5_0
        have hM : M_x_words a0 rails a1 pt = (K_x_words_6 r5) := (show M_x_words a0 rails a1 pt = ((fun t9 => (K_x_words_6 t9)) (M_countLeastSets pt a0)) from hM).trans h9M
        refine W.widen (k := 0) (n := 0) (by decide) (by decide) ?_
        exact W.iret (v := r5) hx hb hr (fun t ht hW => ⟨⟨r5, r5, rfl, ⟨rfl, trivial⟩, ⟨hM, xB_of9 ht hW hP hK hD [0, 1, 2] (by decide +kernel) rfl⟩⟩, hS.F ht⟩) hS.2.2 dX10_words_35
    · skip
      have i_3 : ¬ (a1.toInt = 0) := fun h9 => c_3 ((ieq rfl (by decide)).mpr h9)
      have hM : M_x_words a0 rails a1 pt = (K_x_words_5 a1 pt a0) := (show M_x_words a0 rails a1 pt = (if a1.toInt = 0 then (K_x_words_4 pt a0) else (K_x_words_5 a1 pt a0)) from hM).trans (if_neg i_3)
      refine lv_iload_n hx hb dX10_words_15 rfl (lv_at hl 2 rfl) ?_
      refine lv_bipush (v := 10) hx hb dX10_words_16 (by decide) ?_
      refine lv_icmp_ge (tgt := 23) hx hb dX10_words_18 (by decide) (fun c_6 => ?_) (fun c_6 => ?_)
      · skip
        have i_6 : 10 ≤ a1.toInt := (ile (by decide) rfl).mp c_6
        have hM : M_x_words a0 rails a1 pt = (K_x_words_7 a1 pt a0) := (show M_x_words a0 rails a1 pt = (if 10 ≤ a1.toInt then (K_x_words_7 a1 pt a0) else (K_x_words_8)) from hM).trans (if_pos i_6)
        refine lv_iload_n hx hb dX10_words_23 rfl (lv_at hl 2 rfl) ?_
        refine lv_if_ne (tgt := 36) hx hb dX10_words_24 (by decide) (fun c_7 => ?_) (fun c_7 => ?_)
        · skip
          have i_7 : ¬ (a1.toInt = 0) := fun h9 => c_7 ((ieq rfl (by decide)).mpr h9)
          refine lv_aload_n hx hb dX10_words_36 rfl (lv_at hl 0 rfl) ?_
          refine va_get (D := D) (ci := 9) (v := .ref pl) (C := RX10) (T := TX10) (N := 10) hx hb hts (fun w h => tbC w (tbfX10 w h)) hown hK hP 0 rfl rfl 7 (by decide) (hts (.fieldLink RX10 56 "PowerRails" "plan" "LPowerRails$Plan;") (tbC _ wd254)) (fun _ h9 => h9) rfl dX10_words_37 ?_
          refine lv_iload_n hx hb dX10_words_40 rfl (lv_at hl 1 rfl) ?_
          refine lv_iload_n hx hb dX10_words_41 rfl (lv_at hl 2 rfl) ?_
          refine lv_bipush (v := 10) hx hb dX10_words_42 (by decide) ?_
          refine lv_isub hx hb dX10_words_44 ?_
          refine lv_topi (fun v8 ev8 => ?_)
          obtain ⟨hPc, hDc, hFc, hC9⟩ := xpk (wc := W_leastSet cI cJ cZ cG cH pl a0 v8 pna pta rails limit retry behind pt) hP hD hS hA [2, 1] (by decide +kernel) rfl
          refine va_calli (va_runV (As := [.int a0, .int v8]) (rest := []) ⟨hx, hb, hml, hown, hts⟩ (c_leastSet l D cI cJ cZ cG cH H.size pl a0 v8 pna pta rails limit retry behind pt (xrng rfl (by omega) (by omega)) (xrng rfl (by omega) (by omega))) (cwV 2 hts (xGV tbC wd437 wd438 wd439 wd59 wd1018) rfl rfl rfl (by decide +kernel) ⟨Nat.le_of_ble_eq_true rfl, Nat.le_of_ble_eq_true rfl⟩) ⟨xPc_blind, va_recv hK hPc (ci := 2) (q0 := 0) rfl rfl, xPc_pre hPc hK hDc⟩ rfl rfl hl.1 rfl (lv_room (Nat.le_of_ble_eq_true rfl)) dX10_words_45 ⟨Nat.le_of_ble_eq_true rfl, Nat.le_of_ble_eq_true rfl⟩) hS (fun q _ h => hFc q h) hFc (fun r9 u t H1 locs ht hvm hw9 hB hz1 hk1 hS => ?_)
          obtain ⟨hru9, hw9⟩ := hw9
          subst hru9
          obtain ⟨hf9_0, hP1, hK1, hD1⟩ := hB
          rw [ht] at hP1
          obtain ⟨hP, hD⟩ : xPD D A [oX10 xo tp rd rn co wy sg sh pl sp lf, oX3 pl pna pta rails limit retry behind, oAJ pta cJ 64 pt] H1 := xjn 1 hP hD [2, 1] [0] hC9 rfl (by decide +kernel) (by decide +kernel) hk1 hFc hP1 hD1
          generalize H1 = H at hP hS ⊢
          have hf9_0 : M_leastSet v8 pt a0 = (r9) := hf9_0
          have hw9 : (-1) ≤ r9.toInt ∧ r9.toInt ≤ 511 := hw9
          have h9M := congrArg (fun t9 => (K_x_words_9 t9)) hf9_0
          have hM : M_x_words a0 rails a1 pt = (K_x_words_9 r9) := (show M_x_words a0 rails a1 pt = ((fun t9 => (K_x_words_9 t9)) (M_leastSet v8 pt a0)) from (by rw [ev8]; exact hM)).trans h9M
          refine W.widen (k := 0) (n := 0) (by decide) (by decide) ?_
          exact W.iret (v := r9) hx hb hr (fun t ht hW => ⟨⟨r9, r9, rfl, ⟨rfl, trivial⟩, ⟨hM, xB_of9 ht hW hP hK hD [0, 1, 2] (by decide +kernel) rfl⟩⟩, hS.F ht⟩) hS.2.2 dX10_words_48
        · skip
          have i_7 : a1.toInt = 0 := (ieq rfl (by decide)).mp c_7
          exfalso
          omega
      · skip
        have i_6 : ¬ (10 ≤ a1.toInt) := fun h9 => c_6 ((ile (by decide) rfl).mpr h9)
        have hM : M_x_words a0 rails a1 pt = (K_x_words_8) := (show M_x_words a0 rails a1 pt = (if 10 ≤ a1.toInt then (K_x_words_7 a1 pt a0) else (K_x_words_8)) from hM).trans (if_neg i_6)
        refine lv_iconst (v := (-1)) hx hb dX10_words_21 (by decide) ?_
        refine W.widen (k := 0) (n := 0) (by decide) (by decide) ?_
        exact W.iret (v := (-1)) hx hb hr (fun t ht hW => ⟨⟨(-1), (-1), rfl, ⟨rfl, trivial⟩, ⟨hM, xB_of9 ht hW hP hK hD [0, 2, 1] (by decide +kernel) rfl⟩⟩, hS.F ht⟩) hS.2.2 dX10_words_22
def K_x_key_2 (r1 : Int32) (held_3 : Int32) (tries_4 : Int32) : (Int32) × (Int32) × (Int32) := (r1, held_3, tries_4)
def K_x_key_1 (key : Int32) (a0 : Int32) (held : Int32) (retry : Int32) (tries : Int32) : (Int32) × (Int32) × (Int32) := ((fun t9 => (K_x_key_2 (sp_b key) t9.1 t9.2)) (M_turnKey a0 held retry tries))
def M_x_key (key : Int32) (a0 : Int32) (held : Int32) (retry : Int32) (tries : Int32) : (Int32) × (Int32) × (Int32) := (K_x_key_1 key a0 held retry tries)
abbrev W_x_key (cI cJ cZ cG cH : ClassId) (xo : Nat) (a0 : Int32) (tp : Nat) (rd : Nat) (rn : Nat) (co : Nat) (wy : Nat) (sg : Nat) (sh : Nat) (pl : Nat) (sp : Nat) (lf : Int32) (pna : Nat) (pta : Nat) (rails : Int32) (limit : Int32) (retry : Int32) (behind : Int32) (hy : Nat) (rsa : Nat) (ria : Nat) (raa : Nat) (rta : Nat) (rga : Nat) (dead : Int32) (key : Int32) (tick : Int32) (held : Int32) (tries : Int32) (trips : Int32) (ldraw : Int32) (gdraw : Int32) : va_W := [oX10 xo tp rd rn co wy sg sh pl sp lf, oX3 pl pna pta rails limit retry behind, oX5 rn hy rsa ria raa rta rga dead key tick held tries trips ldraw gdraw]
abbrev Q_x_key (D : va_G) (cI cJ cZ cG cH : ClassId) (xo : Nat) (a0 : Int32) (tp : Nat) (rd : Nat) (rn : Nat) (co : Nat) (wy : Nat) (sg : Nat) (sh : Nat) (pl : Nat) (sp : Nat) (lf : Int32) (pna : Nat) (pta : Nat) (rails : Int32) (limit : Int32) (retry : Int32) (behind : Int32) (hy : Nat) (rsa : Nat) (ria : Nat) (raa : Nat) (rta : Nat) (rga : Nat) (dead : Int32) (key : Int32) (tick : Int32) (held : Int32) (tries : Int32) (trips : Int32) (ldraw : Int32) (gdraw : Int32) (A : Nat → Prop) : Array Value → State → Outcome → State → Prop := va_Qi (fun (r : Int32) (u9 : Int32) => r = u9 ∧ (r = sp_b key)) (fun u9 t => ∃ (held9 : Int32) (tries9 : Int32), (M_x_key key a0 held retry tries = (u9, held9, tries9)) ∧ xB D (tyL cI cJ cZ cG cH) [oX10 xo tp rd rn co wy sg sh pl sp lf, oX3 pl pna pta rails limit retry behind, oX5 rn hy rsa ria raa rta rga dead a0 tick held9 tries9 trips ldraw gdraw] A t) A
abbrev rm_x_key : Room := { frames := 1, cells := 0, slots := 0, locals := 22 }
set_option maxRecDepth 100000 in
set_option maxHeartbeats 40000000 in
theorem c_x_key (l : Launch) (D : va_G) (cI cJ cZ cG cH : ClassId) (sz : Nat) (xo : Nat) (a0 : Int32) (tp : Nat) (rd : Nat) (rn : Nat) (co : Nat) (wy : Nat) (sg : Nat) (sh : Nat) (pl : Nat) (sp : Nat) (lf : Int32) (pna : Nat) (pta : Nat) (rails : Int32) (limit : Int32) (retry : Int32) (behind : Int32) (hy : Nat) (rsa : Nat) (ria : Nat) (raa : Nat) (rta : Nat) (rga : Nat) (dead : Int32) (key : Int32) (tick : Int32) (held : Int32) (tries : Int32) (trips : Int32) (ldraw : Int32) (gdraw : Int32) (h_a0 : 0 ≤ a0.toInt ∧ a0.toInt ≤ 1) (h_rails : 0 ≤ rails.toInt ∧ rails.toInt ≤ 8) (h_key : 0 ≤ key.toInt ∧ key.toInt ≤ 1) : Met l yX10_key (wt yX10_key cX10_key 3 (some .int)) rm_x_key (xPc [.ref xo, .int a0] D (tyL cI cJ cZ cG cH) (W_x_key cI cJ cZ cG cH xo a0 tp rd rn co wy sg sh pl sp lf pna pta rails limit retry behind hy rsa ria raa rta rga dead key tick held tries trips ldraw gdraw) sz) (Q_x_key D cI cJ cZ cG cH xo a0 tp rd rn co wy sg sh pl sp lf pna pta rails limit retry behind hy rsa ria raa rta rga dead key tick held tries trips ldraw gdraw (va_A (W_x_key cI cJ cZ cG cH xo a0 tp rd rn co wy sg sh pl sp lf pna pta rails limit retry behind hy rsa ria raa rta rga dead key tick held tries trips ldraw gdraw) sz)) 0 0 (va_A (W_x_key cI cJ cZ cG cH xo a0 tp rd rn co wy sg sh pl sp lf pna pta rails limit retry behind hy rsa ria raa rta rga dead key tick held tries trips ldraw gdraw) sz) := by
  refine xMet (cc := cX10_key) (maxL := 3) (ret := (some .int)) (Qf := Q_x_key D cI cJ cZ cG cH xo a0 tp rd rn co wy sg sh pl sp lf pna pta rails limit retry behind hy rsa ria raa rta rga dead key tick held tries trips ldraw gdraw) (by decide) rfl (Nat.le_of_ble_eq_true rfl) ?_
  intro p e s m below meth c ls A hx hb hr hml hts hown hlocks hnm hsz hP hK hD hA hS hl
  have hown : s.vm.findClass RX10 = some m.cls := hown
  have hP : va_P D vwCl [oX10 xo tp rd rn co wy sg sh pl sp lf, oX3 pl pna pta rails limit retry behind, oX5 rn hy rsa ria raa rta rga dead key tick held tries trips ldraw gdraw] s.heap := hP
  have hD : va_D A [oX10 xo tp rd rn co wy sg sh pl sp lf, oX3 pl pna pta rails limit retry behind, oX5 rn hy rsa ria raa rta rga dead key tick held tries trips ldraw gdraw] := hD
  have hl : lv_has ls 3 [(0, .ref xo), (1, .int a0)] := hl
  have hM : M_x_key key a0 held retry tries = (K_x_key_1 key a0 held retry tries) := rfl
  refine lv_aload_n hx hb dX10_key_0 rfl (lv_at hl 0 rfl) ?_
  refine va_get (D := D) (ci := 9) (v := .ref rn) (C := RX10) (T := TX10) (N := 10) hx hb hts (fun w h => tbC w (tbfX10 w h)) hown hK hP 0 rfl rfl 2 (by decide) (hts (.fieldLink RX10 19 "PowerRails" "run" "LPowerRails$Run;") (tbC _ wd249)) (fun _ h9 => h9) rfl dX10_key_1 ?_
  refine va_get (D := D) (ci := 4) (v := .int key) (C := RX5) (T := TX5) (N := 14) hx hb hts (fun w h => tbC w (tbfX5 w h)) hown hK hP 2 rfl rfl 7 (by decide) (hts (.fieldLink RX10 139 "PowerRails$Run" "key" "Z") (tbC _ wd120)) (fun _ h9 => h9) rfl dX10_key_4 ?_
  obtain ⟨hPc, hDc, hFc, hC9⟩ := xpk (wc := W_asNumber cI cJ cZ cG cH key) hP hD hS hA [] (by decide +kernel) rfl
  refine va_calli (va_runS (As := [.int key]) (rest := []) ⟨hx, hb, hml, hown, hts⟩ (c_asNumber l D cI cJ cZ cG cH s.heap.size key) (va_cwS 1 hts (xGS tbC wd425 wd426 wd50 wd1014) rfl rfl rfl (by decide +kernel) ⟨Nat.le_of_ble_eq_true rfl, Nat.le_of_ble_eq_true rfl⟩) ⟨xPc_blind, xPc_pre hPc hK hDc⟩ rfl rfl hl.1 rfl (lv_room (Nat.le_of_ble_eq_true rfl)) dX10_key_7 ⟨Nat.le_of_ble_eq_true rfl, Nat.le_of_ble_eq_true rfl⟩) hS (fun q _ h => hFc q h) hFc (fun r1 u t H1 locs ht hvm hw1 hB hz1 hk1 hS => ?_)
  obtain ⟨hP1, hK1, hD1⟩ := hB
  rw [ht] at hP1
  obtain ⟨hP, hD⟩ : xPD D A [oX10 xo tp rd rn co wy sg sh pl sp lf, oX3 pl pna pta rails limit retry behind, oX5 rn hy rsa ria raa rta rga dead key tick held tries trips ldraw gdraw] H1 := xjn 3 hP hD [] [0, 1, 2] hC9 rfl (by decide +kernel) (by decide +kernel) hk1 hFc hP1 hD1
  generalize H1 = H at hP hS ⊢
  have hw1 : r1 = sp_b key := hw1
  refine lv_istore_n (lv' := [(2, .int r1), (0, .ref xo), (1, .int a0)]) hx hb dX10_key_10 rfl hl (by decide) rfl (fun ls hl => ?_)
  refine lv_aload_n hx hb dX10_key_11 rfl (lv_at hl 1 rfl) ?_
  refine va_get (D := D) (ci := 9) (v := .ref rn) (C := RX10) (T := TX10) (N := 10) hx hb hts (fun w h => tbC w (tbfX10 w h)) hown hK hP 0 rfl rfl 2 (by decide) (hts (.fieldLink RX10 19 "PowerRails" "run" "LPowerRails$Run;") (tbC _ wd249)) (fun _ h9 => h9) rfl dX10_key_12 ?_
  refine lv_aload_n hx hb dX10_key_15 rfl (lv_at hl 1 rfl) ?_
  refine va_get (D := D) (ci := 9) (v := .ref pl) (C := RX10) (T := TX10) (N := 10) hx hb hts (fun w h => tbC w (tbfX10 w h)) hown hK hP 0 rfl rfl 7 (by decide) (hts (.fieldLink RX10 56 "PowerRails" "plan" "LPowerRails$Plan;") (tbC _ wd254)) (fun _ h9 => h9) rfl dX10_key_16 ?_
  refine lv_iload_n hx hb dX10_key_19 rfl (lv_at hl 2 rfl) ?_
  obtain ⟨hPc, hDc, hFc, hC9⟩ := xpk (wc := W_turnKey cI cJ cZ cG cH rn pl a0 hy rsa ria raa rta rga dead key tick held tries trips ldraw gdraw pna pta rails limit retry behind) hP hD hS hA [2, 1] (by decide +kernel) rfl
  refine va_callv (va_runV (As := [.ref pl, .int a0]) (rest := []) ⟨hx, hb, hml, hown, hts⟩ (c_turnKey l D cI cJ cZ cG cH H.size rn pl a0 hy rsa ria raa rta rga dead key tick held tries trips ldraw gdraw pna pta rails limit retry behind (xrng rfl (by omega) (by omega)) (xrng rfl (by omega) (by omega)) (xrng rfl (by omega) (by omega))) (cwV 2 hts (xGV tbC wd443 wd444 wd445 wd52 wd1020) rfl rfl rfl (by decide +kernel) ⟨Nat.le_of_ble_eq_true rfl, Nat.le_of_ble_eq_true rfl⟩) ⟨xPc_blind, va_recv hK hPc (ci := 4) (q0 := 0) rfl rfl, xPc_pre hPc hK hDc⟩ rfl rfl hl.1 rfl (lv_room (Nat.le_of_ble_eq_true rfl)) dX10_key_20 ⟨Nat.le_of_ble_eq_true rfl, Nat.le_of_ble_eq_true rfl⟩) hS (fun q _ h => hFc q h) hFc (fun u t H1 locs ht hvm hw2 hB hz1 hk1 hS => ?_)
  obtain ⟨held_3, tries_4, hf4_0, hP1, hK1, hD1⟩ := hB
  rw [ht] at hP1
  obtain ⟨hP, hD⟩ : xPD D A [oX10 xo tp rd rn co wy sg sh pl sp lf, oX5 rn hy rsa ria raa rta rga dead a0 tick held_3 tries_4 trips ldraw gdraw, oX3 pl pna pta rails limit retry behind] H1 := xjn 1 hP hD [2, 1] [0] hC9 rfl (by decide +kernel) (by decide +kernel) hk1 hFc hP1 hD1
  generalize H1 = H at hP hS ⊢
  have hf4_0 : M_turnKey a0 held retry tries = (held_3, tries_4) := hf4_0
  have h9M := congrArg (fun t9 => (K_x_key_2 r1 t9.1 t9.2)) hf4_0
  have hM : M_x_key key a0 held retry tries = (K_x_key_2 r1 held_3 tries_4) := (show M_x_key key a0 held retry tries = ((fun t9 => (K_x_key_2 r1 t9.1 t9.2)) (M_turnKey a0 held retry tries)) from (by rw [hw1]; exact hM)).trans h9M
  refine lv_iload_n hx hb dX10_key_23 rfl (lv_at hl 0 rfl) ?_
  refine W.widen (k := 0) (n := 0) (by decide) (by decide) ?_
  exact W.iret (v := r1) hx hb hr (fun t ht hW => ⟨⟨r1, r1, rfl, ⟨rfl, hw1⟩, ⟨held_3, tries_4, hM, xB_of9 ht hW hP hK hD [0, 2, 1] (by decide +kernel) rfl⟩⟩, hS.F ht⟩) hS.2.2 dX10_key_24
def K_x_dead_8 (r6 : Int32) (v9 : Int32) (wk_11 : Nat → Int32) : (Int32) × (Int32) × (Int32) × (Nat → Int32) × (Int32) := (r6, v9, (0 : Int32), wk_11, (0 : Int32))
def K_x_dead_6 (r6 : Int32) (dead : Int32) (v3 : Int32) (wk : Nat → Int32) : (Int32) × (Int32) × (Int32) × (Nat → Int32) × (Int32) := ((fun t9 => (K_x_dead_8 r6 (dead &&& (v3 ^^^ (-1 : Int32))) t9)) (M_forgetReckoned wk))
def K_x_dead_9 (r6 : Int32) (v12 : Int32) (wk_14 : Nat → Int32) : (Int32) × (Int32) × (Int32) × (Nat → Int32) × (Int32) := (r6, v12, (0 : Int32), wk_14, (0 : Int32))
def K_x_dead_7 (r6 : Int32) (dead : Int32) (v3 : Int32) (wk : Nat → Int32) : (Int32) × (Int32) × (Int32) × (Nat → Int32) × (Int32) := ((fun t9 => (K_x_dead_9 r6 (dead ||| v3) t9)) (M_forgetReckoned wk))
def K_x_dead_4 (a1 : Int32) (dead : Int32) (v3 : Int32) (wk : Nat → Int32) : (Int32) × (Int32) × (Int32) × (Nat → Int32) × (Int32) := (if a1.toInt = 0 then (K_x_dead_6 (sp_b (0 : Int32)) dead v3 wk) else (K_x_dead_7 (sp_b (0 : Int32)) dead v3 wk))
def K_x_dead_12 (r15 : Int32) (v18 : Int32) (wk_20 : Nat → Int32) : (Int32) × (Int32) × (Int32) × (Nat → Int32) × (Int32) := (r15, v18, (0 : Int32), wk_20, (0 : Int32))
def K_x_dead_10 (r15 : Int32) (dead : Int32) (v3 : Int32) (wk : Nat → Int32) : (Int32) × (Int32) × (Int32) × (Nat → Int32) × (Int32) := ((fun t9 => (K_x_dead_12 r15 (dead &&& (v3 ^^^ (-1 : Int32))) t9)) (M_forgetReckoned wk))
def K_x_dead_13 (r15 : Int32) (v21 : Int32) (wk_23 : Nat → Int32) : (Int32) × (Int32) × (Int32) × (Nat → Int32) × (Int32) := (r15, v21, (0 : Int32), wk_23, (0 : Int32))
def K_x_dead_11 (r15 : Int32) (dead : Int32) (v3 : Int32) (wk : Nat → Int32) : (Int32) × (Int32) × (Int32) × (Nat → Int32) × (Int32) := ((fun t9 => (K_x_dead_13 r15 (dead ||| v3) t9)) (M_forgetReckoned wk))
def K_x_dead_5 (a1 : Int32) (dead : Int32) (v3 : Int32) (wk : Nat → Int32) : (Int32) × (Int32) × (Int32) × (Nat → Int32) × (Int32) := (if a1.toInt = 0 then (K_x_dead_10 (sp_b (1 : Int32)) dead v3 wk) else (K_x_dead_11 (sp_b (1 : Int32)) dead v3 wk))
def K_x_dead_2 (dead : Int32) (a0 : Int32) (a1 : Int32) (wk : Nat → Int32) : (Int32) × (Int32) × (Int32) × (Nat → Int32) × (Int32) := (if (dead &&& ((1 : Int32) <<< (a0 &&& 31))).toInt = 0 then (K_x_dead_4 a1 dead ((1 : Int32) <<< (a0 &&& 31)) wk) else (K_x_dead_5 a1 dead ((1 : Int32) <<< (a0 &&& 31)) wk))
def K_x_dead_3 (dead : Int32) (pk : Int32) (wk : Nat → Int32) (kn : Int32) : (Int32) × (Int32) × (Int32) × (Nat → Int32) × (Int32) := ((-1 : Int32), dead, pk, wk, kn)
def K_x_dead_1 (a0 : Int32) (rails : Int32) (dead : Int32) (a1 : Int32) (wk : Nat → Int32) (pk : Int32) (kn : Int32) : (Int32) × (Int32) × (Int32) × (Nat → Int32) × (Int32) := (if 0 ≤ a0.toInt ∧ a0.toInt < rails.toInt then (K_x_dead_2 dead a0 a1 wk) else (K_x_dead_3 dead pk wk kn))
def M_x_dead (a0 : Int32) (rails : Int32) (dead : Int32) (a1 : Int32) (wk : Nat → Int32) (pk : Int32) (kn : Int32) : (Int32) × (Int32) × (Int32) × (Nat → Int32) × (Int32) := (K_x_dead_1 a0 rails dead a1 wk pk kn)
abbrev W_x_dead (cI cJ cZ cG cH : ClassId) (xo : Nat) (a0 : Int32) (a1 : Int32) (tp : Nat) (rd : Nat) (rn : Nat) (co : Nat) (wy : Nat) (sg : Nat) (sh : Nat) (pl : Nat) (sp : Nat) (lf : Int32) (pna : Nat) (pta : Nat) (rails : Int32) (limit : Int32) (retry : Int32) (behind : Int32) (hy : Nat) (rsa : Nat) (ria : Nat) (raa : Nat) (rta : Nat) (rga : Nat) (dead : Int32) (key : Int32) (tick : Int32) (held : Int32) (tries : Int32) (trips : Int32) (ldraw : Int32) (gdraw : Int32) (wba : Nat) (wka : Nat) (pk : Int32) (gpk : Int32) (lpk : Int32) (wk : Nat → Int32) (srwa : Nat) (kn : Int32) (slast : Int32) : va_W := [oX10 xo tp rd rn co wy sg sh pl sp lf, oX3 pl pna pta rails limit retry behind, oX5 rn hy rsa ria raa rta rga dead key tick held tries trips ldraw gdraw, oX9 wy co wba wka pk gpk lpk, oAI wka cZ 64 wk, oX7 sg co srwa kn slast]
abbrev Q_x_dead (D : va_G) (cI cJ cZ cG cH : ClassId) (xo : Nat) (a0 : Int32) (a1 : Int32) (tp : Nat) (rd : Nat) (rn : Nat) (co : Nat) (wy : Nat) (sg : Nat) (sh : Nat) (pl : Nat) (sp : Nat) (lf : Int32) (pna : Nat) (pta : Nat) (rails : Int32) (limit : Int32) (retry : Int32) (behind : Int32) (hy : Nat) (rsa : Nat) (ria : Nat) (raa : Nat) (rta : Nat) (rga : Nat) (dead : Int32) (key : Int32) (tick : Int32) (held : Int32) (tries : Int32) (trips : Int32) (ldraw : Int32) (gdraw : Int32) (wba : Nat) (wka : Nat) (pk : Int32) (gpk : Int32) (lpk : Int32) (wk : Nat → Int32) (srwa : Nat) (kn : Int32) (slast : Int32) (A : Nat → Prop) : Array Value → State → Outcome → State → Prop := va_Qi (fun (r : Int32) (u9 : Int32) => r = u9 ∧ (True)) (fun u9 t => ∃ (dead9 : Int32) (pk9 : Int32) (wk9 : Nat → Int32) (kn9 : Int32), (0 ≤ pk9.toInt ∧ pk9.toInt ≤ 1) ∧ (∀ j, j < 64 → 0 ≤ (wk9 j).toInt ∧ (wk9 j).toInt ≤ 1) ∧ (0 ≤ kn9.toInt ∧ kn9.toInt ≤ 1) ∧ (M_x_dead a0 rails dead a1 wk pk kn = (u9, dead9, pk9, wk9, kn9)) ∧ xB D (tyL cI cJ cZ cG cH) [oX10 xo tp rd rn co wy sg sh pl sp lf, oX3 pl pna pta rails limit retry behind, oX5 rn hy rsa ria raa rta rga dead9 key tick held tries trips ldraw gdraw, oX9 wy co wba wka pk9 gpk lpk, oAI wka cZ 64 wk9, oX7 sg co srwa kn9 slast] A t) A
abbrev rm_x_dead : Room := { frames := 2, cells := 0, slots := 0, locals := 41 }
set_option maxRecDepth 100000 in
set_option maxHeartbeats 40000000 in
theorem c_x_dead (l : Launch) (D : va_G) (cI cJ cZ cG cH : ClassId) (sz : Nat) (xo : Nat) (a0 : Int32) (a1 : Int32) (tp : Nat) (rd : Nat) (rn : Nat) (co : Nat) (wy : Nat) (sg : Nat) (sh : Nat) (pl : Nat) (sp : Nat) (lf : Int32) (pna : Nat) (pta : Nat) (rails : Int32) (limit : Int32) (retry : Int32) (behind : Int32) (hy : Nat) (rsa : Nat) (ria : Nat) (raa : Nat) (rta : Nat) (rga : Nat) (dead : Int32) (key : Int32) (tick : Int32) (held : Int32) (tries : Int32) (trips : Int32) (ldraw : Int32) (gdraw : Int32) (wba : Nat) (wka : Nat) (pk : Int32) (gpk : Int32) (lpk : Int32) (wk : Nat → Int32) (srwa : Nat) (kn : Int32) (slast : Int32) (h_rails : 0 ≤ rails.toInt ∧ rails.toInt ≤ 8) (h_key : 0 ≤ key.toInt ∧ key.toInt ≤ 1) (h_pk : 0 ≤ pk.toInt ∧ pk.toInt ≤ 1) (h_wk : ∀ j, j < 64 → 0 ≤ (wk j).toInt ∧ (wk j).toInt ≤ 1) (h_kn : 0 ≤ kn.toInt ∧ kn.toInt ≤ 1) : Met l yX10_dead (wt yX10_dead cX10_dead 5 (some .int)) rm_x_dead (xPc [.ref xo, .int a0, .int a1] D (tyL cI cJ cZ cG cH) (W_x_dead cI cJ cZ cG cH xo a0 a1 tp rd rn co wy sg sh pl sp lf pna pta rails limit retry behind hy rsa ria raa rta rga dead key tick held tries trips ldraw gdraw wba wka pk gpk lpk wk srwa kn slast) sz) (Q_x_dead D cI cJ cZ cG cH xo a0 a1 tp rd rn co wy sg sh pl sp lf pna pta rails limit retry behind hy rsa ria raa rta rga dead key tick held tries trips ldraw gdraw wba wka pk gpk lpk wk srwa kn slast (va_A (W_x_dead cI cJ cZ cG cH xo a0 a1 tp rd rn co wy sg sh pl sp lf pna pta rails limit retry behind hy rsa ria raa rta rga dead key tick held tries trips ldraw gdraw wba wka pk gpk lpk wk srwa kn slast) sz)) 0 0 (va_A (W_x_dead cI cJ cZ cG cH xo a0 a1 tp rd rn co wy sg sh pl sp lf pna pta rails limit retry behind hy rsa ria raa rta rga dead key tick held tries trips ldraw gdraw wba wka pk gpk lpk wk srwa kn slast) sz) := by
  refine xMet (cc := cX10_dead) (maxL := 5) (ret := (some .int)) (Qf := Q_x_dead D cI cJ cZ cG cH xo a0 a1 tp rd rn co wy sg sh pl sp lf pna pta rails limit retry behind hy rsa ria raa rta rga dead key tick held tries trips ldraw gdraw wba wka pk gpk lpk wk srwa kn slast) (by decide) rfl (Nat.le_of_ble_eq_true rfl) ?_
  intro p e s m below meth c ls A hx hb hr hml hts hown hlocks hnm hsz hP hK hD hA hS hl
  have hown : s.vm.findClass RX10 = some m.cls := hown
  have hP : va_P D vwCl [oX10 xo tp rd rn co wy sg sh pl sp lf, oX3 pl pna pta rails limit retry behind, oX5 rn hy rsa ria raa rta rga dead key tick held tries trips ldraw gdraw, oX9 wy co wba wka pk gpk lpk, oAI wka cZ 64 wk, oX7 sg co srwa kn slast] s.heap := hP
  have hD : va_D A [oX10 xo tp rd rn co wy sg sh pl sp lf, oX3 pl pna pta rails limit retry behind, oX5 rn hy rsa ria raa rta rga dead key tick held tries trips ldraw gdraw, oX9 wy co wba wka pk gpk lpk, oAI wka cZ 64 wk, oX7 sg co srwa kn slast] := hD
  have hl : lv_has ls 5 [(0, .ref xo), (1, .int a0), (2, .int a1)] := hl
  have hM : M_x_dead a0 rails dead a1 wk pk kn = (K_x_dead_1 a0 rails dead a1 wk pk kn) := rfl
  refine lv_aload_n hx hb dX10_dead_0 rfl (lv_at hl 0 rfl) ?_
  refine va_get (D := D) (ci := 9) (v := .ref pl) (C := RX10) (T := TX10) (N := 10) hx hb hts (fun w h => tbC w (tbfX10 w h)) hown hK hP 0 rfl rfl 7 (by decide) (hts (.fieldLink RX10 56 "PowerRails" "plan" "LPowerRails$Plan;") (tbC _ wd254)) (fun _ h9 => h9) rfl dX10_dead_1 ?_
  refine lv_iload_n hx hb dX10_dead_4 rfl (lv_at hl 1 rfl) ?_
  obtain ⟨hPc, hDc, hFc, hC9⟩ := xpk (wc := W_hasRail cI cJ cZ cG cH pl a0 pna pta rails limit retry behind) hP hD hS hA [1] (by decide +kernel) rfl
  refine va_calli (va_runV (As := [.int a0]) (rest := []) ⟨hx, hb, hml, hown, hts⟩ (c_hasRail l D cI cJ cZ cG cH s.heap.size pl a0 pna pta rails limit retry behind (xrng rfl (by omega) (by omega))) (cwV 1 hts (xGV tbC wd409 wd410 wd411 wd59 wd1009) rfl rfl rfl (by decide +kernel) ⟨Nat.le_of_ble_eq_true rfl, Nat.le_of_ble_eq_true rfl⟩) ⟨xPc_blind, va_recv hK hPc (ci := 2) (q0 := 0) rfl rfl, xPc_pre hPc hK hDc⟩ rfl rfl hl.1 rfl (lv_room (Nat.le_of_ble_eq_true rfl)) dX10_dead_5 ⟨Nat.le_of_ble_eq_true rfl, Nat.le_of_ble_eq_true rfl⟩) hS (fun q _ h => hFc q h) hFc (fun r1 u t H1 locs ht hvm hw1 hB hz1 hk1 hS => ?_)
  obtain ⟨hP1, hK1, hD1⟩ := hB
  rw [ht] at hP1
  obtain ⟨hP, hD⟩ : xPD D A [oX10 xo tp rd rn co wy sg sh pl sp lf, oX5 rn hy rsa ria raa rta rga dead key tick held tries trips ldraw gdraw, oX9 wy co wba wka pk gpk lpk, oAI wka cZ 64 wk, oX7 sg co srwa kn slast, oX3 pl pna pta rails limit retry behind] H1 := xjn 5 hP hD [1] [0, 2, 3, 4, 5] hC9 rfl (by decide +kernel) (by decide +kernel) hk1 hFc hP1 hD1
  generalize H1 = H at hP hS ⊢
  have hw1 : r1 = if 0 ≤ a0.toInt ∧ a0.toInt < rails.toInt then 1 else 0 := hw1
  refine lv_if_ne (tgt := 13) hx hb dX10_dead_8 (by decide) (fun c_2 => ?_) (fun c_2 => ?_)
  · skip
    have i_2 : 0 ≤ a0.toInt ∧ a0.toInt < rails.toInt := (xbool hw1).2.mp c_2
    have hM : M_x_dead a0 rails dead a1 wk pk kn = (K_x_dead_2 dead a0 a1 wk) := (show M_x_dead a0 rails dead a1 wk pk kn = (if 0 ≤ a0.toInt ∧ a0.toInt < rails.toInt then (K_x_dead_2 dead a0 a1 wk) else (K_x_dead_3 dead pk wk kn)) from hM).trans (if_pos i_2)
    refine lv_iconst (v := 1) hx hb dX10_dead_13 (by decide) ?_
    refine lv_iload_n hx hb dX10_dead_14 rfl (lv_at hl 1 rfl) ?_
    refine lv_ishl hx hb dX10_dead_15 ?_
    refine lv_topi (fun v3 ev3 => ?_)
    have rv3 : 1 ≤ v3.toInt ∧ v3.toInt ≤ 128 := xshl1 7 ev3 (show (a0 : Int32).toInt = a0.toInt from rfl) (by omega) (by omega) (by decide)
    refine lv_istore_n (lv' := [(3, .int v3), (0, .ref xo), (1, .int a0), (2, .int a1)]) hx hb dX10_dead_16 rfl hl (by decide) rfl (fun ls hl => ?_)
    refine lv_aload_n hx hb dX10_dead_17 rfl (lv_at hl 1 rfl) ?_
    refine va_get (D := D) (ci := 9) (v := .ref rn) (C := RX10) (T := TX10) (N := 10) hx hb hts (fun w h => tbC w (tbfX10 w h)) hown hK hP 0 rfl rfl 2 (by decide) (hts (.fieldLink RX10 19 "PowerRails" "run" "LPowerRails$Run;") (tbC _ wd249)) (fun _ h9 => h9) rfl dX10_dead_18 ?_
    refine va_get (D := D) (ci := 4) (v := .int dead) (C := RX5) (T := TX5) (N := 14) hx hb hts (fun w h => tbC w (tbfX5 w h)) hown hK hP 1 rfl rfl 6 (by decide) (hts (.fieldLink RX10 147 "PowerRails$Run" "dead" "I") (tbC _ wd118)) (fun _ h9 => h9) rfl dX10_dead_21 ?_
    refine lv_iload_n hx hb dX10_dead_24 rfl (lv_at hl 0 rfl) ?_
    refine lv_iand hx hb dX10_dead_25 ?_
    refine lv_topi (fun v4 ev4 => ?_)
    have rv4 : 0 ≤ v4.toInt ∧ v4.toInt ≤ v3.toInt := xandL ev4 (show (v3 : Int32).toInt = v3.toInt from rfl) (by omega)
    refine lv_if_eq (tgt := 33) hx hb dX10_dead_26 (by decide) (fun c_5 => ?_) (fun c_5 => ?_)
    · skip
      have i_5 : v4.toInt = 0 := (ieq rfl (by decide)).mp c_5
      have hM : M_x_dead a0 rails dead a1 wk pk kn = (K_x_dead_4 a1 dead v3 wk) := (show M_x_dead a0 rails dead a1 wk pk kn = (if v4.toInt = 0 then (K_x_dead_4 a1 dead v3 wk) else (K_x_dead_5 a1 dead v3 wk)) from (by rw [ev4, ev3]; exact hM)).trans (if_pos i_5)
      refine lv_iconst (v := 0) hx hb dX10_dead_33 (by decide) ?_
      obtain ⟨hPc, hDc, hFc, hC9⟩ := xpk (wc := W_asNumber cI cJ cZ cG cH (0 : Int32)) hP hD hS hA [] (by decide +kernel) rfl
      refine va_calli (va_runS (As := [.int 0]) (rest := []) ⟨hx, hb, hml, hown, hts⟩ (c_asNumber l D cI cJ cZ cG cH H.size (0 : Int32)) (va_cwS 1 hts (xGS tbC wd425 wd426 wd50 wd1014) rfl rfl rfl (by decide +kernel) ⟨Nat.le_of_ble_eq_true rfl, Nat.le_of_ble_eq_true rfl⟩) ⟨xPc_blind, xPc_pre hPc hK hDc⟩ rfl rfl hl.1 rfl (lv_room (Nat.le_of_ble_eq_true rfl)) dX10_dead_34 ⟨Nat.le_of_ble_eq_true rfl, Nat.le_of_ble_eq_true rfl⟩) hS (fun q _ h => hFc q h) hFc (fun r6 u t H1 locs ht hvm hw6 hB hz1 hk1 hS => ?_)
      obtain ⟨hP1, hK1, hD1⟩ := hB
      rw [ht] at hP1
      obtain ⟨hP, hD⟩ : xPD D A [oX10 xo tp rd rn co wy sg sh pl sp lf, oX5 rn hy rsa ria raa rta rga dead key tick held tries trips ldraw gdraw, oX9 wy co wba wka pk gpk lpk, oAI wka cZ 64 wk, oX7 sg co srwa kn slast, oX3 pl pna pta rails limit retry behind] H1 := xjn 6 hP hD [] [0, 1, 2, 3, 4, 5] hC9 rfl (by decide +kernel) (by decide +kernel) hk1 hFc hP1 hD1
      generalize H1 = H at hP hS ⊢
      have hw6 : r6 = sp_b (0 : Int32) := hw6
      refine lv_istore (lv' := [(4, .int r6), (3, .int v3), (0, .ref xo), (1, .int a0), (2, .int a1)]) hx hb dX10_dead_37 hl (by decide) rfl (fun ls hl => ?_)
      refine lv_aload_n hx hb dX10_dead_39 rfl (lv_at hl 2 rfl) ?_
      refine va_get (D := D) (ci := 9) (v := .ref rn) (C := RX10) (T := TX10) (N := 10) hx hb hts (fun w h => tbC w (tbfX10 w h)) hown hK hP 0 rfl rfl 2 (by decide) (hts (.fieldLink RX10 19 "PowerRails" "run" "LPowerRails$Run;") (tbC _ wd249)) (fun _ h9 => h9) rfl dX10_dead_40 ?_
      refine lv_iload_n hx hb dX10_dead_43 rfl (lv_at hl 4 rfl) ?_
      refine lv_if_eq (tgt := 59) hx hb dX10_dead_44 (by decide) (fun c_7 => ?_) (fun c_7 => ?_)
      · skip
        have i_7 : a1.toInt = 0 := (ieq rfl (by decide)).mp c_7
        have hM : M_x_dead a0 rails dead a1 wk pk kn = (K_x_dead_6 r6 dead v3 wk) := (show M_x_dead a0 rails dead a1 wk pk kn = (if a1.toInt = 0 then (K_x_dead_6 r6 dead v3 wk) else (K_x_dead_7 r6 dead v3 wk)) from (by rw [hw6]; exact hM)).trans (if_pos i_7)
        refine lv_aload_n hx hb dX10_dead_59 rfl (lv_at hl 2 rfl) ?_
        refine va_get (D := D) (ci := 9) (v := .ref rn) (C := RX10) (T := TX10) (N := 10) hx hb hts (fun w h => tbC w (tbfX10 w h)) hown hK hP 0 rfl rfl 2 (by decide) (hts (.fieldLink RX10 19 "PowerRails" "run" "LPowerRails$Run;") (tbC _ wd249)) (fun _ h9 => h9) rfl dX10_dead_60 ?_
        refine va_get (D := D) (ci := 4) (v := .int dead) (C := RX5) (T := TX5) (N := 14) hx hb hts (fun w h => tbC w (tbfX5 w h)) hown hK hP 1 rfl rfl 6 (by decide) (hts (.fieldLink RX10 147 "PowerRails$Run" "dead" "I") (tbC _ wd118)) (fun _ h9 => h9) rfl dX10_dead_63 ?_
        refine lv_iload_n hx hb dX10_dead_66 rfl (lv_at hl 1 rfl) ?_
        refine lv_iconst (v := (-1)) hx hb dX10_dead_67 (by decide) ?_
        refine lv_ixor hx hb dX10_dead_68 ?_
        refine lv_topi (fun v8 ev8 => ?_)
        refine lv_iand hx hb dX10_dead_69 ?_
        refine lv_topi (fun v9 ev9 => ?_)
        refine va_put (D := D) (ci := 4) (v := .int v9) (ty := .int) (C := RX5) (T := TX5) (N := 14) hx hb hts (fun w h => tbC w (tbfX5 w h)) tyX5 tyX5_ok nmX5 hown hK hP hD hS 1 rfl rfl 6 (by decide) (hts (.fieldLink RX10 147 "PowerRails$Run" "dead" "I") (tbC _ wd118)) (fun _ h9 => h9) rfl (by decide +kernel) rfl rfl (Nat.le_of_ble_eq_true rfl) dX10_dead_70 (fun H locs hP hD hS => ?_)
        obtain ⟨hP, hD⟩ : xPD D A [oX10 xo tp rd rn co wy sg sh pl sp lf, oX5 rn hy rsa ria raa rta rga v9 key tick held tries trips ldraw gdraw, oX9 wy co wba wka pk gpk lpk, oAI wka cZ 64 wk, oX7 sg co srwa kn slast, oX3 pl pna pta rails limit retry behind] H := ⟨hP, hD⟩
        refine lv_aload_n hx hb dX10_dead_73 rfl (lv_at hl 2 rfl) ?_
        obtain ⟨hPc, hDc, hFc, hC9⟩ := xpk (wc := W_forgetReckoned cI cJ cZ cG cH xo tp rd rn co wy sg sh pl sp lf wba wka pk gpk lpk wk srwa kn slast) hP hD hS hA [0, 2, 3, 4] (by decide +kernel) rfl
        refine va_callv (va_runV (As := []) (rest := []) ⟨hx, hb, hml, hown, hts⟩ (c_forgetReckoned l D cI cJ cZ cG cH H.size xo tp rd rn co wy sg sh pl sp lf wba wka pk gpk lpk wk srwa kn slast (xrng rfl (by omega) (by omega)) (xwk_rng h_wk (by decide) (by decide)) (xrng rfl (by omega) (by omega))) (cwV 0 hts (xGV tbC wd398 wd399 wd0 wd50 wd1005) rfl rfl rfl (by decide +kernel) ⟨Nat.le_of_ble_eq_true rfl, Nat.le_of_ble_eq_true rfl⟩) ⟨xPc_blind, va_recv hK hPc (ci := 9) (q0 := 0) rfl rfl, xPc_pre hPc hK hDc⟩ rfl rfl hl.1 rfl (lv_room (Nat.le_of_ble_eq_true rfl)) dX10_dead_74 ⟨Nat.le_of_ble_eq_true rfl, Nat.le_of_ble_eq_true rfl⟩) hS (fun q _ h => hFc q h) hFc (fun u t H1 locs ht hvm hw10 hB hz1 hk1 hS => ?_)
        obtain ⟨wk_11, hf11_0, hf11_1, hP1, hK1, hD1⟩ := hB
        rw [ht] at hP1
        obtain ⟨hP, hD⟩ : xPD D A [oX5 rn hy rsa ria raa rta rga v9 key tick held tries trips ldraw gdraw, oX3 pl pna pta rails limit retry behind, oX10 xo tp rd rn co wy sg sh pl sp lf, oX9 wy co wba wka 0 gpk lpk, oAI wka cZ 64 wk_11, oX7 sg co srwa 0 slast] H1 := xjn 2 hP hD [0, 2, 3, 4] [1, 5] hC9 rfl (by decide +kernel) (by decide +kernel) hk1 hFc hP1 hD1
        generalize H1 = H at hP hS ⊢
        have hf11_0 : ∀ j, j < 64 → 0 ≤ (wk_11 j).toInt ∧ (wk_11 j).toInt ≤ 1 := hf11_0
        have hf11_1 : M_forgetReckoned wk = (wk_11) := hf11_1
        have h9M := congrArg (fun t9 => (K_x_dead_8 r6 v9 t9)) hf11_1
        have hM : M_x_dead a0 rails dead a1 wk pk kn = (K_x_dead_8 r6 v9 wk_11) := (show M_x_dead a0 rails dead a1 wk pk kn = ((fun t9 => (K_x_dead_8 r6 v9 t9)) (M_forgetReckoned wk)) from (by rw [ev9, ev8]; exact hM)).trans h9M
        refine lv_iload hx hb dX10_dead_77 (lv_at hl 0 rfl) ?_
        refine W.widen (k := 0) (n := 0) (by decide) (by decide) ?_
        exact W.iret (v := r6) hx hb hr (fun t ht hW => ⟨⟨r6, r6, rfl, ⟨rfl, trivial⟩, ⟨v9, 0, wk_11, 0, ⟨by decide, by decide⟩, (xwk_rng hf11_0 (by decide) (by decide)), ⟨by decide, by decide⟩, hM, xB_of9 ht hW hP hK hD [2, 1, 0, 3, 4, 5] (by decide +kernel) rfl⟩⟩, hS.F ht⟩) hS.2.2 dX10_dead_79
      · skip
        have i_7 : ¬ (a1.toInt = 0) := fun h9 => c_7 ((ieq rfl (by decide)).mpr h9)
        have hM : M_x_dead a0 rails dead a1 wk pk kn = (K_x_dead_7 r6 dead v3 wk) := (show M_x_dead a0 rails dead a1 wk pk kn = (if a1.toInt = 0 then (K_x_dead_6 r6 dead v3 wk) else (K_x_dead_7 r6 dead v3 wk)) from (by rw [hw6]; exact hM)).trans (if_neg i_7)
        refine lv_aload_n hx hb dX10_dead_47 rfl (lv_at hl 2 rfl) ?_
        refine va_get (D := D) (ci := 9) (v := .ref rn) (C := RX10) (T := TX10) (N := 10) hx hb hts (fun w h => tbC w (tbfX10 w h)) hown hK hP 0 rfl rfl 2 (by decide) (hts (.fieldLink RX10 19 "PowerRails" "run" "LPowerRails$Run;") (tbC _ wd249)) (fun _ h9 => h9) rfl dX10_dead_48 ?_
        refine va_get (D := D) (ci := 4) (v := .int dead) (C := RX5) (T := TX5) (N := 14) hx hb hts (fun w h => tbC w (tbfX5 w h)) hown hK hP 1 rfl rfl 6 (by decide) (hts (.fieldLink RX10 147 "PowerRails$Run" "dead" "I") (tbC _ wd118)) (fun _ h9 => h9) rfl dX10_dead_51 ?_
        refine lv_iload_n hx hb dX10_dead_54 rfl (lv_at hl 1 rfl) ?_
        refine lv_ior hx hb dX10_dead_55 ?_
        refine lv_topi (fun v12 ev12 => ?_)
        refine lv_goto (tgt := 70) hx hb dX10_dead_56 (by decide) ?_
        refine va_put (D := D) (ci := 4) (v := .int v12) (ty := .int) (C := RX5) (T := TX5) (N := 14) hx hb hts (fun w h => tbC w (tbfX5 w h)) tyX5 tyX5_ok nmX5 hown hK hP hD hS 1 rfl rfl 6 (by decide) (hts (.fieldLink RX10 147 "PowerRails$Run" "dead" "I") (tbC _ wd118)) (fun _ h9 => h9) rfl (by decide +kernel) rfl rfl (Nat.le_of_ble_eq_true rfl) dX10_dead_70 (fun H locs hP hD hS => ?_)
        obtain ⟨hP, hD⟩ : xPD D A [oX10 xo tp rd rn co wy sg sh pl sp lf, oX5 rn hy rsa ria raa rta rga v12 key tick held tries trips ldraw gdraw, oX9 wy co wba wka pk gpk lpk, oAI wka cZ 64 wk, oX7 sg co srwa kn slast, oX3 pl pna pta rails limit retry behind] H := ⟨hP, hD⟩
        refine lv_aload_n hx hb dX10_dead_73 rfl (lv_at hl 2 rfl) ?_
        obtain ⟨hPc, hDc, hFc, hC9⟩ := xpk (wc := W_forgetReckoned cI cJ cZ cG cH xo tp rd rn co wy sg sh pl sp lf wba wka pk gpk lpk wk srwa kn slast) hP hD hS hA [0, 2, 3, 4] (by decide +kernel) rfl
        refine va_callv (va_runV (As := []) (rest := []) ⟨hx, hb, hml, hown, hts⟩ (c_forgetReckoned l D cI cJ cZ cG cH H.size xo tp rd rn co wy sg sh pl sp lf wba wka pk gpk lpk wk srwa kn slast (xrng rfl (by omega) (by omega)) (xwk_rng h_wk (by decide) (by decide)) (xrng rfl (by omega) (by omega))) (cwV 0 hts (xGV tbC wd398 wd399 wd0 wd50 wd1005) rfl rfl rfl (by decide +kernel) ⟨Nat.le_of_ble_eq_true rfl, Nat.le_of_ble_eq_true rfl⟩) ⟨xPc_blind, va_recv hK hPc (ci := 9) (q0 := 0) rfl rfl, xPc_pre hPc hK hDc⟩ rfl rfl hl.1 rfl (lv_room (Nat.le_of_ble_eq_true rfl)) dX10_dead_74 ⟨Nat.le_of_ble_eq_true rfl, Nat.le_of_ble_eq_true rfl⟩) hS (fun q _ h => hFc q h) hFc (fun u t H1 locs ht hvm hw13 hB hz1 hk1 hS => ?_)
        obtain ⟨wk_14, hf14_0, hf14_1, hP1, hK1, hD1⟩ := hB
        rw [ht] at hP1
        obtain ⟨hP, hD⟩ : xPD D A [oX5 rn hy rsa ria raa rta rga v12 key tick held tries trips ldraw gdraw, oX3 pl pna pta rails limit retry behind, oX10 xo tp rd rn co wy sg sh pl sp lf, oX9 wy co wba wka 0 gpk lpk, oAI wka cZ 64 wk_14, oX7 sg co srwa 0 slast] H1 := xjn 2 hP hD [0, 2, 3, 4] [1, 5] hC9 rfl (by decide +kernel) (by decide +kernel) hk1 hFc hP1 hD1
        generalize H1 = H at hP hS ⊢
        have hf14_0 : ∀ j, j < 64 → 0 ≤ (wk_14 j).toInt ∧ (wk_14 j).toInt ≤ 1 := hf14_0
        have hf14_1 : M_forgetReckoned wk = (wk_14) := hf14_1
        have h9M := congrArg (fun t9 => (K_x_dead_9 r6 v12 t9)) hf14_1
        have hM : M_x_dead a0 rails dead a1 wk pk kn = (K_x_dead_9 r6 v12 wk_14) := (show M_x_dead a0 rails dead a1 wk pk kn = ((fun t9 => (K_x_dead_9 r6 v12 t9)) (M_forgetReckoned wk)) from (by rw [ev12]; exact hM)).trans h9M
        refine lv_iload hx hb dX10_dead_77 (lv_at hl 0 rfl) ?_
        refine W.widen (k := 0) (n := 0) (by decide) (by decide) ?_
        exact W.iret (v := r6) hx hb hr (fun t ht hW => ⟨⟨r6, r6, rfl, ⟨rfl, trivial⟩, ⟨v12, 0, wk_14, 0, ⟨by decide, by decide⟩, (xwk_rng hf14_0 (by decide) (by decide)), ⟨by decide, by decide⟩, hM, xB_of9 ht hW hP hK hD [2, 1, 0, 3, 4, 5] (by decide +kernel) rfl⟩⟩, hS.F ht⟩) hS.2.2 dX10_dead_79
    · skip
      have i_5 : ¬ (v4.toInt = 0) := fun h9 => c_5 ((ieq rfl (by decide)).mpr h9)
      have hM : M_x_dead a0 rails dead a1 wk pk kn = (K_x_dead_5 a1 dead v3 wk) := (show M_x_dead a0 rails dead a1 wk pk kn = (if v4.toInt = 0 then (K_x_dead_4 a1 dead v3 wk) else (K_x_dead_5 a1 dead v3 wk)) from (by rw [ev4, ev3]; exact hM)).trans (if_neg i_5)
      refine lv_iconst (v := 1) hx hb dX10_dead_29 (by decide) ?_
      refine lv_goto (tgt := 34) hx hb dX10_dead_30 (by decide) ?_
      obtain ⟨hPc, hDc, hFc, hC9⟩ := xpk (wc := W_asNumber cI cJ cZ cG cH (1 : Int32)) hP hD hS hA [] (by decide +kernel) rfl
      refine va_calli (va_runS (As := [.int 1]) (rest := []) ⟨hx, hb, hml, hown, hts⟩ (c_asNumber l D cI cJ cZ cG cH H.size (1 : Int32)) (va_cwS 1 hts (xGS tbC wd425 wd426 wd50 wd1014) rfl rfl rfl (by decide +kernel) ⟨Nat.le_of_ble_eq_true rfl, Nat.le_of_ble_eq_true rfl⟩) ⟨xPc_blind, xPc_pre hPc hK hDc⟩ rfl rfl hl.1 rfl (lv_room (Nat.le_of_ble_eq_true rfl)) dX10_dead_34 ⟨Nat.le_of_ble_eq_true rfl, Nat.le_of_ble_eq_true rfl⟩) hS (fun q _ h => hFc q h) hFc (fun r15 u t H1 locs ht hvm hw15 hB hz1 hk1 hS => ?_)
      obtain ⟨hP1, hK1, hD1⟩ := hB
      rw [ht] at hP1
      obtain ⟨hP, hD⟩ : xPD D A [oX10 xo tp rd rn co wy sg sh pl sp lf, oX5 rn hy rsa ria raa rta rga dead key tick held tries trips ldraw gdraw, oX9 wy co wba wka pk gpk lpk, oAI wka cZ 64 wk, oX7 sg co srwa kn slast, oX3 pl pna pta rails limit retry behind] H1 := xjn 6 hP hD [] [0, 1, 2, 3, 4, 5] hC9 rfl (by decide +kernel) (by decide +kernel) hk1 hFc hP1 hD1
      generalize H1 = H at hP hS ⊢
      have hw15 : r15 = sp_b (1 : Int32) := hw15
      refine lv_istore (lv' := [(4, .int r15), (3, .int v3), (0, .ref xo), (1, .int a0), (2, .int a1)]) hx hb dX10_dead_37 hl (by decide) rfl (fun ls hl => ?_)
      refine lv_aload_n hx hb dX10_dead_39 rfl (lv_at hl 2 rfl) ?_
      refine va_get (D := D) (ci := 9) (v := .ref rn) (C := RX10) (T := TX10) (N := 10) hx hb hts (fun w h => tbC w (tbfX10 w h)) hown hK hP 0 rfl rfl 2 (by decide) (hts (.fieldLink RX10 19 "PowerRails" "run" "LPowerRails$Run;") (tbC _ wd249)) (fun _ h9 => h9) rfl dX10_dead_40 ?_
      refine lv_iload_n hx hb dX10_dead_43 rfl (lv_at hl 4 rfl) ?_
      refine lv_if_eq (tgt := 59) hx hb dX10_dead_44 (by decide) (fun c_16 => ?_) (fun c_16 => ?_)
      · skip
        have i_16 : a1.toInt = 0 := (ieq rfl (by decide)).mp c_16
        have hM : M_x_dead a0 rails dead a1 wk pk kn = (K_x_dead_10 r15 dead v3 wk) := (show M_x_dead a0 rails dead a1 wk pk kn = (if a1.toInt = 0 then (K_x_dead_10 r15 dead v3 wk) else (K_x_dead_11 r15 dead v3 wk)) from (by rw [hw15]; exact hM)).trans (if_pos i_16)
        refine lv_aload_n hx hb dX10_dead_59 rfl (lv_at hl 2 rfl) ?_
        refine va_get (D := D) (ci := 9) (v := .ref rn) (C := RX10) (T := TX10) (N := 10) hx hb hts (fun w h => tbC w (tbfX10 w h)) hown hK hP 0 rfl rfl 2 (by decide) (hts (.fieldLink RX10 19 "PowerRails" "run" "LPowerRails$Run;") (tbC _ wd249)) (fun _ h9 => h9) rfl dX10_dead_60 ?_
        refine va_get (D := D) (ci := 4) (v := .int dead) (C := RX5) (T := TX5) (N := 14) hx hb hts (fun w h => tbC w (tbfX5 w h)) hown hK hP 1 rfl rfl 6 (by decide) (hts (.fieldLink RX10 147 "PowerRails$Run" "dead" "I") (tbC _ wd118)) (fun _ h9 => h9) rfl dX10_dead_63 ?_
        refine lv_iload_n hx hb dX10_dead_66 rfl (lv_at hl 1 rfl) ?_
        refine lv_iconst (v := (-1)) hx hb dX10_dead_67 (by decide) ?_
        refine lv_ixor hx hb dX10_dead_68 ?_
        refine lv_topi (fun v17 ev17 => ?_)
        refine lv_iand hx hb dX10_dead_69 ?_
        refine lv_topi (fun v18 ev18 => ?_)
        refine va_put (D := D) (ci := 4) (v := .int v18) (ty := .int) (C := RX5) (T := TX5) (N := 14) hx hb hts (fun w h => tbC w (tbfX5 w h)) tyX5 tyX5_ok nmX5 hown hK hP hD hS 1 rfl rfl 6 (by decide) (hts (.fieldLink RX10 147 "PowerRails$Run" "dead" "I") (tbC _ wd118)) (fun _ h9 => h9) rfl (by decide +kernel) rfl rfl (Nat.le_of_ble_eq_true rfl) dX10_dead_70 (fun H locs hP hD hS => ?_)
        obtain ⟨hP, hD⟩ : xPD D A [oX10 xo tp rd rn co wy sg sh pl sp lf, oX5 rn hy rsa ria raa rta rga v18 key tick held tries trips ldraw gdraw, oX9 wy co wba wka pk gpk lpk, oAI wka cZ 64 wk, oX7 sg co srwa kn slast, oX3 pl pna pta rails limit retry behind] H := ⟨hP, hD⟩
        refine lv_aload_n hx hb dX10_dead_73 rfl (lv_at hl 2 rfl) ?_
        obtain ⟨hPc, hDc, hFc, hC9⟩ := xpk (wc := W_forgetReckoned cI cJ cZ cG cH xo tp rd rn co wy sg sh pl sp lf wba wka pk gpk lpk wk srwa kn slast) hP hD hS hA [0, 2, 3, 4] (by decide +kernel) rfl
        refine va_callv (va_runV (As := []) (rest := []) ⟨hx, hb, hml, hown, hts⟩ (c_forgetReckoned l D cI cJ cZ cG cH H.size xo tp rd rn co wy sg sh pl sp lf wba wka pk gpk lpk wk srwa kn slast (xrng rfl (by omega) (by omega)) (xwk_rng h_wk (by decide) (by decide)) (xrng rfl (by omega) (by omega))) (cwV 0 hts (xGV tbC wd398 wd399 wd0 wd50 wd1005) rfl rfl rfl (by decide +kernel) ⟨Nat.le_of_ble_eq_true rfl, Nat.le_of_ble_eq_true rfl⟩) ⟨xPc_blind, va_recv hK hPc (ci := 9) (q0 := 0) rfl rfl, xPc_pre hPc hK hDc⟩ rfl rfl hl.1 rfl (lv_room (Nat.le_of_ble_eq_true rfl)) dX10_dead_74 ⟨Nat.le_of_ble_eq_true rfl, Nat.le_of_ble_eq_true rfl⟩) hS (fun q _ h => hFc q h) hFc (fun u t H1 locs ht hvm hw19 hB hz1 hk1 hS => ?_)
        obtain ⟨wk_20, hf20_0, hf20_1, hP1, hK1, hD1⟩ := hB
        rw [ht] at hP1
        obtain ⟨hP, hD⟩ : xPD D A [oX5 rn hy rsa ria raa rta rga v18 key tick held tries trips ldraw gdraw, oX3 pl pna pta rails limit retry behind, oX10 xo tp rd rn co wy sg sh pl sp lf, oX9 wy co wba wka 0 gpk lpk, oAI wka cZ 64 wk_20, oX7 sg co srwa 0 slast] H1 := xjn 2 hP hD [0, 2, 3, 4] [1, 5] hC9 rfl (by decide +kernel) (by decide +kernel) hk1 hFc hP1 hD1
        generalize H1 = H at hP hS ⊢
        have hf20_0 : ∀ j, j < 64 → 0 ≤ (wk_20 j).toInt ∧ (wk_20 j).toInt ≤ 1 := hf20_0
        have hf20_1 : M_forgetReckoned wk = (wk_20) := hf20_1
        have h9M := congrArg (fun t9 => (K_x_dead_12 r15 v18 t9)) hf20_1
        have hM : M_x_dead a0 rails dead a1 wk pk kn = (K_x_dead_12 r15 v18 wk_20) := (show M_x_dead a0 rails dead a1 wk pk kn = ((fun t9 => (K_x_dead_12 r15 v18 t9)) (M_forgetReckoned wk)) from (by rw [ev18, ev17]; exact hM)).trans h9M
        refine lv_iload hx hb dX10_dead_77 (lv_at hl 0 rfl) ?_
        refine W.widen (k := 0) (n := 0) (by decide) (by decide) ?_
        exact W.iret (v := r15) hx hb hr (fun t ht hW => ⟨⟨r15, r15, rfl, ⟨rfl, trivial⟩, ⟨v18, 0, wk_20, 0, ⟨by decide, by decide⟩, (xwk_rng hf20_0 (by decide) (by decide)), ⟨by decide, by decide⟩, hM, xB_of9 ht hW hP hK hD [2, 1, 0, 3, 4, 5] (by decide +kernel) rfl⟩⟩, hS.F ht⟩) hS.2.2 dX10_dead_79
      · skip
        have i_16 : ¬ (a1.toInt = 0) := fun h9 => c_16 ((ieq rfl (by decide)).mpr h9)
        have hM : M_x_dead a0 rails dead a1 wk pk kn = (K_x_dead_11 r15 dead v3 wk) := (show M_x_dead a0 rails dead a1 wk pk kn = (if a1.toInt = 0 then (K_x_dead_10 r15 dead v3 wk) else (K_x_dead_11 r15 dead v3 wk)) from (by rw [hw15]; exact hM)).trans (if_neg i_16)
        refine lv_aload_n hx hb dX10_dead_47 rfl (lv_at hl 2 rfl) ?_
        refine va_get (D := D) (ci := 9) (v := .ref rn) (C := RX10) (T := TX10) (N := 10) hx hb hts (fun w h => tbC w (tbfX10 w h)) hown hK hP 0 rfl rfl 2 (by decide) (hts (.fieldLink RX10 19 "PowerRails" "run" "LPowerRails$Run;") (tbC _ wd249)) (fun _ h9 => h9) rfl dX10_dead_48 ?_
        refine va_get (D := D) (ci := 4) (v := .int dead) (C := RX5) (T := TX5) (N := 14) hx hb hts (fun w h => tbC w (tbfX5 w h)) hown hK hP 1 rfl rfl 6 (by decide) (hts (.fieldLink RX10 147 "PowerRails$Run" "dead" "I") (tbC _ wd118)) (fun _ h9 => h9) rfl dX10_dead_51 ?_
        refine lv_iload_n hx hb dX10_dead_54 rfl (lv_at hl 1 rfl) ?_
        refine lv_ior hx hb dX10_dead_55 ?_
        refine lv_topi (fun v21 ev21 => ?_)
        refine lv_goto (tgt := 70) hx hb dX10_dead_56 (by decide) ?_
        refine va_put (D := D) (ci := 4) (v := .int v21) (ty := .int) (C := RX5) (T := TX5) (N := 14) hx hb hts (fun w h => tbC w (tbfX5 w h)) tyX5 tyX5_ok nmX5 hown hK hP hD hS 1 rfl rfl 6 (by decide) (hts (.fieldLink RX10 147 "PowerRails$Run" "dead" "I") (tbC _ wd118)) (fun _ h9 => h9) rfl (by decide +kernel) rfl rfl (Nat.le_of_ble_eq_true rfl) dX10_dead_70 (fun H locs hP hD hS => ?_)
        obtain ⟨hP, hD⟩ : xPD D A [oX10 xo tp rd rn co wy sg sh pl sp lf, oX5 rn hy rsa ria raa rta rga v21 key tick held tries trips ldraw gdraw, oX9 wy co wba wka pk gpk lpk, oAI wka cZ 64 wk, oX7 sg co srwa kn slast, oX3 pl pna pta rails limit retry behind] H := ⟨hP, hD⟩
        refine lv_aload_n hx hb dX10_dead_73 rfl (lv_at hl 2 rfl) ?_
        obtain ⟨hPc, hDc, hFc, hC9⟩ := xpk (wc := W_forgetReckoned cI cJ cZ cG cH xo tp rd rn co wy sg sh pl sp lf wba wka pk gpk lpk wk srwa kn slast) hP hD hS hA [0, 2, 3, 4] (by decide +kernel) rfl
        refine va_callv (va_runV (As := []) (rest := []) ⟨hx, hb, hml, hown, hts⟩ (c_forgetReckoned l D cI cJ cZ cG cH H.size xo tp rd rn co wy sg sh pl sp lf wba wka pk gpk lpk wk srwa kn slast (xrng rfl (by omega) (by omega)) (xwk_rng h_wk (by decide) (by decide)) (xrng rfl (by omega) (by omega))) (cwV 0 hts (xGV tbC wd398 wd399 wd0 wd50 wd1005) rfl rfl rfl (by decide +kernel) ⟨Nat.le_of_ble_eq_true rfl, Nat.le_of_ble_eq_true rfl⟩) ⟨xPc_blind, va_recv hK hPc (ci := 9) (q0 := 0) rfl rfl, xPc_pre hPc hK hDc⟩ rfl rfl hl.1 rfl (lv_room (Nat.le_of_ble_eq_true rfl)) dX10_dead_74 ⟨Nat.le_of_ble_eq_true rfl, Nat.le_of_ble_eq_true rfl⟩) hS (fun q _ h => hFc q h) hFc (fun u t H1 locs ht hvm hw22 hB hz1 hk1 hS => ?_)
        obtain ⟨wk_23, hf23_0, hf23_1, hP1, hK1, hD1⟩ := hB
        rw [ht] at hP1
        obtain ⟨hP, hD⟩ : xPD D A [oX5 rn hy rsa ria raa rta rga v21 key tick held tries trips ldraw gdraw, oX3 pl pna pta rails limit retry behind, oX10 xo tp rd rn co wy sg sh pl sp lf, oX9 wy co wba wka 0 gpk lpk, oAI wka cZ 64 wk_23, oX7 sg co srwa 0 slast] H1 := xjn 2 hP hD [0, 2, 3, 4] [1, 5] hC9 rfl (by decide +kernel) (by decide +kernel) hk1 hFc hP1 hD1
        generalize H1 = H at hP hS ⊢
        have hf23_0 : ∀ j, j < 64 → 0 ≤ (wk_23 j).toInt ∧ (wk_23 j).toInt ≤ 1 := hf23_0
        have hf23_1 : M_forgetReckoned wk = (wk_23) := hf23_1
        have h9M := congrArg (fun t9 => (K_x_dead_13 r15 v21 t9)) hf23_1
        have hM : M_x_dead a0 rails dead a1 wk pk kn = (K_x_dead_13 r15 v21 wk_23) := (show M_x_dead a0 rails dead a1 wk pk kn = ((fun t9 => (K_x_dead_13 r15 v21 t9)) (M_forgetReckoned wk)) from (by rw [ev21]; exact hM)).trans h9M
        refine lv_iload hx hb dX10_dead_77 (lv_at hl 0 rfl) ?_
        refine W.widen (k := 0) (n := 0) (by decide) (by decide) ?_
        exact W.iret (v := r15) hx hb hr (fun t ht hW => ⟨⟨r15, r15, rfl, ⟨rfl, trivial⟩, ⟨v21, 0, wk_23, 0, ⟨by decide, by decide⟩, (xwk_rng hf23_0 (by decide) (by decide)), ⟨by decide, by decide⟩, hM, xB_of9 ht hW hP hK hD [2, 1, 0, 3, 4, 5] (by decide +kernel) rfl⟩⟩, hS.F ht⟩) hS.2.2 dX10_dead_79
  · skip
    have i_2 : ¬ (0 ≤ a0.toInt ∧ a0.toInt < rails.toInt) := (xbool hw1).1.mp c_2
    have hM : M_x_dead a0 rails dead a1 wk pk kn = (K_x_dead_3 dead pk wk kn) := (show M_x_dead a0 rails dead a1 wk pk kn = (if 0 ≤ a0.toInt ∧ a0.toInt < rails.toInt then (K_x_dead_2 dead a0 a1 wk) else (K_x_dead_3 dead pk wk kn)) from hM).trans (if_neg i_2)
    refine lv_iconst (v := (-1)) hx hb dX10_dead_11 (by decide) ?_
    refine W.widen (k := 0) (n := 0) (by decide) (by decide) ?_
    exact W.iret (v := (-1)) hx hb hr (fun t ht hW => ⟨⟨(-1), (-1), rfl, ⟨rfl, trivial⟩, ⟨dead, pk, wk, kn, (xrng rfl (by omega) (by omega)), (xwk_rng h_wk (by decide) (by decide)), (xrng rfl (by omega) (by omega)), hM, xB_of9 ht hW hP hK hD [0, 5, 1, 2, 3, 4] (by decide +kernel) rfl⟩⟩, hS.F ht⟩) hS.2.2 dX10_dead_12
def K_x_time_5 (rt : Nat → Int32) (pk : Int32) (wk : Nat → Int32) (kn : Int32) : (Int32) × (Nat → Int32) × (Int32) × (Nat → Int32) × (Int32) := ((-1 : Int32), rt, pk, wk, kn)
def K_x_time_10 (v7 : Int32) (f8 : Nat → Int32) (wk_10 : Nat → Int32) : (Int32) × (Nat → Int32) × (Int32) × (Nat → Int32) × (Int32) := (v7, f8, (0 : Int32), wk_10, (0 : Int32))
def K_x_time_8 (rt : Nat → Int32) (a0 : Int32) (a1 : Int32) (wk : Nat → Int32) : (Int32) × (Nat → Int32) × (Int32) × (Nat → Int32) × (Int32) := ((fun t9 => (K_x_time_10 (rt a0.toNatClampNeg) (upd rt (a0 : Int32).toNatClampNeg a1) t9)) (M_forgetReckoned wk))
def K_x_time_9 (rt : Nat → Int32) (pk : Int32) (wk : Nat → Int32) (kn : Int32) : (Int32) × (Nat → Int32) × (Int32) × (Nat → Int32) × (Int32) := ((-1 : Int32), rt, pk, wk, kn)
def K_x_time_7 (a1 : Int32) (r5 : Int32) (rt : Nat → Int32) (a0 : Int32) (wk : Nat → Int32) (pk : Int32) (kn : Int32) : (Int32) × (Nat → Int32) × (Int32) × (Nat → Int32) × (Int32) := (if a1.toInt ≤ r5.toInt then (K_x_time_8 rt a0 a1 wk) else (K_x_time_9 rt pk wk kn))
def K_x_time_6 (a1 : Int32) (rt : Nat → Int32) (a0 : Int32) (wk : Nat → Int32) (pk : Int32) (kn : Int32) (pn : Nat → Int32) : (Int32) × (Nat → Int32) × (Int32) × (Nat → Int32) × (Int32) := ((fun t9 => (K_x_time_7 a1 t9 rt a0 wk pk kn)) (M_number pn a0 (1 : Int32)))
def K_x_time_4 (a1 : Int32) (r3 : Int32) (rt : Nat → Int32) (pk : Int32) (wk : Nat → Int32) (kn : Int32) (a0 : Int32) (pn : Nat → Int32) : (Int32) × (Nat → Int32) × (Int32) × (Nat → Int32) × (Int32) := (if a1.toInt < r3.toInt then (K_x_time_5 rt pk wk kn) else (K_x_time_6 a1 rt a0 wk pk kn pn))
def K_x_time_3 (a1 : Int32) (rt : Nat → Int32) (pk : Int32) (wk : Nat → Int32) (kn : Int32) (a0 : Int32) (pn : Nat → Int32) : (Int32) × (Nat → Int32) × (Int32) × (Nat → Int32) × (Int32) := ((fun t9 => (K_x_time_4 a1 t9 rt pk wk kn a0 pn)) (M_number pn a0 (0 : Int32)))
def K_x_time_2 (rt : Nat → Int32) (pk : Int32) (wk : Nat → Int32) (kn : Int32) : (Int32) × (Nat → Int32) × (Int32) × (Nat → Int32) × (Int32) := ((-1 : Int32), rt, pk, wk, kn)
def K_x_time_1 (a0 : Int32) (rails : Int32) (a1 : Int32) (rt : Nat → Int32) (pk : Int32) (wk : Nat → Int32) (kn : Int32) (pn : Nat → Int32) : (Int32) × (Nat → Int32) × (Int32) × (Nat → Int32) × (Int32) := (if 0 ≤ a0.toInt ∧ a0.toInt < rails.toInt then (K_x_time_3 a1 rt pk wk kn a0 pn) else (K_x_time_2 rt pk wk kn))
def M_x_time (a0 : Int32) (rails : Int32) (a1 : Int32) (rt : Nat → Int32) (pk : Int32) (wk : Nat → Int32) (kn : Int32) (pn : Nat → Int32) : (Int32) × (Nat → Int32) × (Int32) × (Nat → Int32) × (Int32) := (K_x_time_1 a0 rails a1 rt pk wk kn pn)
abbrev W_x_time (cI cJ cZ cG cH : ClassId) (xo : Nat) (a0 : Int32) (a1 : Int32) (tp : Nat) (rd : Nat) (rn : Nat) (co : Nat) (wy : Nat) (sg : Nat) (sh : Nat) (pl : Nat) (sp : Nat) (lf : Int32) (pna : Nat) (pta : Nat) (rails : Int32) (limit : Int32) (retry : Int32) (behind : Int32) (pn : Nat → Int32) (hy : Nat) (rsa : Nat) (ria : Nat) (raa : Nat) (rta : Nat) (rga : Nat) (dead : Int32) (key : Int32) (tick : Int32) (held : Int32) (tries : Int32) (trips : Int32) (ldraw : Int32) (gdraw : Int32) (rt : Nat → Int32) (wba : Nat) (wka : Nat) (pk : Int32) (gpk : Int32) (lpk : Int32) (wk : Nat → Int32) (srwa : Nat) (kn : Int32) (slast : Int32) : va_W := [oX10 xo tp rd rn co wy sg sh pl sp lf, oX3 pl pna pta rails limit retry behind, oAI pna cI 64 pn, oX5 rn hy rsa ria raa rta rga dead key tick held tries trips ldraw gdraw, oAI rta cI 8 rt, oX9 wy co wba wka pk gpk lpk, oAI wka cZ 64 wk, oX7 sg co srwa kn slast]
abbrev Q_x_time (D : va_G) (cI cJ cZ cG cH : ClassId) (xo : Nat) (a0 : Int32) (a1 : Int32) (tp : Nat) (rd : Nat) (rn : Nat) (co : Nat) (wy : Nat) (sg : Nat) (sh : Nat) (pl : Nat) (sp : Nat) (lf : Int32) (pna : Nat) (pta : Nat) (rails : Int32) (limit : Int32) (retry : Int32) (behind : Int32) (pn : Nat → Int32) (hy : Nat) (rsa : Nat) (ria : Nat) (raa : Nat) (rta : Nat) (rga : Nat) (dead : Int32) (key : Int32) (tick : Int32) (held : Int32) (tries : Int32) (trips : Int32) (ldraw : Int32) (gdraw : Int32) (rt : Nat → Int32) (wba : Nat) (wka : Nat) (pk : Int32) (gpk : Int32) (lpk : Int32) (wk : Nat → Int32) (srwa : Nat) (kn : Int32) (slast : Int32) (A : Nat → Prop) : Array Value → State → Outcome → State → Prop := va_Qi (fun (r : Int32) (u9 : Int32) => r = u9 ∧ ((-1) ≤ r.toInt ∧ r.toInt ≤ 511)) (fun u9 t => ∃ (rt9 : Nat → Int32) (pk9 : Int32) (wk9 : Nat → Int32) (kn9 : Int32), (∀ j, j < 8 → 0 ≤ (rt9 j).toInt ∧ (rt9 j).toInt ≤ 511) ∧ (0 ≤ pk9.toInt ∧ pk9.toInt ≤ 1) ∧ (∀ j, j < 64 → 0 ≤ (wk9 j).toInt ∧ (wk9 j).toInt ≤ 1) ∧ (0 ≤ kn9.toInt ∧ kn9.toInt ≤ 1) ∧ (M_x_time a0 rails a1 rt pk wk kn pn = (u9, rt9, pk9, wk9, kn9)) ∧ xB D (tyL cI cJ cZ cG cH) [oX10 xo tp rd rn co wy sg sh pl sp lf, oX3 pl pna pta rails limit retry behind, oAI pna cI 64 pn, oX5 rn hy rsa ria raa rta rga dead key tick held tries trips ldraw gdraw, oAI rta cI 8 rt9, oX9 wy co wba wka pk9 gpk lpk, oAI wka cZ 64 wk9, oX7 sg co srwa kn9 slast] A t) A
abbrev rm_x_time : Room := { frames := 2, cells := 0, slots := 0, locals := 41 }
set_option maxRecDepth 100000 in
set_option maxHeartbeats 40000000 in
theorem c_x_time (l : Launch) (D : va_G) (cI cJ cZ cG cH : ClassId) (sz : Nat) (xo : Nat) (a0 : Int32) (a1 : Int32) (tp : Nat) (rd : Nat) (rn : Nat) (co : Nat) (wy : Nat) (sg : Nat) (sh : Nat) (pl : Nat) (sp : Nat) (lf : Int32) (pna : Nat) (pta : Nat) (rails : Int32) (limit : Int32) (retry : Int32) (behind : Int32) (pn : Nat → Int32) (hy : Nat) (rsa : Nat) (ria : Nat) (raa : Nat) (rta : Nat) (rga : Nat) (dead : Int32) (key : Int32) (tick : Int32) (held : Int32) (tries : Int32) (trips : Int32) (ldraw : Int32) (gdraw : Int32) (rt : Nat → Int32) (wba : Nat) (wka : Nat) (pk : Int32) (gpk : Int32) (lpk : Int32) (wk : Nat → Int32) (srwa : Nat) (kn : Int32) (slast : Int32) (h_rails : 0 ≤ rails.toInt ∧ rails.toInt ≤ 8) (h_pn : ∀ j, j < 64 → 0 ≤ (pn j).toInt ∧ (pn j).toInt ≤ 511) (h_key : 0 ≤ key.toInt ∧ key.toInt ≤ 1) (h_rt : ∀ j, j < 8 → 0 ≤ (rt j).toInt ∧ (rt j).toInt ≤ 511) (h_pk : 0 ≤ pk.toInt ∧ pk.toInt ≤ 1) (h_wk : ∀ j, j < 64 → 0 ≤ (wk j).toInt ∧ (wk j).toInt ≤ 1) (h_kn : 0 ≤ kn.toInt ∧ kn.toInt ≤ 1) : Met l yX10_time (wt yX10_time cX10_time 4 (some .int)) rm_x_time (xPc [.ref xo, .int a0, .int a1] D (tyL cI cJ cZ cG cH) (W_x_time cI cJ cZ cG cH xo a0 a1 tp rd rn co wy sg sh pl sp lf pna pta rails limit retry behind pn hy rsa ria raa rta rga dead key tick held tries trips ldraw gdraw rt wba wka pk gpk lpk wk srwa kn slast) sz) (Q_x_time D cI cJ cZ cG cH xo a0 a1 tp rd rn co wy sg sh pl sp lf pna pta rails limit retry behind pn hy rsa ria raa rta rga dead key tick held tries trips ldraw gdraw rt wba wka pk gpk lpk wk srwa kn slast (va_A (W_x_time cI cJ cZ cG cH xo a0 a1 tp rd rn co wy sg sh pl sp lf pna pta rails limit retry behind pn hy rsa ria raa rta rga dead key tick held tries trips ldraw gdraw rt wba wka pk gpk lpk wk srwa kn slast) sz)) 0 0 (va_A (W_x_time cI cJ cZ cG cH xo a0 a1 tp rd rn co wy sg sh pl sp lf pna pta rails limit retry behind pn hy rsa ria raa rta rga dead key tick held tries trips ldraw gdraw rt wba wka pk gpk lpk wk srwa kn slast) sz) := by
  refine xMet (cc := cX10_time) (maxL := 4) (ret := (some .int)) (Qf := Q_x_time D cI cJ cZ cG cH xo a0 a1 tp rd rn co wy sg sh pl sp lf pna pta rails limit retry behind pn hy rsa ria raa rta rga dead key tick held tries trips ldraw gdraw rt wba wka pk gpk lpk wk srwa kn slast) (by decide) rfl (Nat.le_of_ble_eq_true rfl) ?_
  intro p e s m below meth c ls A hx hb hr hml hts hown hlocks hnm hsz hP hK hD hA hS hl
  have hown : s.vm.findClass RX10 = some m.cls := hown
  have hP : va_P D vwCl [oX10 xo tp rd rn co wy sg sh pl sp lf, oX3 pl pna pta rails limit retry behind, oAI pna cI 64 pn, oX5 rn hy rsa ria raa rta rga dead key tick held tries trips ldraw gdraw, oAI rta cI 8 rt, oX9 wy co wba wka pk gpk lpk, oAI wka cZ 64 wk, oX7 sg co srwa kn slast] s.heap := hP
  have hD : va_D A [oX10 xo tp rd rn co wy sg sh pl sp lf, oX3 pl pna pta rails limit retry behind, oAI pna cI 64 pn, oX5 rn hy rsa ria raa rta rga dead key tick held tries trips ldraw gdraw, oAI rta cI 8 rt, oX9 wy co wba wka pk gpk lpk, oAI wka cZ 64 wk, oX7 sg co srwa kn slast] := hD
  have hl : lv_has ls 4 [(0, .ref xo), (1, .int a0), (2, .int a1)] := hl
  have hM : M_x_time a0 rails a1 rt pk wk kn pn = (K_x_time_1 a0 rails a1 rt pk wk kn pn) := rfl
  refine lv_aload_n hx hb dX10_time_0 rfl (lv_at hl 0 rfl) ?_
  refine va_get (D := D) (ci := 9) (v := .ref pl) (C := RX10) (T := TX10) (N := 10) hx hb hts (fun w h => tbC w (tbfX10 w h)) hown hK hP 0 rfl rfl 7 (by decide) (hts (.fieldLink RX10 56 "PowerRails" "plan" "LPowerRails$Plan;") (tbC _ wd254)) (fun _ h9 => h9) rfl dX10_time_1 ?_
  refine lv_iload_n hx hb dX10_time_4 rfl (lv_at hl 1 rfl) ?_
  obtain ⟨hPc, hDc, hFc, hC9⟩ := xpk (wc := W_hasRail cI cJ cZ cG cH pl a0 pna pta rails limit retry behind) hP hD hS hA [1] (by decide +kernel) rfl
  refine va_calli (va_runV (As := [.int a0]) (rest := []) ⟨hx, hb, hml, hown, hts⟩ (c_hasRail l D cI cJ cZ cG cH s.heap.size pl a0 pna pta rails limit retry behind (xrng rfl (by omega) (by omega))) (cwV 1 hts (xGV tbC wd409 wd410 wd411 wd59 wd1009) rfl rfl rfl (by decide +kernel) ⟨Nat.le_of_ble_eq_true rfl, Nat.le_of_ble_eq_true rfl⟩) ⟨xPc_blind, va_recv hK hPc (ci := 2) (q0 := 0) rfl rfl, xPc_pre hPc hK hDc⟩ rfl rfl hl.1 rfl (lv_room (Nat.le_of_ble_eq_true rfl)) dX10_time_5 ⟨Nat.le_of_ble_eq_true rfl, Nat.le_of_ble_eq_true rfl⟩) hS (fun q _ h => hFc q h) hFc (fun r1 u t H1 locs ht hvm hw1 hB hz1 hk1 hS => ?_)
  obtain ⟨hP1, hK1, hD1⟩ := hB
  rw [ht] at hP1
  obtain ⟨hP, hD⟩ : xPD D A [oX10 xo tp rd rn co wy sg sh pl sp lf, oAI pna cI 64 pn, oX5 rn hy rsa ria raa rta rga dead key tick held tries trips ldraw gdraw, oAI rta cI 8 rt, oX9 wy co wba wka pk gpk lpk, oAI wka cZ 64 wk, oX7 sg co srwa kn slast, oX3 pl pna pta rails limit retry behind] H1 := xjn 7 hP hD [1] [0, 2, 3, 4, 5, 6, 7] hC9 rfl (by decide +kernel) (by decide +kernel) hk1 hFc hP1 hD1
  generalize H1 = H at hP hS ⊢
  have hw1 : r1 = if 0 ≤ a0.toInt ∧ a0.toInt < rails.toInt then 1 else 0 := hw1
  refine lv_if_eq (tgt := 37) hx hb dX10_time_8 (by decide) (fun c_2 => ?_) (fun c_2 => ?_)
  · skip
    have i_2 : ¬ (0 ≤ a0.toInt ∧ a0.toInt < rails.toInt) := (xbool hw1).1.mp c_2
    have hM : M_x_time a0 rails a1 rt pk wk kn pn = (K_x_time_2 rt pk wk kn) := (show M_x_time a0 rails a1 rt pk wk kn pn = (if 0 ≤ a0.toInt ∧ a0.toInt < rails.toInt then (K_x_time_3 a1 rt pk wk kn a0 pn) else (K_x_time_2 rt pk wk kn)) from hM).trans (if_neg i_2)
    refine lv_iconst (v := (-1)) hx hb dX10_time_37 (by decide) ?_
    refine W.widen (k := 0) (n := 0) (by decide) (by decide) ?_
    exact W.iret (v := (-1)) hx hb hr (fun t ht hW => ⟨⟨(-1), (-1), rfl, ⟨rfl, ⟨by decide, by decide⟩⟩, ⟨rt, pk, wk, kn, (xwk_rng h_rt (by decide) (by decide)), (xrng rfl (by omega) (by omega)), (xwk_rng h_wk (by decide) (by decide)), (xrng rfl (by omega) (by omega)), hM, xB_of9 ht hW hP hK hD [0, 7, 1, 2, 3, 4, 5, 6] (by decide +kernel) rfl⟩⟩, hS.F ht⟩) hS.2.2 dX10_time_38
  · skip
    have i_2 : 0 ≤ a0.toInt ∧ a0.toInt < rails.toInt := (xbool hw1).2.mp c_2
    have hM : M_x_time a0 rails a1 rt pk wk kn pn = (K_x_time_3 a1 rt pk wk kn a0 pn) := (show M_x_time a0 rails a1 rt pk wk kn pn = (if 0 ≤ a0.toInt ∧ a0.toInt < rails.toInt then (K_x_time_3 a1 rt pk wk kn a0 pn) else (K_x_time_2 rt pk wk kn)) from hM).trans (if_pos i_2)
    refine lv_iload_n hx hb dX10_time_11 rfl (lv_at hl 2 rfl) ?_
    refine lv_aload_n hx hb dX10_time_12 rfl (lv_at hl 0 rfl) ?_
    refine va_get (D := D) (ci := 9) (v := .ref pl) (C := RX10) (T := TX10) (N := 10) hx hb hts (fun w h => tbC w (tbfX10 w h)) hown hK hP 0 rfl rfl 7 (by decide) (hts (.fieldLink RX10 56 "PowerRails" "plan" "LPowerRails$Plan;") (tbC _ wd254)) (fun _ h9 => h9) rfl dX10_time_13 ?_
    refine lv_iload_n hx hb dX10_time_16 rfl (lv_at hl 1 rfl) ?_
    refine lv_iconst (v := 0) hx hb dX10_time_17 (by decide) ?_
    obtain ⟨hPc, hDc, hFc, hC9⟩ := xpk (wc := W_number cI cJ cZ cG cH pl a0 (0 : Int32) pna pta rails limit retry behind pn) hP hD hS hA [7, 1] (by decide +kernel) rfl
    refine va_calli (va_runV (As := [.int a0, .int 0]) (rest := [.int a1]) ⟨hx, hb, hml, hown, hts⟩ (c_number l D cI cJ cZ cG cH H.size pl a0 (0 : Int32) pna pta rails limit retry behind pn (xrng rfl (by omega) (by omega)) ⟨by decide, by decide⟩ (xrng rfl (by omega) (by omega)) (xwk_rng h_pn (by decide) (by decide))) (cwV 2 hts (xGV tbC wd412 wd368 wd369 wd59 wd996) rfl rfl rfl (by decide +kernel) ⟨Nat.le_of_ble_eq_true rfl, Nat.le_of_ble_eq_true rfl⟩) ⟨xPc_blind, va_recv hK hPc (ci := 2) (q0 := 0) rfl rfl, xPc_pre hPc hK hDc⟩ rfl rfl hl.1 rfl (lv_room (Nat.le_of_ble_eq_true rfl)) dX10_time_18 ⟨Nat.le_of_ble_eq_true rfl, Nat.le_of_ble_eq_true rfl⟩) hS (fun q _ h => hFc q h) hFc (fun r3 u t H1 locs ht hvm hw3 hB hz1 hk1 hS => ?_)
    obtain ⟨hru9, hw3⟩ := hw3
    subst hru9
    obtain ⟨hf3_0, hP1, hK1, hD1⟩ := hB
    rw [ht] at hP1
    obtain ⟨hP, hD⟩ : xPD D A [oX10 xo tp rd rn co wy sg sh pl sp lf, oX5 rn hy rsa ria raa rta rga dead key tick held tries trips ldraw gdraw, oAI rta cI 8 rt, oX9 wy co wba wka pk gpk lpk, oAI wka cZ 64 wk, oX7 sg co srwa kn slast, oX3 pl pna pta rails limit retry behind, oAI pna cI 64 pn] H1 := xjn 6 hP hD [7, 1] [0, 2, 3, 4, 5, 6] hC9 rfl (by decide +kernel) (by decide +kernel) hk1 hFc hP1 hD1
    generalize H1 = H at hP hS ⊢
    have hf3_0 : M_number pn a0 (0 : Int32) = (r3) := hf3_0
    have hw3 : 0 ≤ r3.toInt ∧ r3.toInt ≤ 511 := hw3
    have h9M := congrArg (fun t9 => (K_x_time_4 a1 t9 rt pk wk kn a0 pn)) hf3_0
    have hM : M_x_time a0 rails a1 rt pk wk kn pn = (K_x_time_4 a1 r3 rt pk wk kn a0 pn) := (show M_x_time a0 rails a1 rt pk wk kn pn = ((fun t9 => (K_x_time_4 a1 t9 rt pk wk kn a0 pn)) (M_number pn a0 (0 : Int32))) from hM).trans h9M
    refine lv_icmp_lt (tgt := 37) hx hb dX10_time_21 (by decide) (fun c_4 => ?_) (fun c_4 => ?_)
    · skip
      have i_4 : a1.toInt < r3.toInt := (ilt rfl rfl).mp c_4
      have hM : M_x_time a0 rails a1 rt pk wk kn pn = (K_x_time_5 rt pk wk kn) := (show M_x_time a0 rails a1 rt pk wk kn pn = (if a1.toInt < r3.toInt then (K_x_time_5 rt pk wk kn) else (K_x_time_6 a1 rt a0 wk pk kn pn)) from hM).trans (if_pos i_4)
      refine lv_iconst (v := (-1)) hx hb dX10_time_37 (by decide) ?_
      refine W.widen (k := 0) (n := 0) (by decide) (by decide) ?_
      exact W.iret (v := (-1)) hx hb hr (fun t ht hW => ⟨⟨(-1), (-1), rfl, ⟨rfl, ⟨by decide, by decide⟩⟩, ⟨rt, pk, wk, kn, (xwk_rng h_rt (by decide) (by decide)), (xrng rfl (by omega) (by omega)), (xwk_rng h_wk (by decide) (by decide)), (xrng rfl (by omega) (by omega)), hM, xB_of9 ht hW hP hK hD [0, 6, 7, 1, 2, 3, 4, 5] (by decide +kernel) rfl⟩⟩, hS.F ht⟩) hS.2.2 dX10_time_38
    · skip
      have i_4 : ¬ (a1.toInt < r3.toInt) := fun h9 => c_4 ((ilt rfl rfl).mpr h9)
      have hM : M_x_time a0 rails a1 rt pk wk kn pn = (K_x_time_6 a1 rt a0 wk pk kn pn) := (show M_x_time a0 rails a1 rt pk wk kn pn = (if a1.toInt < r3.toInt then (K_x_time_5 rt pk wk kn) else (K_x_time_6 a1 rt a0 wk pk kn pn)) from hM).trans (if_neg i_4)
      refine lv_iload_n hx hb dX10_time_24 rfl (lv_at hl 2 rfl) ?_
      refine lv_aload_n hx hb dX10_time_25 rfl (lv_at hl 0 rfl) ?_
      refine va_get (D := D) (ci := 9) (v := .ref pl) (C := RX10) (T := TX10) (N := 10) hx hb hts (fun w h => tbC w (tbfX10 w h)) hown hK hP 0 rfl rfl 7 (by decide) (hts (.fieldLink RX10 56 "PowerRails" "plan" "LPowerRails$Plan;") (tbC _ wd254)) (fun _ h9 => h9) rfl dX10_time_26 ?_
      refine lv_iload_n hx hb dX10_time_29 rfl (lv_at hl 1 rfl) ?_
      refine lv_iconst (v := 1) hx hb dX10_time_30 (by decide) ?_
      obtain ⟨hPc, hDc, hFc, hC9⟩ := xpk (wc := W_number cI cJ cZ cG cH pl a0 (1 : Int32) pna pta rails limit retry behind pn) hP hD hS hA [6, 7] (by decide +kernel) rfl
      refine va_calli (va_runV (As := [.int a0, .int 1]) (rest := [.int a1]) ⟨hx, hb, hml, hown, hts⟩ (c_number l D cI cJ cZ cG cH H.size pl a0 (1 : Int32) pna pta rails limit retry behind pn (xrng rfl (by omega) (by omega)) ⟨by decide, by decide⟩ (xrng rfl (by omega) (by omega)) (xwk_rng h_pn (by decide) (by decide))) (cwV 2 hts (xGV tbC wd412 wd368 wd369 wd59 wd996) rfl rfl rfl (by decide +kernel) ⟨Nat.le_of_ble_eq_true rfl, Nat.le_of_ble_eq_true rfl⟩) ⟨xPc_blind, va_recv hK hPc (ci := 2) (q0 := 0) rfl rfl, xPc_pre hPc hK hDc⟩ rfl rfl hl.1 rfl (lv_room (Nat.le_of_ble_eq_true rfl)) dX10_time_31 ⟨Nat.le_of_ble_eq_true rfl, Nat.le_of_ble_eq_true rfl⟩) hS (fun q _ h => hFc q h) hFc (fun r5 u t H1 locs ht hvm hw5 hB hz1 hk1 hS => ?_)
      obtain ⟨hru9, hw5⟩ := hw5
      subst hru9
      obtain ⟨hf5_0, hP1, hK1, hD1⟩ := hB
      rw [ht] at hP1
      obtain ⟨hP, hD⟩ : xPD D A [oX10 xo tp rd rn co wy sg sh pl sp lf, oX5 rn hy rsa ria raa rta rga dead key tick held tries trips ldraw gdraw, oAI rta cI 8 rt, oX9 wy co wba wka pk gpk lpk, oAI wka cZ 64 wk, oX7 sg co srwa kn slast, oX3 pl pna pta rails limit retry behind, oAI pna cI 64 pn] H1 := xjn 6 hP hD [6, 7] [0, 1, 2, 3, 4, 5] hC9 rfl (by decide +kernel) (by decide +kernel) hk1 hFc hP1 hD1
      generalize H1 = H at hP hS ⊢
      have hf5_0 : M_number pn a0 (1 : Int32) = (r5) := hf5_0
      have hw5 : 0 ≤ r5.toInt ∧ r5.toInt ≤ 511 := hw5
      have h9M := congrArg (fun t9 => (K_x_time_7 a1 t9 rt a0 wk pk kn)) hf5_0
      have hM : M_x_time a0 rails a1 rt pk wk kn pn = (K_x_time_7 a1 r5 rt a0 wk pk kn) := (show M_x_time a0 rails a1 rt pk wk kn pn = ((fun t9 => (K_x_time_7 a1 t9 rt a0 wk pk kn)) (M_number pn a0 (1 : Int32))) from hM).trans h9M
      refine lv_icmp_le (tgt := 39) hx hb dX10_time_34 (by decide) (fun c_6 => ?_) (fun c_6 => ?_)
      · skip
        have i_6 : a1.toInt ≤ r5.toInt := (ile rfl rfl).mp c_6
        have hM : M_x_time a0 rails a1 rt pk wk kn pn = (K_x_time_8 rt a0 a1 wk) := (show M_x_time a0 rails a1 rt pk wk kn pn = (if a1.toInt ≤ r5.toInt then (K_x_time_8 rt a0 a1 wk) else (K_x_time_9 rt pk wk kn)) from hM).trans (if_pos i_6)
        refine lv_aload_n hx hb dX10_time_39 rfl (lv_at hl 0 rfl) ?_
        refine va_get (D := D) (ci := 9) (v := .ref rn) (C := RX10) (T := TX10) (N := 10) hx hb hts (fun w h => tbC w (tbfX10 w h)) hown hK hP 0 rfl rfl 2 (by decide) (hts (.fieldLink RX10 19 "PowerRails" "run" "LPowerRails$Run;") (tbC _ wd249)) (fun _ h9 => h9) rfl dX10_time_40 ?_
        refine va_get (D := D) (ci := 4) (v := .ref rta) (C := RX5) (T := TX5) (N := 14) hx hb hts (fun w h => tbC w (tbfX5 w h)) hown hK hP 1 rfl rfl 4 (by decide) (hts (.fieldLink RX10 150 "PowerRails$Run" "takes" "[I") (tbC _ wd114)) (fun _ h9 => h9) rfl dX10_time_43 ?_
        refine lv_iload_n hx hb dX10_time_46 rfl (lv_at hl 1 rfl) ?_
        refine va_iald hx hb hK hP 2 0 rfl rfl (vp_in_iff.mpr ⟨by omega, by omega⟩) dX10_time_47 ?_
        refine lv_topi (fun v7 ev7 => ?_)
        have rv7 : 0 ≤ v7.toInt ∧ v7.toInt ≤ 511 := xrd ev7 h_rt (xinK (vp_in_iff.mpr ⟨by omega, by omega⟩))
        refine lv_istore_n (lv' := [(3, .int v7), (0, .ref xo), (1, .int a0), (2, .int a1)]) hx hb dX10_time_48 rfl hl (by decide) rfl (fun ls hl => ?_)
        refine lv_aload_n hx hb dX10_time_49 rfl (lv_at hl 1 rfl) ?_
        refine va_get (D := D) (ci := 9) (v := .ref rn) (C := RX10) (T := TX10) (N := 10) hx hb hts (fun w h => tbC w (tbfX10 w h)) hown hK hP 0 rfl rfl 2 (by decide) (hts (.fieldLink RX10 19 "PowerRails" "run" "LPowerRails$Run;") (tbC _ wd249)) (fun _ h9 => h9) rfl dX10_time_50 ?_
        refine va_get (D := D) (ci := 4) (v := .ref rta) (C := RX5) (T := TX5) (N := 14) hx hb hts (fun w h => tbC w (tbfX5 w h)) hown hK hP 1 rfl rfl 4 (by decide) (hts (.fieldLink RX10 150 "PowerRails$Run" "takes" "[I") (tbC _ wd114)) (fun _ h9 => h9) rfl dX10_time_53 ?_
        refine lv_iload_n hx hb dX10_time_56 rfl (lv_at hl 2 rfl) ?_
        refine lv_iload_n hx hb dX10_time_57 rfl (lv_at hl 3 rfl) ?_
        refine va_iast hx hb hK hP hD hS 2 0 rfl rfl (vp_in_iff.mpr ⟨by omega, by omega⟩) dX10_time_58 (fun H locs hP hD hS => ?_)
        obtain ⟨f8, ef8⟩ : ∃ fz9 : Nat → Int32, fz9 = upd rt (a0 : Int32).toNatClampNeg a1 := ⟨_, rfl⟩
        have hP : va_P D vwCl [oX10 xo tp rd rn co wy sg sh pl sp lf, oX5 rn hy rsa ria raa rta rga dead key tick held tries trips ldraw gdraw, oAI rta cI 8 f8, oX9 wy co wba wka pk gpk lpk, oAI wka cZ 64 wk, oX7 sg co srwa kn slast, oX3 pl pna pta rails limit retry behind, oAI pna cI 64 pn] H := by rw [ef8]; exact hP
        have hD : va_D A [oX10 xo tp rd rn co wy sg sh pl sp lf, oX5 rn hy rsa ria raa rta rga dead key tick held tries trips ldraw gdraw, oAI rta cI 8 f8, oX9 wy co wba wka pk gpk lpk, oAI wka cZ 64 wk, oX7 sg co srwa kn slast, oX3 pl pna pta rails limit retry behind, oAI pna cI 64 pn] := by rw [ef8]; exact hD
        have rf8 : ∀ j, j < 8 → 0 ≤ (f8 j).toInt ∧ (f8 j).toInt ≤ 511 := by rw [ef8]; exact xup_rng (xwk_rng h_rt (by decide) (by decide)) (xrng rfl (by omega) (by omega))
        refine lv_aload_n hx hb dX10_time_59 rfl (lv_at hl 1 rfl) ?_
        obtain ⟨hPc, hDc, hFc, hC9⟩ := xpk (wc := W_forgetReckoned cI cJ cZ cG cH xo tp rd rn co wy sg sh pl sp lf wba wka pk gpk lpk wk srwa kn slast) hP hD hS hA [0, 3, 4, 5] (by decide +kernel) rfl
        refine va_callv (va_runV (As := []) (rest := []) ⟨hx, hb, hml, hown, hts⟩ (c_forgetReckoned l D cI cJ cZ cG cH H.size xo tp rd rn co wy sg sh pl sp lf wba wka pk gpk lpk wk srwa kn slast (xrng rfl (by omega) (by omega)) (xwk_rng h_wk (by decide) (by decide)) (xrng rfl (by omega) (by omega))) (cwV 0 hts (xGV tbC wd398 wd399 wd0 wd50 wd1005) rfl rfl rfl (by decide +kernel) ⟨Nat.le_of_ble_eq_true rfl, Nat.le_of_ble_eq_true rfl⟩) ⟨xPc_blind, va_recv hK hPc (ci := 9) (q0 := 0) rfl rfl, xPc_pre hPc hK hDc⟩ rfl rfl hl.1 rfl (lv_room (Nat.le_of_ble_eq_true rfl)) dX10_time_60 ⟨Nat.le_of_ble_eq_true rfl, Nat.le_of_ble_eq_true rfl⟩) hS (fun q _ h => hFc q h) hFc (fun u t H1 locs ht hvm hw9 hB hz1 hk1 hS => ?_)
        obtain ⟨wk_10, hf10_0, hf10_1, hP1, hK1, hD1⟩ := hB
        rw [ht] at hP1
        obtain ⟨hP, hD⟩ : xPD D A [oX5 rn hy rsa ria raa rta rga dead key tick held tries trips ldraw gdraw, oAI rta cI 8 f8, oX3 pl pna pta rails limit retry behind, oAI pna cI 64 pn, oX10 xo tp rd rn co wy sg sh pl sp lf, oX9 wy co wba wka 0 gpk lpk, oAI wka cZ 64 wk_10, oX7 sg co srwa 0 slast] H1 := xjn 4 hP hD [0, 3, 4, 5] [1, 2, 6, 7] hC9 rfl (by decide +kernel) (by decide +kernel) hk1 hFc hP1 hD1
        generalize H1 = H at hP hS ⊢
        have hf10_0 : ∀ j, j < 64 → 0 ≤ (wk_10 j).toInt ∧ (wk_10 j).toInt ≤ 1 := hf10_0
        have hf10_1 : M_forgetReckoned wk = (wk_10) := hf10_1
        have h9M := congrArg (fun t9 => (K_x_time_10 v7 f8 t9)) hf10_1
        have hM : M_x_time a0 rails a1 rt pk wk kn pn = (K_x_time_10 v7 f8 wk_10) := (show M_x_time a0 rails a1 rt pk wk kn pn = ((fun t9 => (K_x_time_10 v7 f8 t9)) (M_forgetReckoned wk)) from (by rw [ef8, ev7]; exact hM)).trans h9M
        refine lv_iload_n hx hb dX10_time_63 rfl (lv_at hl 0 rfl) ?_
        refine W.widen (k := 0) (n := 0) (by decide) (by decide) ?_
        exact W.iret (v := v7) hx hb hr (fun t ht hW => ⟨⟨v7, v7, rfl, ⟨rfl, (xrng rfl (by omega) (by omega))⟩, ⟨f8, 0, wk_10, 0, (xwk_rng rf8 (by decide) (by decide)), ⟨by decide, by decide⟩, (xwk_rng hf10_0 (by decide) (by decide)), ⟨by decide, by decide⟩, hM, xB_of9 ht hW hP hK hD [4, 2, 3, 0, 1, 5, 6, 7] (by decide +kernel) rfl⟩⟩, hS.F ht⟩) hS.2.2 dX10_time_64
      · skip
        have i_6 : ¬ (a1.toInt ≤ r5.toInt) := fun h9 => c_6 ((ile rfl rfl).mpr h9)
        have hM : M_x_time a0 rails a1 rt pk wk kn pn = (K_x_time_9 rt pk wk kn) := (show M_x_time a0 rails a1 rt pk wk kn pn = (if a1.toInt ≤ r5.toInt then (K_x_time_8 rt a0 a1 wk) else (K_x_time_9 rt pk wk kn)) from hM).trans (if_neg i_6)
        refine lv_iconst (v := (-1)) hx hb dX10_time_37 (by decide) ?_
        refine W.widen (k := 0) (n := 0) (by decide) (by decide) ?_
        exact W.iret (v := (-1)) hx hb hr (fun t ht hW => ⟨⟨(-1), (-1), rfl, ⟨rfl, ⟨by decide, by decide⟩⟩, ⟨rt, pk, wk, kn, (xwk_rng h_rt (by decide) (by decide)), (xrng rfl (by omega) (by omega)), (xwk_rng h_wk (by decide) (by decide)), (xrng rfl (by omega) (by omega)), hM, xB_of9 ht hW hP hK hD [0, 6, 7, 1, 2, 3, 4, 5] (by decide +kernel) rfl⟩⟩, hS.F ht⟩) hS.2.2 dX10_time_38
def K_x_go_2 (tick : Int32) (held : Int32) (tries : Int32) (trips : Int32) (ldraw : Int32) (gdraw : Int32) (rs : Nat → Int32) (ri : Nat → Int32) (ra : Nat → Int32) (rg : Nat → Int32) (ysz : Int32) (ya : Nat → Int32) (yb : Nat → Int32) (yc : Nat → Int32) : (Int32) × (Int32) × (Int32) × (Int32) × (Int32) × (Int32) × (Int32) × (Nat → Int32) × (Nat → Int32) × (Nat → Int32) × (Nat → Int32) × (Int32) × (Nat → Int32) × (Nat → Int32) × (Nat → Int32) := ((-1 : Int32), tick, held, tries, trips, ldraw, gdraw, rs, ri, ra, rg, ysz, ya, yb, yc)
def K_x_go_7 (x151 : Int32) (trips : Int32) (x148 : Int32) (x149 : Int32) (x150 : Int32) (x152 : Int32) (x153 : Int32) (f154 : Nat → Int32) (f155 : Nat → Int32) (f156 : Nat → Int32) (f157 : Nat → Int32) (x158 : Int32) (f159 : Nat → Int32) (f160 : Nat → Int32) (f161 : Nat → Int32) : (Int32) × (Int32) × (Int32) × (Int32) × (Int32) × (Int32) × (Int32) × (Nat → Int32) × (Nat → Int32) × (Nat → Int32) × (Nat → Int32) × (Int32) × (Nat → Int32) × (Nat → Int32) × (Nat → Int32) := ((x151 - trips), x148, x149, x150, x151, x152, x153, f154, f155, f156, f157, x158, f159, f160, f161)
def K_x_go_9 (rec_6 : (Int32) → (Int32) → (Int32) → (Int32) → (Int32) → (Int32) → (Int32) → (Nat → Int32) → (Nat → Int32) → (Nat → Int32) → (Nat → Int32) → (Int32) → (Nat → Int32) → (Nat → Int32) → (Nat → Int32) → ((Int32) × (Int32) × (Int32) × (Int32) × (Int32) × (Int32) × (Int32) × (Nat → Int32) × (Nat → Int32) × (Nat → Int32) × (Nat → Int32) × (Int32) × (Nat → Int32) × (Nat → Int32) × (Nat → Int32))) (x147 : Int32) (tick_166 : Int32) (held_167 : Int32) (tries_168 : Int32) (trips_169 : Int32) (ldraw_170 : Int32) (gdraw_171 : Int32) (rs_172 : Nat → Int32) (ri_173 : Nat → Int32) (ra_174 : Nat → Int32) (rg_175 : Nat → Int32) (ysz_176 : Int32) (ya_177 : Nat → Int32) (yb_178 : Nat → Int32) (yc_179 : Nat → Int32) : (Int32) × (Int32) × (Int32) × (Int32) × (Int32) × (Int32) × (Int32) × (Nat → Int32) × (Nat → Int32) × (Nat → Int32) × (Nat → Int32) × (Int32) × (Nat → Int32) × (Nat → Int32) × (Nat → Int32) := (rec_6 (x147 + 1) tick_166 held_167 tries_168 trips_169 ldraw_170 gdraw_171 rs_172 ri_173 ra_174 rg_175 ysz_176 ya_177 yb_178 yc_179)
def K_x_go_8 (rec_6 : (Int32) → (Int32) → (Int32) → (Int32) → (Int32) → (Int32) → (Int32) → (Nat → Int32) → (Nat → Int32) → (Nat → Int32) → (Nat → Int32) → (Int32) → (Nat → Int32) → (Nat → Int32) → (Nat → Int32) → ((Int32) × (Int32) × (Int32) × (Int32) × (Int32) × (Int32) × (Int32) × (Nat → Int32) × (Nat → Int32) × (Nat → Int32) × (Nat → Int32) × (Int32) × (Nat → Int32) × (Nat → Int32) × (Nat → Int32))) (x147 : Int32) (x150 : Int32) (x151 : Int32) (x153 : Int32) (rails : Int32) (x149 : Int32) (x148 : Int32) (dead : Int32) (pn : Nat → Int32) (rt : Nat → Int32) (key : Int32) (pt : Nat → Int64) (behind : Int32) (limit : Int32) (f154 : Nat → Int32) (f155 : Nat → Int32) (f156 : Nat → Int32) (f157 : Nat → Int32) (x158 : Int32) (f159 : Nat → Int32) (f160 : Nat → Int32) (f161 : Nat → Int32) : (Int32) × (Int32) × (Int32) × (Int32) × (Int32) × (Int32) × (Int32) × (Nat → Int32) × (Nat → Int32) × (Nat → Int32) × (Nat → Int32) × (Int32) × (Nat → Int32) × (Nat → Int32) × (Nat → Int32) := ((fun t9 => (K_x_go_9 rec_6 x147 t9.1 t9.2.1 t9.2.2.1 t9.2.2.2.1 t9.2.2.2.2.1 t9.2.2.2.2.2.1 t9.2.2.2.2.2.2.1 t9.2.2.2.2.2.2.2.1 t9.2.2.2.2.2.2.2.2.1 t9.2.2.2.2.2.2.2.2.2.1 t9.2.2.2.2.2.2.2.2.2.2.1 t9.2.2.2.2.2.2.2.2.2.2.2.1 t9.2.2.2.2.2.2.2.2.2.2.2.2.1 t9.2.2.2.2.2.2.2.2.2.2.2.2.2)) (M_passTick x150 x151 x153 rails x149 x148 dead pn rt key pt behind limit f154 f155 f156 f157 x158 f159 f160 f161))
def K_x_go_6 (a0 : Int32) (x147 : Int32) (x151 : Int32) (trips : Int32) (x148 : Int32) (x149 : Int32) (x150 : Int32) (x152 : Int32) (x153 : Int32) (f154 : Nat → Int32) (f155 : Nat → Int32) (f156 : Nat → Int32) (f157 : Nat → Int32) (x158 : Int32) (f159 : Nat → Int32) (f160 : Nat → Int32) (f161 : Nat → Int32) (rec_6 : (Int32) → (Int32) → (Int32) → (Int32) → (Int32) → (Int32) → (Int32) → (Nat → Int32) → (Nat → Int32) → (Nat → Int32) → (Nat → Int32) → (Int32) → (Nat → Int32) → (Nat → Int32) → (Nat → Int32) → ((Int32) × (Int32) × (Int32) × (Int32) × (Int32) × (Int32) × (Int32) × (Nat → Int32) × (Nat → Int32) × (Nat → Int32) × (Nat → Int32) × (Int32) × (Nat → Int32) × (Nat → Int32) × (Nat → Int32))) (rails : Int32) (dead : Int32) (pn : Nat → Int32) (rt : Nat → Int32) (key : Int32) (pt : Nat → Int64) (behind : Int32) (limit : Int32) : (Int32) × (Int32) × (Int32) × (Int32) × (Int32) × (Int32) × (Int32) × (Nat → Int32) × (Nat → Int32) × (Nat → Int32) × (Nat → Int32) × (Int32) × (Nat → Int32) × (Nat → Int32) × (Nat → Int32) := (if a0.toInt ≤ x147.toInt then (K_x_go_7 x151 trips x148 x149 x150 x152 x153 f154 f155 f156 f157 x158 f159 f160 f161) else (K_x_go_8 rec_6 x147 x150 x151 x153 rails x149 x148 dead pn rt key pt behind limit f154 f155 f156 f157 x158 f159 f160 f161))
def K_x_go_L6 (a0 : Int32) (trips : Int32) (rails : Int32) (dead : Int32) (pn : Nat → Int32) (rt : Nat → Int32) (key : Int32) (pt : Nat → Int64) (behind : Int32) (limit : Int32) : Nat → (Int32) → (Int32) → (Int32) → (Int32) → (Int32) → (Int32) → (Int32) → (Nat → Int32) → (Nat → Int32) → (Nat → Int32) → (Nat → Int32) → (Int32) → (Nat → Int32) → (Nat → Int32) → (Nat → Int32) → (Int32) × (Int32) × (Int32) × (Int32) × (Int32) × (Int32) × (Int32) × (Nat → Int32) × (Nat → Int32) × (Nat → Int32) × (Nat → Int32) × (Int32) × (Nat → Int32) × (Nat → Int32) × (Nat → Int32)
  | 0, _, _, _, _, _, _, _, _, _, _, _, _, _, _, _ => (0, 0, 0, 0, 0, 0, 0, fun _ => 0, fun _ => 0, fun _ => 0, fun _ => 0, 0, fun _ => 0, fun _ => 0, fun _ => 0)
  | n9 + 1, x147, x148, x149, x150, x151, x152, x153, f154, f155, f156, f157, x158, f159, f160, f161 => (K_x_go_6 a0 x147 x151 trips x148 x149 x150 x152 x153 f154 f155 f156 f157 x158 f159 f160 f161 (K_x_go_L6 a0 trips rails dead pn rt key pt behind limit n9) rails dead pn rt key pt behind limit)
def K_x_go_4 (a0 : Int32) (trips : Int32) (rails : Int32) (dead : Int32) (pn : Nat → Int32) (rt : Nat → Int32) (key : Int32) (pt : Nat → Int64) (behind : Int32) (limit : Int32) (tick : Int32) (held : Int32) (tries : Int32) (ldraw : Int32) (gdraw : Int32) (rs : Nat → Int32) (ri : Nat → Int32) (ra : Nat → Int32) (rg : Nat → Int32) (ysz : Int32) (ya : Nat → Int32) (yb : Nat → Int32) (yc : Nat → Int32) : (Int32) × (Int32) × (Int32) × (Int32) × (Int32) × (Int32) × (Int32) × (Nat → Int32) × (Nat → Int32) × (Nat → Int32) × (Nat → Int32) × (Int32) × (Nat → Int32) × (Nat → Int32) × (Nat → Int32) := (K_x_go_L6 a0 trips rails dead pn rt key pt behind limit 100000 (0 : Int32) tick held tries trips ldraw gdraw rs ri ra rg ysz ya yb yc)
def K_x_go_5 (tick : Int32) (held : Int32) (tries : Int32) (trips : Int32) (ldraw : Int32) (gdraw : Int32) (rs : Nat → Int32) (ri : Nat → Int32) (ra : Nat → Int32) (rg : Nat → Int32) (ysz : Int32) (ya : Nat → Int32) (yb : Nat → Int32) (yc : Nat → Int32) : (Int32) × (Int32) × (Int32) × (Int32) × (Int32) × (Int32) × (Int32) × (Nat → Int32) × (Nat → Int32) × (Nat → Int32) × (Nat → Int32) × (Int32) × (Nat → Int32) × (Nat → Int32) × (Nat → Int32) := ((-1 : Int32), tick, held, tries, trips, ldraw, gdraw, rs, ri, ra, rg, ysz, ya, yb, yc)
def K_x_go_3 (a0 : Int32) (trips : Int32) (rails : Int32) (dead : Int32) (pn : Nat → Int32) (rt : Nat → Int32) (key : Int32) (pt : Nat → Int64) (behind : Int32) (limit : Int32) (tick : Int32) (held : Int32) (tries : Int32) (ldraw : Int32) (gdraw : Int32) (rs : Nat → Int32) (ri : Nat → Int32) (ra : Nat → Int32) (rg : Nat → Int32) (ysz : Int32) (ya : Nat → Int32) (yb : Nat → Int32) (yc : Nat → Int32) : (Int32) × (Int32) × (Int32) × (Int32) × (Int32) × (Int32) × (Int32) × (Nat → Int32) × (Nat → Int32) × (Nat → Int32) × (Nat → Int32) × (Int32) × (Nat → Int32) × (Nat → Int32) × (Nat → Int32) := (if a0.toInt ≤ 999 then (K_x_go_4 a0 trips rails dead pn rt key pt behind limit tick held tries ldraw gdraw rs ri ra rg ysz ya yb yc) else (K_x_go_5 tick held tries trips ldraw gdraw rs ri ra rg ysz ya yb yc))
def K_x_go_1 (a0 : Int32) (tick : Int32) (held : Int32) (tries : Int32) (trips : Int32) (ldraw : Int32) (gdraw : Int32) (rs : Nat → Int32) (ri : Nat → Int32) (ra : Nat → Int32) (rg : Nat → Int32) (ysz : Int32) (ya : Nat → Int32) (yb : Nat → Int32) (yc : Nat → Int32) (rails : Int32) (dead : Int32) (pn : Nat → Int32) (rt : Nat → Int32) (key : Int32) (pt : Nat → Int64) (behind : Int32) (limit : Int32) : (Int32) × (Int32) × (Int32) × (Int32) × (Int32) × (Int32) × (Int32) × (Nat → Int32) × (Nat → Int32) × (Nat → Int32) × (Nat → Int32) × (Int32) × (Nat → Int32) × (Nat → Int32) × (Nat → Int32) := (if a0.toInt < 1 then (K_x_go_2 tick held tries trips ldraw gdraw rs ri ra rg ysz ya yb yc) else (K_x_go_3 a0 trips rails dead pn rt key pt behind limit tick held tries ldraw gdraw rs ri ra rg ysz ya yb yc))
def M_x_go (a0 : Int32) (tick : Int32) (held : Int32) (tries : Int32) (trips : Int32) (ldraw : Int32) (gdraw : Int32) (rs : Nat → Int32) (ri : Nat → Int32) (ra : Nat → Int32) (rg : Nat → Int32) (ysz : Int32) (ya : Nat → Int32) (yb : Nat → Int32) (yc : Nat → Int32) (rails : Int32) (dead : Int32) (pn : Nat → Int32) (rt : Nat → Int32) (key : Int32) (pt : Nat → Int64) (behind : Int32) (limit : Int32) : (Int32) × (Int32) × (Int32) × (Int32) × (Int32) × (Int32) × (Int32) × (Nat → Int32) × (Nat → Int32) × (Nat → Int32) × (Nat → Int32) × (Int32) × (Nat → Int32) × (Nat → Int32) × (Nat → Int32) := (K_x_go_1 a0 tick held tries trips ldraw gdraw rs ri ra rg ysz ya yb yc rails dead pn rt key pt behind limit)
abbrev W_x_go (cI cJ cZ cG cH : ClassId) (xo : Nat) (a0 : Int32) (tp : Nat) (rd : Nat) (rn : Nat) (co : Nat) (wy : Nat) (sg : Nat) (sh : Nat) (pl : Nat) (sp : Nat) (lf : Int32) (hy : Nat) (rsa : Nat) (ria : Nat) (raa : Nat) (rta : Nat) (rga : Nat) (dead : Int32) (key : Int32) (tick : Int32) (held : Int32) (tries : Int32) (trips : Int32) (ldraw : Int32) (gdraw : Int32) (rs : Nat → Int32) (ri : Nat → Int32) (ra : Nat → Int32) (rt : Nat → Int32) (rg : Nat → Int32) (yaa : Nat) (yba : Nat) (yca : Nat) (ysz : Int32) (ya : Nat → Int32) (yb : Nat → Int32) (yc : Nat → Int32) (pna : Nat) (pta : Nat) (rails : Int32) (limit : Int32) (retry : Int32) (behind : Int32) (pn : Nat → Int32) (pt : Nat → Int64) : va_W := [oX10 xo tp rd rn co wy sg sh pl sp lf, oX5 rn hy rsa ria raa rta rga dead key tick held tries trips ldraw gdraw, oAI rsa cI 8 rs, oAI ria cI 8 ri, oAI raa cI 8 ra, oAI rta cI 8 rt, oAI rga cI 8 rg, oX2 hy yaa yba yca ysz, oAI yaa cI 64 ya, oAI yba cI 64 yb, oAI yca cI 64 yc, oX3 pl pna pta rails limit retry behind, oAI pna cI 64 pn, oAJ pta cJ 64 pt]
abbrev Q_x_go (D : va_G) (cI cJ cZ cG cH : ClassId) (xo : Nat) (a0 : Int32) (tp : Nat) (rd : Nat) (rn : Nat) (co : Nat) (wy : Nat) (sg : Nat) (sh : Nat) (pl : Nat) (sp : Nat) (lf : Int32) (hy : Nat) (rsa : Nat) (ria : Nat) (raa : Nat) (rta : Nat) (rga : Nat) (dead : Int32) (key : Int32) (tick : Int32) (held : Int32) (tries : Int32) (trips : Int32) (ldraw : Int32) (gdraw : Int32) (rs : Nat → Int32) (ri : Nat → Int32) (ra : Nat → Int32) (rt : Nat → Int32) (rg : Nat → Int32) (yaa : Nat) (yba : Nat) (yca : Nat) (ysz : Int32) (ya : Nat → Int32) (yb : Nat → Int32) (yc : Nat → Int32) (pna : Nat) (pta : Nat) (rails : Int32) (limit : Int32) (retry : Int32) (behind : Int32) (pn : Nat → Int32) (pt : Nat → Int64) (A : Nat → Prop) : Array Value → State → Outcome → State → Prop := va_Qi (fun (r : Int32) (u9 : Int32) => r = u9 ∧ (True)) (fun u9 t => ∃ (tick9 : Int32) (held9 : Int32) (tries9 : Int32) (trips9 : Int32) (ldraw9 : Int32) (gdraw9 : Int32) (rs9 : Nat → Int32) (ri9 : Nat → Int32) (ra9 : Nat → Int32) (rg9 : Nat → Int32) (ysz9 : Int32) (ya9 : Nat → Int32) (yb9 : Nat → Int32) (yc9 : Nat → Int32), (0 ≤ ysz9.toInt ∧ ysz9.toInt ≤ 64) ∧ (M_x_go a0 tick held tries trips ldraw gdraw rs ri ra rg ysz ya yb yc rails dead pn rt key pt behind limit = (u9, tick9, held9, tries9, trips9, ldraw9, gdraw9, rs9, ri9, ra9, rg9, ysz9, ya9, yb9, yc9)) ∧ xB D (tyL cI cJ cZ cG cH) [oX10 xo tp rd rn co wy sg sh pl sp lf, oX5 rn hy rsa ria raa rta rga dead key tick9 held9 tries9 trips9 ldraw9 gdraw9, oAI rsa cI 8 rs9, oAI ria cI 8 ri9, oAI raa cI 8 ra9, oAI rta cI 8 rt, oAI rga cI 8 rg9, oX2 hy yaa yba yca ysz9, oAI yaa cI 64 ya9, oAI yba cI 64 yb9, oAI yca cI 64 yc9, oX3 pl pna pta rails limit retry behind, oAI pna cI 64 pn, oAJ pta cJ 64 pt] A t) A
abbrev rm_x_go : Room := { frames := 5, cells := 0, slots := 0, locals := 116 }
set_option maxRecDepth 100000 in
set_option maxHeartbeats 40000000 in
theorem c_x_go (l : Launch) (D : va_G) (cI cJ cZ cG cH : ClassId) (sz : Nat) (xo : Nat) (a0 : Int32) (tp : Nat) (rd : Nat) (rn : Nat) (co : Nat) (wy : Nat) (sg : Nat) (sh : Nat) (pl : Nat) (sp : Nat) (lf : Int32) (hy : Nat) (rsa : Nat) (ria : Nat) (raa : Nat) (rta : Nat) (rga : Nat) (dead : Int32) (key : Int32) (tick : Int32) (held : Int32) (tries : Int32) (trips : Int32) (ldraw : Int32) (gdraw : Int32) (rs : Nat → Int32) (ri : Nat → Int32) (ra : Nat → Int32) (rt : Nat → Int32) (rg : Nat → Int32) (yaa : Nat) (yba : Nat) (yca : Nat) (ysz : Int32) (ya : Nat → Int32) (yb : Nat → Int32) (yc : Nat → Int32) (pna : Nat) (pta : Nat) (rails : Int32) (limit : Int32) (retry : Int32) (behind : Int32) (pn : Nat → Int32) (pt : Nat → Int64) (h_key : 0 ≤ key.toInt ∧ key.toInt ≤ 1) (h_rt : ∀ j, j < 8 → 0 ≤ (rt j).toInt ∧ (rt j).toInt ≤ 511) (h_ysz : 0 ≤ ysz.toInt ∧ ysz.toInt ≤ 64) (h_rails : 0 ≤ rails.toInt ∧ rails.toInt ≤ 8) (h_pn : ∀ j, j < 64 → 0 ≤ (pn j).toInt ∧ (pn j).toInt ≤ 511) : Met l yX10_go (wt yX10_go cX10_go 4 (some .int)) rm_x_go (xPc [.ref xo, .int a0] D (tyL cI cJ cZ cG cH) (W_x_go cI cJ cZ cG cH xo a0 tp rd rn co wy sg sh pl sp lf hy rsa ria raa rta rga dead key tick held tries trips ldraw gdraw rs ri ra rt rg yaa yba yca ysz ya yb yc pna pta rails limit retry behind pn pt) sz) (Q_x_go D cI cJ cZ cG cH xo a0 tp rd rn co wy sg sh pl sp lf hy rsa ria raa rta rga dead key tick held tries trips ldraw gdraw rs ri ra rt rg yaa yba yca ysz ya yb yc pna pta rails limit retry behind pn pt (va_A (W_x_go cI cJ cZ cG cH xo a0 tp rd rn co wy sg sh pl sp lf hy rsa ria raa rta rga dead key tick held tries trips ldraw gdraw rs ri ra rt rg yaa yba yca ysz ya yb yc pna pta rails limit retry behind pn pt) sz)) 0 0 (va_A (W_x_go cI cJ cZ cG cH xo a0 tp rd rn co wy sg sh pl sp lf hy rsa ria raa rta rga dead key tick held tries trips ldraw gdraw rs ri ra rt rg yaa yba yca ysz ya yb yc pna pta rails limit retry behind pn pt) sz) := by
  refine xMet (cc := cX10_go) (maxL := 4) (ret := (some .int)) (Qf := Q_x_go D cI cJ cZ cG cH xo a0 tp rd rn co wy sg sh pl sp lf hy rsa ria raa rta rga dead key tick held tries trips ldraw gdraw rs ri ra rt rg yaa yba yca ysz ya yb yc pna pta rails limit retry behind pn pt) (by decide) rfl (Nat.le_of_ble_eq_true rfl) ?_
  intro p e s m below meth c ls A hx hb hr hml hts hown hlocks hnm hsz hP hK hD hA hS hl
  have hown : s.vm.findClass RX10 = some m.cls := hown
  have hP : va_P D vwCl [oX10 xo tp rd rn co wy sg sh pl sp lf, oX5 rn hy rsa ria raa rta rga dead key tick held tries trips ldraw gdraw, oAI rsa cI 8 rs, oAI ria cI 8 ri, oAI raa cI 8 ra, oAI rta cI 8 rt, oAI rga cI 8 rg, oX2 hy yaa yba yca ysz, oAI yaa cI 64 ya, oAI yba cI 64 yb, oAI yca cI 64 yc, oX3 pl pna pta rails limit retry behind, oAI pna cI 64 pn, oAJ pta cJ 64 pt] s.heap := hP
  have hD : va_D A [oX10 xo tp rd rn co wy sg sh pl sp lf, oX5 rn hy rsa ria raa rta rga dead key tick held tries trips ldraw gdraw, oAI rsa cI 8 rs, oAI ria cI 8 ri, oAI raa cI 8 ra, oAI rta cI 8 rt, oAI rga cI 8 rg, oX2 hy yaa yba yca ysz, oAI yaa cI 64 ya, oAI yba cI 64 yb, oAI yca cI 64 yc, oX3 pl pna pta rails limit retry behind, oAI pna cI 64 pn, oAJ pta cJ 64 pt] := hD
  have hl : lv_has ls 4 [(0, .ref xo), (1, .int a0)] := hl
  have hM : M_x_go a0 tick held tries trips ldraw gdraw rs ri ra rg ysz ya yb yc rails dead pn rt key pt behind limit = (K_x_go_1 a0 tick held tries trips ldraw gdraw rs ri ra rg ysz ya yb yc rails dead pn rt key pt behind limit) := rfl
  refine lv_iload_n hx hb dX10_go_0 rfl (lv_at hl 1 rfl) ?_
  refine lv_iconst (v := 1) hx hb dX10_go_1 (by decide) ?_
  refine lv_icmp_lt (tgt := 12) hx hb dX10_go_2 (by decide) (fun c_1 => ?_) (fun c_1 => ?_)
  · skip
    have i_1 : a0.toInt < 1 := (ilt rfl (by decide)).mp c_1
    have hM : M_x_go a0 tick held tries trips ldraw gdraw rs ri ra rg ysz ya yb yc rails dead pn rt key pt behind limit = (K_x_go_2 tick held tries trips ldraw gdraw rs ri ra rg ysz ya yb yc) := (show M_x_go a0 tick held tries trips ldraw gdraw rs ri ra rg ysz ya yb yc rails dead pn rt key pt behind limit = (if a0.toInt < 1 then (K_x_go_2 tick held tries trips ldraw gdraw rs ri ra rg ysz ya yb yc) else (K_x_go_3 a0 trips rails dead pn rt key pt behind limit tick held tries ldraw gdraw rs ri ra rg ysz ya yb yc)) from hM).trans (if_pos i_1)
    refine lv_iconst (v := (-1)) hx hb dX10_go_12 (by decide) ?_
    refine W.widen (k := 0) (n := 0) (by decide) (by decide) ?_
    exact W.iret (v := (-1)) hx hb hr (fun t ht hW => ⟨⟨(-1), (-1), rfl, ⟨rfl, trivial⟩, ⟨tick, held, tries, trips, ldraw, gdraw, rs, ri, ra, rg, ysz, ya, yb, yc, (xrng rfl (by omega) (by omega)), hM, xB_of9 ht hW hP hK hD [0, 1, 2, 3, 4, 5, 6, 7, 8, 9, 10, 11, 12, 13] (by decide +kernel) rfl⟩⟩, hS.F ht⟩) hS.2.2 dX10_go_13
  · skip
    have i_1 : ¬ (a0.toInt < 1) := fun h9 => c_1 ((ilt rfl (by decide)).mpr h9)
    have hM : M_x_go a0 tick held tries trips ldraw gdraw rs ri ra rg ysz ya yb yc rails dead pn rt key pt behind limit = (K_x_go_3 a0 trips rails dead pn rt key pt behind limit tick held tries ldraw gdraw rs ri ra rg ysz ya yb yc) := (show M_x_go a0 tick held tries trips ldraw gdraw rs ri ra rg ysz ya yb yc rails dead pn rt key pt behind limit = (if a0.toInt < 1 then (K_x_go_2 tick held tries trips ldraw gdraw rs ri ra rg ysz ya yb yc) else (K_x_go_3 a0 trips rails dead pn rt key pt behind limit tick held tries ldraw gdraw rs ri ra rg ysz ya yb yc)) from hM).trans (if_neg i_1)
    refine lv_iload_n hx hb dX10_go_5 rfl (lv_at hl 1 rfl) ?_
    refine lv_sipush (v := 999) hx hb dX10_go_6 (by decide) ?_
    refine lv_icmp_le (tgt := 14) hx hb dX10_go_9 (by decide) (fun c_2 => ?_) (fun c_2 => ?_)
    · skip
      have i_2 : a0.toInt ≤ 999 := (ile rfl (by decide)).mp c_2
      have hM : M_x_go a0 tick held tries trips ldraw gdraw rs ri ra rg ysz ya yb yc rails dead pn rt key pt behind limit = (K_x_go_4 a0 trips rails dead pn rt key pt behind limit tick held tries ldraw gdraw rs ri ra rg ysz ya yb yc) := (show M_x_go a0 tick held tries trips ldraw gdraw rs ri ra rg ysz ya yb yc rails dead pn rt key pt behind limit = (if a0.toInt ≤ 999 then (K_x_go_4 a0 trips rails dead pn rt key pt behind limit tick held tries ldraw gdraw rs ri ra rg ysz ya yb yc) else (K_x_go_5 tick held tries trips ldraw gdraw rs ri ra rg ysz ya yb yc)) from hM).trans (if_pos i_2)
      refine lv_aload_n hx hb dX10_go_14 rfl (lv_at hl 0 rfl) ?_
      refine va_get (D := D) (ci := 9) (v := .ref rn) (C := RX10) (T := TX10) (N := 10) hx hb hts (fun w h => tbC w (tbfX10 w h)) hown hK hP 0 rfl rfl 2 (by decide) (hts (.fieldLink RX10 19 "PowerRails" "run" "LPowerRails$Run;") (tbC _ wd249)) (fun _ h9 => h9) rfl dX10_go_15 ?_
      refine va_get (D := D) (ci := 4) (v := .int trips) (C := RX5) (T := TX5) (N := 14) hx hb hts (fun w h => tbC w (tbfX5 w h)) hown hK hP 1 rfl rfl 11 (by decide) (hts (.fieldLink RX10 154 "PowerRails$Run" "trips" "I") (tbC _ wd128)) (fun _ h9 => h9) rfl dX10_go_18 ?_
      refine lv_istore_n (lv' := [(2, .int trips), (0, .ref xo), (1, .int a0)]) hx hb dX10_go_21 rfl hl (by decide) rfl (fun ls hl => ?_)
      refine lv_iconst (v := 0) hx hb dX10_go_22 (by decide) ?_
      refine lv_istore_n (lv' := [(3, .int 0), (2, .int trips), (0, .ref xo), (1, .int a0)]) hx hb dX10_go_23 rfl hl (by decide) rfl (fun ls hl => ?_)
      have hl162 : ∀ (nhl162 : Nat) (x147 : Int32) (x148 : Int32) (x149 : Int32) (x150 : Int32) (x151 : Int32) (x152 : Int32) (x153 : Int32) (f154 : Nat → Int32) (f155 : Nat → Int32) (f156 : Nat → Int32) (f157 : Nat → Int32) (x158 : Int32) (f159 : Nat → Int32) (f160 : Nat → Int32) (f161 : Nat → Int32), ((999 - x147.toInt).toNat < nhl162) → (hx147 : 0 ≤ x147.toInt ∧ x147.toInt ≤ 999) → (hx158 : 0 ≤ x158.toInt ∧ x158.toInt ≤ 64) → (hM : M_x_go a0 tick held tries trips ldraw gdraw rs ri ra rg ysz ya yb yc rails dead pn rt key pt behind limit = (K_x_go_L6 a0 trips rails dead pn rt key pt behind limit nhl162 x147 x148 x149 x150 x151 x152 x153 f154 f155 f156 f157 x158 f159 f160 f161)) → ∀ (H : Heap) (locs : List Loc), va_P D vwCl [oX10 xo tp rd rn co wy sg sh pl sp lf, oX5 rn hy rsa ria raa rta rga dead key x148 x149 x150 x151 x152 x153, oAI rsa cI 8 f154, oAI ria cI 8 f155, oAI raa cI 8 f156, oAI rta cI 8 rt, oAI rga cI 8 f157, oX2 hy yaa yba yca x158, oAI yaa cI 64 f159, oAI yba cI 64 f160, oAI yca cI 64 f161, oX3 pl pna pta rails limit retry behind, oAI pna cI 64 pn, oAJ pta cJ 64 pt] H → va_D A [oX10 xo tp rd rn co wy sg sh pl sp lf, oX5 rn hy rsa ria raa rta rga dead key x148 x149 x150 x151 x152 x153, oAI rsa cI 8 f154, oAI ria cI 8 f155, oAI raa cI 8 f156, oAI rta cI 8 rt, oAI rga cI 8 f157, oX2 hy yaa yba yca x158, oAI yaa cI 64 f159, oAI yba cI 64 f160, oAI yca cI 64 f161, oX3 pl pna pta rails limit retry behind, oAI pna cI 64 pn, oAJ pta cJ 64 pt] → va_S A s.heap H locs → ∀ (ls : Array Slot), lv_has ls 4 [(3, .int x147), (2, .int trips), (0, .ref xo), (1, .int a0)] → W p l e rm_x_go s m [Value.ref xo, Value.int a0].toArray below meth c H locs 0 0 (MQ below ((Q_x_go D cI cJ cZ cG cH xo a0 tp rd rn co wy sg sh pl sp lf hy rsa ria raa rta rga dead key tick held tries trips ldraw gdraw rs ri ra rt rg yaa yba yca ysz ya yb yc pna pta rails limit retry behind pn pt) A) [Value.ref xo, Value.int a0].toArray s 0 0 A) (F0 m 24 ls []) := by
        intro nhl162
        induction nhl162 with
        | zero =>
          intro x147 x148 x149 x150 x151 x152 x153 f154 f155 f156 f157 x158 f159 f160 f161 hmhl162
          exact absurd hmhl162 (Nat.not_lt_zero _)
        | succ nhl162 ihhl162 =>
          intro x147 x148 x149 x150 x151 x152 x153 f154 f155 f156 f157 x158 f159 f160 f161 hmhl162 hx147 hx158 hM H locs hP hD hS ls hl
          have hM : M_x_go a0 tick held tries trips ldraw gdraw rs ri ra rg ysz ya yb yc rails dead pn rt key pt behind limit = (K_x_go_6 a0 x147 x151 trips x148 x149 x150 x152 x153 f154 f155 f156 f157 x158 f159 f160 f161 (K_x_go_L6 a0 trips rails dead pn rt key pt behind limit nhl162) rails dead pn rt key pt behind limit) := hM
          refine lv_iload_n hx hb dX10_go_24 rfl (lv_at hl 0 rfl) ?_
          refine lv_iload_n hx hb dX10_go_25 rfl (lv_at hl 3 rfl) ?_
          refine lv_icmp_ge (tgt := 46) hx hb dX10_go_26 (by decide) (fun c_163 => ?_) (fun c_163 => ?_)
          · skip
            have i_163 : a0.toInt ≤ x147.toInt := (ile rfl rfl).mp c_163
            have hM : M_x_go a0 tick held tries trips ldraw gdraw rs ri ra rg ysz ya yb yc rails dead pn rt key pt behind limit = (K_x_go_7 x151 trips x148 x149 x150 x152 x153 f154 f155 f156 f157 x158 f159 f160 f161) := (show M_x_go a0 tick held tries trips ldraw gdraw rs ri ra rg ysz ya yb yc rails dead pn rt key pt behind limit = (if a0.toInt ≤ x147.toInt then (K_x_go_7 x151 trips x148 x149 x150 x152 x153 f154 f155 f156 f157 x158 f159 f160 f161) else (K_x_go_8 (K_x_go_L6 a0 trips rails dead pn rt key pt behind limit nhl162) x147 x150 x151 x153 rails x149 x148 dead pn rt key pt behind limit f154 f155 f156 f157 x158 f159 f160 f161)) from hM).trans (if_pos i_163)
            refine lv_aload_n hx hb dX10_go_46 rfl (lv_at hl 2 rfl) ?_
            refine va_get (D := D) (ci := 9) (v := .ref rn) (C := RX10) (T := TX10) (N := 10) hx hb hts (fun w h => tbC w (tbfX10 w h)) hown hK hP 0 rfl rfl 2 (by decide) (hts (.fieldLink RX10 19 "PowerRails" "run" "LPowerRails$Run;") (tbC _ wd249)) (fun _ h9 => h9) rfl dX10_go_47 ?_
            refine va_get (D := D) (ci := 4) (v := .int x151) (C := RX5) (T := TX5) (N := 14) hx hb hts (fun w h => tbC w (tbfX5 w h)) hown hK hP 1 rfl rfl 11 (by decide) (hts (.fieldLink RX10 154 "PowerRails$Run" "trips" "I") (tbC _ wd128)) (fun _ h9 => h9) rfl dX10_go_50 ?_
            refine lv_iload_n hx hb dX10_go_53 rfl (lv_at hl 1 rfl) ?_
            refine lv_isub hx hb dX10_go_54 ?_
            refine lv_topi (fun v164 ev164 => ?_)
            refine W.widen (k := 0) (n := 0) (by decide) (by decide) ?_
            exact W.iret (v := v164) hx hb hr (fun t ht hW => ⟨⟨v164, v164, rfl, ⟨rfl, trivial⟩, ⟨x148, x149, x150, x151, x152, x153, f154, f155, f156, f157, x158, f159, f160, f161, (xrng rfl (by omega) (by omega)), (by rw [ev164]; exact hM), xB_of9 ht hW hP hK hD [0, 1, 2, 3, 4, 5, 6, 7, 8, 9, 10, 11, 12, 13] (by decide +kernel) rfl⟩⟩, hS.F ht⟩) hS.2.2 dX10_go_55
          · skip
            have i_163 : ¬ (a0.toInt ≤ x147.toInt) := fun h9 => c_163 ((ile rfl rfl).mpr h9)
            have hM : M_x_go a0 tick held tries trips ldraw gdraw rs ri ra rg ysz ya yb yc rails dead pn rt key pt behind limit = (K_x_go_8 (K_x_go_L6 a0 trips rails dead pn rt key pt behind limit nhl162) x147 x150 x151 x153 rails x149 x148 dead pn rt key pt behind limit f154 f155 f156 f157 x158 f159 f160 f161) := (show M_x_go a0 tick held tries trips ldraw gdraw rs ri ra rg ysz ya yb yc rails dead pn rt key pt behind limit = (if a0.toInt ≤ x147.toInt then (K_x_go_7 x151 trips x148 x149 x150 x152 x153 f154 f155 f156 f157 x158 f159 f160 f161) else (K_x_go_8 (K_x_go_L6 a0 trips rails dead pn rt key pt behind limit nhl162) x147 x150 x151 x153 rails x149 x148 dead pn rt key pt behind limit f154 f155 f156 f157 x158 f159 f160 f161)) from hM).trans (if_neg i_163)
            refine lv_aload_n hx hb dX10_go_29 rfl (lv_at hl 2 rfl) ?_
            refine va_get (D := D) (ci := 9) (v := .ref rn) (C := RX10) (T := TX10) (N := 10) hx hb hts (fun w h => tbC w (tbfX10 w h)) hown hK hP 0 rfl rfl 2 (by decide) (hts (.fieldLink RX10 19 "PowerRails" "run" "LPowerRails$Run;") (tbC _ wd249)) (fun _ h9 => h9) rfl dX10_go_30 ?_
            refine lv_aload_n hx hb dX10_go_33 rfl (lv_at hl 2 rfl) ?_
            refine va_get (D := D) (ci := 9) (v := .ref pl) (C := RX10) (T := TX10) (N := 10) hx hb hts (fun w h => tbC w (tbfX10 w h)) hown hK hP 0 rfl rfl 7 (by decide) (hts (.fieldLink RX10 56 "PowerRails" "plan" "LPowerRails$Plan;") (tbC _ wd254)) (fun _ h9 => h9) rfl dX10_go_34 ?_
            obtain ⟨hPc, hDc, hFc, hC9⟩ := xpk (wc := W_passTick cI cJ cZ cG cH rn pl hy rsa ria raa rta rga dead key x148 x149 x150 x151 x152 x153 f154 f155 f156 rt f157 yaa yba yca x158 f159 f160 f161 pna pta rails limit retry behind pn pt) hP hD hS hA [1, 2, 3, 4, 5, 6, 7, 8, 9, 10, 11, 12, 13] (by decide +kernel) rfl
            refine va_callv (va_runV (As := [.ref pl]) (rest := []) ⟨hx, hb, hml, hown, hts⟩ (c_passTick l D cI cJ cZ cG cH H.size rn pl hy rsa ria raa rta rga dead key x148 x149 x150 x151 x152 x153 f154 f155 f156 rt f157 yaa yba yca x158 f159 f160 f161 pna pta rails limit retry behind pn pt (xrng rfl (by omega) (by omega)) (xwk_rng h_rt (by decide) (by decide)) (xrng rfl (by omega) (by omega)) (xrng rfl (by omega) (by omega)) (xwk_rng h_pn (by decide) (by decide))) (cwV 1 hts (xGV tbC wd455 wd456 wd457 wd52 wd1024) rfl rfl rfl (by decide +kernel) ⟨Nat.le_of_ble_eq_true rfl, Nat.le_of_ble_eq_true rfl⟩) ⟨xPc_blind, va_recv hK hPc (ci := 4) (q0 := 0) rfl rfl, xPc_pre hPc hK hDc⟩ rfl rfl hl.1 rfl (lv_room (Nat.le_of_ble_eq_true rfl)) dX10_go_37 ⟨Nat.le_of_ble_eq_true rfl, Nat.le_of_ble_eq_true rfl⟩) hS (fun q _ h => hFc q h) hFc (fun u t H1 locs ht hvm hw165 hB hz1 hk1 hS => ?_)
            revert hB
            refine xex14r (fun tick_166 held_167 tries_168 trips_169 ldraw_170 gdraw_171 rs_172 ri_173 ra_174 rg_175 ysz_176 ya_177 yb_178 yc_179 => ?_)
            refine xan5r (fun hf179_0 hf179_1 hP1 hK1 hD1 => ?_)
            rw [ht] at hP1
            obtain ⟨hP, hD⟩ : xPD D A [oX10 xo tp rd rn co wy sg sh pl sp lf, oX5 rn hy rsa ria raa rta rga dead key tick_166 held_167 tries_168 trips_169 ldraw_170 gdraw_171, oAI rsa cI 8 rs_172, oAI ria cI 8 ri_173, oAI raa cI 8 ra_174, oAI rta cI 8 rt, oAI rga cI 8 rg_175, oX2 hy yaa yba yca ysz_176, oAI yaa cI 64 ya_177, oAI yba cI 64 yb_178, oAI yca cI 64 yc_179, oX3 pl pna pta rails limit retry behind, oAI pna cI 64 pn, oAJ pta cJ 64 pt] H1 := xjn 1 hP hD [1, 2, 3, 4, 5, 6, 7, 8, 9, 10, 11, 12, 13] [0] hC9 rfl (by decide +kernel) (by decide +kernel) hk1 hFc hP1 hD1
            generalize H1 = H at hP hS ⊢
            have hf179_0 : 0 ≤ ysz_176.toInt ∧ ysz_176.toInt ≤ 64 := hf179_0
            have hf179_1 : M_passTick x150 x151 x153 rails x149 x148 dead pn rt key pt behind limit f154 f155 f156 f157 x158 f159 f160 f161 = (tick_166, held_167, tries_168, trips_169, ldraw_170, gdraw_171, rs_172, ri_173, ra_174, rg_175, ysz_176, ya_177, yb_178, yc_179) := hf179_1
            have h9M := congrArg (fun t9 => (K_x_go_9 (K_x_go_L6 a0 trips rails dead pn rt key pt behind limit nhl162) x147 t9.1 t9.2.1 t9.2.2.1 t9.2.2.2.1 t9.2.2.2.2.1 t9.2.2.2.2.2.1 t9.2.2.2.2.2.2.1 t9.2.2.2.2.2.2.2.1 t9.2.2.2.2.2.2.2.2.1 t9.2.2.2.2.2.2.2.2.2.1 t9.2.2.2.2.2.2.2.2.2.2.1 t9.2.2.2.2.2.2.2.2.2.2.2.1 t9.2.2.2.2.2.2.2.2.2.2.2.2.1 t9.2.2.2.2.2.2.2.2.2.2.2.2.2)) hf179_1
            have hM : M_x_go a0 tick held tries trips ldraw gdraw rs ri ra rg ysz ya yb yc rails dead pn rt key pt behind limit = (K_x_go_9 (K_x_go_L6 a0 trips rails dead pn rt key pt behind limit nhl162) x147 tick_166 held_167 tries_168 trips_169 ldraw_170 gdraw_171 rs_172 ri_173 ra_174 rg_175 ysz_176 ya_177 yb_178 yc_179) := (show M_x_go a0 tick held tries trips ldraw gdraw rs ri ra rg ysz ya yb yc rails dead pn rt key pt behind limit = ((fun t9 => (K_x_go_9 (K_x_go_L6 a0 trips rails dead pn rt key pt behind limit nhl162) x147 t9.1 t9.2.1 t9.2.2.1 t9.2.2.2.1 t9.2.2.2.2.1 t9.2.2.2.2.2.1 t9.2.2.2.2.2.2.1 t9.2.2.2.2.2.2.2.1 t9.2.2.2.2.2.2.2.2.1 t9.2.2.2.2.2.2.2.2.2.1 t9.2.2.2.2.2.2.2.2.2.2.1 t9.2.2.2.2.2.2.2.2.2.2.2.1 t9.2.2.2.2.2.2.2.2.2.2.2.2.1 t9.2.2.2.2.2.2.2.2.2.2.2.2.2)) (M_passTick x150 x151 x153 rails x149 x148 dead pn rt key pt behind limit f154 f155 f156 f157 x158 f159 f160 f161)) from hM).trans h9M
            obtain ⟨x180, ex180⟩ : ∃ y : Int32, y = x147 + 1 := ⟨_, rfl⟩
            have tx180 : x180.toInt = (x147.toInt + 1) := (congrArg Int32.toInt ex180).trans (xadd rfl (by decide) (by omega) (by omega))
            refine lv_iinc (v := x180) (lv' := [(3, .int x180), (2, .int trips), (0, .ref xo), (1, .int a0)]) hx hb dX10_go_40 hl (k := 0) rfl (by rw [ex180]; rfl) (by decide) rfl (fun ls hl => ?_)
            refine lv_goto (tgt := 24) hx hb dX10_go_43 (by decide) ?_
            exact ihhl162 x180 tick_166 held_167 tries_168 trips_169 ldraw_170 gdraw_171 rs_172 ri_173 ra_174 rg_175 ysz_176 ya_177 yb_178 yc_179 (by omega) (xrng tx180 (by omega) (by omega)) (xrng rfl (by omega) (by omega)) (by rw [ex180]; exact hM) _ _ hP hD hS ls (lv_sub hl [0, 1, 2, 3] rfl)
      exact hl162 100000 0 tick held tries trips ldraw gdraw rs ri ra rg ysz ya yb yc (by have z9_0 : (0 : Int32).toInt = 0 := (by decide); omega) ⟨by decide, by decide⟩ (xrng rfl (by omega) (by omega)) hM _ _ hP hD hS ls (lv_sub hl [0, 1, 2, 3] rfl)
    · skip
      have i_2 : ¬ (a0.toInt ≤ 999) := fun h9 => c_2 ((ile rfl (by decide)).mpr h9)
      have hM : M_x_go a0 tick held tries trips ldraw gdraw rs ri ra rg ysz ya yb yc rails dead pn rt key pt behind limit = (K_x_go_5 tick held tries trips ldraw gdraw rs ri ra rg ysz ya yb yc) := (show M_x_go a0 tick held tries trips ldraw gdraw rs ri ra rg ysz ya yb yc rails dead pn rt key pt behind limit = (if a0.toInt ≤ 999 then (K_x_go_4 a0 trips rails dead pn rt key pt behind limit tick held tries ldraw gdraw rs ri ra rg ysz ya yb yc) else (K_x_go_5 tick held tries trips ldraw gdraw rs ri ra rg ysz ya yb yc)) from hM).trans (if_neg i_2)
      refine lv_iconst (v := (-1)) hx hb dX10_go_12 (by decide) ?_
      refine W.widen (k := 0) (n := 0) (by decide) (by decide) ?_
      exact W.iret (v := (-1)) hx hb hr (fun t ht hW => ⟨⟨(-1), (-1), rfl, ⟨rfl, trivial⟩, ⟨tick, held, tries, trips, ldraw, gdraw, rs, ri, ra, rg, ysz, ya, yb, yc, (xrng rfl (by omega) (by omega)), hM, xB_of9 ht hW hP hK hD [0, 1, 2, 3, 4, 5, 6, 7, 8, 9, 10, 11, 12, 13] (by decide +kernel) rfl⟩⟩, hS.F ht⟩) hS.2.2 dX10_go_13
def K_x_now_2 (tick : Int32) : (Int32) := (tick)
def K_x_now_6 (r2 : Int32) : (Int32) := (r2)
def K_x_now_4 (rs : Nat → Int32) : (Int32) := ((fun t9 => (K_x_now_6 t9)) (M_railsThatAre rs (3 : Int32)))
def K_x_now_9 (r3 : Int32) : (Int32) := (r3)
def K_x_now_7 (rs : Nat → Int32) : (Int32) := ((fun t9 => (K_x_now_9 t9)) (M_railsThatAre rs (2 : Int32)))
def K_x_now_10 (ldraw : Int32) : (Int32) := (ldraw)
def K_x_now_12 (held : Int32) : (Int32) := (held)
def K_x_now_14 (tries : Int32) : (Int32) := (tries)
def K_x_now_16 (gdraw : Int32) : (Int32) := (gdraw)
def K_x_now_18 (key : Int32) : (Int32) := ((sp_b key))
def K_x_now_20 (trips : Int32) : (Int32) := (trips)
def K_x_now_21  : (Int32) := ((-9 : Int32))
def K_x_now_19 (a0 : Int32) (trips : Int32) : (Int32) := (if (a0 : Int32).toInt = 8 then (K_x_now_20 trips) else (K_x_now_21))
def K_x_now_17 (a0 : Int32) (key : Int32) (trips : Int32) : (Int32) := (if (a0 : Int32).toInt = 7 then (K_x_now_18 key) else (K_x_now_19 a0 trips))
def K_x_now_15 (a0 : Int32) (gdraw : Int32) (key : Int32) (trips : Int32) : (Int32) := (if (a0 : Int32).toInt = 6 then (K_x_now_16 gdraw) else (K_x_now_17 a0 key trips))
def K_x_now_13 (a0 : Int32) (tries : Int32) (gdraw : Int32) (key : Int32) (trips : Int32) : (Int32) := (if (a0 : Int32).toInt = 5 then (K_x_now_14 tries) else (K_x_now_15 a0 gdraw key trips))
def K_x_now_11 (a0 : Int32) (held : Int32) (tries : Int32) (gdraw : Int32) (key : Int32) (trips : Int32) : (Int32) := (if (a0 : Int32).toInt = 4 then (K_x_now_12 held) else (K_x_now_13 a0 tries gdraw key trips))
def K_x_now_8 (a0 : Int32) (ldraw : Int32) (held : Int32) (tries : Int32) (gdraw : Int32) (key : Int32) (trips : Int32) : (Int32) := (if (a0 : Int32).toInt = 3 then (K_x_now_10 ldraw) else (K_x_now_11 a0 held tries gdraw key trips))
def K_x_now_5 (a0 : Int32) (rs : Nat → Int32) (ldraw : Int32) (held : Int32) (tries : Int32) (gdraw : Int32) (key : Int32) (trips : Int32) : (Int32) := (if (a0 : Int32).toInt = 2 then (K_x_now_7 rs) else (K_x_now_8 a0 ldraw held tries gdraw key trips))
def K_x_now_3 (a0 : Int32) (rs : Nat → Int32) (ldraw : Int32) (held : Int32) (tries : Int32) (gdraw : Int32) (key : Int32) (trips : Int32) : (Int32) := (if (a0 : Int32).toInt = 1 then (K_x_now_4 rs) else (K_x_now_5 a0 rs ldraw held tries gdraw key trips))
def K_x_now_1 (a0 : Int32) (tick : Int32) (rs : Nat → Int32) (ldraw : Int32) (held : Int32) (tries : Int32) (gdraw : Int32) (key : Int32) (trips : Int32) : (Int32) := (if (a0 : Int32).toInt = 0 then (K_x_now_2 tick) else (K_x_now_3 a0 rs ldraw held tries gdraw key trips))
def M_x_now (a0 : Int32) (tick : Int32) (rs : Nat → Int32) (ldraw : Int32) (held : Int32) (tries : Int32) (gdraw : Int32) (key : Int32) (trips : Int32) : (Int32) := (K_x_now_1 a0 tick rs ldraw held tries gdraw key trips)
abbrev W_x_now (cI cJ cZ cG cH : ClassId) (xo : Nat) (a0 : Int32) (tp : Nat) (rd : Nat) (rn : Nat) (co : Nat) (wy : Nat) (sg : Nat) (sh : Nat) (pl : Nat) (sp : Nat) (lf : Int32) (hy : Nat) (rsa : Nat) (ria : Nat) (raa : Nat) (rta : Nat) (rga : Nat) (dead : Int32) (key : Int32) (tick : Int32) (held : Int32) (tries : Int32) (trips : Int32) (ldraw : Int32) (gdraw : Int32) (rs : Nat → Int32) : va_W := [oX10 xo tp rd rn co wy sg sh pl sp lf, oX5 rn hy rsa ria raa rta rga dead key tick held tries trips ldraw gdraw, oAI rsa cI 8 rs]
abbrev Q_x_now (D : va_G) (cI cJ cZ cG cH : ClassId) (xo : Nat) (a0 : Int32) (tp : Nat) (rd : Nat) (rn : Nat) (co : Nat) (wy : Nat) (sg : Nat) (sh : Nat) (pl : Nat) (sp : Nat) (lf : Int32) (hy : Nat) (rsa : Nat) (ria : Nat) (raa : Nat) (rta : Nat) (rga : Nat) (dead : Int32) (key : Int32) (tick : Int32) (held : Int32) (tries : Int32) (trips : Int32) (ldraw : Int32) (gdraw : Int32) (rs : Nat → Int32) (A : Nat → Prop) : Array Value → State → Outcome → State → Prop := va_Qi (fun (r : Int32) (u9 : Int32) => r = u9 ∧ (True)) (fun u9 t => (M_x_now a0 tick rs ldraw held tries gdraw key trips = (u9)) ∧ xB D (tyL cI cJ cZ cG cH) [oX10 xo tp rd rn co wy sg sh pl sp lf, oX5 rn hy rsa ria raa rta rga dead key tick held tries trips ldraw gdraw, oAI rsa cI 8 rs] A t) A
abbrev rm_x_now : Room := { frames := 1, cells := 0, slots := 0, locals := 23 }
set_option maxRecDepth 100000 in
set_option maxHeartbeats 40000000 in
theorem c_x_now (l : Launch) (D : va_G) (cI cJ cZ cG cH : ClassId) (sz : Nat) (xo : Nat) (a0 : Int32) (tp : Nat) (rd : Nat) (rn : Nat) (co : Nat) (wy : Nat) (sg : Nat) (sh : Nat) (pl : Nat) (sp : Nat) (lf : Int32) (hy : Nat) (rsa : Nat) (ria : Nat) (raa : Nat) (rta : Nat) (rga : Nat) (dead : Int32) (key : Int32) (tick : Int32) (held : Int32) (tries : Int32) (trips : Int32) (ldraw : Int32) (gdraw : Int32) (rs : Nat → Int32) (h_key : 0 ≤ key.toInt ∧ key.toInt ≤ 1) : Met l yX10_now (wt yX10_now cX10_now 2 (some .int)) rm_x_now (xPc [.ref xo, .int a0] D (tyL cI cJ cZ cG cH) (W_x_now cI cJ cZ cG cH xo a0 tp rd rn co wy sg sh pl sp lf hy rsa ria raa rta rga dead key tick held tries trips ldraw gdraw rs) sz) (Q_x_now D cI cJ cZ cG cH xo a0 tp rd rn co wy sg sh pl sp lf hy rsa ria raa rta rga dead key tick held tries trips ldraw gdraw rs (va_A (W_x_now cI cJ cZ cG cH xo a0 tp rd rn co wy sg sh pl sp lf hy rsa ria raa rta rga dead key tick held tries trips ldraw gdraw rs) sz)) 0 0 (va_A (W_x_now cI cJ cZ cG cH xo a0 tp rd rn co wy sg sh pl sp lf hy rsa ria raa rta rga dead key tick held tries trips ldraw gdraw rs) sz) := by
  refine xMet (cc := cX10_now) (maxL := 2) (ret := (some .int)) (Qf := Q_x_now D cI cJ cZ cG cH xo a0 tp rd rn co wy sg sh pl sp lf hy rsa ria raa rta rga dead key tick held tries trips ldraw gdraw rs) (by decide) rfl (Nat.le_of_ble_eq_true rfl) ?_
  intro p e s m below meth c ls A hx hb hr hml hts hown hlocks hnm hsz hP hK hD hA hS hl
  have hown : s.vm.findClass RX10 = some m.cls := hown
  have hP : va_P D vwCl [oX10 xo tp rd rn co wy sg sh pl sp lf, oX5 rn hy rsa ria raa rta rga dead key tick held tries trips ldraw gdraw, oAI rsa cI 8 rs] s.heap := hP
  have hD : va_D A [oX10 xo tp rd rn co wy sg sh pl sp lf, oX5 rn hy rsa ria raa rta rga dead key tick held tries trips ldraw gdraw, oAI rsa cI 8 rs] := hD
  have hl : lv_has ls 2 [(0, .ref xo), (1, .int a0)] := hl
  have hM : M_x_now a0 tick rs ldraw held tries gdraw key trips = (K_x_now_1 a0 tick rs ldraw held tries gdraw key trips) := rfl
  refine lv_iload_n hx hb dX10_now_0 rfl (lv_at hl 1 rfl) ?_
  have i_1_e : (a0 : Int32).toInt = a0.toInt := rfl
  by_cases i_1_0 : (a0 : Int32).toInt = 0
  · skip
    have hM : M_x_now a0 tick rs ldraw held tries gdraw key trips = (K_x_now_2 tick) := (show M_x_now a0 tick rs ldraw held tries gdraw key trips = (if (a0 : Int32).toInt = 0 then (K_x_now_2 tick) else (K_x_now_3 a0 rs ldraw held tries gdraw key trips)) from hM).trans (if_pos i_1_0)
    refine lv_tableIn (off := 51) (tgt := 52) hx hb dX10_now_1 (by omega) (by omega) (by rw [i_1_0]; rfl) (by decide) ?_
    refine lv_aload_n hx hb dX10_now_52 rfl (lv_at hl 0 rfl) ?_
    refine va_get (D := D) (ci := 9) (v := .ref rn) (C := RX10) (T := TX10) (N := 10) hx hb hts (fun w h => tbC w (tbfX10 w h)) hown hK hP 0 rfl rfl 2 (by decide) (hts (.fieldLink RX10 19 "PowerRails" "run" "LPowerRails$Run;") (tbC _ wd249)) (fun _ h9 => h9) rfl dX10_now_53 ?_
    refine va_get (D := D) (ci := 4) (v := .int tick) (C := RX5) (T := TX5) (N := 14) hx hb hts (fun w h => tbC w (tbfX5 w h)) hown hK hP 1 rfl rfl 8 (by decide) (hts (.fieldLink RX10 160 "PowerRails$Run" "tick" "I") (tbC _ wd122)) (fun _ h9 => h9) rfl dX10_now_56 ?_
    refine W.widen (k := 0) (n := 0) (by decide) (by decide) ?_
    exact W.iret (v := tick) hx hb hr (fun t ht hW => ⟨⟨tick, tick, rfl, ⟨rfl, trivial⟩, ⟨hM, xB_of9 ht hW hP hK hD [0, 1, 2] (by decide +kernel) rfl⟩⟩, hS.F ht⟩) hS.2.2 dX10_now_59
  have hM : M_x_now a0 tick rs ldraw held tries gdraw key trips = (K_x_now_3 a0 rs ldraw held tries gdraw key trips) := (show M_x_now a0 tick rs ldraw held tries gdraw key trips = (if (a0 : Int32).toInt = 0 then (K_x_now_2 tick) else (K_x_now_3 a0 rs ldraw held tries gdraw key trips)) from hM).trans (if_neg i_1_0)
  by_cases i_1_1 : (a0 : Int32).toInt = 1
  · skip
    have hM : M_x_now a0 tick rs ldraw held tries gdraw key trips = (K_x_now_4 rs) := (show M_x_now a0 tick rs ldraw held tries gdraw key trips = (if (a0 : Int32).toInt = 1 then (K_x_now_4 rs) else (K_x_now_5 a0 rs ldraw held tries gdraw key trips)) from hM).trans (if_pos i_1_1)
    refine lv_tableIn (off := 59) (tgt := 60) hx hb dX10_now_1 (by omega) (by omega) (by rw [i_1_1]; rfl) (by decide) ?_
    refine lv_aload_n hx hb dX10_now_60 rfl (lv_at hl 0 rfl) ?_
    refine va_get (D := D) (ci := 9) (v := .ref rn) (C := RX10) (T := TX10) (N := 10) hx hb hts (fun w h => tbC w (tbfX10 w h)) hown hK hP 0 rfl rfl 2 (by decide) (hts (.fieldLink RX10 19 "PowerRails" "run" "LPowerRails$Run;") (tbC _ wd249)) (fun _ h9 => h9) rfl dX10_now_61 ?_
    refine lv_iconst (v := 3) hx hb dX10_now_64 (by decide) ?_
    obtain ⟨hPc, hDc, hFc, hC9⟩ := xpk (wc := W_railsThatAre cI cJ cZ cG cH rn (3 : Int32) hy rsa ria raa rta rga dead key tick held tries trips ldraw gdraw rs) hP hD hS hA [1, 2] (by decide +kernel) rfl
    refine va_calli (va_runV (As := [.int 3]) (rest := []) ⟨hx, hb, hml, hown, hts⟩ (c_railsThatAre l D cI cJ cZ cG cH s.heap.size rn (3 : Int32) hy rsa ria raa rta rga dead key tick held tries trips ldraw gdraw rs (xrng rfl (by omega) (by omega))) (cwV 1 hts (xGV tbC wd497 wd465 wd466 wd52 wd1027) rfl rfl rfl (by decide +kernel) ⟨Nat.le_of_ble_eq_true rfl, Nat.le_of_ble_eq_true rfl⟩) ⟨xPc_blind, va_recv hK hPc (ci := 4) (q0 := 0) rfl rfl, xPc_pre hPc hK hDc⟩ rfl rfl hl.1 rfl (lv_room (Nat.le_of_ble_eq_true rfl)) dX10_now_65 ⟨Nat.le_of_ble_eq_true rfl, Nat.le_of_ble_eq_true rfl⟩) hS (fun q _ h => hFc q h) hFc (fun r2 u t H1 locs ht hvm hw2 hB hz1 hk1 hS => ?_)
    obtain ⟨hru9, hw2⟩ := hw2
    subst hru9
    obtain ⟨hf2_0, hP1, hK1, hD1⟩ := hB
    rw [ht] at hP1
    obtain ⟨hP, hD⟩ : xPD D A [oX10 xo tp rd rn co wy sg sh pl sp lf, oX5 rn hy rsa ria raa rta rga dead key tick held tries trips ldraw gdraw, oAI rsa cI 8 rs] H1 := xjn 1 hP hD [1, 2] [0] hC9 rfl (by decide +kernel) (by decide +kernel) hk1 hFc hP1 hD1
    generalize H1 = H at hP hS ⊢
    have hf2_0 : M_railsThatAre rs (3 : Int32) = (r2) := hf2_0
    have hw2 : 0 ≤ r2.toInt ∧ r2.toInt ≤ 255 := hw2
    have h9M := congrArg (fun t9 => (K_x_now_6 t9)) hf2_0
    have hM : M_x_now a0 tick rs ldraw held tries gdraw key trips = (K_x_now_6 r2) := (show M_x_now a0 tick rs ldraw held tries gdraw key trips = ((fun t9 => (K_x_now_6 t9)) (M_railsThatAre rs (3 : Int32))) from hM).trans h9M
    refine W.widen (k := 0) (n := 0) (by decide) (by decide) ?_
    exact W.iret (v := r2) hx hb hr (fun t ht hW => ⟨⟨r2, r2, rfl, ⟨rfl, trivial⟩, ⟨hM, xB_of9 ht hW hP hK hD [0, 1, 2] (by decide +kernel) rfl⟩⟩, hS.F ht⟩) hS.2.2 dX10_now_68
  have hM : M_x_now a0 tick rs ldraw held tries gdraw key trips = (K_x_now_5 a0 rs ldraw held tries gdraw key trips) := (show M_x_now a0 tick rs ldraw held tries gdraw key trips = (if (a0 : Int32).toInt = 1 then (K_x_now_4 rs) else (K_x_now_5 a0 rs ldraw held tries gdraw key trips)) from hM).trans (if_neg i_1_1)
  by_cases i_1_2 : (a0 : Int32).toInt = 2
  · skip
    have hM : M_x_now a0 tick rs ldraw held tries gdraw key trips = (K_x_now_7 rs) := (show M_x_now a0 tick rs ldraw held tries gdraw key trips = (if (a0 : Int32).toInt = 2 then (K_x_now_7 rs) else (K_x_now_8 a0 ldraw held tries gdraw key trips)) from hM).trans (if_pos i_1_2)
    refine lv_tableIn (off := 68) (tgt := 69) hx hb dX10_now_1 (by omega) (by omega) (by rw [i_1_2]; rfl) (by decide) ?_
    refine lv_aload_n hx hb dX10_now_69 rfl (lv_at hl 0 rfl) ?_
    refine va_get (D := D) (ci := 9) (v := .ref rn) (C := RX10) (T := TX10) (N := 10) hx hb hts (fun w h => tbC w (tbfX10 w h)) hown hK hP 0 rfl rfl 2 (by decide) (hts (.fieldLink RX10 19 "PowerRails" "run" "LPowerRails$Run;") (tbC _ wd249)) (fun _ h9 => h9) rfl dX10_now_70 ?_
    refine lv_iconst (v := 2) hx hb dX10_now_73 (by decide) ?_
    obtain ⟨hPc, hDc, hFc, hC9⟩ := xpk (wc := W_railsThatAre cI cJ cZ cG cH rn (2 : Int32) hy rsa ria raa rta rga dead key tick held tries trips ldraw gdraw rs) hP hD hS hA [1, 2] (by decide +kernel) rfl
    refine va_calli (va_runV (As := [.int 2]) (rest := []) ⟨hx, hb, hml, hown, hts⟩ (c_railsThatAre l D cI cJ cZ cG cH s.heap.size rn (2 : Int32) hy rsa ria raa rta rga dead key tick held tries trips ldraw gdraw rs (xrng rfl (by omega) (by omega))) (cwV 1 hts (xGV tbC wd497 wd465 wd466 wd52 wd1027) rfl rfl rfl (by decide +kernel) ⟨Nat.le_of_ble_eq_true rfl, Nat.le_of_ble_eq_true rfl⟩) ⟨xPc_blind, va_recv hK hPc (ci := 4) (q0 := 0) rfl rfl, xPc_pre hPc hK hDc⟩ rfl rfl hl.1 rfl (lv_room (Nat.le_of_ble_eq_true rfl)) dX10_now_74 ⟨Nat.le_of_ble_eq_true rfl, Nat.le_of_ble_eq_true rfl⟩) hS (fun q _ h => hFc q h) hFc (fun r3 u t H1 locs ht hvm hw3 hB hz1 hk1 hS => ?_)
    obtain ⟨hru9, hw3⟩ := hw3
    subst hru9
    obtain ⟨hf3_0, hP1, hK1, hD1⟩ := hB
    rw [ht] at hP1
    obtain ⟨hP, hD⟩ : xPD D A [oX10 xo tp rd rn co wy sg sh pl sp lf, oX5 rn hy rsa ria raa rta rga dead key tick held tries trips ldraw gdraw, oAI rsa cI 8 rs] H1 := xjn 1 hP hD [1, 2] [0] hC9 rfl (by decide +kernel) (by decide +kernel) hk1 hFc hP1 hD1
    generalize H1 = H at hP hS ⊢
    have hf3_0 : M_railsThatAre rs (2 : Int32) = (r3) := hf3_0
    have hw3 : 0 ≤ r3.toInt ∧ r3.toInt ≤ 255 := hw3
    have h9M := congrArg (fun t9 => (K_x_now_9 t9)) hf3_0
    have hM : M_x_now a0 tick rs ldraw held tries gdraw key trips = (K_x_now_9 r3) := (show M_x_now a0 tick rs ldraw held tries gdraw key trips = ((fun t9 => (K_x_now_9 t9)) (M_railsThatAre rs (2 : Int32))) from hM).trans h9M
    refine W.widen (k := 0) (n := 0) (by decide) (by decide) ?_
    exact W.iret (v := r3) hx hb hr (fun t ht hW => ⟨⟨r3, r3, rfl, ⟨rfl, trivial⟩, ⟨hM, xB_of9 ht hW hP hK hD [0, 1, 2] (by decide +kernel) rfl⟩⟩, hS.F ht⟩) hS.2.2 dX10_now_77
  have hM : M_x_now a0 tick rs ldraw held tries gdraw key trips = (K_x_now_8 a0 ldraw held tries gdraw key trips) := (show M_x_now a0 tick rs ldraw held tries gdraw key trips = (if (a0 : Int32).toInt = 2 then (K_x_now_7 rs) else (K_x_now_8 a0 ldraw held tries gdraw key trips)) from hM).trans (if_neg i_1_2)
  by_cases i_1_3 : (a0 : Int32).toInt = 3
  · skip
    have hM : M_x_now a0 tick rs ldraw held tries gdraw key trips = (K_x_now_10 ldraw) := (show M_x_now a0 tick rs ldraw held tries gdraw key trips = (if (a0 : Int32).toInt = 3 then (K_x_now_10 ldraw) else (K_x_now_11 a0 held tries gdraw key trips)) from hM).trans (if_pos i_1_3)
    refine lv_tableIn (off := 77) (tgt := 78) hx hb dX10_now_1 (by omega) (by omega) (by rw [i_1_3]; rfl) (by decide) ?_
    refine lv_aload_n hx hb dX10_now_78 rfl (lv_at hl 0 rfl) ?_
    refine va_get (D := D) (ci := 9) (v := .ref rn) (C := RX10) (T := TX10) (N := 10) hx hb hts (fun w h => tbC w (tbfX10 w h)) hown hK hP 0 rfl rfl 2 (by decide) (hts (.fieldLink RX10 19 "PowerRails" "run" "LPowerRails$Run;") (tbC _ wd249)) (fun _ h9 => h9) rfl dX10_now_79 ?_
    refine va_get (D := D) (ci := 4) (v := .int ldraw) (C := RX5) (T := TX5) (N := 14) hx hb hts (fun w h => tbC w (tbfX5 w h)) hown hK hP 1 rfl rfl 12 (by decide) (hts (.fieldLink RX10 166 "PowerRails$Run" "latestDraw" "I") (tbC _ wd130)) (fun _ h9 => h9) rfl dX10_now_82 ?_
    refine W.widen (k := 0) (n := 0) (by decide) (by decide) ?_
    exact W.iret (v := ldraw) hx hb hr (fun t ht hW => ⟨⟨ldraw, ldraw, rfl, ⟨rfl, trivial⟩, ⟨hM, xB_of9 ht hW hP hK hD [0, 1, 2] (by decide +kernel) rfl⟩⟩, hS.F ht⟩) hS.2.2 dX10_now_85
  have hM : M_x_now a0 tick rs ldraw held tries gdraw key trips = (K_x_now_11 a0 held tries gdraw key trips) := (show M_x_now a0 tick rs ldraw held tries gdraw key trips = (if (a0 : Int32).toInt = 3 then (K_x_now_10 ldraw) else (K_x_now_11 a0 held tries gdraw key trips)) from hM).trans (if_neg i_1_3)
  by_cases i_1_4 : (a0 : Int32).toInt = 4
  · skip
    have hM : M_x_now a0 tick rs ldraw held tries gdraw key trips = (K_x_now_12 held) := (show M_x_now a0 tick rs ldraw held tries gdraw key trips = (if (a0 : Int32).toInt = 4 then (K_x_now_12 held) else (K_x_now_13 a0 tries gdraw key trips)) from hM).trans (if_pos i_1_4)
    refine lv_tableIn (off := 85) (tgt := 86) hx hb dX10_now_1 (by omega) (by omega) (by rw [i_1_4]; rfl) (by decide) ?_
    refine lv_aload_n hx hb dX10_now_86 rfl (lv_at hl 0 rfl) ?_
    refine va_get (D := D) (ci := 9) (v := .ref rn) (C := RX10) (T := TX10) (N := 10) hx hb hts (fun w h => tbC w (tbfX10 w h)) hown hK hP 0 rfl rfl 2 (by decide) (hts (.fieldLink RX10 19 "PowerRails" "run" "LPowerRails$Run;") (tbC _ wd249)) (fun _ h9 => h9) rfl dX10_now_87 ?_
    refine va_get (D := D) (ci := 4) (v := .int held) (C := RX5) (T := TX5) (N := 14) hx hb hts (fun w h => tbC w (tbfX5 w h)) hown hK hP 1 rfl rfl 9 (by decide) (hts (.fieldLink RX10 169 "PowerRails$Run" "held" "I") (tbC _ wd124)) (fun _ h9 => h9) rfl dX10_now_90 ?_
    refine W.widen (k := 0) (n := 0) (by decide) (by decide) ?_
    exact W.iret (v := held) hx hb hr (fun t ht hW => ⟨⟨held, held, rfl, ⟨rfl, trivial⟩, ⟨hM, xB_of9 ht hW hP hK hD [0, 1, 2] (by decide +kernel) rfl⟩⟩, hS.F ht⟩) hS.2.2 dX10_now_93
  have hM : M_x_now a0 tick rs ldraw held tries gdraw key trips = (K_x_now_13 a0 tries gdraw key trips) := (show M_x_now a0 tick rs ldraw held tries gdraw key trips = (if (a0 : Int32).toInt = 4 then (K_x_now_12 held) else (K_x_now_13 a0 tries gdraw key trips)) from hM).trans (if_neg i_1_4)
  by_cases i_1_5 : (a0 : Int32).toInt = 5
  · skip
    have hM : M_x_now a0 tick rs ldraw held tries gdraw key trips = (K_x_now_14 tries) := (show M_x_now a0 tick rs ldraw held tries gdraw key trips = (if (a0 : Int32).toInt = 5 then (K_x_now_14 tries) else (K_x_now_15 a0 gdraw key trips)) from hM).trans (if_pos i_1_5)
    refine lv_tableIn (off := 93) (tgt := 94) hx hb dX10_now_1 (by omega) (by omega) (by rw [i_1_5]; rfl) (by decide) ?_
    refine lv_aload_n hx hb dX10_now_94 rfl (lv_at hl 0 rfl) ?_
    refine va_get (D := D) (ci := 9) (v := .ref rn) (C := RX10) (T := TX10) (N := 10) hx hb hts (fun w h => tbC w (tbfX10 w h)) hown hK hP 0 rfl rfl 2 (by decide) (hts (.fieldLink RX10 19 "PowerRails" "run" "LPowerRails$Run;") (tbC _ wd249)) (fun _ h9 => h9) rfl dX10_now_95 ?_
    refine va_get (D := D) (ci := 4) (v := .int tries) (C := RX5) (T := TX5) (N := 14) hx hb hts (fun w h => tbC w (tbfX5 w h)) hown hK hP 1 rfl rfl 10 (by decide) (hts (.fieldLink RX10 172 "PowerRails$Run" "tries" "I") (tbC _ wd126)) (fun _ h9 => h9) rfl dX10_now_98 ?_
    refine W.widen (k := 0) (n := 0) (by decide) (by decide) ?_
    exact W.iret (v := tries) hx hb hr (fun t ht hW => ⟨⟨tries, tries, rfl, ⟨rfl, trivial⟩, ⟨hM, xB_of9 ht hW hP hK hD [0, 1, 2] (by decide +kernel) rfl⟩⟩, hS.F ht⟩) hS.2.2 dX10_now_101
  have hM : M_x_now a0 tick rs ldraw held tries gdraw key trips = (K_x_now_15 a0 gdraw key trips) := (show M_x_now a0 tick rs ldraw held tries gdraw key trips = (if (a0 : Int32).toInt = 5 then (K_x_now_14 tries) else (K_x_now_15 a0 gdraw key trips)) from hM).trans (if_neg i_1_5)
  by_cases i_1_6 : (a0 : Int32).toInt = 6
  · skip
    have hM : M_x_now a0 tick rs ldraw held tries gdraw key trips = (K_x_now_16 gdraw) := (show M_x_now a0 tick rs ldraw held tries gdraw key trips = (if (a0 : Int32).toInt = 6 then (K_x_now_16 gdraw) else (K_x_now_17 a0 key trips)) from hM).trans (if_pos i_1_6)
    refine lv_tableIn (off := 101) (tgt := 102) hx hb dX10_now_1 (by omega) (by omega) (by rw [i_1_6]; rfl) (by decide) ?_
    refine lv_aload_n hx hb dX10_now_102 rfl (lv_at hl 0 rfl) ?_
    refine va_get (D := D) (ci := 9) (v := .ref rn) (C := RX10) (T := TX10) (N := 10) hx hb hts (fun w h => tbC w (tbfX10 w h)) hown hK hP 0 rfl rfl 2 (by decide) (hts (.fieldLink RX10 19 "PowerRails" "run" "LPowerRails$Run;") (tbC _ wd249)) (fun _ h9 => h9) rfl dX10_now_103 ?_
    refine va_get (D := D) (ci := 4) (v := .int gdraw) (C := RX5) (T := TX5) (N := 14) hx hb hts (fun w h => tbC w (tbfX5 w h)) hown hK hP 1 rfl rfl 13 (by decide) (hts (.fieldLink RX10 175 "PowerRails$Run" "greatestDraw" "I") (tbC _ wd132)) (fun _ h9 => h9) rfl dX10_now_106 ?_
    refine W.widen (k := 0) (n := 0) (by decide) (by decide) ?_
    exact W.iret (v := gdraw) hx hb hr (fun t ht hW => ⟨⟨gdraw, gdraw, rfl, ⟨rfl, trivial⟩, ⟨hM, xB_of9 ht hW hP hK hD [0, 1, 2] (by decide +kernel) rfl⟩⟩, hS.F ht⟩) hS.2.2 dX10_now_109
  have hM : M_x_now a0 tick rs ldraw held tries gdraw key trips = (K_x_now_17 a0 key trips) := (show M_x_now a0 tick rs ldraw held tries gdraw key trips = (if (a0 : Int32).toInt = 6 then (K_x_now_16 gdraw) else (K_x_now_17 a0 key trips)) from hM).trans (if_neg i_1_6)
  by_cases i_1_7 : (a0 : Int32).toInt = 7
  · skip
    have hM : M_x_now a0 tick rs ldraw held tries gdraw key trips = (K_x_now_18 key) := (show M_x_now a0 tick rs ldraw held tries gdraw key trips = (if (a0 : Int32).toInt = 7 then (K_x_now_18 key) else (K_x_now_19 a0 trips)) from hM).trans (if_pos i_1_7)
    refine lv_tableIn (off := 109) (tgt := 110) hx hb dX10_now_1 (by omega) (by omega) (by rw [i_1_7]; rfl) (by decide) ?_
    refine lv_aload_n hx hb dX10_now_110 rfl (lv_at hl 0 rfl) ?_
    refine va_get (D := D) (ci := 9) (v := .ref rn) (C := RX10) (T := TX10) (N := 10) hx hb hts (fun w h => tbC w (tbfX10 w h)) hown hK hP 0 rfl rfl 2 (by decide) (hts (.fieldLink RX10 19 "PowerRails" "run" "LPowerRails$Run;") (tbC _ wd249)) (fun _ h9 => h9) rfl dX10_now_111 ?_
    refine va_get (D := D) (ci := 4) (v := .int key) (C := RX5) (T := TX5) (N := 14) hx hb hts (fun w h => tbC w (tbfX5 w h)) hown hK hP 1 rfl rfl 7 (by decide) (hts (.fieldLink RX10 139 "PowerRails$Run" "key" "Z") (tbC _ wd120)) (fun _ h9 => h9) rfl dX10_now_114 ?_
    obtain ⟨hPc, hDc, hFc, hC9⟩ := xpk (wc := W_asNumber cI cJ cZ cG cH key) hP hD hS hA [] (by decide +kernel) rfl
    refine va_calli (va_runS (As := [.int key]) (rest := []) ⟨hx, hb, hml, hown, hts⟩ (c_asNumber l D cI cJ cZ cG cH s.heap.size key) (va_cwS 1 hts (xGS tbC wd425 wd426 wd50 wd1014) rfl rfl rfl (by decide +kernel) ⟨Nat.le_of_ble_eq_true rfl, Nat.le_of_ble_eq_true rfl⟩) ⟨xPc_blind, xPc_pre hPc hK hDc⟩ rfl rfl hl.1 rfl (lv_room (Nat.le_of_ble_eq_true rfl)) dX10_now_117 ⟨Nat.le_of_ble_eq_true rfl, Nat.le_of_ble_eq_true rfl⟩) hS (fun q _ h => hFc q h) hFc (fun r4 u t H1 locs ht hvm hw4 hB hz1 hk1 hS => ?_)
    obtain ⟨hP1, hK1, hD1⟩ := hB
    rw [ht] at hP1
    obtain ⟨hP, hD⟩ : xPD D A [oX10 xo tp rd rn co wy sg sh pl sp lf, oX5 rn hy rsa ria raa rta rga dead key tick held tries trips ldraw gdraw, oAI rsa cI 8 rs] H1 := xjn 3 hP hD [] [0, 1, 2] hC9 rfl (by decide +kernel) (by decide +kernel) hk1 hFc hP1 hD1
    generalize H1 = H at hP hS ⊢
    have hw4 : r4 = sp_b key := hw4
    refine W.widen (k := 0) (n := 0) (by decide) (by decide) ?_
    exact W.iret (v := r4) hx hb hr (fun t ht hW => ⟨⟨r4, r4, rfl, ⟨rfl, trivial⟩, ⟨(by rw [hw4]; exact hM), xB_of9 ht hW hP hK hD [0, 1, 2] (by decide +kernel) rfl⟩⟩, hS.F ht⟩) hS.2.2 dX10_now_120
  have hM : M_x_now a0 tick rs ldraw held tries gdraw key trips = (K_x_now_19 a0 trips) := (show M_x_now a0 tick rs ldraw held tries gdraw key trips = (if (a0 : Int32).toInt = 7 then (K_x_now_18 key) else (K_x_now_19 a0 trips)) from hM).trans (if_neg i_1_7)
  by_cases i_1_8 : (a0 : Int32).toInt = 8
  · skip
    have hM : M_x_now a0 tick rs ldraw held tries gdraw key trips = (K_x_now_20 trips) := (show M_x_now a0 tick rs ldraw held tries gdraw key trips = (if (a0 : Int32).toInt = 8 then (K_x_now_20 trips) else (K_x_now_21)) from hM).trans (if_pos i_1_8)
    refine lv_tableIn (off := 120) (tgt := 121) hx hb dX10_now_1 (by omega) (by omega) (by rw [i_1_8]; rfl) (by decide) ?_
    refine lv_aload_n hx hb dX10_now_121 rfl (lv_at hl 0 rfl) ?_
    refine va_get (D := D) (ci := 9) (v := .ref rn) (C := RX10) (T := TX10) (N := 10) hx hb hts (fun w h => tbC w (tbfX10 w h)) hown hK hP 0 rfl rfl 2 (by decide) (hts (.fieldLink RX10 19 "PowerRails" "run" "LPowerRails$Run;") (tbC _ wd249)) (fun _ h9 => h9) rfl dX10_now_122 ?_
    refine va_get (D := D) (ci := 4) (v := .int trips) (C := RX5) (T := TX5) (N := 14) hx hb hts (fun w h => tbC w (tbfX5 w h)) hown hK hP 1 rfl rfl 11 (by decide) (hts (.fieldLink RX10 154 "PowerRails$Run" "trips" "I") (tbC _ wd128)) (fun _ h9 => h9) rfl dX10_now_125 ?_
    refine W.widen (k := 0) (n := 0) (by decide) (by decide) ?_
    exact W.iret (v := trips) hx hb hr (fun t ht hW => ⟨⟨trips, trips, rfl, ⟨rfl, trivial⟩, ⟨hM, xB_of9 ht hW hP hK hD [0, 1, 2] (by decide +kernel) rfl⟩⟩, hS.F ht⟩) hS.2.2 dX10_now_128
  have hM : M_x_now a0 tick rs ldraw held tries gdraw key trips = (K_x_now_21) := (show M_x_now a0 tick rs ldraw held tries gdraw key trips = (if (a0 : Int32).toInt = 8 then (K_x_now_20 trips) else (K_x_now_21)) from hM).trans (if_neg i_1_8)
  refine lv_tableOut (tgt := 129) hx hb dX10_now_1 (by omega) (by decide) ?_
  refine lv_bipush (v := (-9)) hx hb dX10_now_129 (by decide) ?_
  refine W.widen (k := 0) (n := 0) (by decide) (by decide) ?_
  exact W.iret (v := (-9)) hx hb hr (fun t ht hW => ⟨⟨(-9), (-9), rfl, ⟨rfl, trivial⟩, ⟨hM, xB_of9 ht hW hP hK hD [0, 1, 2] (by decide +kernel) rfl⟩⟩, hS.F ht⟩) hS.2.2 dX10_now_131
def K_x_is_4 (rs : Nat → Int32) (a0 : Int32) : (Int32) := ((rs a0.toNatClampNeg))
def K_x_is_6 (ri : Nat → Int32) (a0 : Int32) : (Int32) := ((ri a0.toNatClampNeg))
def K_x_is_8 (dead : Int32) (a0 : Int32) : (Int32) := (((dead >>> (a0 &&& 31)) &&& (1 : Int32)))
def K_x_is_10 (rt : Nat → Int32) (a0 : Int32) : (Int32) := ((rt a0.toNatClampNeg))
def K_x_is_12 (rg : Nat → Int32) (a0 : Int32) : (Int32) := ((rg a0.toNatClampNeg))
def K_x_is_13  : (Int32) := ((-1 : Int32))
def K_x_is_11 (a1 : Int32) (rg : Nat → Int32) (a0 : Int32) : (Int32) := (if (a1 : Int32).toInt = 4 then (K_x_is_12 rg a0) else (K_x_is_13))
def K_x_is_9 (a1 : Int32) (rt : Nat → Int32) (a0 : Int32) (rg : Nat → Int32) : (Int32) := (if (a1 : Int32).toInt = 3 then (K_x_is_10 rt a0) else (K_x_is_11 a1 rg a0))
def K_x_is_7 (a1 : Int32) (dead : Int32) (a0 : Int32) (rt : Nat → Int32) (rg : Nat → Int32) : (Int32) := (if (a1 : Int32).toInt = 2 then (K_x_is_8 dead a0) else (K_x_is_9 a1 rt a0 rg))
def K_x_is_5 (a1 : Int32) (ri : Nat → Int32) (a0 : Int32) (dead : Int32) (rt : Nat → Int32) (rg : Nat → Int32) : (Int32) := (if (a1 : Int32).toInt = 1 then (K_x_is_6 ri a0) else (K_x_is_7 a1 dead a0 rt rg))
def K_x_is_2 (a1 : Int32) (rs : Nat → Int32) (a0 : Int32) (ri : Nat → Int32) (dead : Int32) (rt : Nat → Int32) (rg : Nat → Int32) : (Int32) := (if (a1 : Int32).toInt = 0 then (K_x_is_4 rs a0) else (K_x_is_5 a1 ri a0 dead rt rg))
def K_x_is_3  : (Int32) := ((-1 : Int32))
def K_x_is_1 (a0 : Int32) (rails : Int32) (a1 : Int32) (rs : Nat → Int32) (ri : Nat → Int32) (dead : Int32) (rt : Nat → Int32) (rg : Nat → Int32) : (Int32) := (if 0 ≤ a0.toInt ∧ a0.toInt < rails.toInt then (K_x_is_2 a1 rs a0 ri dead rt rg) else (K_x_is_3))
def M_x_is (a0 : Int32) (rails : Int32) (a1 : Int32) (rs : Nat → Int32) (ri : Nat → Int32) (dead : Int32) (rt : Nat → Int32) (rg : Nat → Int32) : (Int32) := (K_x_is_1 a0 rails a1 rs ri dead rt rg)
abbrev W_x_is (cI cJ cZ cG cH : ClassId) (xo : Nat) (a0 : Int32) (a1 : Int32) (tp : Nat) (rd : Nat) (rn : Nat) (co : Nat) (wy : Nat) (sg : Nat) (sh : Nat) (pl : Nat) (sp : Nat) (lf : Int32) (hy : Nat) (rsa : Nat) (ria : Nat) (raa : Nat) (rta : Nat) (rga : Nat) (dead : Int32) (key : Int32) (tick : Int32) (held : Int32) (tries : Int32) (trips : Int32) (ldraw : Int32) (gdraw : Int32) (rs : Nat → Int32) (ri : Nat → Int32) (ra : Nat → Int32) (rt : Nat → Int32) (rg : Nat → Int32) (pna : Nat) (pta : Nat) (rails : Int32) (limit : Int32) (retry : Int32) (behind : Int32) : va_W := [oX10 xo tp rd rn co wy sg sh pl sp lf, oX5 rn hy rsa ria raa rta rga dead key tick held tries trips ldraw gdraw, oAI rsa cI 8 rs, oAI ria cI 8 ri, oAI raa cI 8 ra, oAI rta cI 8 rt, oAI rga cI 8 rg, oX3 pl pna pta rails limit retry behind]
abbrev Q_x_is (D : va_G) (cI cJ cZ cG cH : ClassId) (xo : Nat) (a0 : Int32) (a1 : Int32) (tp : Nat) (rd : Nat) (rn : Nat) (co : Nat) (wy : Nat) (sg : Nat) (sh : Nat) (pl : Nat) (sp : Nat) (lf : Int32) (hy : Nat) (rsa : Nat) (ria : Nat) (raa : Nat) (rta : Nat) (rga : Nat) (dead : Int32) (key : Int32) (tick : Int32) (held : Int32) (tries : Int32) (trips : Int32) (ldraw : Int32) (gdraw : Int32) (rs : Nat → Int32) (ri : Nat → Int32) (ra : Nat → Int32) (rt : Nat → Int32) (rg : Nat → Int32) (pna : Nat) (pta : Nat) (rails : Int32) (limit : Int32) (retry : Int32) (behind : Int32) (A : Nat → Prop) : Array Value → State → Outcome → State → Prop := va_Qi (fun (r : Int32) (u9 : Int32) => r = u9 ∧ (True)) (fun u9 t => (M_x_is a0 rails a1 rs ri dead rt rg = (u9)) ∧ xB D (tyL cI cJ cZ cG cH) [oX10 xo tp rd rn co wy sg sh pl sp lf, oX5 rn hy rsa ria raa rta rga dead key tick held tries trips ldraw gdraw, oAI rsa cI 8 rs, oAI ria cI 8 ri, oAI raa cI 8 ra, oAI rta cI 8 rt, oAI rga cI 8 rg, oX3 pl pna pta rails limit retry behind] A t) A
abbrev rm_x_is : Room := { frames := 1, cells := 0, slots := 0, locals := 21 }
set_option maxRecDepth 100000 in
set_option maxHeartbeats 40000000 in
theorem c_x_is (l : Launch) (D : va_G) (cI cJ cZ cG cH : ClassId) (sz : Nat) (xo : Nat) (a0 : Int32) (a1 : Int32) (tp : Nat) (rd : Nat) (rn : Nat) (co : Nat) (wy : Nat) (sg : Nat) (sh : Nat) (pl : Nat) (sp : Nat) (lf : Int32) (hy : Nat) (rsa : Nat) (ria : Nat) (raa : Nat) (rta : Nat) (rga : Nat) (dead : Int32) (key : Int32) (tick : Int32) (held : Int32) (tries : Int32) (trips : Int32) (ldraw : Int32) (gdraw : Int32) (rs : Nat → Int32) (ri : Nat → Int32) (ra : Nat → Int32) (rt : Nat → Int32) (rg : Nat → Int32) (pna : Nat) (pta : Nat) (rails : Int32) (limit : Int32) (retry : Int32) (behind : Int32) (h_key : 0 ≤ key.toInt ∧ key.toInt ≤ 1) (h_rt : ∀ j, j < 8 → 0 ≤ (rt j).toInt ∧ (rt j).toInt ≤ 511) (h_rails : 0 ≤ rails.toInt ∧ rails.toInt ≤ 8) : Met l yX10_is (wt yX10_is cX10_is 3 (some .int)) rm_x_is (xPc [.ref xo, .int a0, .int a1] D (tyL cI cJ cZ cG cH) (W_x_is cI cJ cZ cG cH xo a0 a1 tp rd rn co wy sg sh pl sp lf hy rsa ria raa rta rga dead key tick held tries trips ldraw gdraw rs ri ra rt rg pna pta rails limit retry behind) sz) (Q_x_is D cI cJ cZ cG cH xo a0 a1 tp rd rn co wy sg sh pl sp lf hy rsa ria raa rta rga dead key tick held tries trips ldraw gdraw rs ri ra rt rg pna pta rails limit retry behind (va_A (W_x_is cI cJ cZ cG cH xo a0 a1 tp rd rn co wy sg sh pl sp lf hy rsa ria raa rta rga dead key tick held tries trips ldraw gdraw rs ri ra rt rg pna pta rails limit retry behind) sz)) 0 0 (va_A (W_x_is cI cJ cZ cG cH xo a0 a1 tp rd rn co wy sg sh pl sp lf hy rsa ria raa rta rga dead key tick held tries trips ldraw gdraw rs ri ra rt rg pna pta rails limit retry behind) sz) := by
  refine xMet (cc := cX10_is) (maxL := 3) (ret := (some .int)) (Qf := Q_x_is D cI cJ cZ cG cH xo a0 a1 tp rd rn co wy sg sh pl sp lf hy rsa ria raa rta rga dead key tick held tries trips ldraw gdraw rs ri ra rt rg pna pta rails limit retry behind) (by decide) rfl (Nat.le_of_ble_eq_true rfl) ?_
  intro p e s m below meth c ls A hx hb hr hml hts hown hlocks hnm hsz hP hK hD hA hS hl
  have hown : s.vm.findClass RX10 = some m.cls := hown
  have hP : va_P D vwCl [oX10 xo tp rd rn co wy sg sh pl sp lf, oX5 rn hy rsa ria raa rta rga dead key tick held tries trips ldraw gdraw, oAI rsa cI 8 rs, oAI ria cI 8 ri, oAI raa cI 8 ra, oAI rta cI 8 rt, oAI rga cI 8 rg, oX3 pl pna pta rails limit retry behind] s.heap := hP
  have hD : va_D A [oX10 xo tp rd rn co wy sg sh pl sp lf, oX5 rn hy rsa ria raa rta rga dead key tick held tries trips ldraw gdraw, oAI rsa cI 8 rs, oAI ria cI 8 ri, oAI raa cI 8 ra, oAI rta cI 8 rt, oAI rga cI 8 rg, oX3 pl pna pta rails limit retry behind] := hD
  have hl : lv_has ls 3 [(0, .ref xo), (1, .int a0), (2, .int a1)] := hl
  have hM : M_x_is a0 rails a1 rs ri dead rt rg = (K_x_is_1 a0 rails a1 rs ri dead rt rg) := rfl
  refine lv_aload_n hx hb dX10_is_0 rfl (lv_at hl 0 rfl) ?_
  refine va_get (D := D) (ci := 9) (v := .ref pl) (C := RX10) (T := TX10) (N := 10) hx hb hts (fun w h => tbC w (tbfX10 w h)) hown hK hP 0 rfl rfl 7 (by decide) (hts (.fieldLink RX10 56 "PowerRails" "plan" "LPowerRails$Plan;") (tbC _ wd254)) (fun _ h9 => h9) rfl dX10_is_1 ?_
  refine lv_iload_n hx hb dX10_is_4 rfl (lv_at hl 1 rfl) ?_
  obtain ⟨hPc, hDc, hFc, hC9⟩ := xpk (wc := W_hasRail cI cJ cZ cG cH pl a0 pna pta rails limit retry behind) hP hD hS hA [7] (by decide +kernel) rfl
  refine va_calli (va_runV (As := [.int a0]) (rest := []) ⟨hx, hb, hml, hown, hts⟩ (c_hasRail l D cI cJ cZ cG cH s.heap.size pl a0 pna pta rails limit retry behind (xrng rfl (by omega) (by omega))) (cwV 1 hts (xGV tbC wd409 wd410 wd411 wd59 wd1009) rfl rfl rfl (by decide +kernel) ⟨Nat.le_of_ble_eq_true rfl, Nat.le_of_ble_eq_true rfl⟩) ⟨xPc_blind, va_recv hK hPc (ci := 2) (q0 := 0) rfl rfl, xPc_pre hPc hK hDc⟩ rfl rfl hl.1 rfl (lv_room (Nat.le_of_ble_eq_true rfl)) dX10_is_5 ⟨Nat.le_of_ble_eq_true rfl, Nat.le_of_ble_eq_true rfl⟩) hS (fun q _ h => hFc q h) hFc (fun r1 u t H1 locs ht hvm hw1 hB hz1 hk1 hS => ?_)
  obtain ⟨hP1, hK1, hD1⟩ := hB
  rw [ht] at hP1
  obtain ⟨hP, hD⟩ : xPD D A [oX10 xo tp rd rn co wy sg sh pl sp lf, oX5 rn hy rsa ria raa rta rga dead key tick held tries trips ldraw gdraw, oAI rsa cI 8 rs, oAI ria cI 8 ri, oAI raa cI 8 ra, oAI rta cI 8 rt, oAI rga cI 8 rg, oX3 pl pna pta rails limit retry behind] H1 := xjn 7 hP hD [7] [0, 1, 2, 3, 4, 5, 6] hC9 rfl (by decide +kernel) (by decide +kernel) hk1 hFc hP1 hD1
  generalize H1 = H at hP hS ⊢
  have hw1 : r1 = if 0 ≤ a0.toInt ∧ a0.toInt < rails.toInt then 1 else 0 := hw1
  refine lv_if_ne (tgt := 13) hx hb dX10_is_8 (by decide) (fun c_2 => ?_) (fun c_2 => ?_)
  · skip
    have i_2 : 0 ≤ a0.toInt ∧ a0.toInt < rails.toInt := (xbool hw1).2.mp c_2
    have hM : M_x_is a0 rails a1 rs ri dead rt rg = (K_x_is_2 a1 rs a0 ri dead rt rg) := (show M_x_is a0 rails a1 rs ri dead rt rg = (if 0 ≤ a0.toInt ∧ a0.toInt < rails.toInt then (K_x_is_2 a1 rs a0 ri dead rt rg) else (K_x_is_3)) from hM).trans (if_pos i_2)
    refine lv_iload_n hx hb dX10_is_13 rfl (lv_at hl 2 rfl) ?_
    have i_3_e : (a1 : Int32).toInt = a1.toInt := rfl
    by_cases i_3_0 : (a1 : Int32).toInt = 0
    · skip
      have hM : M_x_is a0 rails a1 rs ri dead rt rg = (K_x_is_4 rs a0) := (show M_x_is a0 rails a1 rs ri dead rt rg = (if (a1 : Int32).toInt = 0 then (K_x_is_4 rs a0) else (K_x_is_5 a1 ri a0 dead rt rg)) from hM).trans (if_pos i_3_0)
      refine lv_tableIn (off := 34) (tgt := 48) hx hb dX10_is_14 (by omega) (by omega) (by rw [i_3_0]; rfl) (by decide) ?_
      refine lv_aload_n hx hb dX10_is_48 rfl (lv_at hl 0 rfl) ?_
      refine va_get (D := D) (ci := 9) (v := .ref rn) (C := RX10) (T := TX10) (N := 10) hx hb hts (fun w h => tbC w (tbfX10 w h)) hown hK hP 0 rfl rfl 2 (by decide) (hts (.fieldLink RX10 19 "PowerRails" "run" "LPowerRails$Run;") (tbC _ wd249)) (fun _ h9 => h9) rfl dX10_is_49 ?_
      refine va_get (D := D) (ci := 4) (v := .ref rsa) (C := RX5) (T := TX5) (N := 14) hx hb hts (fun w h => tbC w (tbfX5 w h)) hown hK hP 1 rfl rfl 1 (by decide) (hts (.fieldLink RX10 178 "PowerRails$Run" "states" "[I") (tbC _ wd109)) (fun _ h9 => h9) rfl dX10_is_52 ?_
      refine lv_iload_n hx hb dX10_is_55 rfl (lv_at hl 1 rfl) ?_
      refine va_iald hx hb hK hP 2 0 rfl rfl (vp_in_iff.mpr ⟨by omega, by omega⟩) dX10_is_56 ?_
      refine lv_topi (fun v4 ev4 => ?_)
      refine W.widen (k := 0) (n := 0) (by decide) (by decide) ?_
      exact W.iret (v := v4) hx hb hr (fun t ht hW => ⟨⟨v4, v4, rfl, ⟨rfl, trivial⟩, ⟨(by rw [ev4]; exact hM), xB_of9 ht hW hP hK hD [0, 1, 2, 3, 4, 5, 6, 7] (by decide +kernel) rfl⟩⟩, hS.F ht⟩) hS.2.2 dX10_is_57
    have hM : M_x_is a0 rails a1 rs ri dead rt rg = (K_x_is_5 a1 ri a0 dead rt rg) := (show M_x_is a0 rails a1 rs ri dead rt rg = (if (a1 : Int32).toInt = 0 then (K_x_is_4 rs a0) else (K_x_is_5 a1 ri a0 dead rt rg)) from hM).trans (if_neg i_3_0)
    by_cases i_3_1 : (a1 : Int32).toInt = 1
    · skip
      have hM : M_x_is a0 rails a1 rs ri dead rt rg = (K_x_is_6 ri a0) := (show M_x_is a0 rails a1 rs ri dead rt rg = (if (a1 : Int32).toInt = 1 then (K_x_is_6 ri a0) else (K_x_is_7 a1 dead a0 rt rg)) from hM).trans (if_pos i_3_1)
      refine lv_tableIn (off := 44) (tgt := 58) hx hb dX10_is_14 (by omega) (by omega) (by rw [i_3_1]; rfl) (by decide) ?_
      refine lv_aload_n hx hb dX10_is_58 rfl (lv_at hl 0 rfl) ?_
      refine va_get (D := D) (ci := 9) (v := .ref rn) (C := RX10) (T := TX10) (N := 10) hx hb hts (fun w h => tbC w (tbfX10 w h)) hown hK hP 0 rfl rfl 2 (by decide) (hts (.fieldLink RX10 19 "PowerRails" "run" "LPowerRails$Run;") (tbC _ wd249)) (fun _ h9 => h9) rfl dX10_is_59 ?_
      refine va_get (D := D) (ci := 4) (v := .ref ria) (C := RX5) (T := TX5) (N := 14) hx hb hts (fun w h => tbC w (tbfX5 w h)) hown hK hP 1 rfl rfl 2 (by decide) (hts (.fieldLink RX10 181 "PowerRails$Run" "since" "[I") (tbC _ wd111)) (fun _ h9 => h9) rfl dX10_is_62 ?_
      refine lv_iload_n hx hb dX10_is_65 rfl (lv_at hl 1 rfl) ?_
      refine va_iald hx hb hK hP 3 0 rfl rfl (vp_in_iff.mpr ⟨by omega, by omega⟩) dX10_is_66 ?_
      refine lv_topi (fun v5 ev5 => ?_)
      refine W.widen (k := 0) (n := 0) (by decide) (by decide) ?_
      exact W.iret (v := v5) hx hb hr (fun t ht hW => ⟨⟨v5, v5, rfl, ⟨rfl, trivial⟩, ⟨(by rw [ev5]; exact hM), xB_of9 ht hW hP hK hD [0, 1, 2, 3, 4, 5, 6, 7] (by decide +kernel) rfl⟩⟩, hS.F ht⟩) hS.2.2 dX10_is_67
    have hM : M_x_is a0 rails a1 rs ri dead rt rg = (K_x_is_7 a1 dead a0 rt rg) := (show M_x_is a0 rails a1 rs ri dead rt rg = (if (a1 : Int32).toInt = 1 then (K_x_is_6 ri a0) else (K_x_is_7 a1 dead a0 rt rg)) from hM).trans (if_neg i_3_1)
    by_cases i_3_2 : (a1 : Int32).toInt = 2
    · skip
      have hM : M_x_is a0 rails a1 rs ri dead rt rg = (K_x_is_8 dead a0) := (show M_x_is a0 rails a1 rs ri dead rt rg = (if (a1 : Int32).toInt = 2 then (K_x_is_8 dead a0) else (K_x_is_9 a1 rt a0 rg)) from hM).trans (if_pos i_3_2)
      refine lv_tableIn (off := 54) (tgt := 68) hx hb dX10_is_14 (by omega) (by omega) (by rw [i_3_2]; rfl) (by decide) ?_
      refine lv_aload_n hx hb dX10_is_68 rfl (lv_at hl 0 rfl) ?_
      refine va_get (D := D) (ci := 9) (v := .ref rn) (C := RX10) (T := TX10) (N := 10) hx hb hts (fun w h => tbC w (tbfX10 w h)) hown hK hP 0 rfl rfl 2 (by decide) (hts (.fieldLink RX10 19 "PowerRails" "run" "LPowerRails$Run;") (tbC _ wd249)) (fun _ h9 => h9) rfl dX10_is_69 ?_
      refine va_get (D := D) (ci := 4) (v := .int dead) (C := RX5) (T := TX5) (N := 14) hx hb hts (fun w h => tbC w (tbfX5 w h)) hown hK hP 1 rfl rfl 6 (by decide) (hts (.fieldLink RX10 147 "PowerRails$Run" "dead" "I") (tbC _ wd118)) (fun _ h9 => h9) rfl dX10_is_72 ?_
      refine lv_iload_n hx hb dX10_is_75 rfl (lv_at hl 1 rfl) ?_
      refine lv_ishr hx hb dX10_is_76 ?_
      refine lv_topi (fun v6 ev6 => ?_)
      refine lv_iconst (v := 1) hx hb dX10_is_77 (by decide) ?_
      refine lv_iand hx hb dX10_is_78 ?_
      refine lv_topi (fun v7 ev7 => ?_)
      have rv7 : 0 ≤ v7.toInt ∧ v7.toInt ≤ 1 := xandL ev7 (show (1 : Int32).toInt = 1 from (by decide)) (by omega)
      refine W.widen (k := 0) (n := 0) (by decide) (by decide) ?_
      exact W.iret (v := v7) hx hb hr (fun t ht hW => ⟨⟨v7, v7, rfl, ⟨rfl, trivial⟩, ⟨(by rw [ev7, ev6]; exact hM), xB_of9 ht hW hP hK hD [0, 1, 2, 3, 4, 5, 6, 7] (by decide +kernel) rfl⟩⟩, hS.F ht⟩) hS.2.2 dX10_is_79
    have hM : M_x_is a0 rails a1 rs ri dead rt rg = (K_x_is_9 a1 rt a0 rg) := (show M_x_is a0 rails a1 rs ri dead rt rg = (if (a1 : Int32).toInt = 2 then (K_x_is_8 dead a0) else (K_x_is_9 a1 rt a0 rg)) from hM).trans (if_neg i_3_2)
    by_cases i_3_3 : (a1 : Int32).toInt = 3
    · skip
      have hM : M_x_is a0 rails a1 rs ri dead rt rg = (K_x_is_10 rt a0) := (show M_x_is a0 rails a1 rs ri dead rt rg = (if (a1 : Int32).toInt = 3 then (K_x_is_10 rt a0) else (K_x_is_11 a1 rg a0)) from hM).trans (if_pos i_3_3)
      refine lv_tableIn (off := 66) (tgt := 80) hx hb dX10_is_14 (by omega) (by omega) (by rw [i_3_3]; rfl) (by decide) ?_
      refine lv_aload_n hx hb dX10_is_80 rfl (lv_at hl 0 rfl) ?_
      refine va_get (D := D) (ci := 9) (v := .ref rn) (C := RX10) (T := TX10) (N := 10) hx hb hts (fun w h => tbC w (tbfX10 w h)) hown hK hP 0 rfl rfl 2 (by decide) (hts (.fieldLink RX10 19 "PowerRails" "run" "LPowerRails$Run;") (tbC _ wd249)) (fun _ h9 => h9) rfl dX10_is_81 ?_
      refine va_get (D := D) (ci := 4) (v := .ref rta) (C := RX5) (T := TX5) (N := 14) hx hb hts (fun w h => tbC w (tbfX5 w h)) hown hK hP 1 rfl rfl 4 (by decide) (hts (.fieldLink RX10 150 "PowerRails$Run" "takes" "[I") (tbC _ wd114)) (fun _ h9 => h9) rfl dX10_is_84 ?_
      refine lv_iload_n hx hb dX10_is_87 rfl (lv_at hl 1 rfl) ?_
      refine va_iald hx hb hK hP 5 0 rfl rfl (vp_in_iff.mpr ⟨by omega, by omega⟩) dX10_is_88 ?_
      refine lv_topi (fun v8 ev8 => ?_)
      have rv8 : 0 ≤ v8.toInt ∧ v8.toInt ≤ 511 := xrd ev8 h_rt (xinK (vp_in_iff.mpr ⟨by omega, by omega⟩))
      refine W.widen (k := 0) (n := 0) (by decide) (by decide) ?_
      exact W.iret (v := v8) hx hb hr (fun t ht hW => ⟨⟨v8, v8, rfl, ⟨rfl, trivial⟩, ⟨(by rw [ev8]; exact hM), xB_of9 ht hW hP hK hD [0, 1, 2, 3, 4, 5, 6, 7] (by decide +kernel) rfl⟩⟩, hS.F ht⟩) hS.2.2 dX10_is_89
    have hM : M_x_is a0 rails a1 rs ri dead rt rg = (K_x_is_11 a1 rg a0) := (show M_x_is a0 rails a1 rs ri dead rt rg = (if (a1 : Int32).toInt = 3 then (K_x_is_10 rt a0) else (K_x_is_11 a1 rg a0)) from hM).trans (if_neg i_3_3)
    by_cases i_3_4 : (a1 : Int32).toInt = 4
    · skip
      have hM : M_x_is a0 rails a1 rs ri dead rt rg = (K_x_is_12 rg a0) := (show M_x_is a0 rails a1 rs ri dead rt rg = (if (a1 : Int32).toInt = 4 then (K_x_is_12 rg a0) else (K_x_is_13)) from hM).trans (if_pos i_3_4)
      refine lv_tableIn (off := 76) (tgt := 90) hx hb dX10_is_14 (by omega) (by omega) (by rw [i_3_4]; rfl) (by decide) ?_
      refine lv_aload_n hx hb dX10_is_90 rfl (lv_at hl 0 rfl) ?_
      refine va_get (D := D) (ci := 9) (v := .ref rn) (C := RX10) (T := TX10) (N := 10) hx hb hts (fun w h => tbC w (tbfX10 w h)) hown hK hP 0 rfl rfl 2 (by decide) (hts (.fieldLink RX10 19 "PowerRails" "run" "LPowerRails$Run;") (tbC _ wd249)) (fun _ h9 => h9) rfl dX10_is_91 ?_
      refine va_get (D := D) (ci := 4) (v := .ref rga) (C := RX5) (T := TX5) (N := 14) hx hb hts (fun w h => tbC w (tbfX5 w h)) hown hK hP 1 rfl rfl 5 (by decide) (hts (.fieldLink RX10 184 "PowerRails$Run" "timesGood" "[I") (tbC _ wd116)) (fun _ h9 => h9) rfl dX10_is_94 ?_
      refine lv_iload_n hx hb dX10_is_97 rfl (lv_at hl 1 rfl) ?_
      refine va_iald hx hb hK hP 6 0 rfl rfl (vp_in_iff.mpr ⟨by omega, by omega⟩) dX10_is_98 ?_
      refine lv_topi (fun v9 ev9 => ?_)
      refine W.widen (k := 0) (n := 0) (by decide) (by decide) ?_
      exact W.iret (v := v9) hx hb hr (fun t ht hW => ⟨⟨v9, v9, rfl, ⟨rfl, trivial⟩, ⟨(by rw [ev9]; exact hM), xB_of9 ht hW hP hK hD [0, 1, 2, 3, 4, 5, 6, 7] (by decide +kernel) rfl⟩⟩, hS.F ht⟩) hS.2.2 dX10_is_99
    have hM : M_x_is a0 rails a1 rs ri dead rt rg = (K_x_is_13) := (show M_x_is a0 rails a1 rs ri dead rt rg = (if (a1 : Int32).toInt = 4 then (K_x_is_12 rg a0) else (K_x_is_13)) from hM).trans (if_neg i_3_4)
    refine lv_tableOut (tgt := 100) hx hb dX10_is_14 (by omega) (by decide) ?_
    refine lv_iconst (v := (-1)) hx hb dX10_is_100 (by decide) ?_
    refine W.widen (k := 0) (n := 0) (by decide) (by decide) ?_
    exact W.iret (v := (-1)) hx hb hr (fun t ht hW => ⟨⟨(-1), (-1), rfl, ⟨rfl, trivial⟩, ⟨hM, xB_of9 ht hW hP hK hD [0, 1, 2, 3, 4, 5, 6, 7] (by decide +kernel) rfl⟩⟩, hS.F ht⟩) hS.2.2 dX10_is_101
  · skip
    have i_2 : ¬ (0 ≤ a0.toInt ∧ a0.toInt < rails.toInt) := (xbool hw1).1.mp c_2
    have hM : M_x_is a0 rails a1 rs ri dead rt rg = (K_x_is_3) := (show M_x_is a0 rails a1 rs ri dead rt rg = (if 0 ≤ a0.toInt ∧ a0.toInt < rails.toInt then (K_x_is_2 a1 rs a0 ri dead rt rg) else (K_x_is_3)) from hM).trans (if_neg i_2)
    refine lv_iconst (v := (-1)) hx hb dX10_is_11 (by decide) ?_
    refine W.widen (k := 0) (n := 0) (by decide) (by decide) ?_
    exact W.iret (v := (-1)) hx hb hr (fun t ht hW => ⟨⟨(-1), (-1), rfl, ⟨rfl, trivial⟩, ⟨hM, xB_of9 ht hW hP hK hD [0, 1, 2, 3, 4, 5, 6, 7] (by decide +kernel) rfl⟩⟩, hS.F ht⟩) hS.2.2 dX10_is_12
def K_x_happened_2  : (Int32) := ((-1 : Int32))
def K_x_happened_6 (ya : Nat → Int32) (a0 : Int32) : (Int32) := ((ya a0.toNatClampNeg))
def K_x_happened_8 (yb : Nat → Int32) (a0 : Int32) : (Int32) := ((yb a0.toNatClampNeg))
def K_x_happened_10 (yc : Nat → Int32) (a0 : Int32) : (Int32) := ((yc a0.toNatClampNeg))
def K_x_happened_11  : (Int32) := ((-1 : Int32))
def K_x_happened_9 (a1 : Int32) (yc : Nat → Int32) (a0 : Int32) : (Int32) := (if (a1 : Int32).toInt = 2 then (K_x_happened_10 yc a0) else (K_x_happened_11))
def K_x_happened_7 (a1 : Int32) (yb : Nat → Int32) (a0 : Int32) (yc : Nat → Int32) : (Int32) := (if (a1 : Int32).toInt = 1 then (K_x_happened_8 yb a0) else (K_x_happened_9 a1 yc a0))
def K_x_happened_4 (a1 : Int32) (ya : Nat → Int32) (a0 : Int32) (yb : Nat → Int32) (yc : Nat → Int32) : (Int32) := (if (a1 : Int32).toInt = 0 then (K_x_happened_6 ya a0) else (K_x_happened_7 a1 yb a0 yc))
def K_x_happened_5  : (Int32) := ((-1 : Int32))
def K_x_happened_3 (a0 : Int32) (ysz : Int32) (a1 : Int32) (ya : Nat → Int32) (yb : Nat → Int32) (yc : Nat → Int32) : (Int32) := (if a0.toInt < ysz.toInt then (K_x_happened_4 a1 ya a0 yb yc) else (K_x_happened_5))
def K_x_happened_1 (a0 : Int32) (ysz : Int32) (a1 : Int32) (ya : Nat → Int32) (yb : Nat → Int32) (yc : Nat → Int32) : (Int32) := (if a0.toInt < 0 then (K_x_happened_2) else (K_x_happened_3 a0 ysz a1 ya yb yc))
def M_x_happened (a0 : Int32) (ysz : Int32) (a1 : Int32) (ya : Nat → Int32) (yb : Nat → Int32) (yc : Nat → Int32) : (Int32) := (K_x_happened_1 a0 ysz a1 ya yb yc)
abbrev W_x_happened (cI cJ cZ cG cH : ClassId) (xo : Nat) (a0 : Int32) (a1 : Int32) (tp : Nat) (rd : Nat) (rn : Nat) (co : Nat) (wy : Nat) (sg : Nat) (sh : Nat) (pl : Nat) (sp : Nat) (lf : Int32) (hy : Nat) (rsa : Nat) (ria : Nat) (raa : Nat) (rta : Nat) (rga : Nat) (dead : Int32) (key : Int32) (tick : Int32) (held : Int32) (tries : Int32) (trips : Int32) (ldraw : Int32) (gdraw : Int32) (yaa : Nat) (yba : Nat) (yca : Nat) (ysz : Int32) (ya : Nat → Int32) (yb : Nat → Int32) (yc : Nat → Int32) : va_W := [oX10 xo tp rd rn co wy sg sh pl sp lf, oX5 rn hy rsa ria raa rta rga dead key tick held tries trips ldraw gdraw, oX2 hy yaa yba yca ysz, oAI yaa cI 64 ya, oAI yba cI 64 yb, oAI yca cI 64 yc]
abbrev Q_x_happened (D : va_G) (cI cJ cZ cG cH : ClassId) (xo : Nat) (a0 : Int32) (a1 : Int32) (tp : Nat) (rd : Nat) (rn : Nat) (co : Nat) (wy : Nat) (sg : Nat) (sh : Nat) (pl : Nat) (sp : Nat) (lf : Int32) (hy : Nat) (rsa : Nat) (ria : Nat) (raa : Nat) (rta : Nat) (rga : Nat) (dead : Int32) (key : Int32) (tick : Int32) (held : Int32) (tries : Int32) (trips : Int32) (ldraw : Int32) (gdraw : Int32) (yaa : Nat) (yba : Nat) (yca : Nat) (ysz : Int32) (ya : Nat → Int32) (yb : Nat → Int32) (yc : Nat → Int32) (A : Nat → Prop) : Array Value → State → Outcome → State → Prop := va_Qi (fun (r : Int32) (u9 : Int32) => r = u9 ∧ (True)) (fun u9 t => (M_x_happened a0 ysz a1 ya yb yc = (u9)) ∧ xB D (tyL cI cJ cZ cG cH) [oX10 xo tp rd rn co wy sg sh pl sp lf, oX5 rn hy rsa ria raa rta rga dead key tick held tries trips ldraw gdraw, oX2 hy yaa yba yca ysz, oAI yaa cI 64 ya, oAI yba cI 64 yb, oAI yca cI 64 yc] A t) A
abbrev rm_x_happened : Room := { frames := 0, cells := 0, slots := 0, locals := 0 }
set_option maxRecDepth 100000 in
set_option maxHeartbeats 40000000 in
theorem c_x_happened (l : Launch) (D : va_G) (cI cJ cZ cG cH : ClassId) (sz : Nat) (xo : Nat) (a0 : Int32) (a1 : Int32) (tp : Nat) (rd : Nat) (rn : Nat) (co : Nat) (wy : Nat) (sg : Nat) (sh : Nat) (pl : Nat) (sp : Nat) (lf : Int32) (hy : Nat) (rsa : Nat) (ria : Nat) (raa : Nat) (rta : Nat) (rga : Nat) (dead : Int32) (key : Int32) (tick : Int32) (held : Int32) (tries : Int32) (trips : Int32) (ldraw : Int32) (gdraw : Int32) (yaa : Nat) (yba : Nat) (yca : Nat) (ysz : Int32) (ya : Nat → Int32) (yb : Nat → Int32) (yc : Nat → Int32) (h_key : 0 ≤ key.toInt ∧ key.toInt ≤ 1) (h_ysz : 0 ≤ ysz.toInt ∧ ysz.toInt ≤ 64) : Met l yX10_happened (wt yX10_happened cX10_happened 3 (some .int)) rm_x_happened (xPc [.ref xo, .int a0, .int a1] D (tyL cI cJ cZ cG cH) (W_x_happened cI cJ cZ cG cH xo a0 a1 tp rd rn co wy sg sh pl sp lf hy rsa ria raa rta rga dead key tick held tries trips ldraw gdraw yaa yba yca ysz ya yb yc) sz) (Q_x_happened D cI cJ cZ cG cH xo a0 a1 tp rd rn co wy sg sh pl sp lf hy rsa ria raa rta rga dead key tick held tries trips ldraw gdraw yaa yba yca ysz ya yb yc (va_A (W_x_happened cI cJ cZ cG cH xo a0 a1 tp rd rn co wy sg sh pl sp lf hy rsa ria raa rta rga dead key tick held tries trips ldraw gdraw yaa yba yca ysz ya yb yc) sz)) 0 0 (va_A (W_x_happened cI cJ cZ cG cH xo a0 a1 tp rd rn co wy sg sh pl sp lf hy rsa ria raa rta rga dead key tick held tries trips ldraw gdraw yaa yba yca ysz ya yb yc) sz) := by
  refine xMet (cc := cX10_happened) (maxL := 3) (ret := (some .int)) (Qf := Q_x_happened D cI cJ cZ cG cH xo a0 a1 tp rd rn co wy sg sh pl sp lf hy rsa ria raa rta rga dead key tick held tries trips ldraw gdraw yaa yba yca ysz ya yb yc) (by decide) rfl (Nat.le_of_ble_eq_true rfl) ?_
  intro p e s m below meth c ls A hx hb hr hml hts hown hlocks hnm hsz hP hK hD hA hS hl
  have hown : s.vm.findClass RX10 = some m.cls := hown
  have hP : va_P D vwCl [oX10 xo tp rd rn co wy sg sh pl sp lf, oX5 rn hy rsa ria raa rta rga dead key tick held tries trips ldraw gdraw, oX2 hy yaa yba yca ysz, oAI yaa cI 64 ya, oAI yba cI 64 yb, oAI yca cI 64 yc] s.heap := hP
  have hD : va_D A [oX10 xo tp rd rn co wy sg sh pl sp lf, oX5 rn hy rsa ria raa rta rga dead key tick held tries trips ldraw gdraw, oX2 hy yaa yba yca ysz, oAI yaa cI 64 ya, oAI yba cI 64 yb, oAI yca cI 64 yc] := hD
  have hl : lv_has ls 3 [(0, .ref xo), (1, .int a0), (2, .int a1)] := hl
  have hM : M_x_happened a0 ysz a1 ya yb yc = (K_x_happened_1 a0 ysz a1 ya yb yc) := rfl
  refine lv_iload_n hx hb dX10_happened_0 rfl (lv_at hl 1 rfl) ?_
  refine lv_if_lt (tgt := 18) hx hb dX10_happened_1 (by decide) (fun c_1 => ?_) (fun c_1 => ?_)
  · skip
    have i_1 : a0.toInt < 0 := (ilt rfl (by decide)).mp c_1
    have hM : M_x_happened a0 ysz a1 ya yb yc = (K_x_happened_2) := (show M_x_happened a0 ysz a1 ya yb yc = (if a0.toInt < 0 then (K_x_happened_2) else (K_x_happened_3 a0 ysz a1 ya yb yc)) from hM).trans (if_pos i_1)
    refine lv_iconst (v := (-1)) hx hb dX10_happened_18 (by decide) ?_
    refine W.widen (k := 0) (n := 0) (by decide) (by decide) ?_
    exact W.iret (v := (-1)) hx hb hr (fun t ht hW => ⟨⟨(-1), (-1), rfl, ⟨rfl, trivial⟩, ⟨hM, xB_of9 ht hW hP hK hD [0, 1, 2, 3, 4, 5] (by decide +kernel) rfl⟩⟩, hS.F ht⟩) hS.2.2 dX10_happened_19
  · skip
    have i_1 : ¬ (a0.toInt < 0) := fun h9 => c_1 ((ilt rfl (by decide)).mpr h9)
    have hM : M_x_happened a0 ysz a1 ya yb yc = (K_x_happened_3 a0 ysz a1 ya yb yc) := (show M_x_happened a0 ysz a1 ya yb yc = (if a0.toInt < 0 then (K_x_happened_2) else (K_x_happened_3 a0 ysz a1 ya yb yc)) from hM).trans (if_neg i_1)
    refine lv_iload_n hx hb dX10_happened_4 rfl (lv_at hl 1 rfl) ?_
    refine lv_aload_n hx hb dX10_happened_5 rfl (lv_at hl 0 rfl) ?_
    refine va_get (D := D) (ci := 9) (v := .ref rn) (C := RX10) (T := TX10) (N := 10) hx hb hts (fun w h => tbC w (tbfX10 w h)) hown hK hP 0 rfl rfl 2 (by decide) (hts (.fieldLink RX10 19 "PowerRails" "run" "LPowerRails$Run;") (tbC _ wd249)) (fun _ h9 => h9) rfl dX10_happened_6 ?_
    refine va_get (D := D) (ci := 4) (v := .ref hy) (C := RX5) (T := TX5) (N := 14) hx hb hts (fun w h => tbC w (tbfX5 w h)) hown hK hP 1 rfl rfl 0 (by decide) (hts (.fieldLink RX10 187 "PowerRails$Run" "history" "LPowerRails$History;") (tbC _ wd107)) (fun _ h9 => h9) rfl dX10_happened_9 ?_
    refine va_get (D := D) (ci := 1) (v := .int ysz) (C := RX2) (T := TX2) (N := 4) hx hb hts (fun w h => tbC w (tbfX2 w h)) hown hK hP 2 rfl rfl 3 (by decide) (hts (.fieldLink RX10 191 "PowerRails$History" "size" "I") (tbC _ wd105)) (fun _ h9 => h9) rfl dX10_happened_12 ?_
    refine lv_icmp_lt (tgt := 20) hx hb dX10_happened_15 (by decide) (fun c_2 => ?_) (fun c_2 => ?_)
    · skip
      have i_2 : a0.toInt < ysz.toInt := (ilt rfl rfl).mp c_2
      have hM : M_x_happened a0 ysz a1 ya yb yc = (K_x_happened_4 a1 ya a0 yb yc) := (show M_x_happened a0 ysz a1 ya yb yc = (if a0.toInt < ysz.toInt then (K_x_happened_4 a1 ya a0 yb yc) else (K_x_happened_5)) from hM).trans (if_pos i_2)
      refine lv_iload_n hx hb dX10_happened_20 rfl (lv_at hl 2 rfl) ?_
      have i_3_e : (a1 : Int32).toInt = a1.toInt := rfl
      by_cases i_3_0 : (a1 : Int32).toInt = 0
      · skip
        have hM : M_x_happened a0 ysz a1 ya yb yc = (K_x_happened_6 ya a0) := (show M_x_happened a0 ysz a1 ya yb yc = (if (a1 : Int32).toInt = 0 then (K_x_happened_6 ya a0) else (K_x_happened_7 a1 yb a0 yc)) from hM).trans (if_pos i_3_0)
        refine lv_tableIn (off := 27) (tgt := 48) hx hb dX10_happened_21 (by omega) (by omega) (by rw [i_3_0]; rfl) (by decide) ?_
        refine lv_aload_n hx hb dX10_happened_48 rfl (lv_at hl 0 rfl) ?_
        refine va_get (D := D) (ci := 9) (v := .ref rn) (C := RX10) (T := TX10) (N := 10) hx hb hts (fun w h => tbC w (tbfX10 w h)) hown hK hP 0 rfl rfl 2 (by decide) (hts (.fieldLink RX10 19 "PowerRails" "run" "LPowerRails$Run;") (tbC _ wd249)) (fun _ h9 => h9) rfl dX10_happened_49 ?_
        refine va_get (D := D) (ci := 4) (v := .ref hy) (C := RX5) (T := TX5) (N := 14) hx hb hts (fun w h => tbC w (tbfX5 w h)) hown hK hP 1 rfl rfl 0 (by decide) (hts (.fieldLink RX10 187 "PowerRails$Run" "history" "LPowerRails$History;") (tbC _ wd107)) (fun _ h9 => h9) rfl dX10_happened_52 ?_
        refine va_get (D := D) (ci := 1) (v := .ref yaa) (C := RX2) (T := TX2) (N := 4) hx hb hts (fun w h => tbC w (tbfX2 w h)) hown hK hP 2 rfl rfl 0 (by decide) (hts (.fieldLink RX10 196 "PowerRails$History" "ticks" "[I") (tbC _ wd98)) (fun _ h9 => h9) rfl dX10_happened_55 ?_
        refine lv_iload_n hx hb dX10_happened_58 rfl (lv_at hl 1 rfl) ?_
        refine va_iald hx hb hK hP 3 0 rfl rfl (vp_in_iff.mpr ⟨by omega, by omega⟩) dX10_happened_59 ?_
        refine lv_topi (fun v4 ev4 => ?_)
        refine W.widen (k := 0) (n := 0) (by decide) (by decide) ?_
        exact W.iret (v := v4) hx hb hr (fun t ht hW => ⟨⟨v4, v4, rfl, ⟨rfl, trivial⟩, ⟨(by rw [ev4]; exact hM), xB_of9 ht hW hP hK hD [0, 1, 2, 3, 4, 5] (by decide +kernel) rfl⟩⟩, hS.F ht⟩) hS.2.2 dX10_happened_60
      have hM : M_x_happened a0 ysz a1 ya yb yc = (K_x_happened_7 a1 yb a0 yc) := (show M_x_happened a0 ysz a1 ya yb yc = (if (a1 : Int32).toInt = 0 then (K_x_happened_6 ya a0) else (K_x_happened_7 a1 yb a0 yc)) from hM).trans (if_neg i_3_0)
      by_cases i_3_1 : (a1 : Int32).toInt = 1
      · skip
        have hM : M_x_happened a0 ysz a1 ya yb yc = (K_x_happened_8 yb a0) := (show M_x_happened a0 ysz a1 ya yb yc = (if (a1 : Int32).toInt = 1 then (K_x_happened_8 yb a0) else (K_x_happened_9 a1 yc a0)) from hM).trans (if_pos i_3_1)
        refine lv_tableIn (off := 40) (tgt := 61) hx hb dX10_happened_21 (by omega) (by omega) (by rw [i_3_1]; rfl) (by decide) ?_
        refine lv_aload_n hx hb dX10_happened_61 rfl (lv_at hl 0 rfl) ?_
        refine va_get (D := D) (ci := 9) (v := .ref rn) (C := RX10) (T := TX10) (N := 10) hx hb hts (fun w h => tbC w (tbfX10 w h)) hown hK hP 0 rfl rfl 2 (by decide) (hts (.fieldLink RX10 19 "PowerRails" "run" "LPowerRails$Run;") (tbC _ wd249)) (fun _ h9 => h9) rfl dX10_happened_62 ?_
        refine va_get (D := D) (ci := 4) (v := .ref hy) (C := RX5) (T := TX5) (N := 14) hx hb hts (fun w h => tbC w (tbfX5 w h)) hown hK hP 1 rfl rfl 0 (by decide) (hts (.fieldLink RX10 187 "PowerRails$Run" "history" "LPowerRails$History;") (tbC _ wd107)) (fun _ h9 => h9) rfl dX10_happened_65 ?_
        refine va_get (D := D) (ci := 1) (v := .ref yba) (C := RX2) (T := TX2) (N := 4) hx hb hts (fun w h => tbC w (tbfX2 w h)) hown hK hP 2 rfl rfl 1 (by decide) (hts (.fieldLink RX10 199 "PowerRails$History" "who" "[I") (tbC _ wd100)) (fun _ h9 => h9) rfl dX10_happened_68 ?_
        refine lv_iload_n hx hb dX10_happened_71 rfl (lv_at hl 1 rfl) ?_
        refine va_iald hx hb hK hP 4 0 rfl rfl (vp_in_iff.mpr ⟨by omega, by omega⟩) dX10_happened_72 ?_
        refine lv_topi (fun v5 ev5 => ?_)
        refine W.widen (k := 0) (n := 0) (by decide) (by decide) ?_
        exact W.iret (v := v5) hx hb hr (fun t ht hW => ⟨⟨v5, v5, rfl, ⟨rfl, trivial⟩, ⟨(by rw [ev5]; exact hM), xB_of9 ht hW hP hK hD [0, 1, 2, 3, 4, 5] (by decide +kernel) rfl⟩⟩, hS.F ht⟩) hS.2.2 dX10_happened_73
      have hM : M_x_happened a0 ysz a1 ya yb yc = (K_x_happened_9 a1 yc a0) := (show M_x_happened a0 ysz a1 ya yb yc = (if (a1 : Int32).toInt = 1 then (K_x_happened_8 yb a0) else (K_x_happened_9 a1 yc a0)) from hM).trans (if_neg i_3_1)
      by_cases i_3_2 : (a1 : Int32).toInt = 2
      · skip
        have hM : M_x_happened a0 ysz a1 ya yb yc = (K_x_happened_10 yc a0) := (show M_x_happened a0 ysz a1 ya yb yc = (if (a1 : Int32).toInt = 2 then (K_x_happened_10 yc a0) else (K_x_happened_11)) from hM).trans (if_pos i_3_2)
        refine lv_tableIn (off := 53) (tgt := 74) hx hb dX10_happened_21 (by omega) (by omega) (by rw [i_3_2]; rfl) (by decide) ?_
        refine lv_aload_n hx hb dX10_happened_74 rfl (lv_at hl 0 rfl) ?_
        refine va_get (D := D) (ci := 9) (v := .ref rn) (C := RX10) (T := TX10) (N := 10) hx hb hts (fun w h => tbC w (tbfX10 w h)) hown hK hP 0 rfl rfl 2 (by decide) (hts (.fieldLink RX10 19 "PowerRails" "run" "LPowerRails$Run;") (tbC _ wd249)) (fun _ h9 => h9) rfl dX10_happened_75 ?_
        refine va_get (D := D) (ci := 4) (v := .ref hy) (C := RX5) (T := TX5) (N := 14) hx hb hts (fun w h => tbC w (tbfX5 w h)) hown hK hP 1 rfl rfl 0 (by decide) (hts (.fieldLink RX10 187 "PowerRails$Run" "history" "LPowerRails$History;") (tbC _ wd107)) (fun _ h9 => h9) rfl dX10_happened_78 ?_
        refine va_get (D := D) (ci := 1) (v := .ref yca) (C := RX2) (T := TX2) (N := 4) hx hb hts (fun w h => tbC w (tbfX2 w h)) hown hK hP 2 rfl rfl 2 (by decide) (hts (.fieldLink RX10 202 "PowerRails$History" "became" "[I") (tbC _ wd102)) (fun _ h9 => h9) rfl dX10_happened_81 ?_
        refine lv_iload_n hx hb dX10_happened_84 rfl (lv_at hl 1 rfl) ?_
        refine va_iald hx hb hK hP 5 0 rfl rfl (vp_in_iff.mpr ⟨by omega, by omega⟩) dX10_happened_85 ?_
        refine lv_topi (fun v6 ev6 => ?_)
        refine W.widen (k := 0) (n := 0) (by decide) (by decide) ?_
        exact W.iret (v := v6) hx hb hr (fun t ht hW => ⟨⟨v6, v6, rfl, ⟨rfl, trivial⟩, ⟨(by rw [ev6]; exact hM), xB_of9 ht hW hP hK hD [0, 1, 2, 3, 4, 5] (by decide +kernel) rfl⟩⟩, hS.F ht⟩) hS.2.2 dX10_happened_86
      have hM : M_x_happened a0 ysz a1 ya yb yc = (K_x_happened_11) := (show M_x_happened a0 ysz a1 ya yb yc = (if (a1 : Int32).toInt = 2 then (K_x_happened_10 yc a0) else (K_x_happened_11)) from hM).trans (if_neg i_3_2)
      refine lv_tableOut (tgt := 87) hx hb dX10_happened_21 (by omega) (by decide) ?_
      refine lv_iconst (v := (-1)) hx hb dX10_happened_87 (by decide) ?_
      refine W.widen (k := 0) (n := 0) (by decide) (by decide) ?_
      exact W.iret (v := (-1)) hx hb hr (fun t ht hW => ⟨⟨(-1), (-1), rfl, ⟨rfl, trivial⟩, ⟨hM, xB_of9 ht hW hP hK hD [0, 1, 2, 3, 4, 5] (by decide +kernel) rfl⟩⟩, hS.F ht⟩) hS.2.2 dX10_happened_88
    · skip
      have i_2 : ¬ (a0.toInt < ysz.toInt) := fun h9 => c_2 ((ilt rfl rfl).mpr h9)
      have hM : M_x_happened a0 ysz a1 ya yb yc = (K_x_happened_5) := (show M_x_happened a0 ysz a1 ya yb yc = (if a0.toInt < ysz.toInt then (K_x_happened_4 a1 ya a0 yb yc) else (K_x_happened_5)) from hM).trans (if_neg i_2)
      refine lv_iconst (v := (-1)) hx hb dX10_happened_18 (by decide) ?_
      refine W.widen (k := 0) (n := 0) (by decide) (by decide) ?_
      exact W.iret (v := (-1)) hx hb hr (fun t ht hW => ⟨⟨(-1), (-1), rfl, ⟨rfl, trivial⟩, ⟨hM, xB_of9 ht hW hP hK hD [0, 1, 2, 3, 4, 5] (by decide +kernel) rfl⟩⟩, hS.F ht⟩) hS.2.2 dX10_happened_19
