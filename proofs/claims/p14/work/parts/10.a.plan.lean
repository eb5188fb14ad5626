abbrev W_pReset (cI cJ cZ cG cH : ClassId) (pl : Nat) (pna : Nat) (pta : Nat) (rails : Int32) (limit : Int32) (retry : Int32) (behind : Int32) : va_W := [oX3 pl pna pta rails limit retry behind]
abbrev Q_pReset (D : va_G) (cI cJ cZ cG cH : ClassId) (pl : Nat) (pna : Nat) (pta : Nat) (rails : Int32) (limit : Int32) (retry : Int32) (behind : Int32) (A : Nat → Prop) : Array Value → State → Outcome → State → Prop := va_Qv (fun (_ : Unit) => True) (fun _ t => xB D (tyL cI cJ cZ cG cH) [oX3 pl pna pta 0 999 0 5] A t) A
abbrev rm_pReset : Room := { frames := 0, cells := 0, slots := 0, locals := 0 }
set_option maxRecDepth 100000 in
set_option maxHeartbeats 40000000 in
theorem c_pReset (l : Launch) (D : va_G) (cI cJ cZ cG cH : ClassId) (sz : Nat) (pl : Nat) (pna : Nat) (pta : Nat) (rails : Int32) (limit : Int32) (retry : Int32) (behind : Int32) (h_rails : 0 ≤ rails.toInt ∧ rails.toInt ≤ 8) : Met l yX3_reset (wt yX3_reset cX3_reset 1 none) rm_pReset (xPc [.ref pl] D (tyL cI cJ cZ cG cH) (W_pReset cI cJ cZ cG cH pl pna pta rails limit retry behind) sz) (Q_pReset D cI cJ cZ cG cH pl pna pta rails limit retry behind (va_A (W_pReset cI cJ cZ cG cH pl pna pta rails limit retry behind) sz)) 0 0 (va_A (W_pReset cI cJ cZ cG cH pl pna pta rails limit retry behind) sz) := by
  refine xMet (cc := cX3_reset) (maxL := 1) (ret := none) (Qf := Q_pReset D cI cJ cZ cG cH pl pna pta rails limit retry behind) (by decide) rfl (Nat.le_of_ble_eq_true rfl) ?_
  intro p e s m below meth c ls A hx hb hr hml hts hown hlocks hnm hsz hP hK hD hA hS hl
  have hown : s.vm.findClass RX3 = some m.cls := hown
  have hP : va_P D vwCl [oX3 pl pna pta rails limit retry behind] s.heap := hP
  have hD : va_D A [oX3 pl pna pta rails limit retry behind] := hD
  have hl : lv_has ls 1 [(0, .ref pl)] := hl
  refine lv_aload_n hx hb dX3_reset_0 rfl (lv_at hl 0 rfl) ?_
  refine lv_iconst (v := 0) hx hb dX3_reset_1 (by decide) ?_
  refine va_put (D := D) (ci := 2) (v := .int 0) (ty := .int) (C := RX3) (T := TX3) (N := 6) hx hb hts (fun w h => tbC w (tbfX3 w h)) tyX3 tyX3_ok nmX3 hown hK hP hD hS 0 rfl rfl 2 (by decide) (hts (.fieldLink RX3 19 "PowerRails$Plan" "rails" "I") (tbC _ wd205)) (fun _ h9 => h9) rfl (by decide +kernel) rfl rfl (Nat.le_of_ble_eq_true rfl) dX3_reset_2 (fun H locs hP hD hS => ?_)
  obtain ⟨hP, hD⟩ : xPD D A [oX3 pl pna pta 0 limit retry behind] H := ⟨hP, hD⟩
  refine lv_aload_n hx hb dX3_reset_5 rfl (lv_at hl 0 rfl) ?_
  refine lv_sipush (v := 999) hx hb dX3_reset_6 (by decide) ?_
  refine va_put (D := D) (ci := 2) (v := .int 999) (ty := .int) (C := RX3) (T := TX3) (N := 6) hx hb hts (fun w h => tbC w (tbfX3 w h)) tyX3 tyX3_ok nmX3 hown hK hP hD hS 0 rfl rfl 3 (by decide) (hts (.fieldLink RX3 23 "PowerRails$Plan" "limit" "I") (tbC _ wd212)) (fun _ h9 => h9) rfl (by decide +kernel) rfl rfl (Nat.le_of_ble_eq_true rfl) dX3_reset_9 (fun H locs hP hD hS => ?_)
  obtain ⟨hP, hD⟩ : xPD D A [oX3 pl pna pta 0 999 retry behind] H := ⟨hP, hD⟩
  refine lv_aload_n hx hb dX3_reset_12 rfl (lv_at hl 0 rfl) ?_
  refine lv_iconst (v := 0) hx hb dX3_reset_13 (by decide) ?_
  refine va_put (D := D) (ci := 2) (v := .int 0) (ty := .int) (C := RX3) (T := TX3) (N := 6) hx hb hts (fun w h => tbC w (tbfX3 w h)) tyX3 tyX3_ok nmX3 hown hK hP hD hS 0 rfl rfl 4 (by decide) (hts (.fieldLink RX3 26 "PowerRails$Plan" "retry" "I") (tbC _ wd217)) (fun _ h9 => h9) rfl (by decide +kernel) rfl rfl (Nat.le_of_ble_eq_true rfl) dX3_reset_14 (fun H locs hP hD hS => ?_)
  obtain ⟨hP, hD⟩ : xPD D A [oX3 pl pna pta 0 999 0 behind] H := ⟨hP, hD⟩
  refine lv_aload_n hx hb dX3_reset_17 rfl (lv_at hl 0 rfl) ?_
  refine lv_iconst (v := 5) hx hb dX3_reset_18 (by decide) ?_
  refine va_put (D := D) (ci := 2) (v := .int 5) (ty := .int) (C := RX3) (T := TX3) (N := 6) hx hb hts (fun w h => tbC w (tbfX3 w h)) tyX3 tyX3_ok nmX3 hown hK hP hD hS 0 rfl rfl 5 (by decide) (hts (.fieldLink RX3 29 "PowerRails$Plan" "behind" "I") (tbC _ wd221)) (fun _ h9 => h9) rfl (by decide +kernel) rfl rfl (Nat.le_of_ble_eq_true rfl) dX3_reset_19 (fun H locs hP hD hS => ?_)
  obtain ⟨hP, hD⟩ : xPD D A [oX3 pl pna pta 0 999 0 5] H := ⟨hP, hD⟩
  refine W.widen (k := 0) (n := 0) (by decide) (by decide) ?_
  exact W.vret hx hb hr (fun t ht hW => ⟨⟨(), rfl, trivial, xB_of9 ht hW hP hK hD [0] (by decide +kernel) rfl⟩, hS.F ht⟩) hS.2.2 dX3_reset_22
abbrev W_hasRail (cI cJ cZ cG cH : ClassId) (pl : Nat) (r0 : Int32) (pna : Nat) (pta : Nat) (rails : Int32) (limit : Int32) (retry : Int32) (behind : Int32) : va_W := [oX3 pl pna pta rails limit retry behind]
abbrev Q_hasRail (D : va_G) (cI cJ cZ cG cH : ClassId) (pl : Nat) (r0 : Int32) (pna : Nat) (pta : Nat) (rails : Int32) (limit : Int32) (retry : Int32) (behind : Int32) (A : Nat → Prop) : Array Value → State → Outcome → State → Prop := va_Qi (fun (r : Int32) (_ : Unit) => r = if 0 ≤ r0.toInt ∧ r0.toInt < rails.toInt then 1 else 0) (fun _ t => xB D (tyL cI cJ cZ cG cH) [oX3 pl pna pta rails limit retry behind] A t) A
abbrev rm_hasRail : Room := { frames := 0, cells := 0, slots := 0, locals := 0 }
set_option maxRecDepth 100000 in
set_option maxHeartbeats 40000000 in
theorem c_hasRail (l : Launch) (D : va_G) (cI cJ cZ cG cH : ClassId) (sz : Nat) (pl : Nat) (r0 : Int32) (pna : Nat) (pta : Nat) (rails : Int32) (limit : Int32) (retry : Int32) (behind : Int32) (h_rails : 0 ≤ rails.toInt ∧ rails.toInt ≤ 8) : Met l yX3_hasRail (wt yX3_hasRail cX3_hasRail 2 (some .boolean)) rm_hasRail (xPc [.ref pl, .int r0] D (tyL cI cJ cZ cG cH) (W_hasRail cI cJ cZ cG cH pl r0 pna pta rails limit retry behind) sz) (Q_hasRail D cI cJ cZ cG cH pl r0 pna pta rails limit retry behind (va_A (W_hasRail cI cJ cZ cG cH pl r0 pna pta rails limit retry behind) sz)) 0 0 (va_A (W_hasRail cI cJ cZ cG cH pl r0 pna pta rails limit retry behind) sz) := by
  refine xMet (cc := cX3_hasRail) (maxL := 2) (ret := (some .boolean)) (Qf := Q_hasRail D cI cJ cZ cG cH pl r0 pna pta rails limit retry behind) (by decide) rfl (Nat.le_of_ble_eq_true rfl) ?_
  intro p e s m below meth c ls A hx hb hr hml hts hown hlocks hnm hsz hP hK hD hA hS hl
  have hown : s.vm.findClass RX3 = some m.cls := hown
  have hP : va_P D vwCl [oX3 pl pna pta rails limit retry behind] s.heap := hP
  have hD : va_D A [oX3 pl pna pta rails limit retry behind] := hD
  have hl : lv_has ls 2 [(0, .ref pl), (1, .int r0)] := hl
  refine lv_iload_n hx hb dX3_hasRail_0 rfl (lv_at hl 1 rfl) ?_
  refine lv_if_lt (tgt := 16) hx hb dX3_hasRail_1 (by decide) (fun c_1 => ?_) (fun c_1 => ?_)
  · skip
    have i_1 : r0.toInt < 0 := (ilt rfl (by decide)).mp c_1
    refine lv_iconst (v := 0) hx hb dX3_hasRail_16 (by decide) ?_
    refine W.widen (k := 0) (n := 0) (by decide) (by decide) ?_
    exact W.zret (v := 0) hx hb hr (by decide) (fun t ht hW => ⟨⟨0, (), rfl, (if_neg (by omega)).symm, xB_of9 ht hW hP hK hD [0] (by decide +kernel) rfl⟩, hS.F ht⟩) hS.2.2 dX3_hasRail_17
  · skip
    have i_1 : ¬ (r0.toInt < 0) := fun h9 => c_1 ((ilt rfl (by decide)).mpr h9)
    refine lv_iload_n hx hb dX3_hasRail_4 rfl (lv_at hl 1 rfl) ?_
    refine lv_aload_n hx hb dX3_hasRail_5 rfl (lv_at hl 0 rfl) ?_
    refine va_get (D := D) (ci := 2) (v := .int rails) (C := RX3) (T := TX3) (N := 6) hx hb hts (fun w h => tbC w (tbfX3 w h)) hown hK hP 0 rfl rfl 2 (by decide) (hts (.fieldLink RX3 19 "PowerRails$Plan" "rails" "I") (tbC _ wd205)) (fun _ h9 => h9) rfl dX3_hasRail_6 ?_
    refine lv_icmp_ge (tgt := 16) hx hb dX3_hasRail_9 (by decide) (fun c_2 => ?_) (fun c_2 => ?_)
    · skip
      have i_2 : rails.toInt ≤ r0.toInt := (ile rfl rfl).mp c_2
      refine lv_iconst (v := 0) hx hb dX3_hasRail_16 (by decide) ?_
      refine W.widen (k := 0) (n := 0) (by decide) (by decide) ?_
      exact W.zret (v := 0) hx hb hr (by decide) (fun t ht hW => ⟨⟨0, (), rfl, (if_neg (by omega)).symm, xB_of9 ht hW hP hK hD [0] (by decide +kernel) rfl⟩, hS.F ht⟩) hS.2.2 dX3_hasRail_17
    · skip
      have i_2 : ¬ (rails.toInt ≤ r0.toInt) := fun h9 => c_2 ((ile rfl rfl).mpr h9)
      refine lv_iconst (v := 1) hx hb dX3_hasRail_12 (by decide) ?_
      refine lv_goto (tgt := 17) hx hb dX3_hasRail_13 (by decide) ?_
      refine W.widen (k := 0) (n := 0) (by decide) (by decide) ?_
      exact W.zret (v := 1) hx hb hr (by decide) (fun t ht hW => ⟨⟨1, (), rfl, (if_pos (by omega)).symm, xB_of9 ht hW hP hK hD [0] (by decide +kernel) rfl⟩, hS.F ht⟩) hS.2.2 dX3_hasRail_17
def K_allRails_1 (rails : Int32) : (Int32) := ((((1 : Int32) <<< (rails &&& 31)) - (1 : Int32)))
def M_allRails (rails : Int32) : (Int32) := (K_allRails_1 rails)
abbrev W_allRails (cI cJ cZ cG cH : ClassId) (pl : Nat) (pna : Nat) (pta : Nat) (rails : Int32) (limit : Int32) (retry : Int32) (behind : Int32) : va_W := [oX3 pl pna pta rails limit retry behind]
abbrev Q_allRails (D : va_G) (cI cJ cZ cG cH : ClassId) (pl : Nat) (pna : Nat) (pta : Nat) (rails : Int32) (limit : Int32) (retry : Int32) (behind : Int32) (A : Nat → Prop) : Array Value → State → Outcome → State → Prop := va_Qi (fun (r : Int32) (u9 : Int32) => r = u9 ∧ (0 ≤ r.toInt ∧ r.toInt ≤ 255)) (fun u9 t => (M_allRails rails = (u9)) ∧ xB D (tyL cI cJ cZ cG cH) [oX3 pl pna pta rails limit retry behind] A t) A
abbrev rm_allRails : Room := { frames := 0, cells := 0, slots := 0, locals := 0 }
set_option maxRecDepth 100000 in
set_option maxHeartbeats 40000000 in
theorem c_allRails (l : Launch) (D : va_G) (cI cJ cZ cG cH : ClassId) (sz : Nat) (pl : Nat) (pna : Nat) (pta : Nat) (rails : Int32) (limit : Int32) (retry : Int32) (behind : Int32) (h_rails : 0 ≤ rails.toInt ∧ rails.toInt ≤ 8) : Met l yX3_allRails (wt yX3_allRails cX3_allRails 1 (some .int)) rm_allRails (xPc [.ref pl] D (tyL cI cJ cZ cG cH) (W_allRails cI cJ cZ cG cH pl pna pta rails limit retry behind) sz) (Q_allRails D cI cJ cZ cG cH pl pna pta rails limit retry behind (va_A (W_allRails cI cJ cZ cG cH pl pna pta rails limit retry behind) sz)) 0 0 (va_A (W_allRails cI cJ cZ cG cH pl pna pta rails limit retry behind) sz) := by
  refine xMet (cc := cX3_allRails) (maxL := 1) (ret := (some .int)) (Qf := Q_allRails D cI cJ cZ cG cH pl pna pta rails limit retry behind) (by decide) rfl (Nat.le_of_ble_eq_true rfl) ?_
  intro p e s m below meth c ls A hx hb hr hml hts hown hlocks hnm hsz hP hK hD hA hS hl
  have hown : s.vm.findClass RX3 = some m.cls := hown
  have hP : va_P D vwCl [oX3 pl pna pta rails limit retry behind] s.heap := hP
  have hD : va_D A [oX3 pl pna pta rails limit retry behind] := hD
  have hl : lv_has ls 1 [(0, .ref pl)] := hl
  have hM : M_allRails rails = (K_allRails_1 rails) := rfl
  refine lv_iconst (v := 1) hx hb dX3_allRails_0 (by decide) ?_
  refine lv_aload_n hx hb dX3_allRails_1 rfl (lv_at hl 0 rfl) ?_
  refine va_get (D := D) (ci := 2) (v := .int rails) (C := RX3) (T := TX3) (N := 6) hx hb hts (fun w h => tbC w (tbfX3 w h)) hown hK hP 0 rfl rfl 2 (by decide) (hts (.fieldLink RX3 19 "PowerRails$Plan" "rails" "I") (tbC _ wd205)) (fun _ h9 => h9) rfl dX3_allRails_2 ?_
  refine lv_ishl hx hb dX3_allRails_5 ?_
  refine lv_topi (fun v1 ev1 => ?_)
  have rv1 : 1 ≤ v1.toInt ∧ v1.toInt ≤ 256 := xshl1 8 ev1 (show (rails : Int32).toInt = rails.toInt from rfl) (by omega) (by omega) (by decide)
  refine lv_iconst (v := 1) hx hb dX3_allRails_6 (by decide) ?_
  refine lv_isub hx hb dX3_allRails_7 ?_
  refine lv_topi (fun v2 ev2 => ?_)
  have tv2 : v2.toInt = (v1.toInt - 1) := (congrArg Int32.toInt ev2).trans (xsub rfl (by decide) (by omega) (by omega))
  refine W.widen (k := 0) (n := 0) (by decide) (by decide) ?_
  exact W.iret (v := v2) hx hb hr (fun t ht hW => ⟨⟨v2, v2, rfl, ⟨rfl, (xrng tv2 (by omega) (by omega))⟩, ⟨(by rw [ev2, ev1]; exact hM), xB_of9 ht hW hP hK hD [0] (by decide +kernel) rfl⟩⟩, hS.F ht⟩) hS.2.2 dX3_allRails_8
def K_number_1 (pn : Nat → Int32) (r0 : Int32) (w0 : Int32) : (Int32) := ((pn ((r0 * (8 : Int32)) + w0).toNatClampNeg))
def M_number (pn : Nat → Int32) (r0 : Int32) (w0 : Int32) : (Int32) := (K_number_1 pn r0 w0)
abbrev W_number (cI cJ cZ cG cH : ClassId) (pl : Nat) (r0 : Int32) (w0 : Int32) (pna : Nat) (pta : Nat) (rails : Int32) (limit : Int32) (retry : Int32) (behind : Int32) (pn : Nat → Int32) : va_W := [oX3 pl pna pta rails limit retry behind, oAI pna cI 64 pn]
abbrev Q_number (D : va_G) (cI cJ cZ cG cH : ClassId) (pl : Nat) (r0 : Int32) (w0 : Int32) (pna : Nat) (pta : Nat) (rails : Int32) (limit : Int32) (retry : Int32) (behind : Int32) (pn : Nat → Int32) (A : Nat → Prop) : Array Value → State → Outcome → State → Prop := va_Qi (fun (r : Int32) (u9 : Int32) => r = u9 ∧ (0 ≤ r.toInt ∧ r.toInt ≤ 511)) (fun u9 t => (M_number pn r0 w0 = (u9)) ∧ xB D (tyL cI cJ cZ cG cH) [oX3 pl pna pta rails limit retry behind, oAI pna cI 64 pn] A t) A
abbrev rm_number : Room := { frames := 0, cells := 0, slots := 0, locals := 0 }
set_option maxRecDepth 100000 in
set_option maxHeartbeats 40000000 in
theorem c_number (l : Launch) (D : va_G) (cI cJ cZ cG cH : ClassId) (sz : Nat) (pl : Nat) (r0 : Int32) (w0 : Int32) (pna : Nat) (pta : Nat) (rails : Int32) (limit : Int32) (retry : Int32) (behind : Int32) (pn : Nat → Int32) (h_r0 : 0 ≤ r0.toInt ∧ r0.toInt ≤ 7) (h_w0 : 0 ≤ w0.toInt ∧ w0.toInt ≤ 7) (h_rails : 0 ≤ rails.toInt ∧ rails.toInt ≤ 8) (h_pn : ∀ j, j < 64 → 0 ≤ (pn j).toInt ∧ (pn j).toInt ≤ 511) : Met l yX3_number (wt yX3_number cX3_number 3 (some .int)) rm_number (xPc [.ref pl, .int r0, .int w0] D (tyL cI cJ cZ cG cH) (W_number cI cJ cZ cG cH pl r0 w0 pna pta rails limit retry behind pn) sz) (Q_number D cI cJ cZ cG cH pl r0 w0 pna pta rails limit retry behind pn (va_A (W_number cI cJ cZ cG cH pl r0 w0 pna pta rails limit retry behind pn) sz)) 0 0 (va_A (W_number cI cJ cZ cG cH pl r0 w0 pna pta rails limit retry behind pn) sz) := by
  refine xMet (cc := cX3_number) (maxL := 3) (ret := (some .int)) (Qf := Q_number D cI cJ cZ cG cH pl r0 w0 pna pta rails limit retry behind pn) (by decide) rfl (Nat.le_of_ble_eq_true rfl) ?_
  intro p e s m below meth c ls A hx hb hr hml hts hown hlocks hnm hsz hP hK hD hA hS hl
  have hown : s.vm.findClass RX3 = some m.cls := hown
  have hP : va_P D vwCl [oX3 pl pna pta rails limit retry behind, oAI pna cI 64 pn] s.heap := hP
  have hD : va_D A [oX3 pl pna pta rails limit retry behind, oAI pna cI 64 pn] := hD
  have hl : lv_has ls 3 [(0, .ref pl), (1, .int r0), (2, .int w0)] := hl
  have hM : M_number pn r0 w0 = (K_number_1 pn r0 w0) := rfl
  refine lv_aload_n hx hb dX3_number_0 rfl (lv_at hl 0 rfl) ?_
  refine va_get (D := D) (ci := 2) (v := .ref pna) (C := RX3) (T := TX3) (N := 6) hx hb hts (fun w h => tbC w (tbfX3 w h)) hown hK hP 0 rfl rfl 0 (by decide) (hts (.fieldLink RX3 11 "PowerRails$Plan" "numbers" "[I") (tbC _ wd202)) (fun _ h9 => h9) rfl dX3_number_1 ?_
  refine lv_iload_n hx hb dX3_number_4 rfl (lv_at hl 1 rfl) ?_
  refine lv_bipush (v := 8) hx hb dX3_number_5 (by decide) ?_
  refine lv_imul hx hb dX3_number_7 ?_
  refine lv_topi (fun v1 ev1 => ?_)
  have tv1 : v1.toInt = (r0.toInt * 8) := (congrArg Int32.toInt ev1).trans (xmul rfl (by decide) (by omega) (by omega))
  refine lv_iload_n hx hb dX3_number_8 rfl (lv_at hl 2 rfl) ?_
  refine lv_iadd hx hb dX3_number_9 ?_
  refine lv_topi (fun v2 ev2 => ?_)
  have tv2 : v2.toInt = ((r0.toInt * 8) + w0.toInt) := (congrArg Int32.toInt ev2).trans (xadd tv1 rfl (by omega) (by omega))
  refine va_iald hx hb hK hP 1 0 rfl rfl (vp_in_iff.mpr (by rw [tv2]; omega)) dX3_number_10 ?_
  refine lv_topi (fun v3 ev3 => ?_)
  have rv3 : 0 ≤ v3.toInt ∧ v3.toInt ≤ 511 := xrd ev3 h_pn (xinK (vp_in_iff.mpr (by rw [tv2]; omega)))
  refine W.widen (k := 0) (n := 0) (by decide) (by decide) ?_
  exact W.iret (v := v3) hx hb hr (fun t ht hW => ⟨⟨v3, v3, rfl, ⟨rfl, (xrng rfl (by omega) (by omega))⟩, ⟨(by rw [ev3, ev2, ev1]; exact hM), xB_of9 ht hW hP hK hD [0, 1] (by decide +kernel) rfl⟩⟩, hS.F ht⟩) hS.2.2 dX3_number_11
def K_setNumber_1 (pn : Nat → Int32) (r0 : Int32) (w0 : Int32) (v0 : Int32) : (Nat → Int32) := ((upd pn (((r0 * (8 : Int32)) + w0) : Int32).toNatClampNeg v0))
def M_setNumber (pn : Nat → Int32) (r0 : Int32) (w0 : Int32) (v0 : Int32) : (Nat → Int32) := (K_setNumber_1 pn r0 w0 v0)
abbrev W_setNumber (cI cJ cZ cG cH : ClassId) (pl : Nat) (r0 : Int32) (w0 : Int32) (v0 : Int32) (pna : Nat) (pta : Nat) (rails : Int32) (limit : Int32) (retry : Int32) (behind : Int32) (pn : Nat → Int32) : va_W := [oX3 pl pna pta rails limit retry behind, oAI pna cI 64 pn]
abbrev Q_setNumber (D : va_G) (cI cJ cZ cG cH : ClassId) (pl : Nat) (r0 : Int32) (w0 : Int32) (v0 : Int32) (pna : Nat) (pta : Nat) (rails : Int32) (limit : Int32) (retry : Int32) (behind : Int32) (pn : Nat → Int32) (A : Nat → Prop) : Array Value → State → Outcome → State → Prop := va_Qv (fun (_ : Unit) => True) (fun _ t => ∃ (pn9 : Nat → Int32), (∀ j, j < 64 → 0 ≤ (pn9 j).toInt ∧ (pn9 j).toInt ≤ 511) ∧ (M_setNumber pn r0 w0 v0 = (pn9)) ∧ xB D (tyL cI cJ cZ cG cH) [oX3 pl pna pta rails limit retry behind, oAI pna cI 64 pn9] A t) A
abbrev rm_setNumber : Room := { frames := 0, cells := 0, slots := 0, locals := 0 }
set_option maxRecDepth 100000 in
set_option maxHeartbeats 40000000 in
theorem c_setNumber (l : Launch) (D : va_G) (cI cJ cZ cG cH : ClassId) (sz : Nat) (pl : Nat) (r0 : Int32) (w0 : Int32) (v0 : Int32) (pna : Nat) (pta : Nat) (rails : Int32) (limit : Int32) (retry : Int32) (behind : Int32) (pn : Nat → Int32) (h_r0 : 0 ≤ r0.toInt ∧ r0.toInt ≤ 7) (h_w0 : 0 ≤ w0.toInt ∧ w0.toInt ≤ 7) (h_v0 : 0 ≤ v0.toInt ∧ v0.toInt ≤ 511) (h_rails : 0 ≤ rails.toInt ∧ rails.toInt ≤ 8) (h_pn : ∀ j, j < 64 → 0 ≤ (pn j).toInt ∧ (pn j).toInt ≤ 511) : Met l yX3_setNumber (wt yX3_setNumber cX3_setNumber 4 none) rm_setNumber (xPc [.ref pl, .int r0, .int w0, .int v0] D (tyL cI cJ cZ cG cH) (W_setNumber cI cJ cZ cG cH pl r0 w0 v0 pna pta rails limit retry behind pn) sz) (Q_setNumber D cI cJ cZ cG cH pl r0 w0 v0 pna pta rails limit retry behind pn (va_A (W_setNumber cI cJ cZ cG cH pl r0 w0 v0 pna pta rails limit retry behind pn) sz)) 0 0 (va_A (W_setNumber cI cJ cZ cG cH pl r0 w0 v0 pna pta rails limit retry behind pn) sz) := by
  refine xMet (cc := cX3_setNumber) (maxL := 4) (ret := none) (Qf := Q_setNumber D cI cJ cZ cG cH pl r0 w0 v0 pna pta rails limit retry behind pn) (by decide) rfl (Nat.le_of_ble_eq_true rfl) ?_
  intro p e s m below meth c ls A hx hb hr hml hts hown hlocks hnm hsz hP hK hD hA hS hl
  have hown : s.vm.findClass RX3 = some m.cls := hown
  have hP : va_P D vwCl [oX3 pl pna pta rails limit retry behind, oAI pna cI 64 pn] s.heap := hP
  have hD : va_D A [oX3 pl pna pta rails limit retry behind, oAI pna cI 64 pn] := hD
  have hl : lv_has ls 4 [(0, .ref pl), (1, .int r0), (2, .int w0), (3, .int v0)] := hl
  have hM : M_setNumber pn r0 w0 v0 = (K_setNumber_1 pn r0 w0 v0) := rfl
  refine lv_aload_n hx hb dX3_setNumber_0 rfl (lv_at hl 0 rfl) ?_
  refine va_get (D := D) (ci := 2) (v := .ref pna) (C := RX3) (T := TX3) (N := 6) hx hb hts (fun w h => tbC w (tbfX3 w h)) hown hK hP 0 rfl rfl 0 (by decide) (hts (.fieldLink RX3 11 "PowerRails$Plan" "numbers" "[I") (tbC _ wd202)) (fun _ h9 => h9) rfl dX3_setNumber_1 ?_
  refine lv_iload_n hx hb dX3_setNumber_4 rfl (lv_at hl 1 rfl) ?_
  refine lv_bipush (v := 8) hx hb dX3_setNumber_5 (by decide) ?_
  refine lv_imul hx hb dX3_setNumber_7 ?_
  refine lv_topi (fun v1 ev1 => ?_)
  have tv1 : v1.toInt = (r0.toInt * 8) := (congrArg Int32.toInt ev1).trans (xmul rfl (by decide) (by omega) (by omega))
  refine lv_iload_n hx hb dX3_setNumber_8 rfl (lv_at hl 2 rfl) ?_
  refine lv_iadd hx hb dX3_setNumber_9 ?_
  refine lv_topi (fun v2 ev2 => ?_)
  have tv2 : v2.toInt = ((r0.toInt * 8) + w0.toInt) := (congrArg Int32.toInt ev2).trans (xadd tv1 rfl (by omega) (by omega))
  refine lv_iload_n hx hb dX3_setNumber_10 rfl (lv_at hl 3 rfl) ?_
  refine va_iast hx hb hK hP hD hS 1 0 rfl rfl (vp_in_iff.mpr (by rw [tv2]; omega)) dX3_setNumber_11 (fun H locs hP hD hS => ?_)
  obtain ⟨f3, ef3⟩ : ∃ fz9 : Nat → Int32, fz9 = upd pn (v2 : Int32).toNatClampNeg v0 := ⟨_, rfl⟩
  have hP : va_P D vwCl [oX3 pl pna pta rails limit retry behind, oAI pna cI 64 f3] H := by rw [ef3]; exact hP
  have hD : va_D A [oX3 pl pna pta rails limit retry behind, oAI pna cI 64 f3] := by rw [ef3]; exact hD
  have rf3 : ∀ j, j < 64 → 0 ≤ (f3 j).toInt ∧ (f3 j).toInt ≤ 511 := by rw [ef3]; exact xup_rng (xwk_rng h_pn (by decide) (by decide)) (xrng rfl (by omega) (by omega))
  refine W.widen (k := 0) (n := 0) (by decide) (by decide) ?_
  exact W.vret hx hb hr (fun t ht hW => ⟨⟨(), rfl, trivial, ⟨f3, (xwk_rng rf3 (by decide) (by decide)), (by rw [ef3, ev2, ev1]; exact hM), xB_of9 ht hW hP hK hD [0, 1] (by decide +kernel) rfl⟩⟩, hS.F ht⟩) hS.2.2 dX3_setNumber_12
def K_holdsWith_2  : (Int32) := ((0 : Int32))
def K_holdsWith_3  : (Int32) := ((1 : Int32))
def K_holdsWith_1 (pt : Nat → Int64) (r0 : Int32) (s0 : Int32) : (Int32) := (if (((((pt ((r0 * (8 : Int32)) + ((s0 >>> ((6 : Int32) &&& 31)) &&& (7 : Int32))).toNatClampNeg) : Int64).toUInt64 >>> (((s0 &&& (63 : Int32)) : Int32).toInt64.toUInt64 &&& Int64.toUInt64 63)).toInt64) &&& (1 : Int64)).toInt = 0 then (K_holdsWith_2) else (K_holdsWith_3))
def M_holdsWith (pt : Nat → Int64) (r0 : Int32) (s0 : Int32) : (Int32) := (K_holdsWith_1 pt r0 s0)
abbrev W_holdsWith (cI cJ cZ cG cH : ClassId) (pl : Nat) (r0 : Int32) (s0 : Int32) (pna : Nat) (pta : Nat) (rails : Int32) (limit : Int32) (retry : Int32) (behind : Int32) (pt : Nat → Int64) : va_W := [oX3 pl pna pta rails limit retry behind, oAJ pta cJ 64 pt]
abbrev Q_holdsWith (D : va_G) (cI cJ cZ cG cH : ClassId) (pl : Nat) (r0 : Int32) (s0 : Int32) (pna : Nat) (pta : Nat) (rails : Int32) (limit : Int32) (retry : Int32) (behind : Int32) (pt : Nat → Int64) (A : Nat → Prop) : Array Value → State → Outcome → State → Prop := va_Qi (fun (r : Int32) (u9 : Int32) => r = u9 ∧ (0 ≤ r.toInt ∧ r.toInt ≤ 1)) (fun u9 t => (M_holdsWith pt r0 s0 = (u9)) ∧ xB D (tyL cI cJ cZ cG cH) [oX3 pl pna pta rails limit retry behind, oAJ pta cJ 64 pt] A t) A
abbrev rm_holdsWith : Room := { frames := 0, cells := 0, slots := 0, locals := 0 }
set_option maxRecDepth 100000 in
set_option maxHeartbeats 40000000 in
theorem c_holdsWith (l : Launch) (D : va_G) (cI cJ cZ cG cH : ClassId) (sz : Nat) (pl : Nat) (r0 : Int32) (s0 : Int32) (pna : Nat) (pta : Nat) (rails : Int32) (limit : Int32) (retry : Int32) (behind : Int32) (pt : Nat → Int64) (h_r0 : 0 ≤ r0.toInt ∧ r0.toInt ≤ 7) (h_rails : 0 ≤ rails.toInt ∧ rails.toInt ≤ 8) : Met l yX3_holdsWith (wt yX3_holdsWith cX3_holdsWith 3 (some .boolean)) rm_holdsWith (xPc [.ref pl, .int r0, .int s0] D (tyL cI cJ cZ cG cH) (W_holdsWith cI cJ cZ cG cH pl r0 s0 pna pta rails limit retry behind pt) sz) (Q_holdsWith D cI cJ cZ cG cH pl r0 s0 pna pta rails limit retry behind pt (va_A (W_holdsWith cI cJ cZ cG cH pl r0 s0 pna pta rails limit retry behind pt) sz)) 0 0 (va_A (W_holdsWith cI cJ cZ cG cH pl r0 s0 pna pta rails limit retry behind pt) sz) := by
  refine xMet (cc := cX3_holdsWith) (maxL := 3) (ret := (some .boolean)) (Qf := Q_holdsWith D cI cJ cZ cG cH pl r0 s0 pna pta rails limit retry behind pt) (by decide) rfl (Nat.le_of_ble_eq_true rfl) ?_
  intro p e s m below meth c ls A hx hb hr hml hts hown hlocks hnm hsz hP hK hD hA hS hl
  have hown : s.vm.findClass RX3 = some m.cls := hown
  have hP : va_P D vwCl [oX3 pl pna pta rails limit retry behind, oAJ pta cJ 64 pt] s.heap := hP
  have hD : va_D A [oX3 pl pna pta rails limit retry behind, oAJ pta cJ 64 pt] := hD
  have hl : lv_has ls 3 [(0, .ref pl), (1, .int r0), (2, .int s0)] := hl
  have hM : M_holdsWith pt r0 s0 = (K_holdsWith_1 pt r0 s0) := rfl
  refine lv_aload_n hx hb dX3_holdsWith_0 rfl (lv_at hl 0 rfl) ?_
  refine va_get (D := D) (ci := 2) (v := .ref pta) (C := RX3) (T := TX3) (N := 6) hx hb hts (fun w h => tbC w (tbfX3 w h)) hown hK hP 0 rfl rfl 1 (by decide) (hts (.fieldLink RX3 15 "PowerRails$Plan" "tables" "[J") (tbC _ wd203)) (fun _ h9 => h9) rfl dX3_holdsWith_1 ?_
  refine lv_iload_n hx hb dX3_holdsWith_4 rfl (lv_at hl 1 rfl) ?_
  refine lv_bipush (v := 8) hx hb dX3_holdsWith_5 (by decide) ?_
  refine lv_imul hx hb dX3_holdsWith_7 ?_
  refine lv_topi (fun v1 ev1 => ?_)
  have tv1 : v1.toInt = (r0.toInt * 8) := (congrArg Int32.toInt ev1).trans (xmul rfl (by decide) (by omega) (by omega))
  refine lv_iload_n hx hb dX3_holdsWith_8 rfl (lv_at hl 2 rfl) ?_
  refine lv_bipush (v := 6) hx hb dX3_holdsWith_9 (by decide) ?_
  refine lv_ishr hx hb dX3_holdsWith_11 ?_
  refine lv_topi (fun v2 ev2 => ?_)
  refine lv_bipush (v := 7) hx hb dX3_holdsWith_12 (by decide) ?_
  refine lv_iand hx hb dX3_holdsWith_14 ?_
  refine lv_topi (fun v3 ev3 => ?_)
  have rv3 : 0 ≤ v3.toInt ∧ v3.toInt ≤ 7 := xandL ev3 (show (7 : Int32).toInt = 7 from (by decide)) (by omega)
  refine lv_iadd hx hb dX3_holdsWith_15 ?_
  refine lv_topi (fun v4 ev4 => ?_)
  have tv4 : v4.toInt = ((r0.toInt * 8) + v3.toInt) := (congrArg Int32.toInt ev4).trans (xadd tv1 rfl (by omega) (by omega))
  refine va_lald hx hb hK hP 1 1 rfl rfl (vp_in_iff.mpr (by rw [tv4]; omega)) dX3_holdsWith_16 ?_
  refine lv_topl (fun v5 ev5 => ?_)
  refine lv_iload_n hx hb dX3_holdsWith_17 rfl (lv_at hl 2 rfl) ?_
  refine lv_bipush (v := 63) hx hb dX3_holdsWith_18 (by decide) ?_
  refine lv_iand hx hb dX3_holdsWith_20 ?_
  refine lv_topi (fun v6 ev6 => ?_)
  have rv6 : 0 ≤ v6.toInt ∧ v6.toInt ≤ 63 := xandL ev6 (show (63 : Int32).toInt = 63 from (by decide)) (by omega)
  obtain ⟨v7, ev7⟩ : ∃ z : Int64, ((v5 : Int64).toUInt64 >>> ((v6 : Int32).toInt64.toUInt64 &&& Int64.toUInt64 63)).toInt64 = z := ⟨_, rfl⟩
  refine lv_lushr hx hb dX3_holdsWith_21 ev7 ?_
  refine lv_lconst (v := 1) hx hb dX3_holdsWith_22 (by decide) ?_
  refine lv_land hx hb dX3_holdsWith_23 ?_
  refine lv_topl (fun v8 ev8 => ?_)
  refine lv_lconst (v := 0) hx hb dX3_holdsWith_24 (by decide) ?_
  refine W.lcmp hx hb dX3_holdsWith_25 ?_
  refine lv_if_eq (tgt := 33) hx hb dX3_holdsWith_26 (by decide) (fun c_9 => ?_) (fun c_9 => ?_)
  · skip
    have i_9 : v8.toInt = 0 := ((lg_cmp_eq _ _).trans (jeq rfl (by decide))).mp c_9
    have hM : M_holdsWith pt r0 s0 = (K_holdsWith_2) := (show M_holdsWith pt r0 s0 = (if v8.toInt = 0 then (K_holdsWith_2) else (K_holdsWith_3)) from (by rw [ev8, ← ev7, ev6, ev5, ev4, ev3, ev2, ev1]; exact hM)).trans (if_pos i_9)
    refine lv_iconst (v := 0) hx hb dX3_holdsWith_33 (by decide) ?_
    refine W.widen (k := 0) (n := 0) (by decide) (by decide) ?_
    exact W.zret (v := 0) hx hb hr (by decide) (fun t ht hW => ⟨⟨0, 0, rfl, ⟨rfl, ⟨by decide, by decide⟩⟩, ⟨hM, xB_of9 ht hW hP hK hD [0, 1] (by decide +kernel) rfl⟩⟩, hS.F ht⟩) hS.2.2 dX3_holdsWith_34
  · skip
    have i_9 : ¬ (v8.toInt = 0) := fun h9 => c_9 (((lg_cmp_eq _ _).trans (jeq rfl (by decide))).mpr h9)
    have hM : M_holdsWith pt r0 s0 = (K_holdsWith_3) := (show M_holdsWith pt r0 s0 = (if v8.toInt = 0 then (K_holdsWith_2) else (K_holdsWith_3)) from (by rw [ev8, ← ev7, ev6, ev5, ev4, ev3, ev2, ev1]; exact hM)).trans (if_neg i_9)
    refine lv_iconst (v := 1) hx hb dX3_holdsWith_29 (by decide) ?_
    refine lv_goto (tgt := 34) hx hb dX3_holdsWith_30 (by decide) ?_
    refine W.widen (k := 0) (n := 0) (by decide) (by decide) ?_
    exact W.zret (v := 1) hx hb hr (by decide) (fun t ht hW => ⟨⟨1, 1, rfl, ⟨rfl, ⟨by decide, by decide⟩⟩, ⟨hM, xB_of9 ht hW hP hK hD [0, 1] (by decide +kernel) rfl⟩⟩, hS.F ht⟩) hS.2.2 dX3_holdsWith_34
def K_isLeastSet_4  : (Int32) := ((0 : Int32))
def K_isLeastSet_6  : (Int32) := ((1 : Int32))
def K_isLeastSet_11 (rec_5 : (Int32) → ((Int32))) (x35 : Int32) : (Int32) := (rec_5 (x35 + 1))
def K_isLeastSet_12  : (Int32) := ((0 : Int32))
def K_isLeastSet_10 (r45 : Int32) (rec_5 : (Int32) → ((Int32))) (x35 : Int32) : (Int32) := (if r45.toInt = 0 then (K_isLeastSet_11 rec_5 x35) else (K_isLeastSet_12))
def K_isLeastSet_9 (rec_5 : (Int32) → ((Int32))) (x35 : Int32) (pt : Nat → Int64) (r0 : Int32) (s0 : Int32) : (Int32) := ((fun t9 => (K_isLeastSet_10 t9 rec_5 x35)) (M_holdsWith pt r0 (s0 &&& (((1 : Int32) <<< (x35 &&& 31)) ^^^ (-1 : Int32)))))
def K_isLeastSet_8 (rec_5 : (Int32) → ((Int32))) (x35 : Int32) : (Int32) := (rec_5 (x35 + 1))
def K_isLeastSet_7 (s0 : Int32) (x35 : Int32) (rec_5 : (Int32) → ((Int32))) (pt : Nat → Int64) (r0 : Int32) : (Int32) := (if ((s0 >>> (x35 &&& 31)) &&& (1 : Int32)).toInt = 1 then (K_isLeastSet_9 rec_5 x35 pt r0 s0) else (K_isLeastSet_8 rec_5 x35))
def K_isLeastSet_5 (x35 : Int32) (s0 : Int32) (rec_5 : (Int32) → ((Int32))) (pt : Nat → Int64) (r0 : Int32) : (Int32) := (if 8 < x35.toInt then (K_isLeastSet_6) else (K_isLeastSet_7 s0 x35 rec_5 pt r0))
def K_isLeastSet_L5 (s0 : Int32) (pt : Nat → Int64) (r0 : Int32) : Nat → (Int32) → (Int32)
  | 0, _ => (0)
  | n9 + 1, x35 => (K_isLeastSet_5 x35 s0 (K_isLeastSet_L5 s0 pt r0 n9) pt r0)
def K_isLeastSet_3 (s0 : Int32) (pt : Nat → Int64) (r0 : Int32) : (Int32) := (K_isLeastSet_L5 s0 pt r0 100000 (0 : Int32))
def K_isLeastSet_2 (r1 : Int32) (s0 : Int32) (pt : Nat → Int64) (r0 : Int32) : (Int32) := (if r1.toInt = 0 then (K_isLeastSet_4) else (K_isLeastSet_3 s0 pt r0))
def K_isLeastSet_1 (s0 : Int32) (pt : Nat → Int64) (r0 : Int32) : (Int32) := ((fun t9 => (K_isLeastSet_2 t9 s0 pt r0)) (M_holdsWith pt r0 s0))
def M_isLeastSet (s0 : Int32) (pt : Nat → Int64) (r0 : Int32) : (Int32) := (K_isLeastSet_1 s0 pt r0)
abbrev W_isLeastSet (cI cJ cZ cG cH : ClassId) (pl : Nat) (r0 : Int32) (s0 : Int32) (pna : Nat) (pta : Nat) (rails : Int32) (limit : Int32) (retry : Int32) (behind : Int32) (pt : Nat → Int64) : va_W := [oX3 pl pna pta rails limit retry behind, oAJ pta cJ 64 pt]
abbrev Q_isLeastSet (D : va_G) (cI cJ cZ cG cH : ClassId) (pl : Nat) (r0 : Int32) (s0 : Int32) (pna : Nat) (pta : Nat) (rails : Int32) (limit : Int32) (retry : Int32) (behind : Int32) (pt : Nat → Int64) (A : Nat → Prop) : Array Value → State → Outcome → State → Prop := va_Qi (fun (r : Int32) (u9 : Int32) => r = u9 ∧ (0 ≤ r.toInt ∧ r.toInt ≤ 1)) (fun u9 t => (M_isLeastSet s0 pt r0 = (u9)) ∧ xB D (tyL cI cJ cZ cG cH) [oX3 pl pna pta rails limit retry behind, oAJ pta cJ 64 pt] A t) A
abbrev rm_isLeastSet : Room := { frames := 1, cells := 0, slots := 0, locals := 22 }
set_option maxRecDepth 100000 in
set_option maxHeartbeats 40000000 in
theorem c_isLeastSet (l : Launch) (D : va_G) (cI cJ cZ cG cH : ClassId) (sz : Nat) (pl : Nat) (r0 : Int32) (s0 : Int32) (pna : Nat) (pta : Nat) (rails : Int32) (limit : Int32) (retry : Int32) (behind : Int32) (pt : Nat → Int64) (h_r0 : 0 ≤ r0.toInt ∧ r0.toInt ≤ 7) (h_rails : 0 ≤ rails.toInt ∧ rails.toInt ≤ 8) : Met l yX3_isLeastSet (wt yX3_isLeastSet cX3_isLeastSet 4 (some .boolean)) rm_isLeastSet (xPc [.ref pl, .int r0, .int s0] D (tyL cI cJ cZ cG cH) (W_isLeastSet cI cJ cZ cG cH pl r0 s0 pna pta rails limit retry behind pt) sz) (Q_isLeastSet D cI cJ cZ cG cH pl r0 s0 pna pta rails limit retry behind pt (va_A (W_isLeastSet cI cJ cZ cG cH pl r0 s0 pna pta rails limit retry behind pt) sz)) 0 0 (va_A (W_isLeastSet cI cJ cZ cG cH pl r0 s0 pna pta rails limit retry behind pt) sz) := by
  refine xMet (cc := cX3_isLeastSet) (maxL := 4) (ret := (some .boolean)) (Qf := Q_isLeastSet D cI cJ cZ cG cH pl r0 s0 pna pta rails limit retry behind pt) (by decide) rfl (Nat.le_of_ble_eq_true rfl) ?_
  intro p e s m below meth c ls A hx hb hr hml hts hown hlocks hnm hsz hP hK hD hA hS hl
  have hown : s.vm.findClass RX3 = some m.cls := hown
  have hP : va_P D vwCl [oX3 pl pna pta rails limit retry behind, oAJ pta cJ 64 pt] s.heap := hP
  have hD : va_D A [oX3 pl pna pta rails limit retry behind, oAJ pta cJ 64 pt] := hD
  have hl : lv_has ls 4 [(0, .ref pl), (1, .int r0), (2, .int s0)] := hl
  have hM : M_isLeastSet s0 pt r0 = (K_isLeastSet_1 s0 pt r0) := rfl
  refine lv_aload_n hx hb dX3_isLeastSet_0 rfl (lv_at hl 0 rfl) ?_
  refine lv_iload_n hx hb dX3_isLeastSet_1 rfl (lv_at hl 1 rfl) ?_
  refine lv_iload_n hx hb dX3_isLeastSet_2 rfl (lv_at hl 2 rfl) ?_
  obtain ⟨hPc, hDc, hFc, hC9⟩ := xpk (wc := W_holdsWith cI cJ cZ cG cH pl r0 s0 pna pta rails limit retry behind pt) hP hD hS hA [0, 1] (by decide +kernel) rfl
  refine va_calli (va_runV (As := [.int r0, .int s0]) (rest := []) ⟨hx, hb, hml, hown, hts⟩ (c_holdsWith l D cI cJ cZ cG cH s.heap.size pl r0 s0 pna pta rails limit retry behind pt (xrng rfl (by omega) (by omega)) (xrng rfl (by omega) (by omega))) (cwV 2 hts (xGV tbC wd436 wd423 wd424 wd59 wd1013) rfl rfl rfl (by decide +kernel) ⟨Nat.le_of_ble_eq_true rfl, Nat.le_of_ble_eq_true rfl⟩) ⟨xPc_blind, va_recv hK hPc (ci := 2) (q0 := 0) rfl rfl, xPc_pre hPc hK hDc⟩ rfl rfl hl.1 rfl (lv_room (Nat.le_of_ble_eq_true rfl)) dX3_isLeastSet_3 ⟨Nat.le_of_ble_eq_true rfl, Nat.le_of_ble_eq_true rfl⟩) hS (fun q _ h => hFc q h) hFc (fun r1 u t H1 locs ht hvm hw1 hB hz1 hk1 hS => ?_)
  obtain ⟨hru9, hw1⟩ := hw1
  subst hru9
  obtain ⟨hf1_0, hP1, hK1, hD1⟩ := hB
  rw [ht] at hP1
  obtain ⟨hP, hD⟩ : xPD D A [oX3 pl pna pta rails limit retry behind, oAJ pta cJ 64 pt] H1 := xjn 0 hP hD [0, 1] [] hC9 rfl (by decide +kernel) (by decide +kernel) hk1 hFc hP1 hD1
  generalize H1 = H at hP hS ⊢
  have hf1_0 : M_holdsWith pt r0 s0 = (r1) := hf1_0
  have hw1 : 0 ≤ r1.toInt ∧ r1.toInt ≤ 1 := hw1
  have h9M := congrArg (fun t9 => (K_isLeastSet_2 t9 s0 pt r0)) hf1_0
  have hM : M_isLeastSet s0 pt r0 = (K_isLeastSet_2 r1 s0 pt r0) := (show M_isLeastSet s0 pt r0 = ((fun t9 => (K_isLeastSet_2 t9 s0 pt r0)) (M_holdsWith pt r0 s0)) from hM).trans h9M
  refine lv_if_ne (tgt := 11) hx hb dX3_isLeastSet_6 (by decide) (fun c_2 => ?_) (fun c_2 => ?_)
  · skip
    have i_2 : ¬ (r1.toInt = 0) := fun h9 => c_2 ((ieq rfl (by decide)).mpr h9)
    have hM : M_isLeastSet s0 pt r0 = (K_isLeastSet_3 s0 pt r0) := (show M_isLeastSet s0 pt r0 = (if r1.toInt = 0 then (K_isLeastSet_4) else (K_isLeastSet_3 s0 pt r0)) from hM).trans (if_neg i_2)
    refine lv_iconst (v := 0) hx hb dX3_isLeastSet_11 (by decide) ?_
    refine lv_istore_n (lv' := [(3, .int 0), (0, .ref pl), (1, .int r0), (2, .int s0)]) hx hb dX3_isLeastSet_12 rfl hl (by decide) rfl (fun ls hl => ?_)
    have hl36 : ∀ (nhl36 : Nat) (x35 : Int32), ((9 - x35.toInt).toNat < nhl36) → (hx35 : 0 ≤ x35.toInt ∧ x35.toInt ≤ 9) → (hM : M_isLeastSet s0 pt r0 = (K_isLeastSet_L5 s0 pt r0 nhl36 x35)) → ∀ (H : Heap) (locs : List Loc), va_P D vwCl [oX3 pl pna pta rails limit retry behind, oAJ pta cJ 64 pt] H → va_D A [oX3 pl pna pta rails limit retry behind, oAJ pta cJ 64 pt] → va_S A s.heap H locs → ∀ (ls : Array Slot), lv_has ls 4 [(3, .int x35), (0, .ref pl), (1, .int r0), (2, .int s0)] → W p l e rm_isLeastSet s m [Value.ref pl, Value.int r0, Value.int s0].toArray below meth c H locs 0 0 (MQ below ((Q_isLeastSet D cI cJ cZ cG cH pl r0 s0 pna pta rails limit retry behind pt) A) [Value.ref pl, Value.int r0, Value.int s0].toArray s 0 0 A) (F0 m 13 ls []) := by
      intro nhl36
      induction nhl36 with
      | zero =>
        intro x35 hmhl36
        exact absurd hmhl36 (Nat.not_lt_zero _)
      | succ nhl36 ihhl36 =>
        intro x35 hmhl36 hx35 hM H locs hP hD hS ls hl
        have hM : M_isLeastSet s0 pt r0 = (K_isLeastSet_5 x35 s0 (K_isLeastSet_L5 s0 pt r0 nhl36) pt r0) := hM
        refine lv_iload_n hx hb dX3_isLeastSet_13 rfl (lv_at hl 0 rfl) ?_
        refine lv_bipush (v := 8) hx hb dX3_isLeastSet_14 (by decide) ?_
        refine lv_icmp_gt (tgt := 51) hx hb dX3_isLeastSet_16 (by decide) (fun c_37 => ?_) (fun c_37 => ?_)
        · skip
          have i_37 : 8 < x35.toInt := (ilt (by decide) rfl).mp c_37
          have hM : M_isLeastSet s0 pt r0 = (K_isLeastSet_6) := (show M_isLeastSet s0 pt r0 = (if 8 < x35.toInt then (K_isLeastSet_6) else (K_isLeastSet_7 s0 x35 (K_isLeastSet_L5 s0 pt r0 nhl36) pt r0)) from hM).trans (if_pos i_37)
          refine lv_iconst (v := 1) hx hb dX3_isLeastSet_51 (by decide) ?_
          refine W.widen (k := 0) (n := 0) (by decide) (by decide) ?_
          exact W.zret (v := 1) hx hb hr (by decide) (fun t ht hW => ⟨⟨1, 1, rfl, ⟨rfl, ⟨by decide, by decide⟩⟩, ⟨hM, xB_of9 ht hW hP hK hD [0, 1] (by decide +kernel) rfl⟩⟩, hS.F ht⟩) hS.2.2 dX3_isLeastSet_52
        · skip
          have i_37 : ¬ (8 < x35.toInt) := fun h9 => c_37 ((ilt (by decide) rfl).mpr h9)
          have hM : M_isLeastSet s0 pt r0 = (K_isLeastSet_7 s0 x35 (K_isLeastSet_L5 s0 pt r0 nhl36) pt r0) := (show M_isLeastSet s0 pt r0 = (if 8 < x35.toInt then (K_isLeastSet_6) else (K_isLeastSet_7 s0 x35 (K_isLeastSet_L5 s0 pt r0 nhl36) pt r0)) from hM).trans (if_neg i_37)
          refine lv_iload_n hx hb dX3_isLeastSet_19 rfl (lv_at hl 3 rfl) ?_
          refine lv_iload_n hx hb dX3_isLeastSet_20 rfl (lv_at hl 0 rfl) ?_
          refine lv_ishr hx hb dX3_isLeastSet_21 ?_
          refine lv_topi (fun v38 ev38 => ?_)
          refine lv_iconst (v := 1) hx hb dX3_isLeastSet_22 (by decide) ?_
          refine lv_iand hx hb dX3_isLeastSet_23 ?_
          refine lv_topi (fun v39 ev39 => ?_)
          have rv39 : 0 ≤ v39.toInt ∧ v39.toInt ≤ 1 := xandL ev39 (show (1 : Int32).toInt = 1 from (by decide)) (by omega)
          refine lv_iconst (v := 1) hx hb dX3_isLeastSet_24 (by decide) ?_
          refine lv_icmp_ne (tgt := 45) hx hb dX3_isLeastSet_25 (by decide) (fun c_40 => ?_) (fun c_40 => ?_)
          · skip
            have i_40 : ¬ (v39.toInt = 1) := fun h9 => c_40 ((ieq rfl (by decide)).mpr h9)
            have hM : M_isLeastSet s0 pt r0 = (K_isLeastSet_8 (K_isLeastSet_L5 s0 pt r0 nhl36) x35) := (show M_isLeastSet s0 pt r0 = (if v39.toInt = 1 then (K_isLeastSet_9 (K_isLeastSet_L5 s0 pt r0 nhl36) x35 pt r0 s0) else (K_isLeastSet_8 (K_isLeastSet_L5 s0 pt r0 nhl36) x35)) from (by rw [ev39, ev38]; exact hM)).trans (if_neg i_40)
            obtain ⟨x41, ex41⟩ : ∃ y : Int32, y = x35 + 1 := ⟨_, rfl⟩
            have tx41 : x41.toInt = (x35.toInt + 1) := (congrArg Int32.toInt ex41).trans (xadd rfl (by decide) (by omega) (by omega))
            refine lv_iinc (v := x41) (lv' := [(3, .int x41), (0, .ref pl), (1, .int r0), (2, .int s0)]) hx hb dX3_isLeastSet_45 hl (k := 0) rfl (by rw [ex41]; rfl) (by decide) rfl (fun ls hl => ?_)
            refine lv_goto (tgt := 13) hx hb dX3_isLeastSet_48 (by decide) ?_
            exact ihhl36 x41 (by omega) (xrng tx41 (by omega) (by omega)) (by rw [ex41]; exact hM) _ _ hP hD hS ls (lv_sub hl [0, 1, 2, 3] rfl)
          · skip
            have i_40 : v39.toInt = 1 := (ieq rfl (by decide)).mp c_40
            have hM : M_isLeastSet s0 pt r0 = (K_isLeastSet_9 (K_isLeastSet_L5 s0 pt r0 nhl36) x35 pt r0 s0) := (show M_isLeastSet s0 pt r0 = (if v39.toInt = 1 then (K_isLeastSet_9 (K_isLeastSet_L5 s0 pt r0 nhl36) x35 pt r0 s0) else (K_isLeastSet_8 (K_isLeastSet_L5 s0 pt r0 nhl36) x35)) from (by rw [ev39, ev38]; exact hM)).trans (if_pos i_40)
            refine lv_aload_n hx hb dX3_isLeastSet_28 rfl (lv_at hl 1 rfl) ?_
            refine lv_iload_n hx hb dX3_isLeastSet_29 rfl (lv_at hl 2 rfl) ?_
            refine lv_iload_n hx hb dX3_isLeastSet_30 rfl (lv_at hl 3 rfl) ?_
            refine lv_iconst (v := 1) hx hb dX3_isLeastSet_31 (by decide) ?_
            refine lv_iload_n hx hb dX3_isLeastSet_32 rfl (lv_at hl 0 rfl) ?_
            refine lv_ishl hx hb dX3_isLeastSet_33 ?_
            refine lv_topi (fun v42 ev42 => ?_)
            have rv42 : 1 ≤ v42.toInt ∧ v42.toInt ≤ 256 := xshl1 8 ev42 (show (x35 : Int32).toInt = x35.toInt from rfl) (by omega) (by omega) (by decide)
            refine lv_iconst (v := (-1)) hx hb dX3_isLeastSet_34 (by decide) ?_
            refine lv_ixor hx hb dX3_isLeastSet_35 ?_
            refine lv_topi (fun v43 ev43 => ?_)
            refine lv_iand hx hb dX3_isLeastSet_36 ?_
            refine lv_topi (fun v44 ev44 => ?_)
            obtain ⟨hPc, hDc, hFc, hC9⟩ := xpk (wc := W_holdsWith cI cJ cZ cG cH pl r0 v44 pna pta rails limit retry behind pt) hP hD hS hA [0, 1] (by decide +kernel) rfl
            refine va_calli (va_runV (As := [.int r0, .int v44]) (rest := []) ⟨hx, hb, hml, hown, hts⟩ (c_holdsWith l D cI cJ cZ cG cH H.size pl r0 v44 pna pta rails limit retry behind pt (xrng rfl (by omega) (by omega)) (xrng rfl (by omega) (by omega))) (cwV 2 hts (xGV tbC wd436 wd423 wd424 wd59 wd1013) rfl rfl rfl (by decide +kernel) ⟨Nat.le_of_ble_eq_true rfl, Nat.le_of_ble_eq_true rfl⟩) ⟨xPc_blind, va_recv hK hPc (ci := 2) (q0 := 0) rfl rfl, xPc_pre hPc hK hDc⟩ rfl rfl hl.1 rfl (lv_room (Nat.le_of_ble_eq_true rfl)) dX3_isLeastSet_37 ⟨Nat.le_of_ble_eq_true rfl, Nat.le_of_ble_eq_true rfl⟩) hS (fun q _ h => hFc q h) hFc (fun r45 u t H1 locs ht hvm hw45 hB hz1 hk1 hS => ?_)
            obtain ⟨hru9, hw45⟩ := hw45
            subst hru9
            obtain ⟨hf45_0, hP1, hK1, hD1⟩ := hB
            rw [ht] at hP1
            obtain ⟨hP, hD⟩ : xPD D A [oX3 pl pna pta rails limit retry behind, oAJ pta cJ 64 pt] H1 := xjn 0 hP hD [0, 1] [] hC9 rfl (by decide +kernel) (by decide +kernel) hk1 hFc hP1 hD1
            generalize H1 = H at hP hS ⊢
            have hf45_0 : M_holdsWith pt r0 v44 = (r45) := hf45_0
            have hw45 : 0 ≤ r45.toInt ∧ r45.toInt ≤ 1 := hw45
            have h9M := congrArg (fun t9 => (K_isLeastSet_10 t9 (K_isLeastSet_L5 s0 pt r0 nhl36) x35)) hf45_0
            have hM : M_isLeastSet s0 pt r0 = (K_isLeastSet_10 r45 (K_isLeastSet_L5 s0 pt r0 nhl36) x35) := (show M_isLeastSet s0 pt r0 = ((fun t9 => (K_isLeastSet_10 t9 (K_isLeastSet_L5 s0 pt r0 nhl36) x35)) (M_holdsWith pt r0 v44)) from (by rw [ev44, ev43, ev42]; exact hM)).trans h9M
            refine lv_if_eq (tgt := 45) hx hb dX3_isLeastSet_40 (by decide) (fun c_46 => ?_) (fun c_46 => ?_)
            · skip
              have i_46 : r45.toInt = 0 := (ieq rfl (by decide)).mp c_46
              have hM : M_isLeastSet s0 pt r0 = (K_isLeastSet_11 (K_isLeastSet_L5 s0 pt r0 nhl36) x35) := (show M_isLeastSet s0 pt r0 = (if r45.toInt = 0 then (K_isLeastSet_11 (K_isLeastSet_L5 s0 pt r0 nhl36) x35) else (K_isLeastSet_12)) from hM).trans (if_pos i_46)
              obtain ⟨x47, ex47⟩ : ∃ y : Int32, y = x35 + 1 := ⟨_, rfl⟩
              have tx47 : x47.toInt = (x35.toInt + 1) := (congrArg Int32.toInt ex47).trans (xadd rfl (by decide) (by omega) (by omega))
              refine lv_iinc (v := x47) (lv' := [(3, .int x47), (0, .ref pl), (1, .int r0), (2, .int s0)]) hx hb dX3_isLeastSet_45 hl (k := 0) rfl (by rw [ex47]; rfl) (by decide) rfl (fun ls hl => ?_)
              refine lv_goto (tgt := 13) hx hb dX3_isLeastSet_48 (by decide) ?_
              exact ihhl36 x47 (by omega) (xrng tx47 (by omega) (by omega)) (by rw [ex47]; exact hM) _ _ hP hD hS ls (lv_sub hl [0, 1, 2, 3] rfl)
            · skip
              have i_46 : ¬ (r45.toInt = 0) := fun h9 => c_46 ((ieq rfl (by decide)).mpr h9)
              have hM : M_isLeastSet s0 pt r0 = (K_isLeastSet_12) := (show M_isLeastSet s0 pt r0 = (if r45.toInt = 0 then (K_isLeastSet_11 (K_isLeastSet_L5 s0 pt r0 nhl36) x35) else (K_isLeastSet_12)) from hM).trans (if_neg i_46)
              refine lv_iconst (v := 0) hx hb dX3_isLeastSet_43 (by decide) ?_
              refine W.widen (k := 0) (n := 0) (by decide) (by decide) ?_
              exact W.zret (v := 0) hx hb hr (by decide) (fun t ht hW => ⟨⟨0, 0, rfl, ⟨rfl, ⟨by decide, by decide⟩⟩, ⟨hM, xB_of9 ht hW hP hK hD [0, 1] (by decide +kernel) rfl⟩⟩, hS.F ht⟩) hS.2.2 dX3_isLeastSet_44
    exact hl36 100000 0 (by have z9_0 : (0 : Int32).toInt = 0 := (by decide); omega) ⟨by decide, by decide⟩ hM _ _ hP hD hS ls (lv_sub hl [0, 1, 2, 3] rfl)
  · skip
    have i_2 : r1.toInt = 0 := (ieq rfl (by decide)).mp c_2
    have hM : M_isLeastSet s0 pt r0 = (K_isLeastSet_4) := (show M_isLeastSet s0 pt r0 = (if r1.toInt = 0 then (K_isLeastSet_4) else (K_isLeastSet_3 s0 pt r0)) from hM).trans (if_pos i_2)
    refine lv_iconst (v := 0) hx hb dX3_isLeastSet_9 (by decide) ?_
    refine W.widen (k := 0) (n := 0) (by decide) (by decide) ?_
    exact W.zret (v := 0) hx hb hr (by decide) (fun t ht hW => ⟨⟨0, 0, rfl, ⟨rfl, ⟨by decide, by decide⟩⟩, ⟨hM, xB_of9 ht hW hP hK hD [0, 1] (by decide +kernel) rfl⟩⟩, hS.F ht⟩) hS.2.2 dX3_isLeastSet_10
def K_countLeastSets_3 (x44 : Int32) : (Int32) := (x44)
def K_countLeastSets_6 (rec_2 : (Int32) → (Int32) → ((Int32))) (x43 : Int32) (x44 : Int32) : (Int32) := (rec_2 (x43 + 1) x44)
def K_countLeastSets_7 (rec_2 : (Int32) → (Int32) → ((Int32))) (x43 : Int32) (x44 : Int32) : (Int32) := (rec_2 (x43 + 1) (x44 + 1))
def K_countLeastSets_5 (r47 : Int32) (rec_2 : (Int32) → (Int32) → ((Int32))) (x43 : Int32) (x44 : Int32) : (Int32) := (if r47.toInt = 0 then (K_countLeastSets_6 rec_2 x43 x44) else (K_countLeastSets_7 rec_2 x43 x44))
def K_countLeastSets_4 (rec_2 : (Int32) → (Int32) → ((Int32))) (x43 : Int32) (x44 : Int32) (pt : Nat → Int64) (r0 : Int32) : (Int32) := ((fun t9 => (K_countLeastSets_5 t9 rec_2 x43 x44)) (M_isLeastSet x43 pt r0))
def K_countLeastSets_2 (x43 : Int32) (x44 : Int32) (rec_2 : (Int32) → (Int32) → ((Int32))) (pt : Nat → Int64) (r0 : Int32) : (Int32) := (if 512 ≤ x43.toInt then (K_countLeastSets_3 x44) else (K_countLeastSets_4 rec_2 x43 x44 pt r0))
def K_countLeastSets_L2 (pt : Nat → Int64) (r0 : Int32) : Nat → (Int32) → (Int32) → (Int32)
  | 0, _, _ => (0)
  | n9 + 1, x43, x44 => (K_countLeastSets_2 x43 x44 (K_countLeastSets_L2 pt r0 n9) pt r0)
def K_countLeastSets_1 (pt : Nat → Int64) (r0 : Int32) : (Int32) := (K_countLeastSets_L2 pt r0 100000 (0 : Int32) (0 : Int32))
def M_countLeastSets (pt : Nat → Int64) (r0 : Int32) : (Int32) := (K_countLeastSets_1 pt r0)
abbrev W_countLeastSets (cI cJ cZ cG cH : ClassId) (pl : Nat) (r0 : Int32) (pna : Nat) (pta : Nat) (rails : Int32) (limit : Int32) (retry : Int32) (behind : Int32) (pt : Nat → Int64) : va_W := [oX3 pl pna pta rails limit retry behind, oAJ pta cJ 64 pt]
abbrev Q_countLeastSets (D : va_G) (cI cJ cZ cG cH : ClassId) (pl : Nat) (r0 : Int32) (pna : Nat) (pta : Nat) (rails : Int32) (limit : Int32) (retry : Int32) (behind : Int32) (pt : Nat → Int64) (A : Nat → Prop) : Array Value → State → Outcome → State → Prop := va_Qi (fun (r : Int32) (u9 : Int32) => r = u9 ∧ (True)) (fun u9 t => (M_countLeastSets pt r0 = (u9)) ∧ xB D (tyL cI cJ cZ cG cH) [oX3 pl pna pta rails limit retry behind, oAJ pta cJ 64 pt] A t) A
abbrev rm_countLeastSets : Room := { frames := 2, cells := 0, slots := 0, locals := 45 }
set_option maxRecDepth 100000 in
set_option maxHeartbeats 40000000 in
theorem c_countLeastSets (l : Launch) (D : va_G) (cI cJ cZ cG cH : ClassId) (sz : Nat) (pl : Nat) (r0 : Int32) (pna : Nat) (pta : Nat) (rails : Int32) (limit : Int32) (retry : Int32) (behind : Int32) (pt : Nat → Int64) (h_r0 : 0 ≤ r0.toInt ∧ r0.toInt ≤ 7) (h_rails : 0 ≤ rails.toInt ∧ rails.toInt ≤ 8) : Met l yX3_countLeastSets (wt yX3_countLeastSets cX3_countLeastSets 4 (some .int)) rm_countLeastSets (xPc [.ref pl, .int r0] D (tyL cI cJ cZ cG cH) (W_countLeastSets cI cJ cZ cG cH pl r0 pna pta rails limit retry behind pt) sz) (Q_countLeastSets D cI cJ cZ cG cH pl r0 pna pta rails limit retry behind pt (va_A (W_countLeastSets cI cJ cZ cG cH pl r0 pna pta rails limit retry behind pt) sz)) 0 0 (va_A (W_countLeastSets cI cJ cZ cG cH pl r0 pna pta rails limit retry behind pt) sz) := by
  refine xMet (cc := cX3_countLeastSets) (maxL := 4) (ret := (some .int)) (Qf := Q_countLeastSets D cI cJ cZ cG cH pl r0 pna pta rails limit retry behind pt) (by decide) rfl (Nat.le_of_ble_eq_true rfl) ?_
  intro p e s m below meth c ls A hx hb hr hml hts hown hlocks hnm hsz hP hK hD hA hS hl
  have hown : s.vm.findClass RX3 = some m.cls := hown
  have hP : va_P D vwCl [oX3 pl pna pta rails limit retry behind, oAJ pta cJ 64 pt] s.heap := hP
  have hD : va_D A [oX3 pl pna pta rails limit retry behind, oAJ pta cJ 64 pt] := hD
  have hl : lv_has ls 4 [(0, .ref pl), (1, .int r0)] := hl
  have hM : M_countLeastSets pt r0 = (K_countLeastSets_1 pt r0) := rfl
  refine lv_iconst (v := 0) hx hb dX3_countLeastSets_0 (by decide) ?_
  refine lv_istore_n (lv' := [(2, .int 0), (0, .ref pl), (1, .int r0)]) hx hb dX3_countLeastSets_1 rfl hl (by decide) rfl (fun ls hl => ?_)
  refine lv_iconst (v := 0) hx hb dX3_countLeastSets_2 (by decide) ?_
  refine lv_istore_n (lv' := [(3, .int 0), (2, .int 0), (0, .ref pl), (1, .int r0)]) hx hb dX3_countLeastSets_3 rfl hl (by decide) rfl (fun ls hl => ?_)
  have hl45 : ∀ (nhl45 : Nat) (x43 : Int32) (x44 : Int32), ((512 - x43.toInt).toNat < nhl45) → (hx43 : 0 ≤ x43.toInt ∧ x43.toInt ≤ 512) → (hM : M_countLeastSets pt r0 = (K_countLeastSets_L2 pt r0 nhl45 x43 x44)) → ∀ (H : Heap) (locs : List Loc), va_P D vwCl [oX3 pl pna pta rails limit retry behind, oAJ pta cJ 64 pt] H → va_D A [oX3 pl pna pta rails limit retry behind, oAJ pta cJ 64 pt] → va_S A s.heap H locs → ∀ (ls : Array Slot), lv_has ls 4 [(3, .int x43), (2, .int x44), (0, .ref pl), (1, .int r0)] → W p l e rm_countLeastSets s m [Value.ref pl, Value.int r0].toArray below meth c H locs 0 0 (MQ below ((Q_countLeastSets D cI cJ cZ cG cH pl r0 pna pta rails limit retry behind pt) A) [Value.ref pl, Value.int r0].toArray s 0 0 A) (F0 m 4 ls []) := by
    intro nhl45
    induction nhl45 with
    | zero =>
      intro x43 x44 hmhl45
      exact absurd hmhl45 (Nat.not_lt_zero _)
    | succ nhl45 ihhl45 =>
      intro x43 x44 hmhl45 hx43 hM H locs hP hD hS ls hl
      have hM : M_countLeastSets pt r0 = (K_countLeastSets_2 x43 x44 (K_countLeastSets_L2 pt r0 nhl45) pt r0) := hM
      refine lv_iload_n hx hb dX3_countLeastSets_4 rfl (lv_at hl 0 rfl) ?_
      refine lv_sipush (v := 512) hx hb dX3_countLeastSets_5 (by decide) ?_
      refine lv_icmp_ge (tgt := 29) hx hb dX3_countLeastSets_8 (by decide) (fun c_46 => ?_) (fun c_46 => ?_)
      · skip
        have i_46 : 512 ≤ x43.toInt := (ile (by decide) rfl).mp c_46
        have hM : M_countLeastSets pt r0 = (K_countLeastSets_3 x44) := (show M_countLeastSets pt r0 = (if 512 ≤ x43.toInt then (K_countLeastSets_3 x44) else (K_countLeastSets_4 (K_countLeastSets_L2 pt r0 nhl45) x43 x44 pt r0)) from hM).trans (if_pos i_46)
        refine lv_iload_n hx hb dX3_countLeastSets_29 rfl (lv_at hl 1 rfl) ?_
        refine W.widen (k := 0) (n := 0) (by decide) (by decide) ?_
        exact W.iret (v := x44) hx hb hr (fun t ht hW => ⟨⟨x44, x44, rfl, ⟨rfl, trivial⟩, ⟨hM, xB_of9 ht hW hP hK hD [0, 1] (by decide +kernel) rfl⟩⟩, hS.F ht⟩) hS.2.2 dX3_countLeastSets_30
      · skip
        have i_46 : ¬ (512 ≤ x43.toInt) := fun h9 => c_46 ((ile (by decide) rfl).mpr h9)
        have hM : M_countLeastSets pt r0 = (K_countLeastSets_4 (K_countLeastSets_L2 pt r0 nhl45) x43 x44 pt r0) := (show M_countLeastSets pt r0 = (if 512 ≤ x43.toInt then (K_countLeastSets_3 x44) else (K_countLeastSets_4 (K_countLeastSets_L2 pt r0 nhl45) x43 x44 pt r0)) from hM).trans (if_neg i_46)
        refine lv_aload_n hx hb dX3_countLeastSets_11 rfl (lv_at hl 2 rfl) ?_
        refine lv_iload_n hx hb dX3_countLeastSets_12 rfl (lv_at hl 3 rfl) ?_
        refine lv_iload_n hx hb dX3_countLeastSets_13 rfl (lv_at hl 0 rfl) ?_
        obtain ⟨hPc, hDc, hFc, hC9⟩ := xpk (wc := W_isLeastSet cI cJ cZ cG cH pl r0 x43 pna pta rails limit retry behind pt) hP hD hS hA [0, 1] (by decide +kernel) rfl
        refine va_calli (va_runV (As := [.int r0, .int x43]) (rest := []) ⟨hx, hb, hml, hown, hts⟩ (c_isLeastSet l D cI cJ cZ cG cH H.size pl r0 x43 pna pta rails limit retry behind pt (xrng rfl (by omega) (by omega)) (xrng rfl (by omega) (by omega))) (cwV 2 hts (xGV tbC wd433 wd434 wd435 wd59 wd1017) rfl rfl rfl (by decide +kernel) ⟨Nat.le_of_ble_eq_true rfl, Nat.le_of_ble_eq_true rfl⟩) ⟨xPc_blind, va_recv hK hPc (ci := 2) (q0 := 0) rfl rfl, xPc_pre hPc hK hDc⟩ rfl rfl hl.1 rfl (lv_room (Nat.le_of_ble_eq_true rfl)) dX3_countLeastSets_14 ⟨Nat.le_of_ble_eq_true rfl, Nat.le_of_ble_eq_true rfl⟩) hS (fun q _ h => hFc q h) hFc (fun r47 u t H1 locs ht hvm hw47 hB hz1 hk1 hS => ?_)
        obtain ⟨hru9, hw47⟩ := hw47
        subst hru9
        obtain ⟨hf47_0, hP1, hK1, hD1⟩ := hB
        rw [ht] at hP1
        obtain ⟨hP, hD⟩ : xPD D A [oX3 pl pna pta rails limit retry behind, oAJ pta cJ 64 pt] H1 := xjn 0 hP hD [0, 1] [] hC9 rfl (by decide +kernel) (by decide +kernel) hk1 hFc hP1 hD1
        generalize H1 = H at hP hS ⊢
        have hf47_0 : M_isLeastSet x43 pt r0 = (r47) := hf47_0
        have hw47 : 0 ≤ r47.toInt ∧ r47.toInt ≤ 1 := hw47
        have h9M := congrArg (fun t9 => (K_countLeastSets_5 t9 (K_countLeastSets_L2 pt r0 nhl45) x43 x44)) hf47_0
        have hM : M_countLeastSets pt r0 = (K_countLeastSets_5 r47 (K_countLeastSets_L2 pt r0 nhl45) x43 x44) := (show M_countLeastSets pt r0 = ((fun t9 => (K_countLeastSets_5 t9 (K_countLeastSets_L2 pt r0 nhl45) x43 x44)) (M_isLeastSet x43 pt r0)) from hM).trans h9M
        refine lv_if_eq (tgt := 23) hx hb dX3_countLeastSets_17 (by decide) (fun c_48 => ?_) (fun c_48 => ?_)
        · skip
          have i_48 : r47.toInt = 0 := (ieq rfl (by decide)).mp c_48
          have hM : M_countLeastSets pt r0 = (K_countLeastSets_6 (K_countLeastSets_L2 pt r0 nhl45) x43 x44) := (show M_countLeastSets pt r0 = (if r47.toInt = 0 then (K_countLeastSets_6 (K_countLeastSets_L2 pt r0 nhl45) x43 x44) else (K_countLeastSets_7 (K_countLeastSets_L2 pt r0 nhl45) x43 x44)) from hM).trans (if_pos i_48)
          obtain ⟨x49, ex49⟩ : ∃ y : Int32, y = x43 + 1 := ⟨_, rfl⟩
          have tx49 : x49.toInt = (x43.toInt + 1) := (congrArg Int32.toInt ex49).trans (xadd rfl (by decide) (by omega) (by omega))
          refine lv_iinc (v := x49) (lv' := [(3, .int x49), (2, .int x44), (0, .ref pl), (1, .int r0)]) hx hb dX3_countLeastSets_23 hl (k := 0) rfl (by rw [ex49]; rfl) (by decide) rfl (fun ls hl => ?_)
          refine lv_goto (tgt := 4) hx hb dX3_countLeastSets_26 (by decide) ?_
          exact ihhl45 x49 x44 (by omega) (xrng tx49 (by omega) (by omega)) (by rw [ex49]; exact hM) _ _ hP hD hS ls (lv_sub hl [0, 1, 2, 3] rfl)
        · skip
          have i_48 : ¬ (r47.toInt = 0) := fun h9 => c_48 ((ieq rfl (by decide)).mpr h9)
          have hM : M_countLeastSets pt r0 = (K_countLeastSets_7 (K_countLeastSets_L2 pt r0 nhl45) x43 x44) := (show M_countLeastSets pt r0 = (if r47.toInt = 0 then (K_countLeastSets_6 (K_countLeastSets_L2 pt r0 nhl45) x43 x44) else (K_countLeastSets_7 (K_countLeastSets_L2 pt r0 nhl45) x43 x44)) from hM).trans (if_neg i_48)
          obtain ⟨x50, ex50⟩ : ∃ y : Int32, y = x44 + 1 := ⟨_, rfl⟩
          refine lv_iinc (v := x50) (lv' := [(2, .int x50), (3, .int x43), (0, .ref pl), (1, .int r0)]) hx hb dX3_countLeastSets_20 hl (k := 1) rfl (by rw [ex50]; rfl) (by decide) rfl (fun ls hl => ?_)
          obtain ⟨x51, ex51⟩ : ∃ y : Int32, y = x43 + 1 := ⟨_, rfl⟩
          have tx51 : x51.toInt = (x43.toInt + 1) := (congrArg Int32.toInt ex51).trans (xadd rfl (by decide) (by omega) (by omega))
          refine lv_iinc (v := x51) (lv' := [(3, .int x51), (2, .int x50), (0, .ref pl), (1, .int r0)]) hx hb dX3_countLeastSets_23 hl (k := 1) rfl (by rw [ex51]; rfl) (by decide) rfl (fun ls hl => ?_)
          refine lv_goto (tgt := 4) hx hb dX3_countLeastSets_26 (by decide) ?_
          exact ihhl45 x51 x50 (by omega) (xrng tx51 (by omega) (by omega)) (by rw [ex51, ex50]; exact hM) _ _ hP hD hS ls (lv_sub hl [0, 1, 2, 3] rfl)
  exact hl45 100000 0 0 (by have z9_0 : (0 : Int32).toInt = 0 := (by decide); omega) ⟨by decide, by decide⟩ hM _ _ hP hD hS ls (lv_sub hl [0, 1, 2, 3] rfl)
def K_leastSet_3  : (Int32) := ((-1 : Int32))
def K_leastSet_6 (rec_2 : (Int32) → (Int32) → ((Int32))) (x49 : Int32) (x50 : Int32) : (Int32) := (rec_2 (x49 + 1) x50)
def K_leastSet_9 (x49 : Int32) : (Int32) := (x49)
def K_leastSet_8 (rec_2 : (Int32) → (Int32) → ((Int32))) (x49 : Int32) (x50 : Int32) : (Int32) := (rec_2 (x49 + 1) (x50 + 1))
def K_leastSet_7 (x50 : Int32) (i0 : Int32) (x49 : Int32) (rec_2 : (Int32) → (Int32) → ((Int32))) : (Int32) := (if x50.toInt = i0.toInt then (K_leastSet_9 x49) else (K_leastSet_8 rec_2 x49 x50))
def K_leastSet_5 (r53 : Int32) (rec_2 : (Int32) → (Int32) → ((Int32))) (x49 : Int32) (x50 : Int32) (i0 : Int32) : (Int32) := (if r53.toInt = 0 then (K_leastSet_6 rec_2 x49 x50) else (K_leastSet_7 x50 i0 x49 rec_2))
def K_leastSet_4 (rec_2 : (Int32) → (Int32) → ((Int32))) (x49 : Int32) (x50 : Int32) (i0 : Int32) (pt : Nat → Int64) (r0 : Int32) : (Int32) := ((fun t9 => (K_leastSet_5 t9 rec_2 x49 x50 i0)) (M_isLeastSet x49 pt r0))
def K_leastSet_2 (x49 : Int32) (rec_2 : (Int32) → (Int32) → ((Int32))) (x50 : Int32) (i0 : Int32) (pt : Nat → Int64) (r0 : Int32) : (Int32) := (if 512 ≤ x49.toInt then (K_leastSet_3) else (K_leastSet_4 rec_2 x49 x50 i0 pt r0))
def K_leastSet_L2 (i0 : Int32) (pt : Nat → Int64) (r0 : Int32) : Nat → (Int32) → (Int32) → (Int32)
  | 0, _, _ => (0)
  | n9 + 1, x49, x50 => (K_leastSet_2 x49 (K_leastSet_L2 i0 pt r0 n9) x50 i0 pt r0)
def K_leastSet_1 (i0 : Int32) (pt : Nat → Int64) (r0 : Int32) : (Int32) := (K_leastSet_L2 i0 pt r0 100000 (0 : Int32) (0 : Int32))
def M_leastSet (i0 : Int32) (pt : Nat → Int64) (r0 : Int32) : (Int32) := (K_leastSet_1 i0 pt r0)
abbrev W_leastSet (cI cJ cZ cG cH : ClassId) (pl : Nat) (r0 : Int32) (i0 : Int32) (pna : Nat) (pta : Nat) (rails : Int32) (limit : Int32) (retry : Int32) (behind : Int32) (pt : Nat → Int64) : va_W := [oX3 pl pna pta rails limit retry behind, oAJ pta cJ 64 pt]
abbrev Q_leastSet (D : va_G) (cI cJ cZ cG cH : ClassId) (pl : Nat) (r0 : Int32) (i0 : Int32) (pna : Nat) (pta : Nat) (rails : Int32) (limit : Int32) (retry : Int32) (behind : Int32) (pt : Nat → Int64) (A : Nat → Prop) : Array Value → State → Outcome → State → Prop := va_Qi (fun (r : Int32) (u9 : Int32) => r = u9 ∧ ((-1) ≤ r.toInt ∧ r.toInt ≤ 511)) (fun u9 t => (M_leastSet i0 pt r0 = (u9)) ∧ xB D (tyL cI cJ cZ cG cH) [oX3 pl pna pta rails limit retry behind, oAJ pta cJ 64 pt] A t) A
abbrev rm_leastSet : Room := { frames := 2, cells := 0, slots := 0, locals := 45 }
set_option maxRecDepth 100000 in
set_option maxHeartbeats 40000000 in
theorem c_leastSet (l : Launch) (D : va_G) (cI cJ cZ cG cH : ClassId) (sz : Nat) (pl : Nat) (r0 : Int32) (i0 : Int32) (pna : Nat) (pta : Nat) (rails : Int32) (limit : Int32) (retry : Int32) (behind : Int32) (pt : Nat → Int64) (h_r0 : 0 ≤ r0.toInt ∧ r0.toInt ≤ 7) (h_rails : 0 ≤ rails.toInt ∧ rails.toInt ≤ 8) : Met l yX3_leastSet (wt yX3_leastSet cX3_leastSet 5 (some .int)) rm_leastSet (xPc [.ref pl, .int r0, .int i0] D (tyL cI cJ cZ cG cH) (W_leastSet cI cJ cZ cG cH pl r0 i0 pna pta rails limit retry behind pt) sz) (Q_leastSet D cI cJ cZ cG cH pl r0 i0 pna pta rails limit retry behind pt (va_A (W_leastSet cI cJ cZ cG cH pl r0 i0 pna pta rails limit retry behind pt) sz)) 0 0 (va_A (W_leastSet cI cJ cZ cG cH pl r0 i0 pna pta rails limit retry behind pt) sz) := by
  refine xMet (cc := cX3_leastSet) (maxL := 5) (ret := (some .int)) (Qf := Q_leastSet D cI cJ cZ cG cH pl r0 i0 pna pta rails limit retry behind pt) (by decide) rfl (Nat.le_of_ble_eq_true rfl) ?_
  intro p e s m below meth c ls A hx hb hr hml hts hown hlocks hnm hsz hP hK hD hA hS hl
  have hown : s.vm.findClass RX3 = some m.cls := hown
  have hP : va_P D vwCl [oX3 pl pna pta rails limit retry behind, oAJ pta cJ 64 pt] s.heap := hP
  have hD : va_D A [oX3 pl pna pta rails limit retry behind, oAJ pta cJ 64 pt] := hD
  have hl : lv_has ls 5 [(0, .ref pl), (1, .int r0), (2, .int i0)] := hl
  have hM : M_leastSet i0 pt r0 = (K_leastSet_1 i0 pt r0) := rfl
  refine lv_iconst (v := 0) hx hb dX3_leastSet_0 (by decide) ?_
  refine lv_istore_n (lv' := [(3, .int 0), (0, .ref pl), (1, .int r0), (2, .int i0)]) hx hb dX3_leastSet_1 rfl hl (by decide) rfl (fun ls hl => ?_)
  refine lv_iconst (v := 0) hx hb dX3_leastSet_2 (by decide) ?_
  refine lv_istore (lv' := [(4, .int 0), (3, .int 0), (0, .ref pl), (1, .int r0), (2, .int i0)]) hx hb dX3_leastSet_3 hl (by decide) rfl (fun ls hl => ?_)
  have hl51 : ∀ (nhl51 : Nat) (x49 : Int32) (x50 : Int32), ((512 - x49.toInt).toNat < nhl51) → (hx49 : 0 ≤ x49.toInt ∧ x49.toInt ≤ 512) → (hM : M_leastSet i0 pt r0 = (K_leastSet_L2 i0 pt r0 nhl51 x49 x50)) → ∀ (H : Heap) (locs : List Loc), va_P D vwCl [oX3 pl pna pta rails limit retry behind, oAJ pta cJ 64 pt] H → va_D A [oX3 pl pna pta rails limit retry behind, oAJ pta cJ 64 pt] → va_S A s.heap H locs → ∀ (ls : Array Slot), lv_has ls 5 [(4, .int x49), (3, .int x50), (0, .ref pl), (1, .int r0), (2, .int i0)] → W p l e rm_leastSet s m [Value.ref pl, Value.int r0, Value.int i0].toArray below meth c H locs 0 0 (MQ below ((Q_leastSet D cI cJ cZ cG cH pl r0 i0 pna pta rails limit retry behind pt) A) [Value.ref pl, Value.int r0, Value.int i0].toArray s 0 0 A) (F0 m 5 ls []) := by
    intro nhl51
    induction nhl51 with
    | zero =>
      intro x49 x50 hmhl51
      exact absurd hmhl51 (Nat.not_lt_zero _)
    | succ nhl51 ihhl51 =>
      intro x49 x50 hmhl51 hx49 hM H locs hP hD hS ls hl
      have hM : M_leastSet i0 pt r0 = (K_leastSet_2 x49 (K_leastSet_L2 i0 pt r0 nhl51) x50 i0 pt r0) := hM
      refine lv_iload hx hb dX3_leastSet_5 (lv_at hl 0 rfl) ?_
      refine lv_sipush (v := 512) hx hb dX3_leastSet_7 (by decide) ?_
      refine lv_icmp_ge (tgt := 40) hx hb dX3_leastSet_10 (by decide) (fun c_52 => ?_) (fun c_52 => ?_)
      · skip
        have i_52 : 512 ≤ x49.toInt := (ile (by decide) rfl).mp c_52
        have hM : M_leastSet i0 pt r0 = (K_leastSet_3) := (show M_leastSet i0 pt r0 = (if 512 ≤ x49.toInt then (K_leastSet_3) else (K_leastSet_4 (K_leastSet_L2 i0 pt r0 nhl51) x49 x50 i0 pt r0)) from hM).trans (if_pos i_52)
        refine lv_iconst (v := (-1)) hx hb dX3_leastSet_40 (by decide) ?_
        refine W.widen (k := 0) (n := 0) (by decide) (by decide) ?_
        exact W.iret (v := (-1)) hx hb hr (fun t ht hW => ⟨⟨(-1), (-1), rfl, ⟨rfl, ⟨by decide, by decide⟩⟩, ⟨hM, xB_of9 ht hW hP hK hD [0, 1] (by decide +kernel) rfl⟩⟩, hS.F ht⟩) hS.2.2 dX3_leastSet_41
      · skip
        have i_52 : ¬ (512 ≤ x49.toInt) := fun h9 => c_52 ((ile (by decide) rfl).mpr h9)
        have hM : M_leastSet i0 pt r0 = (K_leastSet_4 (K_leastSet_L2 i0 pt r0 nhl51) x49 x50 i0 pt r0) := (show M_leastSet i0 pt r0 = (if 512 ≤ x49.toInt then (K_leastSet_3) else (K_leastSet_4 (K_leastSet_L2 i0 pt r0 nhl51) x49 x50 i0 pt r0)) from hM).trans (if_neg i_52)
        refine lv_aload_n hx hb dX3_leastSet_13 rfl (lv_at hl 2 rfl) ?_
        refine lv_iload_n hx hb dX3_leastSet_14 rfl (lv_at hl 3 rfl) ?_
        refine lv_iload hx hb dX3_leastSet_15 (lv_at hl 0 rfl) ?_
        obtain ⟨hPc, hDc, hFc, hC9⟩ := xpk (wc := W_isLeastSet cI cJ cZ cG cH pl r0 x49 pna pta rails limit retry behind pt) hP hD hS hA [0, 1] (by decide +kernel) rfl
        refine va_calli (va_runV (As := [.int r0, .int x49]) (rest := []) ⟨hx, hb, hml, hown, hts⟩ (c_isLeastSet l D cI cJ cZ cG cH H.size pl r0 x49 pna pta rails limit retry behind pt (xrng rfl (by omega) (by omega)) (xrng rfl (by omega) (by omega))) (cwV 2 hts (xGV tbC wd433 wd434 wd435 wd59 wd1017) rfl rfl rfl (by decide +kernel) ⟨Nat.le_of_ble_eq_true rfl, Nat.le_of_ble_eq_true rfl⟩) ⟨xPc_blind, va_recv hK hPc (ci := 2) (q0 := 0) rfl rfl, xPc_pre hPc hK hDc⟩ rfl rfl hl.1 rfl (lv_room (Nat.le_of_ble_eq_true rfl)) dX3_leastSet_17 ⟨Nat.le_of_ble_eq_true rfl, Nat.le_of_ble_eq_true rfl⟩) hS (fun q _ h => hFc q h) hFc (fun r53 u t H1 locs ht hvm hw53 hB hz1 hk1 hS => ?_)
        obtain ⟨hru9, hw53⟩ := hw53
        subst hru9
        obtain ⟨hf53_0, hP1, hK1, hD1⟩ := hB
        rw [ht] at hP1
        obtain ⟨hP, hD⟩ : xPD D A [oX3 pl pna pta rails limit retry behind, oAJ pta cJ 64 pt] H1 := xjn 0 hP hD [0, 1] [] hC9 rfl (by decide +kernel) (by decide +kernel) hk1 hFc hP1 hD1
        generalize H1 = H at hP hS ⊢
        have hf53_0 : M_isLeastSet x49 pt r0 = (r53) := hf53_0
        have hw53 : 0 ≤ r53.toInt ∧ r53.toInt ≤ 1 := hw53
        have h9M := congrArg (fun t9 => (K_leastSet_5 t9 (K_leastSet_L2 i0 pt r0 nhl51) x49 x50 i0)) hf53_0
        have hM : M_leastSet i0 pt r0 = (K_leastSet_5 r53 (K_leastSet_L2 i0 pt r0 nhl51) x49 x50 i0) := (show M_leastSet i0 pt r0 = ((fun t9 => (K_leastSet_5 t9 (K_leastSet_L2 i0 pt r0 nhl51) x49 x50 i0)) (M_isLeastSet x49 pt r0)) from hM).trans h9M
        refine lv_if_eq (tgt := 34) hx hb dX3_leastSet_20 (by decide) (fun c_54 => ?_) (fun c_54 => ?_)
        · skip
          have i_54 : r53.toInt = 0 := (ieq rfl (by decide)).mp c_54
          have hM : M_leastSet i0 pt r0 = (K_leastSet_6 (K_leastSet_L2 i0 pt r0 nhl51) x49 x50) := (show M_leastSet i0 pt r0 = (if r53.toInt = 0 then (K_leastSet_6 (K_leastSet_L2 i0 pt r0 nhl51) x49 x50) else (K_leastSet_7 x50 i0 x49 (K_leastSet_L2 i0 pt r0 nhl51))) from hM).trans (if_pos i_54)
          obtain ⟨x55, ex55⟩ : ∃ y : Int32, y = x49 + 1 := ⟨_, rfl⟩
          have tx55 : x55.toInt = (x49.toInt + 1) := (congrArg Int32.toInt ex55).trans (xadd rfl (by decide) (by omega) (by omega))
          refine lv_iinc (v := x55) (lv' := [(4, .int x55), (3, .int x50), (0, .ref pl), (1, .int r0), (2, .int i0)]) hx hb dX3_leastSet_34 hl (k := 0) rfl (by rw [ex55]; rfl) (by decide) rfl (fun ls hl => ?_)
          refine lv_goto (tgt := 5) hx hb dX3_leastSet_37 (by decide) ?_
          exact ihhl51 x55 x50 (by omega) (xrng tx55 (by omega) (by omega)) (by rw [ex55]; exact hM) _ _ hP hD hS ls (lv_sub hl [0, 1, 2, 3, 4] rfl)
        · skip
          have i_54 : ¬ (r53.toInt = 0) := fun h9 => c_54 ((ieq rfl (by decide)).mpr h9)
          have hM : M_leastSet i0 pt r0 = (K_leastSet_7 x50 i0 x49 (K_leastSet_L2 i0 pt r0 nhl51)) := (show M_leastSet i0 pt r0 = (if r53.toInt = 0 then (K_leastSet_6 (K_leastSet_L2 i0 pt r0 nhl51) x49 x50) else (K_leastSet_7 x50 i0 x49 (K_leastSet_L2 i0 pt r0 nhl51))) from hM).trans (if_neg i_54)
          refine lv_iload_n hx hb dX3_leastSet_23 rfl (lv_at hl 1 rfl) ?_
          refine lv_iload_n hx hb dX3_leastSet_24 rfl (lv_at hl 4 rfl) ?_
          refine lv_icmp_ne (tgt := 31) hx hb dX3_leastSet_25 (by decide) (fun c_56 => ?_) (fun c_56 => ?_)
          · skip
            have i_56 : ¬ (x50.toInt = i0.toInt) := fun h9 => c_56 ((ieq rfl rfl).mpr h9)
            have hM : M_leastSet i0 pt r0 = (K_leastSet_8 (K_leastSet_L2 i0 pt r0 nhl51) x49 x50) := (show M_leastSet i0 pt r0 = (if x50.toInt = i0.toInt then (K_leastSet_9 x49) else (K_leastSet_8 (K_leastSet_L2 i0 pt r0 nhl51) x49 x50)) from hM).trans (if_neg i_56)
            obtain ⟨x57, ex57⟩ : ∃ y : Int32, y = x50 + 1 := ⟨_, rfl⟩
            refine lv_iinc (v := x57) (lv' := [(3, .int x57), (4, .int x49), (0, .ref pl), (1, .int r0), (2, .int i0)]) hx hb dX3_leastSet_31 hl (k := 1) rfl (by rw [ex57]; rfl) (by decide) rfl (fun ls hl => ?_)
            obtain ⟨x58, ex58⟩ : ∃ y : Int32, y = x49 + 1 := ⟨_, rfl⟩
            have tx58 : x58.toInt = (x49.toInt + 1) := (congrArg Int32.toInt ex58).trans (xadd rfl (by decide) (by omega) (by omega))
            refine lv_iinc (v := x58) (lv' := [(4, .int x58), (3, .int x57), (0, .ref pl), (1, .int r0), (2, .int i0)]) hx hb dX3_leastSet_34 hl (k := 1) rfl (by rw [ex58]; rfl) (by decide) rfl (fun ls hl => ?_)
            refine lv_goto (tgt := 5) hx hb dX3_leastSet_37 (by decide) ?_
            exact ihhl51 x58 x57 (by omega) (xrng tx58 (by omega) (by omega)) (by rw [ex58, ex57]; exact hM) _ _ hP hD hS ls (lv_sub hl [0, 1, 2, 3, 4] rfl)
          · skip
            have i_56 : x50.toInt = i0.toInt := (ieq rfl rfl).mp c_56
            have hM : M_leastSet i0 pt r0 = (K_leastSet_9 x49) := (show M_leastSet i0 pt r0 = (if x50.toInt = i0.toInt then (K_leastSet_9 x49) else (K_leastSet_8 (K_leastSet_L2 i0 pt r0 nhl51) x49 x50)) from hM).trans (if_pos i_56)
            refine lv_iload hx hb dX3_leastSet_28 (lv_at hl 0 rfl) ?_
            refine W.widen (k := 0) (n := 0) (by decide) (by decide) ?_
            exact W.iret (v := x49) hx hb hr (fun t ht hW => ⟨⟨x49, x49, rfl, ⟨rfl, (xrng rfl (by omega) (by omega))⟩, ⟨hM, xB_of9 ht hW hP hK hD [0, 1] (by decide +kernel) rfl⟩⟩, hS.F ht⟩) hS.2.2 dX3_leastSet_30
  exact hl51 100000 0 0 (by have z9_0 : (0 : Int32).toInt = 0 := (by decide); omega) ⟨by decide, by decide⟩ hM _ _ hP hD hS ls (lv_sub hl [0, 1, 2, 3, 4] rfl)
def K_upAmong_3 (x169 : Int32) : (Int32) := (x169)
def K_upAmong_9 (x169 : Int32) : (Int32) := (x169)
def K_upAmong_8 (rec_2 : (Int32) → (Int32) → ((Int32))) (x168 : Int32) (x210 : Int32) : (Int32) := (rec_2 (x168 + 1) x210)
def K_upAmong_6 (x210 : Int32) (x169 : Int32) (rec_2 : (Int32) → (Int32) → ((Int32))) (x168 : Int32) : (Int32) := (if x210.toInt = x169.toInt then (K_upAmong_9 x169) else (K_upAmong_8 rec_2 x168 x210))
def K_upAmong_13 (rec_5 : (Int32) → (Int32) → ((Int32))) (x209 : Int32) (x210 : Int32) : (Int32) := (rec_5 (x209 + 1) x210)
def K_upAmong_14 (rec_5 : (Int32) → (Int32) → ((Int32))) (x209 : Int32) (x210 : Int32) : (Int32) := (rec_5 (x209 + 1) (x210 ||| ((1 : Int32) <<< (x209 &&& 31))))
def K_upAmong_12 (r220 : Int32) (rec_5 : (Int32) → (Int32) → ((Int32))) (x209 : Int32) (x210 : Int32) : (Int32) := (if r220.toInt = 0 then (K_upAmong_13 rec_5 x209 x210) else (K_upAmong_14 rec_5 x209 x210))
def K_upAmong_11 (rec_5 : (Int32) → (Int32) → ((Int32))) (x209 : Int32) (x210 : Int32) (pt : Nat → Int64) (x169 : Int32) : (Int32) := ((fun t9 => (K_upAmong_12 t9 rec_5 x209 x210)) (M_holdsWith pt x209 (x169 ||| (256 : Int32))))
def K_upAmong_10 (rec_5 : (Int32) → (Int32) → ((Int32))) (x209 : Int32) (x210 : Int32) : (Int32) := (rec_5 (x209 + 1) x210)
def K_upAmong_7 (s0 : Int32) (x209 : Int32) (rec_5 : (Int32) → (Int32) → ((Int32))) (x210 : Int32) (pt : Nat → Int64) (x169 : Int32) : (Int32) := (if ((s0 >>> (x209 &&& 31)) &&& (1 : Int32)).toInt = 1 then (K_upAmong_11 rec_5 x209 x210 pt x169) else (K_upAmong_10 rec_5 x209 x210))
def K_upAmong_5 (rails : Int32) (x209 : Int32) (x210 : Int32) (x169 : Int32) (rec_2 : (Int32) → (Int32) → ((Int32))) (x168 : Int32) (s0 : Int32) (rec_5 : (Int32) → (Int32) → ((Int32))) (pt : Nat → Int64) : (Int32) := (if rails.toInt ≤ x209.toInt then (K_upAmong_6 x210 x169 rec_2 x168) else (K_upAmong_7 s0 x209 rec_5 x210 pt x169))
def K_upAmong_L5 (rails : Int32) (x169 : Int32) (rec_2 : (Int32) → (Int32) → ((Int32))) (x168 : Int32) (s0 : Int32) (pt : Nat → Int64) : Nat → (Int32) → (Int32) → (Int32)
  | 0, _, _ => (0)
  | n9 + 1, x209, x210 => (K_upAmong_5 rails x209 x210 x169 rec_2 x168 s0 (K_upAmong_L5 rails x169 rec_2 x168 s0 pt n9) pt)
def K_upAmong_4 (rails : Int32) (x169 : Int32) (rec_2 : (Int32) → (Int32) → ((Int32))) (x168 : Int32) (s0 : Int32) (pt : Nat → Int64) : (Int32) := (K_upAmong_L5 rails x169 rec_2 x168 s0 pt 100000 (0 : Int32) x169)
def K_upAmong_2 (x168 : Int32) (x169 : Int32) (rails : Int32) (rec_2 : (Int32) → (Int32) → ((Int32))) (s0 : Int32) (pt : Nat → Int64) : (Int32) := (if 8 < x168.toInt then (K_upAmong_3 x169) else (K_upAmong_4 rails x169 rec_2 x168 s0 pt))
def K_upAmong_L2 (rails : Int32) (s0 : Int32) (pt : Nat → Int64) : Nat → (Int32) → (Int32) → (Int32)
  | 0, _, _ => (0)
  | n9 + 1, x168, x169 => (K_upAmong_2 x168 x169 rails (K_upAmong_L2 rails s0 pt n9) s0 pt)
def K_upAmong_1 (rails : Int32) (s0 : Int32) (pt : Nat → Int64) : (Int32) := (K_upAmong_L2 rails s0 pt 100000 (0 : Int32) (0 : Int32))
def M_upAmong (rails : Int32) (s0 : Int32) (pt : Nat → Int64) : (Int32) := (K_upAmong_1 rails s0 pt)
abbrev W_upAmong (cI cJ cZ cG cH : ClassId) (pl : Nat) (s0 : Int32) (pna : Nat) (pta : Nat) (rails : Int32) (limit : Int32) (retry : Int32) (behind : Int32) (pt : Nat → Int64) : va_W := [oX3 pl pna pta rails limit retry behind, oAJ pta cJ 64 pt]
abbrev Q_upAmong (D : va_G) (cI cJ cZ cG cH : ClassId) (pl : Nat) (s0 : Int32) (pna : Nat) (pta : Nat) (rails : Int32) (limit : Int32) (retry : Int32) (behind : Int32) (pt : Nat → Int64) (A : Nat → Prop) : Array Value → State → Outcome → State → Prop := va_Qi (fun (r : Int32) (u9 : Int32) => r = u9 ∧ (0 ≤ r.toInt ∧ r.toInt ≤ 255)) (fun u9 t => (M_upAmong rails s0 pt = (u9)) ∧ xB D (tyL cI cJ cZ cG cH) [oX3 pl pna pta rails limit retry behind, oAJ pta cJ 64 pt] A t) A
abbrev rm_upAmong : Room := { frames := 1, cells := 0, slots := 0, locals := 22 }
set_option maxRecDepth 100000 in
set_option maxHeartbeats 40000000 in
theorem c_upAmong (l : Launch) (D : va_G) (cI cJ cZ cG cH : ClassId) (sz : Nat) (pl : Nat) (s0 : Int32) (pna : Nat) (pta : Nat) (rails : Int32) (limit : Int32) (retry : Int32) (behind : Int32) (pt : Nat → Int64) (h_rails : 0 ≤ rails.toInt ∧ rails.toInt ≤ 8) : Met l yX3_upAmong (wt yX3_upAmong cX3_upAmong 6 (some .int)) rm_upAmong (xPc [.ref pl, .int s0] D (tyL cI cJ cZ cG cH) (W_upAmong cI cJ cZ cG cH pl s0 pna pta rails limit retry behind pt) sz) (Q_upAmong D cI cJ cZ cG cH pl s0 pna pta rails limit retry behind pt (va_A (W_upAmong cI cJ cZ cG cH pl s0 pna pta rails limit retry behind pt) sz)) 0 0 (va_A (W_upAmong cI cJ cZ cG cH pl s0 pna pta rails limit retry behind pt) sz) := by
  refine xMet (cc := cX3_upAmong) (maxL := 6) (ret := (some .int)) (Qf := Q_upAmong D cI cJ cZ cG cH pl s0 pna pta rails limit retry behind pt) (by decide) rfl (Nat.le_of_ble_eq_true rfl) ?_
  intro p e s m below meth c ls A hx hb hr hml hts hown hlocks hnm hsz hP hK hD hA hS hl
  have hown : s.vm.findClass RX3 = some m.cls := hown
  have hP : va_P D vwCl [oX3 pl pna pta rails limit retry behind, oAJ pta cJ 64 pt] s.heap := hP
  have hD : va_D A [oX3 pl pna pta rails limit retry behind, oAJ pta cJ 64 pt] := hD
  have hl : lv_has ls 6 [(0, .ref pl), (1, .int s0)] := hl
  have hM : M_upAmong rails s0 pt = (K_upAmong_1 rails s0 pt) := rfl
  refine lv_iconst (v := 0) hx hb dX3_upAmong_0 (by decide) ?_
  refine lv_istore_n (lv' := [(2, .int 0), (0, .ref pl), (1, .int s0)]) hx hb dX3_upAmong_1 rfl hl (by decide) rfl (fun ls hl => ?_)
  refine lv_iconst (v := 0) hx hb dX3_upAmong_2 (by decide) ?_
  refine lv_istore_n (lv' := [(3, .int 0), (2, .int 0), (0, .ref pl), (1, .int s0)]) hx hb dX3_upAmong_3 rfl hl (by decide) rfl (fun ls hl => ?_)
  have hl170 : ∀ (nhl170 : Nat) (x168 : Int32) (x169 : Int32), ((9 - x168.toInt).toNat < nhl170) → (hx168 : 0 ≤ x168.toInt ∧ x168.toInt ≤ 9) → (hx169 : 0 ≤ x169.toInt ∧ x169.toInt ≤ 255) → (hM : M_upAmong rails s0 pt = (K_upAmong_L2 rails s0 pt nhl170 x168 x169)) → ∀ (H : Heap) (locs : List Loc), va_P D vwCl [oX3 pl pna pta rails limit retry behind, oAJ pta cJ 64 pt] H → va_D A [oX3 pl pna pta rails limit retry behind, oAJ pta cJ 64 pt] → va_S A s.heap H locs → ∀ (ls : Array Slot), lv_has ls 6 [(3, .int x168), (2, .int x169), (0, .ref pl), (1, .int s0)] → W p l e rm_upAmong s m [Value.ref pl, Value.int s0].toArray below meth c H locs 0 0 (MQ below ((Q_upAmong D cI cJ cZ cG cH pl s0 pna pta rails limit retry behind pt) A) [Value.ref pl, Value.int s0].toArray s 0 0 A) (F0 m 4 ls []) := by
    intro nhl170
    induction nhl170 with
    | zero =>
      intro x168 x169 hmhl170
      exact absurd hmhl170 (Nat.not_lt_zero _)
    | succ nhl170 ihhl170 =>
      intro x168 x169 hmhl170 hx168 hx169 hM H locs hP hD hS ls hl
      have hM : M_upAmong rails s0 pt = (K_upAmong_2 x168 x169 rails (K_upAmong_L2 rails s0 pt nhl170) s0 pt) := hM
      refine lv_iload_n hx hb dX3_upAmong_4 rfl (lv_at hl 0 rfl) ?_
      refine lv_bipush (v := 8) hx hb dX3_upAmong_5 (by decide) ?_
      refine lv_icmp_gt (tgt := 82) hx hb dX3_upAmong_7 (by decide) (fun c_171 => ?_) (fun c_171 => ?_)
      · skip
        have i_171 : 8 < x168.toInt := (ilt (by decide) rfl).mp c_171
        have hM : M_upAmong rails s0 pt = (K_upAmong_3 x169) := (show M_upAmong rails s0 pt = (if 8 < x168.toInt then (K_upAmong_3 x169) else (K_upAmong_4 rails x169 (K_upAmong_L2 rails s0 pt nhl170) x168 s0 pt)) from hM).trans (if_pos i_171)
        refine lv_iload_n hx hb dX3_upAmong_82 rfl (lv_at hl 1 rfl) ?_
        refine W.widen (k := 0) (n := 0) (by decide) (by decide) ?_
        exact W.iret (v := x169) hx hb hr (fun t ht hW => ⟨⟨x169, x169, rfl, ⟨rfl, (xrng rfl (by omega) (by omega))⟩, ⟨hM, xB_of9 ht hW hP hK hD [0, 1] (by decide +kernel) rfl⟩⟩, hS.F ht⟩) hS.2.2 dX3_upAmong_83
      · skip
        have i_171 : ¬ (8 < x168.toInt) := fun h9 => c_171 ((ilt (by decide) rfl).mpr h9)
        have hM : M_upAmong rails s0 pt = (K_upAmong_4 rails x169 (K_upAmong_L2 rails s0 pt nhl170) x168 s0 pt) := (show M_upAmong rails s0 pt = (if 8 < x168.toInt then (K_upAmong_3 x169) else (K_upAmong_4 rails x169 (K_upAmong_L2 rails s0 pt nhl170) x168 s0 pt)) from hM).trans (if_neg i_171)
        refine lv_iload_n hx hb dX3_upAmong_10 rfl (lv_at hl 1 rfl) ?_
        refine lv_istore (lv' := [(4, .int x169), (3, .int x168), (2, .int x169), (0, .ref pl), (1, .int s0)]) hx hb dX3_upAmong_11 hl (by decide) rfl (fun ls hl => ?_)
        refine lv_iconst (v := 0) hx hb dX3_upAmong_13 (by decide) ?_
        refine lv_istore (lv' := [(5, .int 0), (4, .int x169), (3, .int x168), (2, .int x169), (0, .ref pl), (1, .int s0)]) hx hb dX3_upAmong_14 hl (by decide) rfl (fun ls hl => ?_)
        have hl211 : ∀ (nhl211 : Nat) (x209 : Int32) (x210 : Int32), ((8 - x209.toInt).toNat < nhl211) → (hx209 : 0 ≤ x209.toInt ∧ x209.toInt ≤ 8) → (hx210 : 0 ≤ x210.toInt ∧ x210.toInt ≤ 255) → (hM : M_upAmong rails s0 pt = (K_upAmong_L5 rails x169 (K_upAmong_L2 rails s0 pt nhl170) x168 s0 pt nhl211 x209 x210)) → ∀ (H : Heap) (locs : List Loc), va_P D vwCl [oX3 pl pna pta rails limit retry behind, oAJ pta cJ 64 pt] H → va_D A [oX3 pl pna pta rails limit retry behind, oAJ pta cJ 64 pt] → va_S A s.heap H locs → ∀ (ls : Array Slot), lv_has ls 6 [(5, .int x209), (4, .int x210), (3, .int x168), (2, .int x169), (0, .ref pl), (1, .int s0)] → W p l e rm_upAmong s m [Value.ref pl, Value.int s0].toArray below meth c H locs 0 0 (MQ below ((Q_upAmong D cI cJ cZ cG cH pl s0 pna pta rails limit retry behind pt) A) [Value.ref pl, Value.int s0].toArray s 0 0 A) (F0 m 16 ls []) := by
          intro nhl211
          induction nhl211 with
          | zero =>
            intro x209 x210 hmhl211
            exact absurd hmhl211 (Nat.not_lt_zero _)
          | succ nhl211 ihhl211 =>
            intro x209 x210 hmhl211 hx209 hx210 hM H locs hP hD hS ls hl
            have hM : M_upAmong rails s0 pt = (K_upAmong_5 rails x209 x210 x169 (K_upAmong_L2 rails s0 pt nhl170) x168 s0 (K_upAmong_L5 rails x169 (K_upAmong_L2 rails s0 pt nhl170) x168 s0 pt nhl211) pt) := hM
            refine lv_iload hx hb dX3_upAmong_16 (lv_at hl 0 rfl) ?_
            refine lv_aload_n hx hb dX3_upAmong_18 rfl (lv_at hl 4 rfl) ?_
            refine va_get (D := D) (ci := 2) (v := .int rails) (C := RX3) (T := TX3) (N := 6) hx hb hts (fun w h => tbC w (tbfX3 w h)) hown hK hP 0 rfl rfl 2 (by decide) (hts (.fieldLink RX3 19 "PowerRails$Plan" "rails" "I") (tbC _ wd205)) (fun _ h9 => h9) rfl dX3_upAmong_19 ?_
            refine lv_icmp_ge (tgt := 64) hx hb dX3_upAmong_22 (by decide) (fun c_212 => ?_) (fun c_212 => ?_)
            · skip
              have i_212 : rails.toInt ≤ x209.toInt := (ile rfl rfl).mp c_212
              have hM : M_upAmong rails s0 pt = (K_upAmong_6 x210 x169 (K_upAmong_L2 rails s0 pt nhl170) x168) := (show M_upAmong rails s0 pt = (if rails.toInt ≤ x209.toInt then (K_upAmong_6 x210 x169 (K_upAmong_L2 rails s0 pt nhl170) x168) else (K_upAmong_7 s0 x209 (K_upAmong_L5 rails x169 (K_upAmong_L2 rails s0 pt nhl170) x168 s0 pt nhl211) x210 pt x169)) from hM).trans (if_pos i_212)
              refine lv_iload hx hb dX3_upAmong_64 (lv_at hl 1 rfl) ?_
              refine lv_iload_n hx hb dX3_upAmong_66 rfl (lv_at hl 3 rfl) ?_
              refine lv_icmp_ne (tgt := 73) hx hb dX3_upAmong_67 (by decide) (fun c_213 => ?_) (fun c_213 => ?_)
              · skip
                have i_213 : ¬ (x210.toInt = x169.toInt) := fun h9 => c_213 ((ieq rfl rfl).mpr h9)
                have hM : M_upAmong rails s0 pt = (K_upAmong_8 (K_upAmong_L2 rails s0 pt nhl170) x168 x210) := (show M_upAmong rails s0 pt = (if x210.toInt = x169.toInt then (K_upAmong_9 x169) else (K_upAmong_8 (K_upAmong_L2 rails s0 pt nhl170) x168 x210)) from hM).trans (if_neg i_213)
                refine lv_iload hx hb dX3_upAmong_73 (lv_at hl 1 rfl) ?_
                refine lv_istore_n (lv' := [(2, .int x210), (5, .int x209), (4, .int x210), (3, .int x168), (0, .ref pl), (1, .int s0)]) hx hb dX3_upAmong_75 rfl hl (by decide) rfl (fun ls hl => ?_)
                obtain ⟨x214, ex214⟩ : ∃ y : Int32, y = x168 + 1 := ⟨_, rfl⟩
                have tx214 : x214.toInt = (x168.toInt + 1) := (congrArg Int32.toInt ex214).trans (xadd rfl (by decide) (by omega) (by omega))
                refine lv_iinc (v := x214) (lv' := [(3, .int x214), (2, .int x210), (5, .int x209), (4, .int x210), (0, .ref pl), (1, .int s0)]) hx hb dX3_upAmong_76 hl (k := 3) rfl (by rw [ex214]; rfl) (by decide) rfl (fun ls hl => ?_)
                refine lv_goto (tgt := 4) hx hb dX3_upAmong_79 (by decide) ?_
                exact ihhl170 x214 x210 (by omega) (xrng tx214 (by omega) (by omega)) (xrng rfl (by omega) (by omega)) (by rw [ex214]; exact hM) _ _ hP hD hS ls (lv_sub hl [0, 1, 4, 5] rfl)
              · skip
                have i_213 : x210.toInt = x169.toInt := (ieq rfl rfl).mp c_213
                have hM : M_upAmong rails s0 pt = (K_upAmong_9 x169) := (show M_upAmong rails s0 pt = (if x210.toInt = x169.toInt then (K_upAmong_9 x169) else (K_upAmong_8 (K_upAmong_L2 rails s0 pt nhl170) x168 x210)) from hM).trans (if_pos i_213)
                refine lv_goto (tgt := 82) hx hb dX3_upAmong_70 (by decide) ?_
                refine lv_iload_n hx hb dX3_upAmong_82 rfl (lv_at hl 3 rfl) ?_
                refine W.widen (k := 0) (n := 0) (by decide) (by decide) ?_
                exact W.iret (v := x169) hx hb hr (fun t ht hW => ⟨⟨x169, x169, rfl, ⟨rfl, (xrng rfl (by omega) (by omega))⟩, ⟨hM, xB_of9 ht hW hP hK hD [0, 1] (by decide +kernel) rfl⟩⟩, hS.F ht⟩) hS.2.2 dX3_upAmong_83
            · skip
              have i_212 : ¬ (rails.toInt ≤ x209.toInt) := fun h9 => c_212 ((ile rfl rfl).mpr h9)
              have hM : M_upAmong rails s0 pt = (K_upAmong_7 s0 x209 (K_upAmong_L5 rails x169 (K_upAmong_L2 rails s0 pt nhl170) x168 s0 pt nhl211) x210 pt x169) := (show M_upAmong rails s0 pt = (if rails.toInt ≤ x209.toInt then (K_upAmong_6 x210 x169 (K_upAmong_L2 rails s0 pt nhl170) x168) else (K_upAmong_7 s0 x209 (K_upAmong_L5 rails x169 (K_upAmong_L2 rails s0 pt nhl170) x168 s0 pt nhl211) x210 pt x169)) from hM).trans (if_neg i_212)
              refine lv_iload_n hx hb dX3_upAmong_25 rfl (lv_at hl 5 rfl) ?_
              refine lv_iload hx hb dX3_upAmong_26 (lv_at hl 0 rfl) ?_
              refine lv_ishr hx hb dX3_upAmong_28 ?_
              refine lv_topi (fun v215 ev215 => ?_)
              refine lv_iconst (v := 1) hx hb dX3_upAmong_29 (by decide) ?_
              refine lv_iand hx hb dX3_upAmong_30 ?_
              refine lv_topi (fun v216 ev216 => ?_)
              have rv216 : 0 ≤ v216.toInt ∧ v216.toInt ≤ 1 := xandL ev216 (show (1 : Int32).toInt = 1 from (by decide)) (by omega)
              refine lv_iconst (v := 1) hx hb dX3_upAmong_31 (by decide) ?_
              refine lv_icmp_ne (tgt := 58) hx hb dX3_upAmong_32 (by decide) (fun c_217 => ?_) (fun c_217 => ?_)
              · skip
                have i_217 : ¬ (v216.toInt = 1) := fun h9 => c_217 ((ieq rfl (by decide)).mpr h9)
                have hM : M_upAmong rails s0 pt = (K_upAmong_10 (K_upAmong_L5 rails x169 (K_upAmong_L2 rails s0 pt nhl170) x168 s0 pt nhl211) x209 x210) := (show M_upAmong rails s0 pt = (if v216.toInt = 1 then (K_upAmong_11 (K_upAmong_L5 rails x169 (K_upAmong_L2 rails s0 pt nhl170) x168 s0 pt nhl211) x209 x210 pt x169) else (K_upAmong_10 (K_upAmong_L5 rails x169 (K_upAmong_L2 rails s0 pt nhl170) x168 s0 pt nhl211) x209 x210)) from (by rw [ev216, ev215]; exact hM)).trans (if_neg i_217)
                obtain ⟨x218, ex218⟩ : ∃ y : Int32, y = x209 + 1 := ⟨_, rfl⟩
                have tx218 : x218.toInt = (x209.toInt + 1) := (congrArg Int32.toInt ex218).trans (xadd rfl (by decide) (by omega) (by omega))
                refine lv_iinc (v := x218) (lv' := [(5, .int x218), (4, .int x210), (3, .int x168), (2, .int x169), (0, .ref pl), (1, .int s0)]) hx hb dX3_upAmong_58 hl (k := 0) rfl (by rw [ex218]; rfl) (by decide) rfl (fun ls hl => ?_)
                refine lv_goto (tgt := 16) hx hb dX3_upAmong_61 (by decide) ?_
                exact ihhl211 x218 x210 (by omega) (xrng tx218 (by omega) (by omega)) (xrng rfl (by omega) (by omega)) (by rw [ex218]; exact hM) _ _ hP hD hS ls (lv_sub hl [0, 1, 2, 3, 4, 5] rfl)
              · skip
                have i_217 : v216.toInt = 1 := (ieq rfl (by decide)).mp c_217
                have hM : M_upAmong rails s0 pt = (K_upAmong_11 (K_upAmong_L5 rails x169 (K_upAmong_L2 rails s0 pt nhl170) x168 s0 pt nhl211) x209 x210 pt x169) := (show M_upAmong rails s0 pt = (if v216.toInt = 1 then (K_upAmong_11 (K_upAmong_L5 rails x169 (K_upAmong_L2 rails s0 pt nhl170) x168 s0 pt nhl211) x209 x210 pt x169) else (K_upAmong_10 (K_upAmong_L5 rails x169 (K_upAmong_L2 rails s0 pt nhl170) x168 s0 pt nhl211) x209 x210)) from (by rw [ev216, ev215]; exact hM)).trans (if_pos i_217)
                refine lv_aload_n hx hb dX3_upAmong_35 rfl (lv_at hl 4 rfl) ?_
                refine lv_iload hx hb dX3_upAmong_36 (lv_at hl 0 rfl) ?_
                refine lv_iload_n hx hb dX3_upAmong_38 rfl (lv_at hl 3 rfl) ?_
                refine lv_sipush (v := 256) hx hb dX3_upAmong_39 (by decide) ?_
                refine lv_ior hx hb dX3_upAmong_42 ?_
                refine lv_topi (fun v219 ev219 => ?_)
                have rv219 : 0 ≤ v219.toInt ∧ v219.toInt ≤ 511 := xorL 9 ev219 (show (x169 : Int32).toInt = x169.toInt from rfl) (show (256 : Int32).toInt = 256 from (by decide)) (by decide) (by decide) (by omega) (by omega) (by omega) (by omega)
                obtain ⟨hPc, hDc, hFc, hC9⟩ := xpk (wc := W_holdsWith cI cJ cZ cG cH pl x209 v219 pna pta rails limit retry behind pt) hP hD hS hA [0, 1] (by decide +kernel) rfl
                refine va_calli (va_runV (As := [.int x209, .int v219]) (rest := []) ⟨hx, hb, hml, hown, hts⟩ (c_holdsWith l D cI cJ cZ cG cH H.size pl x209 v219 pna pta rails limit retry behind pt (xrng rfl (by omega) (by omega)) (xrng rfl (by omega) (by omega))) (cwV 2 hts (xGV tbC wd436 wd423 wd424 wd59 wd1013) rfl rfl rfl (by decide +kernel) ⟨Nat.le_of_ble_eq_true rfl, Nat.le_of_ble_eq_true rfl⟩) ⟨xPc_blind, va_recv hK hPc (ci := 2) (q0 := 0) rfl rfl, xPc_pre hPc hK hDc⟩ rfl rfl hl.1 rfl (lv_room (Nat.le_of_ble_eq_true rfl)) dX3_upAmong_43 ⟨Nat.le_of_ble_eq_true rfl, Nat.le_of_ble_eq_true rfl⟩) hS (fun q _ h => hFc q h) hFc (fun r220 u t H1 locs ht hvm hw220 hB hz1 hk1 hS => ?_)
                obtain ⟨hru9, hw220⟩ := hw220
                subst hru9
                obtain ⟨hf220_0, hP1, hK1, hD1⟩ := hB
                rw [ht] at hP1
                obtain ⟨hP, hD⟩ : xPD D A [oX3 pl pna pta rails limit retry behind, oAJ pta cJ 64 pt] H1 := xjn 0 hP hD [0, 1] [] hC9 rfl (by decide +kernel) (by decide +kernel) hk1 hFc hP1 hD1
                generalize H1 = H at hP hS ⊢
                have hf220_0 : M_holdsWith pt x209 v219 = (r220) := hf220_0
                have hw220 : 0 ≤ r220.toInt ∧ r220.toInt ≤ 1 := hw220
                have h9M := congrArg (fun t9 => (K_upAmong_12 t9 (K_upAmong_L5 rails x169 (K_upAmong_L2 rails s0 pt nhl170) x168 s0 pt nhl211) x209 x210)) hf220_0
                have hM : M_upAmong rails s0 pt = (K_upAmong_12 r220 (K_upAmong_L5 rails x169 (K_upAmong_L2 rails s0 pt nhl170) x168 s0 pt nhl211) x209 x210) := (show M_upAmong rails s0 pt = ((fun t9 => (K_upAmong_12 t9 (K_upAmong_L5 rails x169 (K_upAmong_L2 rails s0 pt nhl170) x168 s0 pt nhl211) x209 x210)) (M_holdsWith pt x209 v219)) from (by rw [ev219]; exact hM)).trans h9M
                refine lv_if_eq (tgt := 58) hx hb dX3_upAmong_46 (by decide) (fun c_221 => ?_) (fun c_221 => ?_)
                · skip
                  have i_221 : r220.toInt = 0 := (ieq rfl (by decide)).mp c_221
                  have hM : M_upAmong rails s0 pt = (K_upAmong_13 (K_upAmong_L5 rails x169 (K_upAmong_L2 rails s0 pt nhl170) x168 s0 pt nhl211) x209 x210) := (show M_upAmong rails s0 pt = (if r220.toInt = 0 then (K_upAmong_13 (K_upAmong_L5 rails x169 (K_upAmong_L2 rails s0 pt nhl170) x168 s0 pt nhl211) x209 x210) else (K_upAmong_14 (K_upAmong_L5 rails x169 (K_upAmong_L2 rails s0 pt nhl170) x168 s0 pt nhl211) x209 x210)) from hM).trans (if_pos i_221)
                  obtain ⟨x222, ex222⟩ : ∃ y : Int32, y = x209 + 1 := ⟨_, rfl⟩
                  have tx222 : x222.toInt = (x209.toInt + 1) := (congrArg Int32.toInt ex222).trans (xadd rfl (by decide) (by omega) (by omega))
                  refine lv_iinc (v := x222) (lv' := [(5, .int x222), (4, .int x210), (3, .int x168), (2, .int x169), (0, .ref pl), (1, .int s0)]) hx hb dX3_upAmong_58 hl (k := 0) rfl (by rw [ex222]; rfl) (by decide) rfl (fun ls hl => ?_)
                  refine lv_goto (tgt := 16) hx hb dX3_upAmong_61 (by decide) ?_
                  exact ihhl211 x222 x210 (by omega) (xrng tx222 (by omega) (by omega)) (xrng rfl (by omega) (by omega)) (by rw [ex222]; exact hM) _ _ hP hD hS ls (lv_sub hl [0, 1, 2, 3, 4, 5] rfl)
                · skip
                  have i_221 : ¬ (r220.toInt = 0) := fun h9 => c_221 ((ieq rfl (by decide)).mpr h9)
                  have hM : M_upAmong rails s0 pt = (K_upAmong_14 (K_upAmong_L5 rails x169 (K_upAmong_L2 rails s0 pt nhl170) x168 s0 pt nhl211) x209 x210) := (show M_upAmong rails s0 pt = (if r220.toInt = 0 then (K_upAmong_13 (K_upAmong_L5 rails x169 (K_upAmong_L2 rails s0 pt nhl170) x168 s0 pt nhl211) x209 x210) else (K_upAmong_14 (K_upAmong_L5 rails x169 (K_upAmong_L2 rails s0 pt nhl170) x168 s0 pt nhl211) x209 x210)) from hM).trans (if_neg i_221)
                  refine lv_iload hx hb dX3_upAmong_49 (lv_at hl 1 rfl) ?_
                  refine lv_iconst (v := 1) hx hb dX3_upAmong_51 (by decide) ?_
                  refine lv_iload hx hb dX3_upAmong_52 (lv_at hl 0 rfl) ?_
                  refine lv_ishl hx hb dX3_upAmong_54 ?_
                  refine lv_topi (fun v223 ev223 => ?_)
                  have rv223 : 1 ≤ v223.toInt ∧ v223.toInt ≤ 128 := xshl1 7 ev223 (show (x209 : Int32).toInt = x209.toInt from rfl) (by omega) (by omega) (by decide)
                  refine lv_ior hx hb dX3_upAmong_55 ?_
                  refine lv_topi (fun v224 ev224 => ?_)
                  have rv224 : 0 ≤ v224.toInt ∧ v224.toInt ≤ 255 := xorL 8 ev224 (show (x210 : Int32).toInt = x210.toInt from rfl) (show (v223 : Int32).toInt = v223.toInt from rfl) (by decide) (by decide) (by omega) (by omega) (by omega) (by omega)
                  refine lv_istore (lv' := [(4, .int v224), (5, .int x209), (3, .int x168), (2, .int x169), (0, .ref pl), (1, .int s0)]) hx hb dX3_upAmong_56 hl (by decide) rfl (fun ls hl => ?_)
                  obtain ⟨x225, ex225⟩ : ∃ y : Int32, y = x209 + 1 := ⟨_, rfl⟩
                  have tx225 : x225.toInt = (x209.toInt + 1) := (congrArg Int32.toInt ex225).trans (xadd rfl (by decide) (by omega) (by omega))
                  refine lv_iinc (v := x225) (lv' := [(5, .int x225), (4, .int v224), (3, .int x168), (2, .int x169), (0, .ref pl), (1, .int s0)]) hx hb dX3_upAmong_58 hl (k := 1) rfl (by rw [ex225]; rfl) (by decide) rfl (fun ls hl => ?_)
                  refine lv_goto (tgt := 16) hx hb dX3_upAmong_61 (by decide) ?_
                  exact ihhl211 x225 v224 (by omega) (xrng tx225 (by omega) (by omega)) (xrng rfl (by omega) (by omega)) (by rw [ex225, ev224, ev223]; exact hM) _ _ hP hD hS ls (lv_sub hl [0, 1, 2, 3, 4, 5] rfl)
        exact hl211 100000 0 x169 (by have z9_0 : (0 : Int32).toInt = 0 := (by decide); omega) ⟨by decide, by decide⟩ (xrng rfl (by omega) (by omega)) hM _ _ hP hD hS ls (lv_sub hl [0, 1, 2, 3, 4, 5] rfl)
  exact hl170 100000 0 0 (by have z9_0 : (0 : Int32).toInt = 0 := (by decide); omega) ⟨by decide, by decide⟩ ⟨by decide, by decide⟩ hM _ _ hP hD hS ls (lv_sub hl [0, 1, 2, 3] rfl)
def K_countWays_3 (x26 : Int32) : (Int32) := (x26)
def K_countWays_6 (rec_2 : (Int32) → (Int32) → ((Int32))) (x25 : Int32) (x26 : Int32) (r29 : Int32) (r30 : Int32) : (Int32) := (rec_2 (x25 + 1) (x26 * ((r29 - r30) + (1 : Int32))))
def K_countWays_5 (rec_2 : (Int32) → (Int32) → ((Int32))) (x25 : Int32) (x26 : Int32) (r29 : Int32) (pn : Nat → Int32) : (Int32) := ((fun t9 => (K_countWays_6 rec_2 x25 x26 r29 t9)) (M_number pn x25 (0 : Int32)))
def K_countWays_4 (rec_2 : (Int32) → (Int32) → ((Int32))) (x25 : Int32) (x26 : Int32) (pn : Nat → Int32) : (Int32) := ((fun t9 => (K_countWays_5 rec_2 x25 x26 t9 pn)) (M_number pn x25 (1 : Int32)))
def K_countWays_2 (rails : Int32) (x25 : Int32) (x26 : Int32) (rec_2 : (Int32) → (Int32) → ((Int32))) (pn : Nat → Int32) : (Int32) := (if rails.toInt ≤ x25.toInt then (K_countWays_3 x26) else (K_countWays_4 rec_2 x25 x26 pn))
def K_countWays_L2 (rails : Int32) (pn : Nat → Int32) : Nat → (Int32) → (Int32) → (Int32)
  | 0, _, _ => (0)
  | n9 + 1, x25, x26 => (K_countWays_2 rails x25 x26 (K_countWays_L2 rails pn n9) pn)
def K_countWays_1 (rails : Int32) (pn : Nat → Int32) : (Int32) := (K_countWays_L2 rails pn 100000 (0 : Int32) (1 : Int32))
def M_countWays (rails : Int32) (pn : Nat → Int32) : (Int32) := (K_countWays_1 rails pn)
abbrev W_countWays (cI cJ cZ cG cH : ClassId) (pl : Nat) (pna : Nat) (pta : Nat) (rails : Int32) (limit : Int32) (retry : Int32) (behind : Int32) (pn : Nat → Int32) : va_W := [oX3 pl pna pta rails limit retry behind, oAI pna cI 64 pn]
abbrev Q_countWays (D : va_G) (cI cJ cZ cG cH : ClassId) (pl : Nat) (pna : Nat) (pta : Nat) (rails : Int32) (limit : Int32) (retry : Int32) (behind : Int32) (pn : Nat → Int32) (A : Nat → Prop) : Array Value → State → Outcome → State → Prop := va_Qi (fun (r : Int32) (u9 : Int32) => r = u9 ∧ (True)) (fun u9 t => (M_countWays rails pn = (u9)) ∧ xB D (tyL cI cJ cZ cG cH) [oX3 pl pna pta rails limit retry behind, oAI pna cI 64 pn] A t) A
abbrev rm_countWays : Room := { frames := 1, cells := 0, slots := 0, locals := 22 }
set_option maxRecDepth 100000 in
set_option maxHeartbeats 40000000 in
theorem c_countWays (l : Launch) (D : va_G) (cI cJ cZ cG cH : ClassId) (sz : Nat) (pl : Nat) (pna : Nat) (pta : Nat) (rails : Int32) (limit : Int32) (retry : Int32) (behind : Int32) (pn : Nat → Int32) (h_rails : 0 ≤ rails.toInt ∧ rails.toInt ≤ 8) (h_pn : ∀ j, j < 64 → 0 ≤ (pn j).toInt ∧ (pn j).toInt ≤ 511) : Met l yX3_countWays (wt yX3_countWays cX3_countWays 3 (some .int)) rm_countWays (xPc [.ref pl] D (tyL cI cJ cZ cG cH) (W_countWays cI cJ cZ cG cH pl pna pta rails limit retry behind pn) sz) (Q_countWays D cI cJ cZ cG cH pl pna pta rails limit retry behind pn (va_A (W_countWays cI cJ cZ cG cH pl pna pta rails limit retry behind pn) sz)) 0 0 (va_A (W_countWays cI cJ cZ cG cH pl pna pta rails limit retry behind pn) sz) := by
  refine xMet (cc := cX3_countWays) (maxL := 3) (ret := (some .int)) (Qf := Q_countWays D cI cJ cZ cG cH pl pna pta rails limit retry behind pn) (by decide) rfl (Nat.le_of_ble_eq_true rfl) ?_
  intro p e s m below meth c ls A hx hb hr hml hts hown hlocks hnm hsz hP hK hD hA hS hl
  have hown : s.vm.findClass RX3 = some m.cls := hown
  have hP : va_P D vwCl [oX3 pl pna pta rails limit retry behind, oAI pna cI 64 pn] s.heap := hP
  have hD : va_D A [oX3 pl pna pta rails limit retry behind, oAI pna cI 64 pn] := hD
  have hl : lv_has ls 3 [(0, .ref pl)] := hl
  have hM : M_countWays rails pn = (K_countWays_1 rails pn) := rfl
  refine lv_iconst (v := 1) hx hb dX3_countWays_0 (by decide) ?_
  refine lv_istore_n (lv' := [(1, .int 1), (0, .ref pl)]) hx hb dX3_countWays_1 rfl hl (by decide) rfl (fun ls hl => ?_)
  refine lv_iconst (v := 0) hx hb dX3_countWays_2 (by decide) ?_
  refine lv_istore_n (lv' := [(2, .int 0), (1, .int 1), (0, .ref pl)]) hx hb dX3_countWays_3 rfl hl (by decide) rfl (fun ls hl => ?_)
  have hl27 : ∀ (nhl27 : Nat) (x25 : Int32) (x26 : Int32), ((8 - x25.toInt).toNat < nhl27) → (hx25 : 0 ≤ x25.toInt ∧ x25.toInt ≤ 8) → (hM : M_countWays rails pn = (K_countWays_L2 rails pn nhl27 x25 x26)) → ∀ (H : Heap) (locs : List Loc), va_P D vwCl [oX3 pl pna pta rails limit retry behind, oAI pna cI 64 pn] H → va_D A [oX3 pl pna pta rails limit retry behind, oAI pna cI 64 pn] → va_S A s.heap H locs → ∀ (ls : Array Slot), lv_has ls 3 [(2, .int x25), (1, .int x26), (0, .ref pl)] → W p l e rm_countWays s m [Value.ref pl].toArray below meth c H locs 0 0 (MQ below ((Q_countWays D cI cJ cZ cG cH pl pna pta rails limit retry behind pn) A) [Value.ref pl].toArray s 0 0 A) (F0 m 4 ls []) := by
    intro nhl27
    induction nhl27 with
    | zero =>
      intro x25 x26 hmhl27
      exact absurd hmhl27 (Nat.not_lt_zero _)
    | succ nhl27 ihhl27 =>
      intro x25 x26 hmhl27 hx25 hM H locs hP hD hS ls hl
      have hM : M_countWays rails pn = (K_countWays_2 rails x25 x26 (K_countWays_L2 rails pn nhl27) pn) := hM
      refine lv_iload_n hx hb dX3_countWays_4 rfl (lv_at hl 0 rfl) ?_
      refine lv_aload_n hx hb dX3_countWays_5 rfl (lv_at hl 2 rfl) ?_
      refine va_get (D := D) (ci := 2) (v := .int rails) (C := RX3) (T := TX3) (N := 6) hx hb hts (fun w h => tbC w (tbfX3 w h)) hown hK hP 0 rfl rfl 2 (by decide) (hts (.fieldLink RX3 19 "PowerRails$Plan" "rails" "I") (tbC _ wd205)) (fun _ h9 => h9) rfl dX3_countWays_6 ?_
      refine lv_icmp_ge (tgt := 36) hx hb dX3_countWays_9 (by decide) (fun c_28 => ?_) (fun c_28 => ?_)
      · skip
        have i_28 : rails.toInt ≤ x25.toInt := (ile rfl rfl).mp c_28
        have hM : M_countWays rails pn = (K_countWays_3 x26) := (show M_countWays rails pn = (if rails.toInt ≤ x25.toInt then (K_countWays_3 x26) else (K_countWays_4 (K_countWays_L2 rails pn nhl27) x25 x26 pn)) from hM).trans (if_pos i_28)
        refine lv_iload_n hx hb dX3_countWays_36 rfl (lv_at hl 1 rfl) ?_
        refine W.widen (k := 0) (n := 0) (by decide) (by decide) ?_
        exact W.iret (v := x26) hx hb hr (fun t ht hW => ⟨⟨x26, x26, rfl, ⟨rfl, trivial⟩, ⟨hM, xB_of9 ht hW hP hK hD [0, 1] (by decide +kernel) rfl⟩⟩, hS.F ht⟩) hS.2.2 dX3_countWays_37
      · skip
        have i_28 : ¬ (rails.toInt ≤ x25.toInt) := fun h9 => c_28 ((ile rfl rfl).mpr h9)
        have hM : M_countWays rails pn = (K_countWays_4 (K_countWays_L2 rails pn nhl27) x25 x26 pn) := (show M_countWays rails pn = (if rails.toInt ≤ x25.toInt then (K_countWays_3 x26) else (K_countWays_4 (K_countWays_L2 rails pn nhl27) x25 x26 pn)) from hM).trans (if_neg i_28)
        refine lv_iload_n hx hb dX3_countWays_12 rfl (lv_at hl 1 rfl) ?_
        refine lv_aload_n hx hb dX3_countWays_13 rfl (lv_at hl 2 rfl) ?_
        refine lv_iload_n hx hb dX3_countWays_14 rfl (lv_at hl 0 rfl) ?_
        refine lv_iconst (v := 1) hx hb dX3_countWays_15 (by decide) ?_
        obtain ⟨hPc, hDc, hFc, hC9⟩ := xpk (wc := W_number cI cJ cZ cG cH pl x25 (1 : Int32) pna pta rails limit retry behind pn) hP hD hS hA [0, 1] (by decide +kernel) rfl
        refine va_calli (va_runV (As := [.int x25, .int 1]) (rest := [.int x26]) ⟨hx, hb, hml, hown, hts⟩ (c_number l D cI cJ cZ cG cH H.size pl x25 (1 : Int32) pna pta rails limit retry behind pn (xrng rfl (by omega) (by omega)) ⟨by decide, by decide⟩ (xrng rfl (by omega) (by omega)) (xwk_rng h_pn (by decide) (by decide))) (cwV 2 hts (xGV tbC wd548 wd368 wd369 wd59 wd996) rfl rfl rfl (by decide +kernel) ⟨Nat.le_of_ble_eq_true rfl, Nat.le_of_ble_eq_true rfl⟩) ⟨xPc_blind, va_recv hK hPc (ci := 2) (q0 := 0) rfl rfl, xPc_pre hPc hK hDc⟩ rfl rfl hl.1 rfl (lv_room (Nat.le_of_ble_eq_true rfl)) dX3_countWays_16 ⟨Nat.le_of_ble_eq_true rfl, Nat.le_of_ble_eq_true rfl⟩) hS (fun q _ h => hFc q h) hFc (fun r29 u t H1 locs ht hvm hw29 hB hz1 hk1 hS => ?_)
        obtain ⟨hru9, hw29⟩ := hw29
        subst hru9
        obtain ⟨hf29_0, hP1, hK1, hD1⟩ := hB
        rw [ht] at hP1
        obtain ⟨hP, hD⟩ : xPD D A [oX3 pl pna pta rails limit retry behind, oAI pna cI 64 pn] H1 := xjn 0 hP hD [0, 1] [] hC9 rfl (by decide +kernel) (by decide +kernel) hk1 hFc hP1 hD1
        generalize H1 = H at hP hS ⊢
        have hf29_0 : M_number pn x25 (1 : Int32) = (r29) := hf29_0
        have hw29 : 0 ≤ r29.toInt ∧ r29.toInt ≤ 511 := hw29
        have h9M := congrArg (fun t9 => (K_countWays_5 (K_countWays_L2 rails pn nhl27) x25 x26 t9 pn)) hf29_0
        have hM : M_countWays rails pn = (K_countWays_5 (K_countWays_L2 rails pn nhl27) x25 x26 r29 pn) := (show M_countWays rails pn = ((fun t9 => (K_countWays_5 (K_countWays_L2 rails pn nhl27) x25 x26 t9 pn)) (M_number pn x25 (1 : Int32))) from hM).trans h9M
        refine lv_aload_n hx hb dX3_countWays_19 rfl (lv_at hl 2 rfl) ?_
        refine lv_iload_n hx hb dX3_countWays_20 rfl (lv_at hl 0 rfl) ?_
        refine lv_iconst (v := 0) hx hb dX3_countWays_21 (by decide) ?_
        obtain ⟨hPc, hDc, hFc, hC9⟩ := xpk (wc := W_number cI cJ cZ cG cH pl x25 (0 : Int32) pna pta rails limit retry behind pn) hP hD hS hA [0, 1] (by decide +kernel) rfl
        refine va_calli (va_runV (As := [.int x25, .int 0]) (rest := [.int r29, .int x26]) ⟨hx, hb, hml, hown, hts⟩ (c_number l D cI cJ cZ cG cH H.size pl x25 (0 : Int32) pna pta rails limit retry behind pn (xrng rfl (by omega) (by omega)) ⟨by decide, by decide⟩ (xrng rfl (by omega) (by omega)) (xwk_rng h_pn (by decide) (by decide))) (cwV 2 hts (xGV tbC wd548 wd368 wd369 wd59 wd996) rfl rfl rfl (by decide +kernel) ⟨Nat.le_of_ble_eq_true rfl, Nat.le_of_ble_eq_true rfl⟩) ⟨xPc_blind, va_recv hK hPc (ci := 2) (q0 := 0) rfl rfl, xPc_pre hPc hK hDc⟩ rfl rfl hl.1 rfl (lv_room (Nat.le_of_ble_eq_true rfl)) dX3_countWays_22 ⟨Nat.le_of_ble_eq_true rfl, Nat.le_of_ble_eq_true rfl⟩) hS (fun q _ h => hFc q h) hFc (fun r30 u t H1 locs ht hvm hw30 hB hz1 hk1 hS => ?_)
        obtain ⟨hru9, hw30⟩ := hw30
        subst hru9
        obtain ⟨hf30_0, hP1, hK1, hD1⟩ := hB
        rw [ht] at hP1
        obtain ⟨hP, hD⟩ : xPD D A [oX3 pl pna pta rails limit retry behind, oAI pna cI 64 pn] H1 := xjn 0 hP hD [0, 1] [] hC9 rfl (by decide +kernel) (by decide +kernel) hk1 hFc hP1 hD1
        generalize H1 = H at hP hS ⊢
        have hf30_0 : M_number pn x25 (0 : Int32) = (r30) := hf30_0
        have hw30 : 0 ≤ r30.toInt ∧ r30.toInt ≤ 511 := hw30
        have h9M := congrArg (fun t9 => (K_countWays_6 (K_countWays_L2 rails pn nhl27) x25 x26 r29 t9)) hf30_0
        have hM : M_countWays rails pn = (K_countWays_6 (K_countWays_L2 rails pn nhl27) x25 x26 r29 r30) := (show M_countWays rails pn = ((fun t9 => (K_countWays_6 (K_countWays_L2 rails pn nhl27) x25 x26 r29 t9)) (M_number pn x25 (0 : Int32))) from hM).trans h9M
        refine lv_isub hx hb dX3_countWays_25 ?_
        refine lv_topi (fun v31 ev31 => ?_)
        have tv31 : v31.toInt = (r29.toInt - r30.toInt) := (congrArg Int32.toInt ev31).trans (xsub rfl rfl (by omega) (by omega))
        refine lv_iconst (v := 1) hx hb dX3_countWays_26 (by decide) ?_
        refine lv_iadd hx hb dX3_countWays_27 ?_
        refine lv_topi (fun v32 ev32 => ?_)
        have tv32 : v32.toInt = ((r29.toInt - r30.toInt) + 1) := (congrArg Int32.toInt ev32).trans (xadd tv31 (by decide) (by omega) (by omega))
        refine lv_imul hx hb dX3_countWays_28 ?_
        refine lv_topi (fun v33 ev33 => ?_)
        refine lv_istore_n (lv' := [(1, .int v33), (2, .int x25), (0, .ref pl)]) hx hb dX3_countWays_29 rfl hl (by decide) rfl (fun ls hl => ?_)
        obtain ⟨x34, ex34⟩ : ∃ y : Int32, y = x25 + 1 := ⟨_, rfl⟩
        have tx34 : x34.toInt = (x25.toInt + 1) := (congrArg Int32.toInt ex34).trans (xadd rfl (by decide) (by omega) (by omega))
        refine lv_iinc (v := x34) (lv' := [(2, .int x34), (1, .int v33), (0, .ref pl)]) hx hb dX3_countWays_30 hl (k := 1) rfl (by rw [ex34]; rfl) (by decide) rfl (fun ls hl => ?_)
        refine lv_goto (tgt := 4) hx hb dX3_countWays_33 (by decide) ?_
        exact ihhl27 x34 v33 (by omega) (xrng tx34 (by omega) (by omega)) (by rw [ex34, ev33, ev32, ev31]; exact hM) _ _ hP hD hS ls (lv_sub hl [0, 1, 2] rfl)
  exact hl27 100000 0 1 (by have z9_0 : (0 : Int32).toInt = 0 := (by decide); have z9_1 : (1 : Int32).toInt = 1 := (by decide); omega) ⟨by decide, by decide⟩ hM _ _ hP hD hS ls (lv_sub hl [0, 1, 2] rfl)
def K_sourcesOf_3 (x145 : Int32) : (Int32) := (x145)
def K_sourcesOf_6 (rec_2 : (Int32) → (Int32) → ((Int32))) (x144 : Int32) (x181 : Int32) : (Int32) := (rec_2 (x144 + 1) x181)
def K_sourcesOf_11 (rec_5 : (Int32) → (Int32) → ((Int32))) (x180 : Int32) (x181 : Int32) (r189 : Int32) (r190 : Int32) : (Int32) := (rec_5 (x180 + 1) (x181 ||| (r189 &&& r190)))
def K_sourcesOf_10 (rec_5 : (Int32) → (Int32) → ((Int32))) (x180 : Int32) (x181 : Int32) (r189 : Int32) (rails : Int32) : (Int32) := ((fun t9 => (K_sourcesOf_11 rec_5 x180 x181 r189 t9)) (M_allRails rails))
def K_sourcesOf_9 (rec_5 : (Int32) → (Int32) → ((Int32))) (x180 : Int32) (x181 : Int32) (rails : Int32) (pn : Nat → Int32) : (Int32) := ((fun t9 => (K_sourcesOf_10 rec_5 x180 x181 t9 rails)) (M_number pn x180 (7 : Int32)))
def K_sourcesOf_8 (rec_5 : (Int32) → (Int32) → ((Int32))) (x180 : Int32) (x181 : Int32) : (Int32) := (rec_5 (x180 + 1) x181)
def K_sourcesOf_7 (x181 : Int32) (x180 : Int32) (rec_5 : (Int32) → (Int32) → ((Int32))) (rails : Int32) (pn : Nat → Int32) : (Int32) := (if ((x181 >>> (x180 &&& 31)) &&& (1 : Int32)).toInt = 1 then (K_sourcesOf_9 rec_5 x180 x181 rails pn) else (K_sourcesOf_8 rec_5 x180 x181))
def K_sourcesOf_5 (rails : Int32) (x180 : Int32) (rec_2 : (Int32) → (Int32) → ((Int32))) (x144 : Int32) (x181 : Int32) (rec_5 : (Int32) → (Int32) → ((Int32))) (pn : Nat → Int32) : (Int32) := (if rails.toInt ≤ x180.toInt then (K_sourcesOf_6 rec_2 x144 x181) else (K_sourcesOf_7 x181 x180 rec_5 rails pn))
def K_sourcesOf_L5 (rails : Int32) (rec_2 : (Int32) → (Int32) → ((Int32))) (x144 : Int32) (pn : Nat → Int32) : Nat → (Int32) → (Int32) → (Int32)
  | 0, _, _ => (0)
  | n9 + 1, x180, x181 => (K_sourcesOf_5 rails x180 rec_2 x144 x181 (K_sourcesOf_L5 rails rec_2 x144 pn n9) pn)
def K_sourcesOf_4 (rails : Int32) (rec_2 : (Int32) → (Int32) → ((Int32))) (x144 : Int32) (pn : Nat → Int32) (x145 : Int32) : (Int32) := (K_sourcesOf_L5 rails rec_2 x144 pn 100000 (0 : Int32) x145)
def K_sourcesOf_2 (x144 : Int32) (x145 : Int32) (rails : Int32) (rec_2 : (Int32) → (Int32) → ((Int32))) (pn : Nat → Int32) : (Int32) := (if 8 ≤ x144.toInt then (K_sourcesOf_3 x145) else (K_sourcesOf_4 rails rec_2 x144 pn x145))
def K_sourcesOf_L2 (rails : Int32) (pn : Nat → Int32) : Nat → (Int32) → (Int32) → (Int32)
  | 0, _, _ => (0)
  | n9 + 1, x144, x145 => (K_sourcesOf_2 x144 x145 rails (K_sourcesOf_L2 rails pn n9) pn)
def K_sourcesOf_1 (rails : Int32) (pn : Nat → Int32) (s0 : Int32) : (Int32) := (K_sourcesOf_L2 rails pn 100000 (0 : Int32) s0)
def M_sourcesOf (rails : Int32) (pn : Nat → Int32) (s0 : Int32) : (Int32) := (K_sourcesOf_1 rails pn s0)
abbrev W_sourcesOf (cI cJ cZ cG cH : ClassId) (pl : Nat) (s0 : Int32) (pna : Nat) (pta : Nat) (rails : Int32) (limit : Int32) (retry : Int32) (behind : Int32) (pn : Nat → Int32) : va_W := [oX3 pl pna pta rails limit retry behind, oAI pna cI 64 pn]
abbrev Q_sourcesOf (D : va_G) (cI cJ cZ cG cH : ClassId) (pl : Nat) (s0 : Int32) (pna : Nat) (pta : Nat) (rails : Int32) (limit : Int32) (retry : Int32) (behind : Int32) (pn : Nat → Int32) (A : Nat → Prop) : Array Value → State → Outcome → State → Prop := va_Qi (fun (r : Int32) (u9 : Int32) => r = u9 ∧ (True)) (fun u9 t => (M_sourcesOf rails pn s0 = (u9)) ∧ xB D (tyL cI cJ cZ cG cH) [oX3 pl pna pta rails limit retry behind, oAI pna cI 64 pn] A t) A
abbrev rm_sourcesOf : Room := { frames := 1, cells := 0, slots := 0, locals := 22 }
set_option maxRecDepth 100000 in
set_option maxHeartbeats 40000000 in
theorem c_sourcesOf (l : Launch) (D : va_G) (cI cJ cZ cG cH : ClassId) (sz : Nat) (pl : Nat) (s0 : Int32) (pna : Nat) (pta : Nat) (rails : Int32) (limit : Int32) (retry : Int32) (behind : Int32) (pn : Nat → Int32) (h_rails : 0 ≤ rails.toInt ∧ rails.toInt ≤ 8) (h_pn : ∀ j, j < 64 → 0 ≤ (pn j).toInt ∧ (pn j).toInt ≤ 511) : Met l yX3_sourcesOf (wt yX3_sourcesOf cX3_sourcesOf 5 (some .int)) rm_sourcesOf (xPc [.ref pl, .int s0] D (tyL cI cJ cZ cG cH) (W_sourcesOf cI cJ cZ cG cH pl s0 pna pta rails limit retry behind pn) sz) (Q_sourcesOf D cI cJ cZ cG cH pl s0 pna pta rails limit retry behind pn (va_A (W_sourcesOf cI cJ cZ cG cH pl s0 pna pta rails limit retry behind pn) sz)) 0 0 (va_A (W_sourcesOf cI cJ cZ cG cH pl s0 pna pta rails limit retry behind pn) sz) := by
  refine xMet (cc := cX3_sourcesOf) (maxL := 5) (ret := (some .int)) (Qf := Q_sourcesOf D cI cJ cZ cG cH pl s0 pna pta rails limit retry behind pn) (by decide) rfl (Nat.le_of_ble_eq_true rfl) ?_
  intro p e s m below meth c ls A hx hb hr hml hts hown hlocks hnm hsz hP hK hD hA hS hl
  have hown : s.vm.findClass RX3 = some m.cls := hown
  have hP : va_P D vwCl [oX3 pl pna pta rails limit retry behind, oAI pna cI 64 pn] s.heap := hP
  have hD : va_D A [oX3 pl pna pta rails limit retry behind, oAI pna cI 64 pn] := hD
  have hl : lv_has ls 5 [(0, .ref pl), (1, .int s0)] := hl
  have hM : M_sourcesOf rails pn s0 = (K_sourcesOf_1 rails pn s0) := rfl
  refine lv_iload_n hx hb dX3_sourcesOf_0 rfl (lv_at hl 1 rfl) ?_
  refine lv_istore_n (lv' := [(2, .int s0), (0, .ref pl), (1, .int s0)]) hx hb dX3_sourcesOf_1 rfl hl (by decide) rfl (fun ls hl => ?_)
  refine lv_iconst (v := 0) hx hb dX3_sourcesOf_2 (by decide) ?_
  refine lv_istore_n (lv' := [(3, .int 0), (2, .int s0), (0, .ref pl), (1, .int s0)]) hx hb dX3_sourcesOf_3 rfl hl (by decide) rfl (fun ls hl => ?_)
  have hl146 : ∀ (nhl146 : Nat) (x144 : Int32) (x145 : Int32), ((8 - x144.toInt).toNat < nhl146) → (hx144 : 0 ≤ x144.toInt ∧ x144.toInt ≤ 8) → (hM : M_sourcesOf rails pn s0 = (K_sourcesOf_L2 rails pn nhl146 x144 x145)) → ∀ (H : Heap) (locs : List Loc), va_P D vwCl [oX3 pl pna pta rails limit retry behind, oAI pna cI 64 pn] H → va_D A [oX3 pl pna pta rails limit retry behind, oAI pna cI 64 pn] → va_S A s.heap H locs → ∀ (ls : Array Slot), lv_has ls 5 [(3, .int x144), (2, .int x145), (0, .ref pl), (1, .int s0)] → W p l e rm_sourcesOf s m [Value.ref pl, Value.int s0].toArray below meth c H locs 0 0 (MQ below ((Q_sourcesOf D cI cJ cZ cG cH pl s0 pna pta rails limit retry behind pn) A) [Value.ref pl, Value.int s0].toArray s 0 0 A) (F0 m 4 ls []) := by
    intro nhl146
    induction nhl146 with
    | zero =>
      intro x144 x145 hmhl146
      exact absurd hmhl146 (Nat.not_lt_zero _)
    | succ nhl146 ihhl146 =>
      intro x144 x145 hmhl146 hx144 hM H locs hP hD hS ls hl
      have hM : M_sourcesOf rails pn s0 = (K_sourcesOf_2 x144 x145 rails (K_sourcesOf_L2 rails pn nhl146) pn) := hM
      refine lv_iload_n hx hb dX3_sourcesOf_4 rfl (lv_at hl 0 rfl) ?_
      refine lv_bipush (v := 8) hx hb dX3_sourcesOf_5 (by decide) ?_
      refine lv_icmp_ge (tgt := 60) hx hb dX3_sourcesOf_7 (by decide) (fun c_147 => ?_) (fun c_147 => ?_)
      · skip
        have i_147 : 8 ≤ x144.toInt := (ile (by decide) rfl).mp c_147
        have hM : M_sourcesOf rails pn s0 = (K_sourcesOf_3 x145) := (show M_sourcesOf rails pn s0 = (if 8 ≤ x144.toInt then (K_sourcesOf_3 x145) else (K_sourcesOf_4 rails (K_sourcesOf_L2 rails pn nhl146) x144 pn x145)) from hM).trans (if_pos i_147)
        refine lv_iload_n hx hb dX3_sourcesOf_60 rfl (lv_at hl 1 rfl) ?_
        refine W.widen (k := 0) (n := 0) (by decide) (by decide) ?_
        exact W.iret (v := x145) hx hb hr (fun t ht hW => ⟨⟨x145, x145, rfl, ⟨rfl, trivial⟩, ⟨hM, xB_of9 ht hW hP hK hD [0, 1] (by decide +kernel) rfl⟩⟩, hS.F ht⟩) hS.2.2 dX3_sourcesOf_61
      · skip
        have i_147 : ¬ (8 ≤ x144.toInt) := fun h9 => c_147 ((ile (by decide) rfl).mpr h9)
        have hM : M_sourcesOf rails pn s0 = (K_sourcesOf_4 rails (K_sourcesOf_L2 rails pn nhl146) x144 pn x145) := (show M_sourcesOf rails pn s0 = (if 8 ≤ x144.toInt then (K_sourcesOf_3 x145) else (K_sourcesOf_4 rails (K_sourcesOf_L2 rails pn nhl146) x144 pn x145)) from hM).trans (if_neg i_147)
        refine lv_iconst (v := 0) hx hb dX3_sourcesOf_10 (by decide) ?_
        refine lv_istore (lv' := [(4, .int 0), (3, .int x144), (2, .int x145), (0, .ref pl), (1, .int s0)]) hx hb dX3_sourcesOf_11 hl (by decide) rfl (fun ls hl => ?_)
        have hl182 : ∀ (nhl182 : Nat) (x180 : Int32) (x181 : Int32), ((8 - x180.toInt).toNat < nhl182) → (hx180 : 0 ≤ x180.toInt ∧ x180.toInt ≤ 8) → (hM : M_sourcesOf rails pn s0 = (K_sourcesOf_L5 rails (K_sourcesOf_L2 rails pn nhl146) x144 pn nhl182 x180 x181)) → ∀ (H : Heap) (locs : List Loc), va_P D vwCl [oX3 pl pna pta rails limit retry behind, oAI pna cI 64 pn] H → va_D A [oX3 pl pna pta rails limit retry behind, oAI pna cI 64 pn] → va_S A s.heap H locs → ∀ (ls : Array Slot), lv_has ls 5 [(4, .int x180), (3, .int x144), (2, .int x181), (0, .ref pl), (1, .int s0)] → W p l e rm_sourcesOf s m [Value.ref pl, Value.int s0].toArray below meth c H locs 0 0 (MQ below ((Q_sourcesOf D cI cJ cZ cG cH pl s0 pna pta rails limit retry behind pn) A) [Value.ref pl, Value.int s0].toArray s 0 0 A) (F0 m 13 ls []) := by
          intro nhl182
          induction nhl182 with
          | zero =>
            intro x180 x181 hmhl182
            exact absurd hmhl182 (Nat.not_lt_zero _)
          | succ nhl182 ihhl182 =>
            intro x180 x181 hmhl182 hx180 hM H locs hP hD hS ls hl
            have hM : M_sourcesOf rails pn s0 = (K_sourcesOf_5 rails x180 (K_sourcesOf_L2 rails pn nhl146) x144 x181 (K_sourcesOf_L5 rails (K_sourcesOf_L2 rails pn nhl146) x144 pn nhl182) pn) := hM
            refine lv_iload hx hb dX3_sourcesOf_13 (lv_at hl 0 rfl) ?_
            refine lv_aload_n hx hb dX3_sourcesOf_15 rfl (lv_at hl 3 rfl) ?_
            refine va_get (D := D) (ci := 2) (v := .int rails) (C := RX3) (T := TX3) (N := 6) hx hb hts (fun w h => tbC w (tbfX3 w h)) hown hK hP 0 rfl rfl 2 (by decide) (hts (.fieldLink RX3 19 "PowerRails$Plan" "rails" "I") (tbC _ wd205)) (fun _ h9 => h9) rfl dX3_sourcesOf_16 ?_
            refine lv_icmp_ge (tgt := 54) hx hb dX3_sourcesOf_19 (by decide) (fun c_183 => ?_) (fun c_183 => ?_)
            · skip
              have i_183 : rails.toInt ≤ x180.toInt := (ile rfl rfl).mp c_183
              have hM : M_sourcesOf rails pn s0 = (K_sourcesOf_6 (K_sourcesOf_L2 rails pn nhl146) x144 x181) := (show M_sourcesOf rails pn s0 = (if rails.toInt ≤ x180.toInt then (K_sourcesOf_6 (K_sourcesOf_L2 rails pn nhl146) x144 x181) else (K_sourcesOf_7 x181 x180 (K_sourcesOf_L5 rails (K_sourcesOf_L2 rails pn nhl146) x144 pn nhl182) rails pn)) from hM).trans (if_pos i_183)
              obtain ⟨x184, ex184⟩ : ∃ y : Int32, y = x144 + 1 := ⟨_, rfl⟩
              have tx184 : x184.toInt = (x144.toInt + 1) := (congrArg Int32.toInt ex184).trans (xadd rfl (by decide) (by omega) (by omega))
              refine lv_iinc (v := x184) (lv' := [(3, .int x184), (4, .int x180), (2, .int x181), (0, .ref pl), (1, .int s0)]) hx hb dX3_sourcesOf_54 hl (k := 1) rfl (by rw [ex184]; rfl) (by decide) rfl (fun ls hl => ?_)
              refine lv_goto (tgt := 4) hx hb dX3_sourcesOf_57 (by decide) ?_
              exact ihhl146 x184 x181 (by omega) (xrng tx184 (by omega) (by omega)) (by rw [ex184]; exact hM) _ _ hP hD hS ls (lv_sub hl [0, 2, 3, 4] rfl)
            · skip
              have i_183 : ¬ (rails.toInt ≤ x180.toInt) := fun h9 => c_183 ((ile rfl rfl).mpr h9)
              have hM : M_sourcesOf rails pn s0 = (K_sourcesOf_7 x181 x180 (K_sourcesOf_L5 rails (K_sourcesOf_L2 rails pn nhl146) x144 pn nhl182) rails pn) := (show M_sourcesOf rails pn s0 = (if rails.toInt ≤ x180.toInt then (K_sourcesOf_6 (K_sourcesOf_L2 rails pn nhl146) x144 x181) else (K_sourcesOf_7 x181 x180 (K_sourcesOf_L5 rails (K_sourcesOf_L2 rails pn nhl146) x144 pn nhl182) rails pn)) from hM).trans (if_neg i_183)
              refine lv_iload_n hx hb dX3_sourcesOf_22 rfl (lv_at hl 2 rfl) ?_
              refine lv_iload hx hb dX3_sourcesOf_23 (lv_at hl 0 rfl) ?_
              refine lv_ishr hx hb dX3_sourcesOf_25 ?_
              refine lv_topi (fun v185 ev185 => ?_)
              refine lv_iconst (v := 1) hx hb dX3_sourcesOf_26 (by decide) ?_
              refine lv_iand hx hb dX3_sourcesOf_27 ?_
              refine lv_topi (fun v186 ev186 => ?_)
              have rv186 : 0 ≤ v186.toInt ∧ v186.toInt ≤ 1 := xandL ev186 (show (1 : Int32).toInt = 1 from (by decide)) (by omega)
              refine lv_iconst (v := 1) hx hb dX3_sourcesOf_28 (by decide) ?_
              refine lv_icmp_ne (tgt := 48) hx hb dX3_sourcesOf_29 (by decide) (fun c_187 => ?_) (fun c_187 => ?_)
              · skip
                have i_187 : ¬ (v186.toInt = 1) := fun h9 => c_187 ((ieq rfl (by decide)).mpr h9)
                have hM : M_sourcesOf rails pn s0 = (K_sourcesOf_8 (K_sourcesOf_L5 rails (K_sourcesOf_L2 rails pn nhl146) x144 pn nhl182) x180 x181) := (show M_sourcesOf rails pn s0 = (if v186.toInt = 1 then (K_sourcesOf_9 (K_sourcesOf_L5 rails (K_sourcesOf_L2 rails pn nhl146) x144 pn nhl182) x180 x181 rails pn) else (K_sourcesOf_8 (K_sourcesOf_L5 rails (K_sourcesOf_L2 rails pn nhl146) x144 pn nhl182) x180 x181)) from (by rw [ev186, ev185]; exact hM)).trans (if_neg i_187)
                obtain ⟨x188, ex188⟩ : ∃ y : Int32, y = x180 + 1 := ⟨_, rfl⟩
                have tx188 : x188.toInt = (x180.toInt + 1) := (congrArg Int32.toInt ex188).trans (xadd rfl (by decide) (by omega) (by omega))
                refine lv_iinc (v := x188) (lv' := [(4, .int x188), (3, .int x144), (2, .int x181), (0, .ref pl), (1, .int s0)]) hx hb dX3_sourcesOf_48 hl (k := 0) rfl (by rw [ex188]; rfl) (by decide) rfl (fun ls hl => ?_)
                refine lv_goto (tgt := 13) hx hb dX3_sourcesOf_51 (by decide) ?_
                exact ihhl182 x188 x181 (by omega) (xrng tx188 (by omega) (by omega)) (by rw [ex188]; exact hM) _ _ hP hD hS ls (lv_sub hl [0, 1, 2, 3, 4] rfl)
              · skip
                have i_187 : v186.toInt = 1 := (ieq rfl (by decide)).mp c_187
                have hM : M_sourcesOf rails pn s0 = (K_sourcesOf_9 (K_sourcesOf_L5 rails (K_sourcesOf_L2 rails pn nhl146) x144 pn nhl182) x180 x181 rails pn) := (show M_sourcesOf rails pn s0 = (if v186.toInt = 1 then (K_sourcesOf_9 (K_sourcesOf_L5 rails (K_sourcesOf_L2 rails pn nhl146) x144 pn nhl182) x180 x181 rails pn) else (K_sourcesOf_8 (K_sourcesOf_L5 rails (K_sourcesOf_L2 rails pn nhl146) x144 pn nhl182) x180 x181)) from (by rw [ev186, ev185]; exact hM)).trans (if_pos i_187)
                refine lv_iload_n hx hb dX3_sourcesOf_32 rfl (lv_at hl 2 rfl) ?_
                refine lv_aload_n hx hb dX3_sourcesOf_33 rfl (lv_at hl 3 rfl) ?_
                refine lv_iload hx hb dX3_sourcesOf_34 (lv_at hl 0 rfl) ?_
                refine lv_bipush (v := 7) hx hb dX3_sourcesOf_36 (by decide) ?_
                obtain ⟨hPc, hDc, hFc, hC9⟩ := xpk (wc := W_number cI cJ cZ cG cH pl x180 (7 : Int32) pna pta rails limit retry behind pn) hP hD hS hA [0, 1] (by decide +kernel) rfl
                refine va_calli (va_runV (As := [.int x180, .int 7]) (rest := [.int x181]) ⟨hx, hb, hml, hown, hts⟩ (c_number l D cI cJ cZ cG cH H.size pl x180 (7 : Int32) pna pta rails limit retry behind pn (xrng rfl (by omega) (by omega)) ⟨by decide, by decide⟩ (xrng rfl (by omega) (by omega)) (xwk_rng h_pn (by decide) (by decide))) (cwV 2 hts (xGV tbC wd548 wd368 wd369 wd59 wd996) rfl rfl rfl (by decide +kernel) ⟨Nat.le_of_ble_eq_true rfl, Nat.le_of_ble_eq_true rfl⟩) ⟨xPc_blind, va_recv hK hPc (ci := 2) (q0 := 0) rfl rfl, xPc_pre hPc hK hDc⟩ rfl rfl hl.1 rfl (lv_room (Nat.le_of_ble_eq_true rfl)) dX3_sourcesOf_38 ⟨Nat.le_of_ble_eq_true rfl, Nat.le_of_ble_eq_true rfl⟩) hS (fun q _ h => hFc q h) hFc (fun r189 u t H1 locs ht hvm hw189 hB hz1 hk1 hS => ?_)
                obtain ⟨hru9, hw189⟩ := hw189
                subst hru9
                obtain ⟨hf189_0, hP1, hK1, hD1⟩ := hB
                rw [ht] at hP1
                obtain ⟨hP, hD⟩ : xPD D A [oX3 pl pna pta rails limit retry behind, oAI pna cI 64 pn] H1 := xjn 0 hP hD [0, 1] [] hC9 rfl (by decide +kernel) (by decide +kernel) hk1 hFc hP1 hD1
                generalize H1 = H at hP hS ⊢
                have hf189_0 : M_number pn x180 (7 : Int32) = (r189) := hf189_0
                have hw189 : 0 ≤ r189.toInt ∧ r189.toInt ≤ 511 := hw189
                have h9M := congrArg (fun t9 => (K_sourcesOf_10 (K_sourcesOf_L5 rails (K_sourcesOf_L2 rails pn nhl146) x144 pn nhl182) x180 x181 t9 rails)) hf189_0
                have hM : M_sourcesOf rails pn s0 = (K_sourcesOf_10 (K_sourcesOf_L5 rails (K_sourcesOf_L2 rails pn nhl146) x144 pn nhl182) x180 x181 r189 rails) := (show M_sourcesOf rails pn s0 = ((fun t9 => (K_sourcesOf_10 (K_sourcesOf_L5 rails (K_sourcesOf_L2 rails pn nhl146) x144 pn nhl182) x180 x181 t9 rails)) (M_number pn x180 (7 : Int32))) from hM).trans h9M
                refine lv_aload_n hx hb dX3_sourcesOf_41 rfl (lv_at hl 3 rfl) ?_
                obtain ⟨hPc, hDc, hFc, hC9⟩ := xpk (wc := W_allRails cI cJ cZ cG cH pl pna pta rails limit retry behind) hP hD hS hA [0] (by decide +kernel) rfl
                refine va_calli (va_runV (As := []) (rest := [.int r189, .int x181]) ⟨hx, hb, hml, hown, hts⟩ (c_allRails l D cI cJ cZ cG cH H.size pl pna pta rails limit retry behind (xrng rfl (by omega) (by omega))) (cwV 0 hts (xGV tbC wd555 wd420 wd421 wd59 wd1012) rfl rfl rfl (by decide +kernel) ⟨Nat.le_of_ble_eq_true rfl, Nat.le_of_ble_eq_true rfl⟩) ⟨xPc_blind, va_recv hK hPc (ci := 2) (q0 := 0) rfl rfl, xPc_pre hPc hK hDc⟩ rfl rfl hl.1 rfl (lv_room (Nat.le_of_ble_eq_true rfl)) dX3_sourcesOf_42 ⟨Nat.le_of_ble_eq_true rfl, Nat.le_of_ble_eq_true rfl⟩) hS (fun q _ h => hFc q h) hFc (fun r190 u t H1 locs ht hvm hw190 hB hz1 hk1 hS => ?_)
                obtain ⟨hru9, hw190⟩ := hw190
                subst hru9
                obtain ⟨hf190_0, hP1, hK1, hD1⟩ := hB
                rw [ht] at hP1
                obtain ⟨hP, hD⟩ : xPD D A [oAI pna cI 64 pn, oX3 pl pna pta rails limit retry behind] H1 := xjn 1 hP hD [0] [1] hC9 rfl (by decide +kernel) (by decide +kernel) hk1 hFc hP1 hD1
                generalize H1 = H at hP hS ⊢
                have hf190_0 : M_allRails rails = (r190) := hf190_0
                have hw190 : 0 ≤ r190.toInt ∧ r190.toInt ≤ 255 := hw190
                have h9M := congrArg (fun t9 => (K_sourcesOf_11 (K_sourcesOf_L5 rails (K_sourcesOf_L2 rails pn nhl146) x144 pn nhl182) x180 x181 r189 t9)) hf190_0
                have hM : M_sourcesOf rails pn s0 = (K_sourcesOf_11 (K_sourcesOf_L5 rails (K_sourcesOf_L2 rails pn nhl146) x144 pn nhl182) x180 x181 r189 r190) := (show M_sourcesOf rails pn s0 = ((fun t9 => (K_sourcesOf_11 (K_sourcesOf_L5 rails (K_sourcesOf_L2 rails pn nhl146) x144 pn nhl182) x180 x181 r189 t9)) (M_allRails rails)) from hM).trans h9M
                refine lv_iand hx hb dX3_sourcesOf_45 ?_
                refine lv_topi (fun v191 ev191 => ?_)
                have rv191 : 0 ≤ v191.toInt ∧ v191.toInt ≤ r190.toInt := xandL ev191 (show (r190 : Int32).toInt = r190.toInt from rfl) (by omega)
                refine lv_ior hx hb dX3_sourcesOf_46 ?_
                refine lv_topi (fun v192 ev192 => ?_)
                refine lv_istore_n (lv' := [(2, .int v192), (4, .int x180), (3, .int x144), (0, .ref pl), (1, .int s0)]) hx hb dX3_sourcesOf_47 rfl hl (by decide) rfl (fun ls hl => ?_)
                obtain ⟨x193, ex193⟩ : ∃ y : Int32, y = x180 + 1 := ⟨_, rfl⟩
                have tx193 : x193.toInt = (x180.toInt + 1) := (congrArg Int32.toInt ex193).trans (xadd rfl (by decide) (by omega) (by omega))
                refine lv_iinc (v := x193) (lv' := [(4, .int x193), (2, .int v192), (3, .int x144), (0, .ref pl), (1, .int s0)]) hx hb dX3_sourcesOf_48 hl (k := 1) rfl (by rw [ex193]; rfl) (by decide) rfl (fun ls hl => ?_)
                refine lv_goto (tgt := 13) hx hb dX3_sourcesOf_51 (by decide) ?_
                obtain ⟨hP, hD⟩ := xsb (ws' := [oX3 pl pna pta rails limit retry behind, oAI pna cI 64 pn]) hP hD [1, 0] (by decide +kernel) rfl
                exact ihhl182 x193 v192 (by omega) (xrng tx193 (by omega) (by omega)) (by rw [ex193, ev192, ev191]; exact hM) _ _ hP hD hS ls (lv_sub hl [0, 2, 1, 3, 4] rfl)
        exact hl182 100000 0 x145 (by have z9_0 : (0 : Int32).toInt = 0 := (by decide); omega) ⟨by decide, by decide⟩ hM _ _ hP hD hS ls (lv_sub hl [0, 1, 2, 3, 4] rfl)
  exact hl146 100000 0 s0 (by have z9_0 : (0 : Int32).toInt = 0 := (by decide); omega) ⟨by decide, by decide⟩ hM _ _ hP hD hS ls (lv_sub hl [0, 1, 2, 3] rfl)
def K_addRail_9 (rails : Int32) (pn_12 : Nat → Int32) (f37 : Nat → Int64) : (Int32) × (Nat → Int32) × (Nat → Int64) := ((rails + (1 : Int32)), pn_12, f37)
def K_addRail_11 (rec_8 : (Int32) → (Nat → Int64) → ((Int32) × (Nat → Int32) × (Nat → Int64))) (x36 : Int32) (f37 : Nat → Int64) (v42 : Int32) : (Int32) × (Nat → Int32) × (Nat → Int64) := (rec_8 (x36 + 1) (vp_updL f37 (v42 : Int32).toNatClampNeg (0 : Int64)))
def K_addRail_12 (rec_8 : (Int32) → (Nat → Int64) → ((Int32) × (Nat → Int32) × (Nat → Int64))) (x36 : Int32) (f37 : Nat → Int64) (v42 : Int32) : (Int32) × (Nat → Int32) × (Nat → Int64) := (rec_8 (x36 + 1) (vp_updL f37 (v42 : Int32).toNatClampNeg (-1 : Int64)))
def K_addRail_10 (x36 : Int32) (rec_8 : (Int32) → (Nat → Int64) → ((Int32) × (Nat → Int32) × (Nat → Int64))) (f37 : Nat → Int64) (rails : Int32) : (Int32) × (Nat → Int32) × (Nat → Int64) := (if x36.toInt < 4 then (K_addRail_11 rec_8 x36 f37 ((rails * (8 : Int32)) + x36)) else (K_addRail_12 rec_8 x36 f37 ((rails * (8 : Int32)) + x36)))
def K_addRail_8 (x36 : Int32) (rails : Int32) (pn_12 : Nat → Int32) (f37 : Nat → Int64) (rec_8 : (Int32) → (Nat → Int64) → ((Int32) × (Nat → Int32) × (Nat → Int64))) : (Int32) × (Nat → Int32) × (Nat → Int64) := (if 8 ≤ x36.toInt then (K_addRail_9 rails pn_12 f37) else (K_addRail_10 x36 rec_8 f37 rails))
def K_addRail_L8 (rails : Int32) (pn_12 : Nat → Int32) : Nat → (Int32) → (Nat → Int64) → (Int32) × (Nat → Int32) × (Nat → Int64)
  | 0, _, _ => (0, fun _ => 0, fun _ => 0)
  | n9 + 1, x36, f37 => (K_addRail_8 x36 rails pn_12 f37 (K_addRail_L8 rails pn_12 n9))
def K_addRail_7 (rails : Int32) (pn_12 : Nat → Int32) (pt : Nat → Int64) : (Int32) × (Nat → Int32) × (Nat → Int64) := (K_addRail_L8 rails pn_12 100000 (0 : Int32) pt)
def K_addRail_6 (rails : Int32) (pt : Nat → Int64) (pn_10 : Nat → Int32) : (Int32) × (Nat → Int32) × (Nat → Int64) := ((fun t9 => (K_addRail_7 rails t9 pt)) (M_setNumber pn_10 rails (7 : Int32) (256 : Int32)))
def K_addRail_5 (rails : Int32) (pt : Nat → Int64) (pn_8 : Nat → Int32) : (Int32) × (Nat → Int32) × (Nat → Int64) := ((fun t9 => (K_addRail_6 rails pt t9)) (M_setNumber pn_8 rails (6 : Int32) (0 : Int32)))
def K_addRail_4 (rails : Int32) (pt : Nat → Int64) (pn_6 : Nat → Int32) : (Int32) × (Nat → Int32) × (Nat → Int64) := ((fun t9 => (K_addRail_5 rails pt t9)) (M_setNumber pn_6 rails (5 : Int32) (0 : Int32)))
def K_addRail_3 (rails : Int32) (pt : Nat → Int64) (pn_4 : Nat → Int32) : (Int32) × (Nat → Int32) × (Nat → Int64) := ((fun t9 => (K_addRail_4 rails pt t9)) (M_setNumber pn_4 rails (4 : Int32) (2 : Int32)))
def K_addRail_2 (rails : Int32) (pt : Nat → Int64) (pn_2 : Nat → Int32) : (Int32) × (Nat → Int32) × (Nat → Int64) := ((fun t9 => (K_addRail_3 rails pt t9)) (M_setNumber pn_2 rails (3 : Int32) (1 : Int32)))
def K_addRail_1 (rails : Int32) (pt : Nat → Int64) (pn : Nat → Int32) : (Int32) × (Nat → Int32) × (Nat → Int64) := ((fun t9 => (K_addRail_2 rails pt t9)) (M_setNumber pn rails (2 : Int32) (1 : Int32)))
def M_addRail (rails : Int32) (pt : Nat → Int64) (pn : Nat → Int32) : (Int32) × (Nat → Int32) × (Nat → Int64) := (K_addRail_1 rails pt pn)
abbrev W_addRail (cI cJ cZ cG cH : ClassId) (pl : Nat) (pna : Nat) (pta : Nat) (rails : Int32) (limit : Int32) (retry : Int32) (behind : Int32) (pn : Nat → Int32) (pt : Nat → Int64) : va_W := [oX3 pl pna pta rails limit retry behind, oAI pna cI 64 pn, oAJ pta cJ 64 pt]
abbrev Q_addRail (D : va_G) (cI cJ cZ cG cH : ClassId) (pl : Nat) (pna : Nat) (pta : Nat) (rails : Int32) (limit : Int32) (retry : Int32) (behind : Int32) (pn : Nat → Int32) (pt : Nat → Int64) (A : Nat → Prop) : Array Value → State → Outcome → State → Prop := va_Qv (fun (_ : Unit) => True) (fun _ t => ∃ (rails9 : Int32) (pn9 : Nat → Int32) (pt9 : Nat → Int64), (1 ≤ rails9.toInt ∧ rails9.toInt ≤ 8) ∧ (∀ j, j < 64 → 0 ≤ (pn9 j).toInt ∧ (pn9 j).toInt ≤ 511) ∧ (M_addRail rails pt pn = (rails9, pn9, pt9)) ∧ xB D (tyL cI cJ cZ cG cH) [oX3 pl pna pta rails9 limit retry behind, oAI pna cI 64 pn9, oAJ pta cJ 64 pt9] A t) A
abbrev rm_addRail : Room := { frames := 1, cells := 0, slots := 0, locals := 23 }
set_option maxRecDepth 100000 in
set_option maxHeartbeats 40000000 in
theorem c_addRail (l : Launch) (D : va_G) (cI cJ cZ cG cH : ClassId) (sz : Nat) (pl : Nat) (pna : Nat) (pta : Nat) (rails : Int32) (limit : Int32) (retry : Int32) (behind : Int32) (pn : Nat → Int32) (pt : Nat → Int64) (h_rails : 0 ≤ rails.toInt ∧ rails.toInt ≤ 7) (h_pn : ∀ j, j < 64 → 0 ≤ (pn j).toInt ∧ (pn j).toInt ≤ 511) : Met l yX3_addRail (wt yX3_addRail cX3_addRail 2 none) rm_addRail (xPc [.ref pl] D (tyL cI cJ cZ cG cH) (W_addRail cI cJ cZ cG cH pl pna pta rails limit retry behind pn pt) sz) (Q_addRail D cI cJ cZ cG cH pl pna pta rails limit retry behind pn pt (va_A (W_addRail cI cJ cZ cG cH pl pna pta rails limit retry behind pn pt) sz)) 0 0 (va_A (W_addRail cI cJ cZ cG cH pl pna pta rails limit retry behind pn pt) sz) := by
  refine xMet (cc := cX3_addRail) (maxL := 2) (ret := none) (Qf := Q_addRail D cI cJ cZ cG cH pl pna pta rails limit retry behind pn pt) (by decide) rfl (Nat.le_of_ble_eq_true rfl) ?_
  intro p e s m below meth c ls A hx hb hr hml hts hown hlocks hnm hsz hP hK hD hA hS hl
  have hown : s.vm.findClass RX3 = some m.cls := hown
  have hP : va_P D vwCl [oX3 pl pna pta rails limit retry behind, oAI pna cI 64 pn, oAJ pta cJ 64 pt] s.heap := hP
  have hD : va_D A [oX3 pl pna pta rails limit retry behind, oAI pna cI 64 pn, oAJ pta cJ 64 pt] := hD
  have hl : lv_has ls 2 [(0, .ref pl)] := hl
  have hM : M_addRail rails pt pn = (K_addRail_1 rails pt pn) := rfl
  refine lv_aload_n hx hb dX3_addRail_0 rfl (lv_at hl 0 rfl) ?_
  refine lv_aload_n hx hb dX3_addRail_1 rfl (lv_at hl 0 rfl) ?_
  refine va_get (D := D) (ci := 2) (v := .int rails) (C := RX3) (T := TX3) (N := 6) hx hb hts (fun w h => tbC w (tbfX3 w h)) hown hK hP 0 rfl rfl 2 (by decide) (hts (.fieldLink RX3 19 "PowerRails$Plan" "rails" "I") (tbC _ wd205)) (fun _ h9 => h9) rfl dX3_addRail_2 ?_
  refine lv_iconst (v := 2) hx hb dX3_addRail_5 (by decide) ?_
  refine lv_iconst (v := 1) hx hb dX3_addRail_6 (by decide) ?_
  obtain ⟨hPc, hDc, hFc, hC9⟩ := xpk (wc := W_setNumber cI cJ cZ cG cH pl rails (2 : Int32) (1 : Int32) pna pta rails limit retry behind pn) hP hD hS hA [0, 1] (by decide +kernel) rfl
  refine va_callv (va_runV (As := [.int rails, .int 2, .int 1]) (rest := []) ⟨hx, hb, hml, hown, hts⟩ (c_setNumber l D cI cJ cZ cG cH s.heap.size pl rails (2 : Int32) (1 : Int32) pna pta rails limit retry behind pn (xrng rfl (by omega) (by omega)) ⟨by decide, by decide⟩ ⟨by decide, by decide⟩ (xrng rfl (by omega) (by omega)) (xwk_rng h_pn (by decide) (by decide))) (cwV 3 hts (xGV tbC wd329 wd330 wd331 wd59 wd984) rfl rfl rfl (by decide +kernel) ⟨Nat.le_of_ble_eq_true rfl, Nat.le_of_ble_eq_true rfl⟩) ⟨xPc_blind, va_recv hK hPc (ci := 2) (q0 := 0) rfl rfl, xPc_pre hPc hK hDc⟩ rfl rfl hl.1 rfl (lv_room (Nat.le_of_ble_eq_true rfl)) dX3_addRail_7 ⟨Nat.le_of_ble_eq_true rfl, Nat.le_of_ble_eq_true rfl⟩) hS (fun q _ h => hFc q h) hFc (fun u t H1 locs ht hvm hw1 hB hz1 hk1 hS => ?_)
  obtain ⟨pn_2, hf2_0, hf2_1, hP1, hK1, hD1⟩ := hB
  rw [ht] at hP1
  obtain ⟨hP, hD⟩ : xPD D A [oAJ pta cJ 64 pt, oX3 pl pna pta rails limit retry behind, oAI pna cI 64 pn_2] H1 := xjn 1 hP hD [0, 1] [2] hC9 rfl (by decide +kernel) (by decide +kernel) hk1 hFc hP1 hD1
  generalize H1 = H at hP hS ⊢
  have hf2_0 : ∀ j, j < 64 → 0 ≤ (pn_2 j).toInt ∧ (pn_2 j).toInt ≤ 511 := hf2_0
  have hf2_1 : M_setNumber pn rails (2 : Int32) (1 : Int32) = (pn_2) := hf2_1
  have h9M := congrArg (fun t9 => (K_addRail_2 rails pt t9)) hf2_1
  have hM : M_addRail rails pt pn = (K_addRail_2 rails pt pn_2) := (show M_addRail rails pt pn = ((fun t9 => (K_addRail_2 rails pt t9)) (M_setNumber pn rails (2 : Int32) (1 : Int32))) from hM).trans h9M
  refine lv_aload_n hx hb dX3_addRail_10 rfl (lv_at hl 0 rfl) ?_
  refine lv_aload_n hx hb dX3_addRail_11 rfl (lv_at hl 0 rfl) ?_
  refine va_get (D := D) (ci := 2) (v := .int rails) (C := RX3) (T := TX3) (N := 6) hx hb hts (fun w h => tbC w (tbfX3 w h)) hown hK hP 1 rfl rfl 2 (by decide) (hts (.fieldLink RX3 19 "PowerRails$Plan" "rails" "I") (tbC _ wd205)) (fun _ h9 => h9) rfl dX3_addRail_12 ?_
  refine lv_iconst (v := 3) hx hb dX3_addRail_15 (by decide) ?_
  refine lv_iconst (v := 1) hx hb dX3_addRail_16 (by decide) ?_
  obtain ⟨hPc, hDc, hFc, hC9⟩ := xpk (wc := W_setNumber cI cJ cZ cG cH pl rails (3 : Int32) (1 : Int32) pna pta rails limit retry behind pn_2) hP hD hS hA [1, 2] (by decide +kernel) rfl
  refine va_callv (va_runV (As := [.int rails, .int 3, .int 1]) (rest := []) ⟨hx, hb, hml, hown, hts⟩ (c_setNumber l D cI cJ cZ cG cH H.size pl rails (3 : Int32) (1 : Int32) pna pta rails limit retry behind pn_2 (xrng rfl (by omega) (by omega)) ⟨by decide, by decide⟩ ⟨by decide, by decide⟩ (xrng rfl (by omega) (by omega)) (xwk_rng hf2_0 (by decide) (by decide))) (cwV 3 hts (xGV tbC wd329 wd330 wd331 wd59 wd984) rfl rfl rfl (by decide +kernel) ⟨Nat.le_of_ble_eq_true rfl, Nat.le_of_ble_eq_true rfl⟩) ⟨xPc_blind, va_recv hK hPc (ci := 2) (q0 := 0) rfl rfl, xPc_pre hPc hK hDc⟩ rfl rfl hl.1 rfl (lv_room (Nat.le_of_ble_eq_true rfl)) dX3_addRail_17 ⟨Nat.le_of_ble_eq_true rfl, Nat.le_of_ble_eq_true rfl⟩) hS (fun q _ h => hFc q h) hFc (fun u t H1 locs ht hvm hw3 hB hz1 hk1 hS => ?_)
  obtain ⟨pn_4, hf4_0, hf4_1, hP1, hK1, hD1⟩ := hB
  rw [ht] at hP1
  obtain ⟨hP, hD⟩ : xPD D A [oAJ pta cJ 64 pt, oX3 pl pna pta rails limit retry behind, oAI pna cI 64 pn_4] H1 := xjn 1 hP hD [1, 2] [0] hC9 rfl (by decide +kernel) (by decide +kernel) hk1 hFc hP1 hD1
  generalize H1 = H at hP hS ⊢
  have hf4_0 : ∀ j, j < 64 → 0 ≤ (pn_4 j).toInt ∧ (pn_4 j).toInt ≤ 511 := hf4_0
  have hf4_1 : M_setNumber pn_2 rails (3 : Int32) (1 : Int32) = (pn_4) := hf4_1
  have h9M := congrArg (fun t9 => (K_addRail_3 rails pt t9)) hf4_1
  have hM : M_addRail rails pt pn = (K_addRail_3 rails pt pn_4) := (show M_addRail rails pt pn = ((fun t9 => (K_addRail_3 rails pt t9)) (M_setNumber pn_2 rails (3 : Int32) (1 : Int32))) from hM).trans h9M
  refine lv_aload_n hx hb dX3_addRail_20 rfl (lv_at hl 0 rfl) ?_
  refine lv_aload_n hx hb dX3_addRail_21 rfl (lv_at hl 0 rfl) ?_
  refine va_get (D := D) (ci := 2) (v := .int rails) (C := RX3) (T := TX3) (N := 6) hx hb hts (fun w h => tbC w (tbfX3 w h)) hown hK hP 1 rfl rfl 2 (by decide) (hts (.fieldLink RX3 19 "PowerRails$Plan" "rails" "I") (tbC _ wd205)) (fun _ h9 => h9) rfl dX3_addRail_22 ?_
  refine lv_iconst (v := 4) hx hb dX3_addRail_25 (by decide) ?_
  refine lv_iconst (v := 2) hx hb dX3_addRail_26 (by decide) ?_
  obtain ⟨hPc, hDc, hFc, hC9⟩ := xpk (wc := W_setNumber cI cJ cZ cG cH pl rails (4 : Int32) (2 : Int32) pna pta rails limit retry behind pn_4) hP hD hS hA [1, 2] (by decide +kernel) rfl
  refine va_callv (va_runV (As := [.int rails, .int 4, .int 2]) (rest := []) ⟨hx, hb, hml, hown, hts⟩ (c_setNumber l D cI cJ cZ cG cH H.size pl rails (4 : Int32) (2 : Int32) pna pta rails limit retry behind pn_4 (xrng rfl (by omega) (by omega)) ⟨by decide, by decide⟩ ⟨by decide, by decide⟩ (xrng rfl (by omega) (by omega)) (xwk_rng hf4_0 (by decide) (by decide))) (cwV 3 hts (xGV tbC wd329 wd330 wd331 wd59 wd984) rfl rfl rfl (by decide +kernel) ⟨Nat.le_of_ble_eq_true rfl, Nat.le_of_ble_eq_true rfl⟩) ⟨xPc_blind, va_recv hK hPc (ci := 2) (q0 := 0) rfl rfl, xPc_pre hPc hK hDc⟩ rfl rfl hl.1 rfl (lv_room (Nat.le_of_ble_eq_true rfl)) dX3_addRail_27 ⟨Nat.le_of_ble_eq_true rfl, Nat.le_of_ble_eq_true rfl⟩) hS (fun q _ h => hFc q h) hFc (fun u t H1 locs ht hvm hw5 hB hz1 hk1 hS => ?_)
  obtain ⟨pn_6, hf6_0, hf6_1, hP1, hK1, hD1⟩ := hB
  rw [ht] at hP1
  obtain ⟨hP, hD⟩ : xPD D A [oAJ pta cJ 64 pt, oX3 pl pna pta rails limit retry behind, oAI pna cI 64 pn_6] H1 := xjn 1 hP hD [1, 2] [0] hC9 rfl (by decide +kernel) (by decide +kernel) hk1 hFc hP1 hD1
  generalize H1 = H at hP hS ⊢
  have hf6_0 : ∀ j, j < 64 → 0 ≤ (pn_6 j).toInt ∧ (pn_6 j).toInt ≤ 511 := hf6_0
  have hf6_1 : M_setNumber pn_4 rails (4 : Int32) (2 : Int32) = (pn_6) := hf6_1
  have h9M := congrArg (fun t9 => (K_addRail_4 rails pt t9)) hf6_1
  have hM : M_addRail rails pt pn = (K_addRail_4 rails pt pn_6) := (show M_addRail rails pt pn = ((fun t9 => (K_addRail_4 rails pt t9)) (M_setNumber pn_4 rails (4 : Int32) (2 : Int32))) from hM).trans h9M
  refine lv_aload_n hx hb dX3_addRail_30 rfl (lv_at hl 0 rfl) ?_
  refine lv_aload_n hx hb dX3_addRail_31 rfl (lv_at hl 0 rfl) ?_
  refine va_get (D := D) (ci := 2) (v := .int rails) (C := RX3) (T := TX3) (N := 6) hx hb hts (fun w h => tbC w (tbfX3 w h)) hown hK hP 1 rfl rfl 2 (by decide) (hts (.fieldLink RX3 19 "PowerRails$Plan" "rails" "I") (tbC _ wd205)) (fun _ h9 => h9) rfl dX3_addRail_32 ?_
  refine lv_iconst (v := 5) hx hb dX3_addRail_35 (by decide) ?_
  refine lv_iconst (v := 0) hx hb dX3_addRail_36 (by decide) ?_
  obtain ⟨hPc, hDc, hFc, hC9⟩ := xpk (wc := W_setNumber cI cJ cZ cG cH pl rails (5 : Int32) (0 : Int32) pna pta rails limit retry behind pn_6) hP hD hS hA [1, 2] (by decide +kernel) rfl
  refine va_callv (va_runV (As := [.int rails, .int 5, .int 0]) (rest := []) ⟨hx, hb, hml, hown, hts⟩ (c_setNumber l D cI cJ cZ cG cH H.size pl rails (5 : Int32) (0 : Int32) pna pta rails limit retry behind pn_6 (xrng rfl (by omega) (by omega)) ⟨by decide, by decide⟩ ⟨by decide, by decide⟩ (xrng rfl (by omega) (by omega)) (xwk_rng hf6_0 (by decide) (by decide))) (cwV 3 hts (xGV tbC wd329 wd330 wd331 wd59 wd984) rfl rfl rfl (by decide +kernel) ⟨Nat.le_of_ble_eq_true rfl, Nat.le_of_ble_eq_true rfl⟩) ⟨xPc_blind, va_recv hK hPc (ci := 2) (q0 := 0) rfl rfl, xPc_pre hPc hK hDc⟩ rfl rfl hl.1 rfl (lv_room (Nat.le_of_ble_eq_true rfl)) dX3_addRail_37 ⟨Nat.le_of_ble_eq_true rfl, Nat.le_of_ble_eq_true rfl⟩) hS (fun q _ h => hFc q h) hFc (fun u t H1 locs ht hvm hw7 hB hz1 hk1 hS => ?_)
  obtain ⟨pn_8, hf8_0, hf8_1, hP1, hK1, hD1⟩ := hB
  rw [ht] at hP1
  obtain ⟨hP, hD⟩ : xPD D A [oAJ pta cJ 64 pt, oX3 pl pna pta rails limit retry behind, oAI pna cI 64 pn_8] H1 := xjn 1 hP hD [1, 2] [0] hC9 rfl (by decide +kernel) (by decide +kernel) hk1 hFc hP1 hD1
  generalize H1 = H at hP hS ⊢
  have hf8_0 : ∀ j, j < 64 → 0 ≤ (pn_8 j).toInt ∧ (pn_8 j).toInt ≤ 511 := hf8_0
  have hf8_1 : M_setNumber pn_6 rails (5 : Int32) (0 : Int32) = (pn_8) := hf8_1
  have h9M := congrArg (fun t9 => (K_addRail_5 rails pt t9)) hf8_1
  have hM : M_addRail rails pt pn = (K_addRail_5 rails pt pn_8) := (show M_addRail rails pt pn = ((fun t9 => (K_addRail_5 rails pt t9)) (M_setNumber pn_6 rails (5 : Int32) (0 : Int32))) from hM).trans h9M
  refine lv_aload_n hx hb dX3_addRail_40 rfl (lv_at hl 0 rfl) ?_
  refine lv_aload_n hx hb dX3_addRail_41 rfl (lv_at hl 0 rfl) ?_
  refine va_get (D := D) (ci := 2) (v := .int rails) (C := RX3) (T := TX3) (N := 6) hx hb hts (fun w h => tbC w (tbfX3 w h)) hown hK hP 1 rfl rfl 2 (by decide) (hts (.fieldLink RX3 19 "PowerRails$Plan" "rails" "I") (tbC _ wd205)) (fun _ h9 => h9) rfl dX3_addRail_42 ?_
  refine lv_bipush (v := 6) hx hb dX3_addRail_45 (by decide) ?_
  refine lv_iconst (v := 0) hx hb dX3_addRail_47 (by decide) ?_
  obtain ⟨hPc, hDc, hFc, hC9⟩ := xpk (wc := W_setNumber cI cJ cZ cG cH pl rails (6 : Int32) (0 : Int32) pna pta rails limit retry behind pn_8) hP hD hS hA [1, 2] (by decide +kernel) rfl
  refine va_callv (va_runV (As := [.int rails, .int 6, .int 0]) (rest := []) ⟨hx, hb, hml, hown, hts⟩ (c_setNumber l D cI cJ cZ cG cH H.size pl rails (6 : Int32) (0 : Int32) pna pta rails limit retry behind pn_8 (xrng rfl (by omega) (by omega)) ⟨by decide, by decide⟩ ⟨by decide, by decide⟩ (xrng rfl (by omega) (by omega)) (xwk_rng hf8_0 (by decide) (by decide))) (cwV 3 hts (xGV tbC wd329 wd330 wd331 wd59 wd984) rfl rfl rfl (by decide +kernel) ⟨Nat.le_of_ble_eq_true rfl, Nat.le_of_ble_eq_true rfl⟩) ⟨xPc_blind, va_recv hK hPc (ci := 2) (q0 := 0) rfl rfl, xPc_pre hPc hK hDc⟩ rfl rfl hl.1 rfl (lv_room (Nat.le_of_ble_eq_true rfl)) dX3_addRail_48 ⟨Nat.le_of_ble_eq_true rfl, Nat.le_of_ble_eq_true rfl⟩) hS (fun q _ h => hFc q h) hFc (fun u t H1 locs ht hvm hw9 hB hz1 hk1 hS => ?_)
  obtain ⟨pn_10, hf10_0, hf10_1, hP1, hK1, hD1⟩ := hB
  rw [ht] at hP1
  obtain ⟨hP, hD⟩ : xPD D A [oAJ pta cJ 64 pt, oX3 pl pna pta rails limit retry behind, oAI pna cI 64 pn_10] H1 := xjn 1 hP hD [1, 2] [0] hC9 rfl (by decide +kernel) (by decide +kernel) hk1 hFc hP1 hD1
  generalize H1 = H at hP hS ⊢
  have hf10_0 : ∀ j, j < 64 → 0 ≤ (pn_10 j).toInt ∧ (pn_10 j).toInt ≤ 511 := hf10_0
  have hf10_1 : M_setNumber pn_8 rails (6 : Int32) (0 : Int32) = (pn_10) := hf10_1
  have h9M := congrArg (fun t9 => (K_addRail_6 rails pt t9)) hf10_1
  have hM : M_addRail rails pt pn = (K_addRail_6 rails pt pn_10) := (show M_addRail rails pt pn = ((fun t9 => (K_addRail_6 rails pt t9)) (M_setNumber pn_8 rails (6 : Int32) (0 : Int32))) from hM).trans h9M
  refine lv_aload_n hx hb dX3_addRail_51 rfl (lv_at hl 0 rfl) ?_
  refine lv_aload_n hx hb dX3_addRail_52 rfl (lv_at hl 0 rfl) ?_
  refine va_get (D := D) (ci := 2) (v := .int rails) (C := RX3) (T := TX3) (N := 6) hx hb hts (fun w h => tbC w (tbfX3 w h)) hown hK hP 1 rfl rfl 2 (by decide) (hts (.fieldLink RX3 19 "PowerRails$Plan" "rails" "I") (tbC _ wd205)) (fun _ h9 => h9) rfl dX3_addRail_53 ?_
  refine lv_bipush (v := 7) hx hb dX3_addRail_56 (by decide) ?_
  refine lv_sipush (v := 256) hx hb dX3_addRail_58 (by decide) ?_
  obtain ⟨hPc, hDc, hFc, hC9⟩ := xpk (wc := W_setNumber cI cJ cZ cG cH pl rails (7 : Int32) (256 : Int32) pna pta rails limit retry behind pn_10) hP hD hS hA [1, 2] (by decide +kernel) rfl
  refine va_callv (va_runV (As := [.int rails, .int 7, .int 256]) (rest := []) ⟨hx, hb, hml, hown, hts⟩ (c_setNumber l D cI cJ cZ cG cH H.size pl rails (7 : Int32) (256 : Int32) pna pta rails limit retry behind pn_10 (xrng rfl (by omega) (by omega)) ⟨by decide, by decide⟩ ⟨by decide, by decide⟩ (xrng rfl (by omega) (by omega)) (xwk_rng hf10_0 (by decide) (by decide))) (cwV 3 hts (xGV tbC wd329 wd330 wd331 wd59 wd984) rfl rfl rfl (by decide +kernel) ⟨Nat.le_of_ble_eq_true rfl, Nat.le_of_ble_eq_true rfl⟩) ⟨xPc_blind, va_recv hK hPc (ci := 2) (q0 := 0) rfl rfl, xPc_pre hPc hK hDc⟩ rfl rfl hl.1 rfl (lv_room (Nat.le_of_ble_eq_true rfl)) dX3_addRail_61 ⟨Nat.le_of_ble_eq_true rfl, Nat.le_of_ble_eq_true rfl⟩) hS (fun q _ h => hFc q h) hFc (fun u t H1 locs ht hvm hw11 hB hz1 hk1 hS => ?_)
  obtain ⟨pn_12, hf12_0, hf12_1, hP1, hK1, hD1⟩ := hB
  rw [ht] at hP1
  obtain ⟨hP, hD⟩ : xPD D A [oAJ pta cJ 64 pt, oX3 pl pna pta rails limit retry behind, oAI pna cI 64 pn_12] H1 := xjn 1 hP hD [1, 2] [0] hC9 rfl (by decide +kernel) (by decide +kernel) hk1 hFc hP1 hD1
  generalize H1 = H at hP hS ⊢
  have hf12_0 : ∀ j, j < 64 → 0 ≤ (pn_12 j).toInt ∧ (pn_12 j).toInt ≤ 511 := hf12_0
  have hf12_1 : M_setNumber pn_10 rails (7 : Int32) (256 : Int32) = (pn_12) := hf12_1
  have h9M := congrArg (fun t9 => (K_addRail_7 rails t9 pt)) hf12_1
  have hM : M_addRail rails pt pn = (K_addRail_7 rails pn_12 pt) := (show M_addRail rails pt pn = ((fun t9 => (K_addRail_7 rails t9 pt)) (M_setNumber pn_10 rails (7 : Int32) (256 : Int32))) from hM).trans h9M
  refine lv_iconst (v := 0) hx hb dX3_addRail_64 (by decide) ?_
  refine lv_istore_n (lv' := [(1, .int 0), (0, .ref pl)]) hx hb dX3_addRail_65 rfl hl (by decide) rfl (fun ls hl => ?_)
  have hl38 : ∀ (nhl38 : Nat) (x36 : Int32) (f37 : Nat → Int64), ((8 - x36.toInt).toNat < nhl38) → (hx36 : 0 ≤ x36.toInt ∧ x36.toInt ≤ 8) → (hM : M_addRail rails pt pn = (K_addRail_L8 rails pn_12 nhl38 x36 f37)) → ∀ (H : Heap) (locs : List Loc), va_P D vwCl [oAJ pta cJ 64 f37, oX3 pl pna pta rails limit retry behind, oAI pna cI 64 pn_12] H → va_D A [oAJ pta cJ 64 f37, oX3 pl pna pta rails limit retry behind, oAI pna cI 64 pn_12] → va_S A s.heap H locs → ∀ (ls : Array Slot), lv_has ls 2 [(1, .int x36), (0, .ref pl)] → W p l e rm_addRail s m [Value.ref pl].toArray below meth c H locs 0 0 (MQ below ((Q_addRail D cI cJ cZ cG cH pl pna pta rails limit retry behind pn pt) A) [Value.ref pl].toArray s 0 0 A) (F0 m 66 ls []) := by
    intro nhl38
    induction nhl38 with
    | zero =>
      intro x36 f37 hmhl38
      exact absurd hmhl38 (Nat.not_lt_zero _)
    | succ nhl38 ihhl38 =>
      intro x36 f37 hmhl38 hx36 hM H locs hP hD hS ls hl
      have hM : M_addRail rails pt pn = (K_addRail_8 x36 rails pn_12 f37 (K_addRail_L8 rails pn_12 nhl38)) := hM
      refine lv_iload_n hx hb dX3_addRail_66 rfl (lv_at hl 0 rfl) ?_
      refine lv_bipush (v := 8) hx hb dX3_addRail_67 (by decide) ?_
      refine lv_icmp_ge (tgt := 104) hx hb dX3_addRail_69 (by decide) (fun c_39 => ?_) (fun c_39 => ?_)
      · skip
        have i_39 : 8 ≤ x36.toInt := (ile (by decide) rfl).mp c_39
        have hM : M_addRail rails pt pn = (K_addRail_9 rails pn_12 f37) := (show M_addRail rails pt pn = (if 8 ≤ x36.toInt then (K_addRail_9 rails pn_12 f37) else (K_addRail_10 x36 (K_addRail_L8 rails pn_12 nhl38) f37 rails)) from hM).trans (if_pos i_39)
        refine lv_aload_n hx hb dX3_addRail_104 rfl (lv_at hl 1 rfl) ?_
        refine lv_dup hx hb dX3_addRail_105 rfl ?_
        refine va_get (D := D) (ci := 2) (v := .int rails) (C := RX3) (T := TX3) (N := 6) hx hb hts (fun w h => tbC w (tbfX3 w h)) hown hK hP 1 rfl rfl 2 (by decide) (hts (.fieldLink RX3 19 "PowerRails$Plan" "rails" "I") (tbC _ wd205)) (fun _ h9 => h9) rfl dX3_addRail_106 ?_
        refine lv_iconst (v := 1) hx hb dX3_addRail_109 (by decide) ?_
        refine lv_iadd hx hb dX3_addRail_110 ?_
        refine lv_topi (fun v40 ev40 => ?_)
        have tv40 : v40.toInt = (rails.toInt + 1) := (congrArg Int32.toInt ev40).trans (xadd rfl (by decide) (by omega) (by omega))
        refine va_put (D := D) (ci := 2) (v := .int v40) (ty := .int) (C := RX3) (T := TX3) (N := 6) hx hb hts (fun w h => tbC w (tbfX3 w h)) tyX3 tyX3_ok nmX3 hown hK hP hD hS 1 rfl rfl 2 (by decide) (hts (.fieldLink RX3 19 "PowerRails$Plan" "rails" "I") (tbC _ wd205)) (fun _ h9 => h9) rfl (by decide +kernel) rfl rfl (Nat.le_of_ble_eq_true rfl) dX3_addRail_111 (fun H locs hP hD hS => ?_)
        obtain ⟨hP, hD⟩ : xPD D A [oAJ pta cJ 64 f37, oX3 pl pna pta v40 limit retry behind, oAI pna cI 64 pn_12] H := ⟨hP, hD⟩
        refine W.widen (k := 0) (n := 0) (by decide) (by decide) ?_
        exact W.vret hx hb hr (fun t ht hW => ⟨⟨(), rfl, trivial, ⟨v40, pn_12, f37, (xrng tv40 (by omega) (by omega)), (xwk_rng hf12_0 (by decide) (by decide)), (by rw [ev40]; exact hM), xB_of9 ht hW hP hK hD [1, 2, 0] (by decide +kernel) rfl⟩⟩, hS.F ht⟩) hS.2.2 dX3_addRail_114
      · skip
        have i_39 : ¬ (8 ≤ x36.toInt) := fun h9 => c_39 ((ile (by decide) rfl).mpr h9)
        have hM : M_addRail rails pt pn = (K_addRail_10 x36 (K_addRail_L8 rails pn_12 nhl38) f37 rails) := (show M_addRail rails pt pn = (if 8 ≤ x36.toInt then (K_addRail_9 rails pn_12 f37) else (K_addRail_10 x36 (K_addRail_L8 rails pn_12 nhl38) f37 rails)) from hM).trans (if_neg i_39)
        refine lv_aload_n hx hb dX3_addRail_72 rfl (lv_at hl 1 rfl) ?_
        refine va_get (D := D) (ci := 2) (v := .ref pta) (C := RX3) (T := TX3) (N := 6) hx hb hts (fun w h => tbC w (tbfX3 w h)) hown hK hP 1 rfl rfl 1 (by decide) (hts (.fieldLink RX3 15 "PowerRails$Plan" "tables" "[J") (tbC _ wd203)) (fun _ h9 => h9) rfl dX3_addRail_73 ?_
        refine lv_aload_n hx hb dX3_addRail_76 rfl (lv_at hl 1 rfl) ?_
        refine va_get (D := D) (ci := 2) (v := .int rails) (C := RX3) (T := TX3) (N := 6) hx hb hts (fun w h => tbC w (tbfX3 w h)) hown hK hP 1 rfl rfl 2 (by decide) (hts (.fieldLink RX3 19 "PowerRails$Plan" "rails" "I") (tbC _ wd205)) (fun _ h9 => h9) rfl dX3_addRail_77 ?_
        refine lv_bipush (v := 8) hx hb dX3_addRail_80 (by decide) ?_
        refine lv_imul hx hb dX3_addRail_82 ?_
        refine lv_topi (fun v41 ev41 => ?_)
        have tv41 : v41.toInt = (rails.toInt * 8) := (congrArg Int32.toInt ev41).trans (xmul rfl (by decide) (by omega) (by omega))
        refine lv_iload_n hx hb dX3_addRail_83 rfl (lv_at hl 0 rfl) ?_
        refine lv_iadd hx hb dX3_addRail_84 ?_
        refine lv_topi (fun v42 ev42 => ?_)
        have tv42 : v42.toInt = ((rails.toInt * 8) + x36.toInt) := (congrArg Int32.toInt ev42).trans (xadd tv41 rfl (by omega) (by omega))
        refine lv_iload_n hx hb dX3_addRail_85 rfl (lv_at hl 0 rfl) ?_
        refine lv_iconst (v := 4) hx hb dX3_addRail_86 (by decide) ?_
        refine lv_icmp_lt (tgt := 96) hx hb dX3_addRail_87 (by decide) (fun c_43 => ?_) (fun c_43 => ?_)
        · skip
          have i_43 : x36.toInt < 4 := (ilt rfl (by decide)).mp c_43
          have hM : M_addRail rails pt pn = (K_addRail_11 (K_addRail_L8 rails pn_12 nhl38) x36 f37 v42) := (show M_addRail rails pt pn = (if x36.toInt < 4 then (K_addRail_11 (K_addRail_L8 rails pn_12 nhl38) x36 f37 v42) else (K_addRail_12 (K_addRail_L8 rails pn_12 nhl38) x36 f37 v42)) from (by rw [ev42, ev41]; exact hM)).trans (if_pos i_43)
          refine lv_lconst (v := 0) hx hb dX3_addRail_96 (by decide) ?_
          refine va_last hx hb hK hP hD hS 0 1 rfl rfl (vp_in_iff.mpr (by rw [tv42]; omega)) dX3_addRail_97 (fun H locs hP hD hS => ?_)
          obtain ⟨f44, ef44⟩ : ∃ fz9 : Nat → Int64, fz9 = vp_updL f37 (v42 : Int32).toNatClampNeg 0 := ⟨_, rfl⟩
          have hP : va_P D vwCl [oAJ pta cJ 64 f44, oX3 pl pna pta rails limit retry behind, oAI pna cI 64 pn_12] H := by rw [ef44]; exact hP
          have hD : va_D A [oAJ pta cJ 64 f44, oX3 pl pna pta rails limit retry behind, oAI pna cI 64 pn_12] := by rw [ef44]; exact hD
          obtain ⟨x45, ex45⟩ : ∃ y : Int32, y = x36 + 1 := ⟨_, rfl⟩
          have tx45 : x45.toInt = (x36.toInt + 1) := (congrArg Int32.toInt ex45).trans (xadd rfl (by decide) (by omega) (by omega))
          refine lv_iinc (v := x45) (lv' := [(1, .int x45), (0, .ref pl)]) hx hb dX3_addRail_98 hl (k := 0) rfl (by rw [ex45]; rfl) (by decide) rfl (fun ls hl => ?_)
          refine lv_goto (tgt := 66) hx hb dX3_addRail_101 (by decide) ?_
          exact ihhl38 x45 f44 (by omega) (xrng tx45 (by omega) (by omega)) (by rw [ex45, ef44]; exact hM) _ _ hP hD hS ls (lv_sub hl [0, 1] rfl)
        · skip
          have i_43 : ¬ (x36.toInt < 4) := fun h9 => c_43 ((ilt rfl (by decide)).mpr h9)
          have hM : M_addRail rails pt pn = (K_addRail_12 (K_addRail_L8 rails pn_12 nhl38) x36 f37 v42) := (show M_addRail rails pt pn = (if x36.toInt < 4 then (K_addRail_11 (K_addRail_L8 rails pn_12 nhl38) x36 f37 v42) else (K_addRail_12 (K_addRail_L8 rails pn_12 nhl38) x36 f37 v42)) from (by rw [ev42, ev41]; exact hM)).trans (if_neg i_43)
          refine lv_ldc2 (v := (-1)) hx hb hown (hts (.constantLong RX3 36 (-1)) (tbC _ wd332)) dX3_addRail_90 ?_
          refine lv_goto (tgt := 97) hx hb dX3_addRail_93 (by decide) ?_
          refine va_last hx hb hK hP hD hS 0 1 rfl rfl (vp_in_iff.mpr (by rw [tv42]; omega)) dX3_addRail_97 (fun H locs hP hD hS => ?_)
          obtain ⟨f46, ef46⟩ : ∃ fz9 : Nat → Int64, fz9 = vp_updL f37 (v42 : Int32).toNatClampNeg (-1) := ⟨_, rfl⟩
          have hP : va_P D vwCl [oAJ pta cJ 64 f46, oX3 pl pna pta rails limit retry behind, oAI pna cI 64 pn_12] H := by rw [ef46]; exact hP
          have hD : va_D A [oAJ pta cJ 64 f46, oX3 pl pna pta rails limit retry behind, oAI pna cI 64 pn_12] := by rw [ef46]; exact hD
          obtain ⟨x47, ex47⟩ : ∃ y : Int32, y = x36 + 1 := ⟨_, rfl⟩
          have tx47 : x47.toInt = (x36.toInt + 1) := (congrArg Int32.toInt ex47).trans (xadd rfl (by decide) (by omega) (by omega))
          refine lv_iinc (v := x47) (lv' := [(1, .int x47), (0, .ref pl)]) hx hb dX3_addRail_98 hl (k := 0) rfl (by rw [ex47]; rfl) (by decide) rfl (fun ls hl => ?_)
          refine lv_goto (tgt := 66) hx hb dX3_addRail_101 (by decide) ?_
          exact ihhl38 x47 f46 (by omega) (xrng tx47 (by omega) (by omega)) (by rw [ex47, ef46]; exact hM) _ _ hP hD hS ls (lv_sub hl [0, 1] rfl)
  exact hl38 100000 0 pt (by have z9_0 : (0 : Int32).toInt = 0 := (by decide); omega) ⟨by decide, by decide⟩ hM _ _ hP hD hS ls (lv_sub hl [0, 1] rfl)
def K_pSetWaits_3 (f20 : Nat → Int32) : (Nat → Int32) := (f20)
def K_pSetWaits_5 (rec_2 : (Int32) → (Nat → Int32) → ((Nat → Int32))) (x19 : Int32) (pn_25 : Nat → Int32) : (Nat → Int32) := (rec_2 (x19 + 1) pn_25)
def K_pSetWaits_4 (rec_2 : (Int32) → (Nat → Int32) → ((Nat → Int32))) (x19 : Int32) (f20 : Nat → Int32) (srow : Nat → Int32) : (Nat → Int32) := ((fun t9 => (K_pSetWaits_5 rec_2 x19 t9)) (M_setNumber f20 x19 (5 : Int32) (srow x19.toNatClampNeg)))
def K_pSetWaits_2 (rails : Int32) (x19 : Int32) (f20 : Nat → Int32) (rec_2 : (Int32) → (Nat → Int32) → ((Nat → Int32))) (srow : Nat → Int32) : (Nat → Int32) := (if rails.toInt ≤ x19.toInt then (K_pSetWaits_3 f20) else (K_pSetWaits_4 rec_2 x19 f20 srow))
def K_pSetWaits_L2 (rails : Int32) (srow : Nat → Int32) : Nat → (Int32) → (Nat → Int32) → (Nat → Int32)
  | 0, _, _ => (fun _ => 0)
  | n9 + 1, x19, f20 => (K_pSetWaits_2 rails x19 f20 (K_pSetWaits_L2 rails srow n9) srow)
def K_pSetWaits_1 (rails : Int32) (srow : Nat → Int32) (pn : Nat → Int32) : (Nat → Int32) := (K_pSetWaits_L2 rails srow 100000 (0 : Int32) pn)
def M_pSetWaits (rails : Int32) (srow : Nat → Int32) (pn : Nat → Int32) : (Nat → Int32) := (K_pSetWaits_1 rails srow pn)
abbrev W_pSetWaits (cI cJ cZ cG cH : ClassId) (pl : Nat) (srwa : Nat) (pna : Nat) (pta : Nat) (rails : Int32) (limit : Int32) (retry : Int32) (behind : Int32) (pn : Nat → Int32) (srow : Nat → Int32) : va_W := [oX3 pl pna pta rails limit retry behind, oAI pna cI 64 pn, oAI srwa cI 8 srow]
abbrev Q_pSetWaits (D : va_G) (cI cJ cZ cG cH : ClassId) (pl : Nat) (srwa : Nat) (pna : Nat) (pta : Nat) (rails : Int32) (limit : Int32) (retry : Int32) (behind : Int32) (pn : Nat → Int32) (srow : Nat → Int32) (A : Nat → Prop) : Array Value → State → Outcome → State → Prop := va_Qv (fun (_ : Unit) => True) (fun _ t => ∃ (pn9 : Nat → Int32), (∀ j, j < 64 → 0 ≤ (pn9 j).toInt ∧ (pn9 j).toInt ≤ 511) ∧ (M_pSetWaits rails srow pn = (pn9)) ∧ xB D (tyL cI cJ cZ cG cH) [oX3 pl pna pta rails limit retry behind, oAI pna cI 64 pn9, oAI srwa cI 8 srow] A t) A
abbrev rm_pSetWaits : Room := { frames := 1, cells := 0, slots := 0, locals := 23 }
set_option maxRecDepth 100000 in
set_option maxHeartbeats 40000000 in
theorem c_pSetWaits (l : Launch) (D : va_G) (cI cJ cZ cG cH : ClassId) (sz : Nat) (pl : Nat) (srwa : Nat) (pna : Nat) (pta : Nat) (rails : Int32) (limit : Int32) (retry : Int32) (behind : Int32) (pn : Nat → Int32) (srow : Nat → Int32) (h_rails : 0 ≤ rails.toInt ∧ rails.toInt ≤ 8) (h_pn : ∀ j, j < 64 → 0 ≤ (pn j).toInt ∧ (pn j).toInt ≤ 511) (h_srow : ∀ j, j < 8 → 0 ≤ (srow j).toInt ∧ (srow j).toInt ≤ 511) : Met l yX3_setWaits (wt yX3_setWaits cX3_setWaits 3 none) rm_pSetWaits (xPc [.ref pl, .ref srwa] D (tyL cI cJ cZ cG cH) (W_pSetWaits cI cJ cZ cG cH pl srwa pna pta rails limit retry behind pn srow) sz) (Q_pSetWaits D cI cJ cZ cG cH pl srwa pna pta rails limit retry behind pn srow (va_A (W_pSetWaits cI cJ cZ cG cH pl srwa pna pta rails limit retry behind pn srow) sz)) 0 0 (va_A (W_pSetWaits cI cJ cZ cG cH pl srwa pna pta rails limit retry behind pn srow) sz) := by
  refine xMet (cc := cX3_setWaits) (maxL := 3) (ret := none) (Qf := Q_pSetWaits D cI cJ cZ cG cH pl srwa pna pta rails limit retry behind pn srow) (by decide) rfl (Nat.le_of_ble_eq_true rfl) ?_
  intro p e s m below meth c ls A hx hb hr hml hts hown hlocks hnm hsz hP hK hD hA hS hl
  have hown : s.vm.findClass RX3 = some m.cls := hown
  have hP : va_P D vwCl [oX3 pl pna pta rails limit retry behind, oAI pna cI 64 pn, oAI srwa cI 8 srow] s.heap := hP
  have hD : va_D A [oX3 pl pna pta rails limit retry behind, oAI pna cI 64 pn, oAI srwa cI 8 srow] := hD
  have hl : lv_has ls 3 [(0, .ref pl), (1, .ref srwa)] := hl
  have hM : M_pSetWaits rails srow pn = (K_pSetWaits_1 rails srow pn) := rfl
  refine lv_iconst (v := 0) hx hb dX3_setWaits_0 (by decide) ?_
  refine lv_istore_n (lv' := [(2, .int 0), (0, .ref pl), (1, .ref srwa)]) hx hb dX3_setWaits_1 rfl hl (by decide) rfl (fun ls hl => ?_)
  have hl21 : ∀ (nhl21 : Nat) (x19 : Int32) (f20 : Nat → Int32), ((8 - x19.toInt).toNat < nhl21) → (hx19 : 0 ≤ x19.toInt ∧ x19.toInt ≤ 8) → (hf20 : ∀ j, j < 64 → 0 ≤ (f20 j).toInt ∧ (f20 j).toInt ≤ 511) → (hM : M_pSetWaits rails srow pn = (K_pSetWaits_L2 rails srow nhl21 x19 f20)) → ∀ (H : Heap) (locs : List Loc), va_P D vwCl [oX3 pl pna pta rails limit retry behind, oAI pna cI 64 f20, oAI srwa cI 8 srow] H → va_D A [oX3 pl pna pta rails limit retry behind, oAI pna cI 64 f20, oAI srwa cI 8 srow] → va_S A s.heap H locs → ∀ (ls : Array Slot), lv_has ls 3 [(2, .int x19), (0, .ref pl), (1, .ref srwa)] → W p l e rm_pSetWaits s m [Value.ref pl, Value.ref srwa].toArray below meth c H locs 0 0 (MQ below ((Q_pSetWaits D cI cJ cZ cG cH pl srwa pna pta rails limit retry behind pn srow) A) [Value.ref pl, Value.ref srwa].toArray s 0 0 A) (F0 m 2 ls []) := by
    intro nhl21
    induction nhl21 with
    | zero =>
      intro x19 f20 hmhl21
      exact absurd hmhl21 (Nat.not_lt_zero _)
    | succ nhl21 ihhl21 =>
      intro x19 f20 hmhl21 hx19 hf20 hM H locs hP hD hS ls hl
      have hM : M_pSetWaits rails srow pn = (K_pSetWaits_2 rails x19 f20 (K_pSetWaits_L2 rails srow nhl21) srow) := hM
      refine lv_iload_n hx hb dX3_setWaits_2 rfl (lv_at hl 0 rfl) ?_
      refine lv_aload_n hx hb dX3_setWaits_3 rfl (lv_at hl 1 rfl) ?_
      refine va_get (D := D) (ci := 2) (v := .int rails) (C := RX3) (T := TX3) (N := 6) hx hb hts (fun w h => tbC w (tbfX3 w h)) hown hK hP 0 rfl rfl 2 (by decide) (hts (.fieldLink RX3 19 "PowerRails$Plan" "rails" "I") (tbC _ wd205)) (fun _ h9 => h9) rfl dX3_setWaits_4 ?_
      refine lv_icmp_ge (tgt := 25) hx hb dX3_setWaits_7 (by decide) (fun c_22 => ?_) (fun c_22 => ?_)
      · skip
        have i_22 : rails.toInt ≤ x19.toInt := (ile rfl rfl).mp c_22
        have hM : M_pSetWaits rails srow pn = (K_pSetWaits_3 f20) := (show M_pSetWaits rails srow pn = (if rails.toInt ≤ x19.toInt then (K_pSetWaits_3 f20) else (K_pSetWaits_4 (K_pSetWaits_L2 rails srow nhl21) x19 f20 srow)) from hM).trans (if_pos i_22)
        refine W.widen (k := 0) (n := 0) (by decide) (by decide) ?_
        exact W.vret hx hb hr (fun t ht hW => ⟨⟨(), rfl, trivial, ⟨f20, (xwk_rng hf20 (by decide) (by decide)), hM, xB_of9 ht hW hP hK hD [0, 1, 2] (by decide +kernel) rfl⟩⟩, hS.F ht⟩) hS.2.2 dX3_setWaits_25
      · skip
        have i_22 : ¬ (rails.toInt ≤ x19.toInt) := fun h9 => c_22 ((ile rfl rfl).mpr h9)
        have hM : M_pSetWaits rails srow pn = (K_pSetWaits_4 (K_pSetWaits_L2 rails srow nhl21) x19 f20 srow) := (show M_pSetWaits rails srow pn = (if rails.toInt ≤ x19.toInt then (K_pSetWaits_3 f20) else (K_pSetWaits_4 (K_pSetWaits_L2 rails srow nhl21) x19 f20 srow)) from hM).trans (if_neg i_22)
        refine lv_aload_n hx hb dX3_setWaits_10 rfl (lv_at hl 1 rfl) ?_
        refine lv_iload_n hx hb dX3_setWaits_11 rfl (lv_at hl 0 rfl) ?_
        refine lv_iconst (v := 5) hx hb dX3_setWaits_12 (by decide) ?_
        refine lv_aload_n hx hb dX3_setWaits_13 rfl (lv_at hl 2 rfl) ?_
        refine lv_iload_n hx hb dX3_setWaits_14 rfl (lv_at hl 0 rfl) ?_
        refine va_iald hx hb hK hP 2 0 rfl rfl (vp_in_iff.mpr ⟨by omega, by omega⟩) dX3_setWaits_15 ?_
        refine lv_topi (fun v23 ev23 => ?_)
        have rv23 : 0 ≤ v23.toInt ∧ v23.toInt ≤ 511 := xrd ev23 h_srow (xinK (vp_in_iff.mpr ⟨by omega, by omega⟩))
        obtain ⟨hPc, hDc, hFc, hC9⟩ := xpk (wc := W_setNumber cI cJ cZ cG cH pl x19 (5 : Int32) v23 pna pta rails limit retry behind f20) hP hD hS hA [0, 1] (by decide +kernel) rfl
        refine va_callv (va_runV (As := [.int x19, .int 5, .int v23]) (rest := []) ⟨hx, hb, hml, hown, hts⟩ (c_setNumber l D cI cJ cZ cG cH H.size pl x19 (5 : Int32) v23 pna pta rails limit retry behind f20 (xrng rfl (by omega) (by omega)) ⟨by decide, by decide⟩ (xrng rfl (by omega) (by omega)) (xrng rfl (by omega) (by omega)) (xwk_rng hf20 (by decide) (by decide))) (cwV 3 hts (xGV tbC wd329 wd330 wd331 wd59 wd984) rfl rfl rfl (by decide +kernel) ⟨Nat.le_of_ble_eq_true rfl, Nat.le_of_ble_eq_true rfl⟩) ⟨xPc_blind, va_recv hK hPc (ci := 2) (q0 := 0) rfl rfl, xPc_pre hPc hK hDc⟩ rfl rfl hl.1 rfl (lv_room (Nat.le_of_ble_eq_true rfl)) dX3_setWaits_16 ⟨Nat.le_of_ble_eq_true rfl, Nat.le_of_ble_eq_true rfl⟩) hS (fun q _ h => hFc q h) hFc (fun u t H1 locs ht hvm hw24 hB hz1 hk1 hS => ?_)
        obtain ⟨pn_25, hf25_0, hf25_1, hP1, hK1, hD1⟩ := hB
        rw [ht] at hP1
        obtain ⟨hP, hD⟩ : xPD D A [oAI srwa cI 8 srow, oX3 pl pna pta rails limit retry behind, oAI pna cI 64 pn_25] H1 := xjn 1 hP hD [0, 1] [2] hC9 rfl (by decide +kernel) (by decide +kernel) hk1 hFc hP1 hD1
        generalize H1 = H at hP hS ⊢
        have hf25_0 : ∀ j, j < 64 → 0 ≤ (pn_25 j).toInt ∧ (pn_25 j).toInt ≤ 511 := hf25_0
        have hf25_1 : M_setNumber f20 x19 (5 : Int32) v23 = (pn_25) := hf25_1
        have h9M := congrArg (fun t9 => (K_pSetWaits_5 (K_pSetWaits_L2 rails srow nhl21) x19 t9)) hf25_1
        have hM : M_pSetWaits rails srow pn = (K_pSetWaits_5 (K_pSetWaits_L2 rails srow nhl21) x19 pn_25) := (show M_pSetWaits rails srow pn = ((fun t9 => (K_pSetWaits_5 (K_pSetWaits_L2 rails srow nhl21) x19 t9)) (M_setNumber f20 x19 (5 : Int32) v23)) from (by rw [ev23]; exact hM)).trans h9M
        obtain ⟨x26, ex26⟩ : ∃ y : Int32, y = x19 + 1 := ⟨_, rfl⟩
        have tx26 : x26.toInt = (x19.toInt + 1) := (congrArg Int32.toInt ex26).trans (xadd rfl (by decide) (by omega) (by omega))
        refine lv_iinc (v := x26) (lv' := [(2, .int x26), (0, .ref pl), (1, .ref srwa)]) hx hb dX3_setWaits_19 hl (k := 0) rfl (by rw [ex26]; rfl) (by decide) rfl (fun ls hl => ?_)
        refine lv_goto (tgt := 2) hx hb dX3_setWaits_22 (by decide) ?_
        obtain ⟨hP, hD⟩ := xsb (ws' := [oX3 pl pna pta rails limit retry behind, oAI pna cI 64 pn_25, oAI srwa cI 8 srow]) hP hD [1, 2, 0] (by decide +kernel) rfl
        exact ihhl21 x26 pn_25 (by omega) (xrng tx26 (by omega) (by omega)) (xwk_rng hf25_0 (by decide) (by decide)) (by rw [ex26]; exact hM) _ _ hP hD hS ls (lv_sub hl [0, 1, 2] rfl)
  exact hl21 100000 0 pn (by have z9_0 : (0 : Int32).toInt = 0 := (by decide); omega) ⟨by decide, by decide⟩ (xwk_rng h_pn (by decide) (by decide)) hM _ _ hP hD hS ls (lv_sub hl [0, 1, 2] rfl)
