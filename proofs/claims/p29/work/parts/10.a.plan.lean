abbrev W_pReset (cI cJ cZ cG cH : ClassId) (pl : Nat) (pna : Nat) (pta : Nat) (rails : Int32) (limit : Int32) (retry : Int32) (behind : Int32) : va_W := [(pl, .inr (2, [.ref pna, .ref pta, .int rails, .int limit, .int retry, .int behind]))]
abbrev Q_pReset (D : va_G) (cI cJ cZ cG cH : ClassId) (pl : Nat) (pna : Nat) (pta : Nat) (rails : Int32) (limit : Int32) (retry : Int32) (behind : Int32) (A : Nat → Prop) : Array Value → State → Outcome → State → Prop := va_Qv (fun (_ : Unit) => True) (fun _ t => xB D (tyL cI cJ cZ cG cH) [(pl, .inr (2, [.ref pna, .ref pta, .int 0, .int 999, .int 0, .int 5]))] A t) A
abbrev rm_pReset : Room := { frames := 0, cells := 0, slots := 0, locals := 0 }
set_option maxRecDepth 100000 in
set_option maxHeartbeats 4000000 in
theorem c_pReset (l : Launch) (D : va_G) (cI cJ cZ cG cH : ClassId) (sz : Nat) (pl : Nat) (pna : Nat) (pta : Nat) (rails : Int32) (limit : Int32) (retry : Int32) (behind : Int32) (h_rails : 0 ≤ rails.toInt ∧ rails.toInt ≤ 8) : Met l yX3_reset (wt yX3_reset cX3_reset 1 none) rm_pReset (xPc [.ref pl] D (tyL cI cJ cZ cG cH) (W_pReset cI cJ cZ cG cH pl pna pta rails limit retry behind) sz) (Q_pReset D cI cJ cZ cG cH pl pna pta rails limit retry behind (va_A (W_pReset cI cJ cZ cG cH pl pna pta rails limit retry behind) sz)) 0 0 (va_A (W_pReset cI cJ cZ cG cH pl pna pta rails limit retry behind) sz) := by
  refine xMet (cc := cX3_reset) (maxL := 1) (ret := none) (Qf := Q_pReset D cI cJ cZ cG cH pl pna pta rails limit retry behind) (by decide) rfl (Nat.le_of_ble_eq_true rfl) ?_
  intro p e s m below meth c ls A hx hb hr hml hts hown hlocks hnm hsz hP hK hD hA hS hl
  have hown : s.vm.findClass RX3 = some m.cls := hown
  have hP : va_P D vwCl [(pl, .inr (2, [.ref pna, .ref pta, .int rails, .int limit, .int retry, .int behind]))] s.heap := hP
  have hD : va_D A [(pl, .inr (2, [.ref pna, .ref pta, .int rails, .int limit, .int retry, .int behind]))] := hD
  have hl : lv_has ls 1 [(0, .ref pl)] := hl
  refine lv_aload_n hx hb dX3_reset_0 rfl (lv_at hl 0 rfl) ?_
  refine lv_iconst (v := 0) hx hb dX3_reset_1 (by decide) ?_
  refine va_put (D := D) (ci := 2) (v := .int 0) (ty := .int) (C := RX3) (T := TX3) (N := 6) hx hb hts (fun w h => tbC w (tbfX3 w h)) tyX3 tyX3_ok nmX3 hown hK hP hD hS 0 rfl rfl 2 (by decide) (hts (.fieldLink RX3 19 "PowerRails$Plan" "rails" "I") (tbC _ wd122)) (fun _ h9 => h9) rfl (by decide +kernel) rfl rfl (Nat.le_of_ble_eq_true rfl) dX3_reset_2 (fun H locs hP hD hS => ?_)
  have hP : va_P D vwCl [(pl, .inr (2, [.ref pna, .ref pta, .int 0, .int limit, .int retry, .int behind]))] H := hP
  have hD : va_D A [(pl, .inr (2, [.ref pna, .ref pta, .int 0, .int limit, .int retry, .int behind]))] := hD
  refine lv_aload_n hx hb dX3_reset_5 rfl (lv_at hl 0 rfl) ?_
  refine lv_sipush (v := 999) hx hb dX3_reset_6 (by decide) ?_
  refine va_put (D := D) (ci := 2) (v := .int 999) (ty := .int) (C := RX3) (T := TX3) (N := 6) hx hb hts (fun w h => tbC w (tbfX3 w h)) tyX3 tyX3_ok nmX3 hown hK hP hD hS 0 rfl rfl 3 (by decide) (hts (.fieldLink RX3 23 "PowerRails$Plan" "limit" "I") (tbC _ wd123)) (fun _ h9 => h9) rfl (by decide +kernel) rfl rfl (Nat.le_of_ble_eq_true rfl) dX3_reset_9 (fun H locs hP hD hS => ?_)
  have hP : va_P D vwCl [(pl, .inr (2, [.ref pna, .ref pta, .int 0, .int 999, .int retry, .int behind]))] H := hP
  have hD : va_D A [(pl, .inr (2, [.ref pna, .ref pta, .int 0, .int 999, .int retry, .int behind]))] := hD
  refine lv_aload_n hx hb dX3_reset_12 rfl (lv_at hl 0 rfl) ?_
  refine lv_iconst (v := 0) hx hb dX3_reset_13 (by decide) ?_
  refine va_put (D := D) (ci := 2) (v := .int 0) (ty := .int) (C := RX3) (T := TX3) (N := 6) hx hb hts (fun w h => tbC w (tbfX3 w h)) tyX3 tyX3_ok nmX3 hown hK hP hD hS 0 rfl rfl 4 (by decide) (hts (.fieldLink RX3 26 "PowerRails$Plan" "retry" "I") (tbC _ wd124)) (fun _ h9 => h9) rfl (by decide +kernel) rfl rfl (Nat.le_of_ble_eq_true rfl) dX3_reset_14 (fun H locs hP hD hS => ?_)
  have hP : va_P D vwCl [(pl, .inr (2, [.ref pna, .ref pta, .int 0, .int 999, .int 0, .int behind]))] H := hP
  have hD : va_D A [(pl, .inr (2, [.ref pna, .ref pta, .int 0, .int 999, .int 0, .int behind]))] := hD
  refine lv_aload_n hx hb dX3_reset_17 rfl (lv_at hl 0 rfl) ?_
  refine lv_iconst (v := 5) hx hb dX3_reset_18 (by decide) ?_
  refine va_put (D := D) (ci := 2) (v := .int 5) (ty := .int) (C := RX3) (T := TX3) (N := 6) hx hb hts (fun w h => tbC w (tbfX3 w h)) tyX3 tyX3_ok nmX3 hown hK hP hD hS 0 rfl rfl 5 (by decide) (hts (.fieldLink RX3 29 "PowerRails$Plan" "behind" "I") (tbC _ wd125)) (fun _ h9 => h9) rfl (by decide +kernel) rfl rfl (Nat.le_of_ble_eq_true rfl) dX3_reset_19 (fun H locs hP hD hS => ?_)
  have hP : va_P D vwCl [(pl, .inr (2, [.ref pna, .ref pta, .int 0, .int 999, .int 0, .int 5]))] H := hP
  have hD : va_D A [(pl, .inr (2, [.ref pna, .ref pta, .int 0, .int 999, .int 0, .int 5]))] := hD
  refine W.widen (k := 0) (n := 0) (by decide) (by decide) ?_
  have hP9 := hP.sub (ws' := [(pl, .inr (2, [.ref pna, .ref pta, .int 0, .int 999, .int 0, .int 5]))]) [0] rfl
  have hD9 := hD.sub (ws' := [(pl, .inr (2, [.ref pna, .ref pta, .int 0, .int 999, .int 0, .int 5]))]) [0] (by decide) rfl
  exact W.vret hx hb hr (fun t ht hW => ⟨⟨(), rfl, trivial, xB_of ht hW hP9 hK hD9⟩, hS.F ht⟩) hS.2.2 dX3_reset_22
abbrev W_hasRail (cI cJ cZ cG cH : ClassId) (pl : Nat) (r0 : Int32) (pna : Nat) (pta : Nat) (rails : Int32) (limit : Int32) (retry : Int32) (behind : Int32) : va_W := [(pl, .inr (2, [.ref pna, .ref pta, .int rails, .int limit, .int retry, .int behind]))]
abbrev Q_hasRail (D : va_G) (cI cJ cZ cG cH : ClassId) (pl : Nat) (r0 : Int32) (pna : Nat) (pta : Nat) (rails : Int32) (limit : Int32) (retry : Int32) (behind : Int32) (A : Nat → Prop) : Array Value → State → Outcome → State → Prop := va_Qi (fun (r : Int32) (_ : Unit) => r = if 0 ≤ r0.toInt ∧ r0.toInt < rails.toInt then 1 else 0) (fun _ t => xB D (tyL cI cJ cZ cG cH) [(pl, .inr (2, [.ref pna, .ref pta, .int rails, .int limit, .int retry, .int behind]))] A t) A
abbrev rm_hasRail : Room := { frames := 0, cells := 0, slots := 0, locals := 0 }
set_option maxRecDepth 100000 in
set_option maxHeartbeats 4000000 in
theorem c_hasRail (l : Launch) (D : va_G) (cI cJ cZ cG cH : ClassId) (sz : Nat) (pl : Nat) (r0 : Int32) (pna : Nat) (pta : Nat) (rails : Int32) (limit : Int32) (retry : Int32) (behind : Int32) (h_rails : 0 ≤ rails.toInt ∧ rails.toInt ≤ 8) : Met l yX3_hasRail (wt yX3_hasRail cX3_hasRail 2 (some .boolean)) rm_hasRail (xPc [.ref pl, .int r0] D (tyL cI cJ cZ cG cH) (W_hasRail cI cJ cZ cG cH pl r0 pna pta rails limit retry behind) sz) (Q_hasRail D cI cJ cZ cG cH pl r0 pna pta rails limit retry behind (va_A (W_hasRail cI cJ cZ cG cH pl r0 pna pta rails limit retry behind) sz)) 0 0 (va_A (W_hasRail cI cJ cZ cG cH pl r0 pna pta rails limit retry behind) sz) := by
  refine xMet (cc := cX3_hasRail) (maxL := 2) (ret := (some .boolean)) (Qf := Q_hasRail D cI cJ cZ cG cH pl r0 pna pta rails limit retry behind) (by decide) rfl (Nat.le_of_ble_eq_true rfl) ?_
  intro p e s m below meth c ls A hx hb hr hml hts hown hlocks hnm hsz hP hK hD hA hS hl
  have hown : s.vm.findClass RX3 = some m.cls := hown
  have hP : va_P D vwCl [(pl, .inr (2, [.ref pna, .ref pta, .int rails, .int limit, .int retry, .int behind]))] s.heap := hP
  have hD : va_D A [(pl, .inr (2, [.ref pna, .ref pta, .int rails, .int limit, .int retry, .int behind]))] := hD
  have hl : lv_has ls 2 [(0, .ref pl), (1, .int r0)] := hl
  refine lv_iload_n hx hb dX3_hasRail_0 rfl (lv_at hl 1 rfl) ?_
  refine lv_if_lt (tgt := 16) hx hb dX3_hasRail_1 (by decide) (fun c_1 => ?_) (fun c_1 => ?_)
  · skip
    have i_1 : r0.toInt < 0 := (ilt rfl (by decide)).mp c_1
    refine lv_iconst (v := 0) hx hb dX3_hasRail_16 (by decide) ?_
    refine W.widen (k := 0) (n := 0) (by decide) (by decide) ?_
    have hP9 := hP.sub (ws' := [(pl, .inr (2, [.ref pna, .ref pta, .int rails, .int limit, .int retry, .int behind]))]) [0] rfl
    have hD9 := hD.sub (ws' := [(pl, .inr (2, [.ref pna, .ref pta, .int rails, .int limit, .int retry, .int behind]))]) [0] (by decide) rfl
    exact W.zret (v := 0) hx hb hr (by decide) (fun t ht hW => ⟨⟨0, (), rfl, (if_neg (by omega)).symm, xB_of ht hW hP9 hK hD9⟩, hS.F ht⟩) hS.2.2 dX3_hasRail_17
  · skip
    have i_1 : ¬ (r0.toInt < 0) := fun h9 => c_1 ((ilt rfl (by decide)).mpr h9)
    refine lv_iload_n hx hb dX3_hasRail_4 rfl (lv_at hl 1 rfl) ?_
    refine lv_aload_n hx hb dX3_hasRail_5 rfl (lv_at hl 0 rfl) ?_
    refine va_get (D := D) (ci := 2) (v := .int rails) (C := RX3) (T := TX3) (N := 6) hx hb hts (fun w h => tbC w (tbfX3 w h)) hown hK hP 0 rfl rfl 2 (by decide) (hts (.fieldLink RX3 19 "PowerRails$Plan" "rails" "I") (tbC _ wd122)) (fun _ h9 => h9) rfl dX3_hasRail_6 ?_
    refine lv_icmp_ge (tgt := 16) hx hb dX3_hasRail_9 (by decide) (fun c_2 => ?_) (fun c_2 => ?_)
    · skip
      have i_2 : rails.toInt ≤ r0.toInt := (ile rfl rfl).mp c_2
      refine lv_iconst (v := 0) hx hb dX3_hasRail_16 (by decide) ?_
      refine W.widen (k := 0) (n := 0) (by decide) (by decide) ?_
      have hP9 := hP.sub (ws' := [(pl, .inr (2, [.ref pna, .ref pta, .int rails, .int limit, .int retry, .int behind]))]) [0] rfl
      have hD9 := hD.sub (ws' := [(pl, .inr (2, [.ref pna, .ref pta, .int rails, .int limit, .int retry, .int behind]))]) [0] (by decide) rfl
      exact W.zret (v := 0) hx hb hr (by decide) (fun t ht hW => ⟨⟨0, (), rfl, (if_neg (by omega)).symm, xB_of ht hW hP9 hK hD9⟩, hS.F ht⟩) hS.2.2 dX3_hasRail_17
    · skip
      have i_2 : ¬ (rails.toInt ≤ r0.toInt) := fun h9 => c_2 ((ile rfl rfl).mpr h9)
      refine lv_iconst (v := 1) hx hb dX3_hasRail_12 (by decide) ?_
      refine lv_goto (tgt := 17) hx hb dX3_hasRail_13 (by decide) ?_
      refine W.widen (k := 0) (n := 0) (by decide) (by decide) ?_
      have hP9 := hP.sub (ws' := [(pl, .inr (2, [.ref pna, .ref pta, .int rails, .int limit, .int retry, .int behind]))]) [0] rfl
      have hD9 := hD.sub (ws' := [(pl, .inr (2, [.ref pna, .ref pta, .int rails, .int limit, .int retry, .int behind]))]) [0] (by decide) rfl
      exact W.zret (v := 1) hx hb hr (by decide) (fun t ht hW => ⟨⟨1, (), rfl, (if_pos (by omega)).symm, xB_of ht hW hP9 hK hD9⟩, hS.F ht⟩) hS.2.2 dX3_hasRail_17
abbrev W_allRails (cI cJ cZ cG cH : ClassId) (pl : Nat) (pna : Nat) (pta : Nat) (rails : Int32) (limit : Int32) (retry : Int32) (behind : Int32) : va_W := [(pl, .inr (2, [.ref pna, .ref pta, .int rails, .int limit, .int retry, .int behind]))]
abbrev Q_allRails (D : va_G) (cI cJ cZ cG cH : ClassId) (pl : Nat) (pna : Nat) (pta : Nat) (rails : Int32) (limit : Int32) (retry : Int32) (behind : Int32) (A : Nat → Prop) : Array Value → State → Outcome → State → Prop := va_Qi (fun (r : Int32) (_ : Unit) => 0 ≤ r.toInt ∧ r.toInt ≤ 255) (fun _ t => xB D (tyL cI cJ cZ cG cH) [(pl, .inr (2, [.ref pna, .ref pta, .int rails, .int limit, .int retry, .int behind]))] A t) A
abbrev rm_allRails : Room := { frames := 0, cells := 0, slots := 0, locals := 0 }
set_option maxRecDepth 100000 in
set_option maxHeartbeats 4000000 in
theorem c_allRails (l : Launch) (D : va_G) (cI cJ cZ cG cH : ClassId) (sz : Nat) (pl : Nat) (pna : Nat) (pta : Nat) (rails : Int32) (limit : Int32) (retry : Int32) (behind : Int32) (h_rails : 0 ≤ rails.toInt ∧ rails.toInt ≤ 8) : Met l yX3_allRails (wt yX3_allRails cX3_allRails 1 (some .int)) rm_allRails (xPc [.ref pl] D (tyL cI cJ cZ cG cH) (W_allRails cI cJ cZ cG cH pl pna pta rails limit retry behind) sz) (Q_allRails D cI cJ cZ cG cH pl pna pta rails limit retry behind (va_A (W_allRails cI cJ cZ cG cH pl pna pta rails limit retry behind) sz)) 0 0 (va_A (W_allRails cI cJ cZ cG cH pl pna pta rails limit retry behind) sz) := by
  refine xMet (cc := cX3_allRails) (maxL := 1) (ret := (some .int)) (Qf := Q_allRails D cI cJ cZ cG cH pl pna pta rails limit retry behind) (by decide) rfl (Nat.le_of_ble_eq_true rfl) ?_
  intro p e s m below meth c ls A hx hb hr hml hts hown hlocks hnm hsz hP hK hD hA hS hl
  have hown : s.vm.findClass RX3 = some m.cls := hown
  have hP : va_P D vwCl [(pl, .inr (2, [.ref pna, .ref pta, .int rails, .int limit, .int retry, .int behind]))] s.heap := hP
  have hD : va_D A [(pl, .inr (2, [.ref pna, .ref pta, .int rails, .int limit, .int retry, .int behind]))] := hD
  have hl : lv_has ls 1 [(0, .ref pl)] := hl
  refine lv_iconst (v := 1) hx hb dX3_allRails_0 (by decide) ?_
  refine lv_aload_n hx hb dX3_allRails_1 rfl (lv_at hl 0 rfl) ?_
  refine va_get (D := D) (ci := 2) (v := .int rails) (C := RX3) (T := TX3) (N := 6) hx hb hts (fun w h => tbC w (tbfX3 w h)) hown hK hP 0 rfl rfl 2 (by decide) (hts (.fieldLink RX3 19 "PowerRails$Plan" "rails" "I") (tbC _ wd122)) (fun _ h9 => h9) rfl dX3_allRails_2 ?_
  refine lv_ishl hx hb dX3_allRails_5 ?_
  refine lv_topi (fun v1 ev1 => ?_)
  have rv1 : 1 ≤ v1.toInt ∧ v1.toInt ≤ 256 := xshl1 8 ev1 (show (rails : Int32).toInt = rails.toInt from rfl) (by omega) (by omega) (by decide)
  refine lv_iconst (v := 1) hx hb dX3_allRails_6 (by decide) ?_
  refine lv_isub hx hb dX3_allRails_7 ?_
  refine lv_topi (fun v2 ev2 => ?_)
  have tv2 : v2.toInt = (v1.toInt - 1) := (congrArg Int32.toInt ev2).trans (xsub rfl (by decide) (by omega) (by omega))
  refine W.widen (k := 0) (n := 0) (by decide) (by decide) ?_
  have hP9 := hP.sub (ws' := [(pl, .inr (2, [.ref pna, .ref pta, .int rails, .int limit, .int retry, .int behind]))]) [0] rfl
  have hD9 := hD.sub (ws' := [(pl, .inr (2, [.ref pna, .ref pta, .int rails, .int limit, .int retry, .int behind]))]) [0] (by decide) rfl
  exact W.iret (v := v2) hx hb hr (fun t ht hW => ⟨⟨v2, (), rfl, (xrng tv2 (by omega) (by omega)), xB_of ht hW hP9 hK hD9⟩, hS.F ht⟩) hS.2.2 dX3_allRails_8
abbrev W_number (cI cJ cZ cG cH : ClassId) (pl : Nat) (r0 : Int32) (w0 : Int32) (pna : Nat) (pta : Nat) (rails : Int32) (limit : Int32) (retry : Int32) (behind : Int32) (pn : Nat → Int32) : va_W := [(pl, .inr (2, [.ref pna, .ref pta, .int rails, .int limit, .int retry, .int behind])), (pna, .inl (cI, 64, .inl pn))]
abbrev Q_number (D : va_G) (cI cJ cZ cG cH : ClassId) (pl : Nat) (r0 : Int32) (w0 : Int32) (pna : Nat) (pta : Nat) (rails : Int32) (limit : Int32) (retry : Int32) (behind : Int32) (pn : Nat → Int32) (A : Nat → Prop) : Array Value → State → Outcome → State → Prop := va_Qi (fun (r : Int32) (_ : Unit) => 0 ≤ r.toInt ∧ r.toInt ≤ 511) (fun _ t => xB D (tyL cI cJ cZ cG cH) [(pl, .inr (2, [.ref pna, .ref pta, .int rails, .int limit, .int retry, .int behind])), (pna, .inl (cI, 64, .inl pn))] A t) A
abbrev rm_number : Room := { frames := 0, cells := 0, slots := 0, locals := 0 }
set_option maxRecDepth 100000 in
set_option maxHeartbeats 4000000 in
theorem c_number (l : Launch) (D : va_G) (cI cJ cZ cG cH : ClassId) (sz : Nat) (pl : Nat) (r0 : Int32) (w0 : Int32) (pna : Nat) (pta : Nat) (rails : Int32) (limit : Int32) (retry : Int32) (behind : Int32) (pn : Nat → Int32) (h_r0 : 0 ≤ r0.toInt ∧ r0.toInt ≤ 7) (h_w0 : 0 ≤ w0.toInt ∧ w0.toInt ≤ 7) (h_rails : 0 ≤ rails.toInt ∧ rails.toInt ≤ 8) (h_pn : ∀ j, j < 64 → 0 ≤ (pn j).toInt ∧ (pn j).toInt ≤ 511) : Met l yX3_number (wt yX3_number cX3_number 3 (some .int)) rm_number (xPc [.ref pl, .int r0, .int w0] D (tyL cI cJ cZ cG cH) (W_number cI cJ cZ cG cH pl r0 w0 pna pta rails limit retry behind pn) sz) (Q_number D cI cJ cZ cG cH pl r0 w0 pna pta rails limit retry behind pn (va_A (W_number cI cJ cZ cG cH pl r0 w0 pna pta rails limit retry behind pn) sz)) 0 0 (va_A (W_number cI cJ cZ cG cH pl r0 w0 pna pta rails limit retry behind pn) sz) := by
  refine xMet (cc := cX3_number) (maxL := 3) (ret := (some .int)) (Qf := Q_number D cI cJ cZ cG cH pl r0 w0 pna pta rails limit retry behind pn) (by decide) rfl (Nat.le_of_ble_eq_true rfl) ?_
  intro p e s m below meth c ls A hx hb hr hml hts hown hlocks hnm hsz hP hK hD hA hS hl
  have hown : s.vm.findClass RX3 = some m.cls := hown
  have hP : va_P D vwCl [(pl, .inr (2, [.ref pna, .ref pta, .int rails, .int limit, .int retry, .int behind])), (pna, .inl (cI, 64, .inl pn))] s.heap := hP
  have hD : va_D A [(pl, .inr (2, [.ref pna, .ref pta, .int rails, .int limit, .int retry, .int behind])), (pna, .inl (cI, 64, .inl pn))] := hD
  have hl : lv_has ls 3 [(0, .ref pl), (1, .int r0), (2, .int w0)] := hl
  refine lv_aload_n hx hb dX3_number_0 rfl (lv_at hl 0 rfl) ?_
  refine va_get (D := D) (ci := 2) (v := .ref pna) (C := RX3) (T := TX3) (N := 6) hx hb hts (fun w h => tbC w (tbfX3 w h)) hown hK hP 0 rfl rfl 0 (by decide) (hts (.fieldLink RX3 11 "PowerRails$Plan" "numbers" "[I") (tbC _ wd119)) (fun _ h9 => h9) rfl dX3_number_1 ?_
  refine lv_iload_n hx hb dX3_number_4 rfl (lv_at hl 1 rfl) ?_
  refine lv_bipush (v := 8) hx hb dX3_number_5 (by decide) ?_
  refine lv_imul hx hb dX3_number_7 ?_
  refine lv_topi (fun v1 ev1 => ?_)
  have tv1 : v1.toInt = (r0.toInt * 8) := (congrArg Int32.toInt ev1).trans (xmul rfl (by decide) (by omega) (by omega))
  refine lv_iload_n hx hb dX3_number_8 rfl (lv_at hl 2 rfl) ?_
  refine lv_iadd hx hb dX3_number_9 ?_
  refine lv_topi (fun v2 ev2 => ?_)
  have tv2 : v2.toInt = ((r0.toInt * 8) + w0.toInt) := (congrArg Int32.toInt ev2).trans (xadd tv1 rfl (by omega) (by omega))
  refine va_iald hx hb hK hP 1 0 rfl rfl (vp_in_iff.mpr (by rw [tv2]; omega)) dX3_number_10 ?_
  refine lv_topi (fun v3 ev3 => ?_)
  have rv3 : 0 ≤ v3.toInt ∧ v3.toInt ≤ 511 := xrd ev3 h_pn (xinK (vp_in_iff.mpr (by rw [tv2]; omega)))
  refine W.widen (k := 0) (n := 0) (by decide) (by decide) ?_
  have hP9 := hP.sub (ws' := [(pl, .inr (2, [.ref pna, .ref pta, .int rails, .int limit, .int retry, .int behind])), (pna, .inl (cI, 64, .inl pn))]) [0, 1] rfl
  have hD9 := hD.sub (ws' := [(pl, .inr (2, [.ref pna, .ref pta, .int rails, .int limit, .int retry, .int behind])), (pna, .inl (cI, 64, .inl pn))]) [0, 1] (by decide) rfl
  exact W.iret (v := v3) hx hb hr (fun t ht hW => ⟨⟨v3, (), rfl, (xrng rfl (by omega) (by omega)), xB_of ht hW hP9 hK hD9⟩, hS.F ht⟩) hS.2.2 dX3_number_11
abbrev W_setNumber (cI cJ cZ cG cH : ClassId) (pl : Nat) (r0 : Int32) (w0 : Int32) (v0 : Int32) (pna : Nat) (pta : Nat) (rails : Int32) (limit : Int32) (retry : Int32) (behind : Int32) (pn : Nat → Int32) : va_W := [(pl, .inr (2, [.ref pna, .ref pta, .int rails, .int limit, .int retry, .int behind])), (pna, .inl (cI, 64, .inl pn))]
abbrev Q_setNumber (D : va_G) (cI cJ cZ cG cH : ClassId) (pl : Nat) (r0 : Int32) (w0 : Int32) (v0 : Int32) (pna : Nat) (pta : Nat) (rails : Int32) (limit : Int32) (retry : Int32) (behind : Int32) (pn : Nat → Int32) (A : Nat → Prop) : Array Value → State → Outcome → State → Prop := va_Qv (fun (_ : Unit) => True) (fun _ t => ∃ (pn9 : Nat → Int32), (∀ j, j < 64 → 0 ≤ (pn9 j).toInt ∧ (pn9 j).toInt ≤ 511) ∧ xB D (tyL cI cJ cZ cG cH) [(pl, .inr (2, [.ref pna, .ref pta, .int rails, .int limit, .int retry, .int behind])), (pna, .inl (cI, 64, .inl pn9))] A t) A
abbrev rm_setNumber : Room := { frames := 0, cells := 0, slots := 0, locals := 0 }
set_option maxRecDepth 100000 in
set_option maxHeartbeats 4000000 in
theorem c_setNumber (l : Launch) (D : va_G) (cI cJ cZ cG cH : ClassId) (sz : Nat) (pl : Nat) (r0 : Int32) (w0 : Int32) (v0 : Int32) (pna : Nat) (pta : Nat) (rails : Int32) (limit : Int32) (retry : Int32) (behind : Int32) (pn : Nat → Int32) (h_r0 : 0 ≤ r0.toInt ∧ r0.toInt ≤ 7) (h_w0 : 0 ≤ w0.toInt ∧ w0.toInt ≤ 7) (h_v0 : 0 ≤ v0.toInt ∧ v0.toInt ≤ 511) (h_rails : 0 ≤ rails.toInt ∧ rails.toInt ≤ 8) (h_pn : ∀ j, j < 64 → 0 ≤ (pn j).toInt ∧ (pn j).toInt ≤ 511) : Met l yX3_setNumber (wt yX3_setNumber cX3_setNumber 4 none) rm_setNumber (xPc [.ref pl, .int r0, .int w0, .int v0] D (tyL cI cJ cZ cG cH) (W_setNumber cI cJ cZ cG cH pl r0 w0 v0 pna pta rails limit retry behind pn) sz) (Q_setNumber D cI cJ cZ cG cH pl r0 w0 v0 pna pta rails limit retry behind pn (va_A (W_setNumber cI cJ cZ cG cH pl r0 w0 v0 pna pta rails limit retry behind pn) sz)) 0 0 (va_A (W_setNumber cI cJ cZ cG cH pl r0 w0 v0 pna pta rails limit retry behind pn) sz) := by
  refine xMet (cc := cX3_setNumber) (maxL := 4) (ret := none) (Qf := Q_setNumber D cI cJ cZ cG cH pl r0 w0 v0 pna pta rails limit retry behind pn) (by decide) rfl (Nat.le_of_ble_eq_true rfl) ?_
  intro p e s m below meth c ls A hx hb hr hml hts hown hlocks hnm hsz hP hK hD hA hS hl
  have hown : s.vm.findClass RX3 = some m.cls := hown
  have hP : va_P D vwCl [(pl, .inr (2, [.ref pna, .ref pta, .int rails, .int limit, .int retry, .int behind])), (pna, .inl (cI, 64, .inl pn))] s.heap := hP
  have hD : va_D A [(pl, .inr (2, [.ref pna, .ref pta, .int rails, .int limit, .int retry, .int behind])), (pna, .inl (cI, 64, .inl pn))] := hD
  have hl : lv_has ls 4 [(0, .ref pl), (1, .int r0), (2, .int w0), (3, .int v0)] := hl
  refine lv_aload_n hx hb dX3_setNumber_0 rfl (lv_at hl 0 rfl) ?_
  refine va_get (D := D) (ci := 2) (v := .ref pna) (C := RX3) (T := TX3) (N := 6) hx hb hts (fun w h => tbC w (tbfX3 w h)) hown hK hP 0 rfl rfl 0 (by decide) (hts (.fieldLink RX3 11 "PowerRails$Plan" "numbers" "[I") (tbC _ wd119)) (fun _ h9 => h9) rfl dX3_setNumber_1 ?_
  refine lv_iload_n hx hb dX3_setNumber_4 rfl (lv_at hl 1 rfl) ?_
  refine lv_bipush (v := 8) hx hb dX3_setNumber_5 (by decide) ?_
  refine lv_imul hx hb dX3_setNumber_7 ?_
  refine lv_topi (fun v1 ev1 => ?_)
  have tv1 : v1.toInt = (r0.toInt * 8) := (congrArg Int32.toInt ev1).trans (xmul rfl (by decide) (by omega) (by omega))
  refine lv_iload_n hx hb dX3_setNumber_8 rfl (lv_at hl 2 rfl) ?_
  refine lv_iadd hx hb dX3_setNumber_9 ?_
  refine lv_topi (fun v2 ev2 => ?_)
  have tv2 : v2.toInt = ((r0.toInt * 8) + w0.toInt) := (congrArg Int32.toInt ev2).trans (xadd tv1 rfl (by omega) (by omega))
  refine lv_iload_n hx hb dX3_setNumber_10 rfl (lv_at hl 3 rfl) ?_
  refine va_iast hx hb hK hP hD hS 1 0 rfl rfl (vp_in_iff.mpr (by rw [tv2]; omega)) dX3_setNumber_11 (fun H locs hP hD hS => ?_)
  obtain ⟨f3, ef3⟩ : ∃ fz9 : Nat → Int32, fz9 = upd pn (v2 : Int32).toNatClampNeg v0 := ⟨_, rfl⟩
  have hP : va_P D vwCl [(pl, .inr (2, [.ref pna, .ref pta, .int rails, .int limit, .int retry, .int behind])), (pna, .inl (cI, 64, .inl f3))] H := by rw [ef3]; exact hP
  have hD : va_D A [(pl, .inr (2, [.ref pna, .ref pta, .int rails, .int limit, .int retry, .int behind])), (pna, .inl (cI, 64, .inl f3))] := by rw [ef3]; exact hD
  have rf3 : ∀ j, j < 64 → 0 ≤ (f3 j).toInt ∧ (f3 j).toInt ≤ 511 := by rw [ef3]; exact xup_rng (xwk_rng h_pn (by decide) (by decide)) (xrng rfl (by omega) (by omega))
  refine W.widen (k := 0) (n := 0) (by decide) (by decide) ?_
  have hP9 := hP.sub (ws' := [(pl, .inr (2, [.ref pna, .ref pta, .int rails, .int limit, .int retry, .int behind])), (pna, .inl (cI, 64, .inl f3))]) [0, 1] rfl
  have hD9 := hD.sub (ws' := [(pl, .inr (2, [.ref pna, .ref pta, .int rails, .int limit, .int retry, .int behind])), (pna, .inl (cI, 64, .inl f3))]) [0, 1] (by decide) rfl
  exact W.vret hx hb hr (fun t ht hW => ⟨⟨(), rfl, trivial, ⟨f3, (xwk_rng rf3 (by decide) (by decide)), xB_of ht hW hP9 hK hD9⟩⟩, hS.F ht⟩) hS.2.2 dX3_setNumber_12
abbrev W_holdsWith (cI cJ cZ cG cH : ClassId) (pl : Nat) (r0 : Int32) (s0 : Int32) (pna : Nat) (pta : Nat) (rails : Int32) (limit : Int32) (retry : Int32) (behind : Int32) (pt : Nat → Int64) : va_W := [(pl, .inr (2, [.ref pna, .ref pta, .int rails, .int limit, .int retry, .int behind])), (pta, .inl (cJ, 64, .inr (.inl pt)))]
abbrev Q_holdsWith (D : va_G) (cI cJ cZ cG cH : ClassId) (pl : Nat) (r0 : Int32) (s0 : Int32) (pna : Nat) (pta : Nat) (rails : Int32) (limit : Int32) (retry : Int32) (behind : Int32) (pt : Nat → Int64) (A : Nat → Prop) : Array Value → State → Outcome → State → Prop := va_Qi (fun (r : Int32) (_ : Unit) => 0 ≤ r.toInt ∧ r.toInt ≤ 1) (fun _ t => xB D (tyL cI cJ cZ cG cH) [(pl, .inr (2, [.ref pna, .ref pta, .int rails, .int limit, .int retry, .int behind])), (pta, .inl (cJ, 64, .inr (.inl pt)))] A t) A
abbrev rm_holdsWith : Room := { frames := 0, cells := 0, slots := 0, locals := 0 }
set_option maxRecDepth 100000 in
set_option maxHeartbeats 4000000 in
theorem c_holdsWith (l : Launch) (D : va_G) (cI cJ cZ cG cH : ClassId) (sz : Nat) (pl : Nat) (r0 : Int32) (s0 : Int32) (pna : Nat) (pta : Nat) (rails : Int32) (limit : Int32) (retry : Int32) (behind : Int32) (pt : Nat → Int64) (h_r0 : 0 ≤ r0.toInt ∧ r0.toInt ≤ 7) (h_rails : 0 ≤ rails.toInt ∧ rails.toInt ≤ 8) : Met l yX3_holdsWith (wt yX3_holdsWith cX3_holdsWith 3 (some .boolean)) rm_holdsWith (xPc [.ref pl, .int r0, .int s0] D (tyL cI cJ cZ cG cH) (W_holdsWith cI cJ cZ cG cH pl r0 s0 pna pta rails limit retry behind pt) sz) (Q_holdsWith D cI cJ cZ cG cH pl r0 s0 pna pta rails limit retry behind pt (va_A (W_holdsWith cI cJ cZ cG cH pl r0 s0 pna pta rails limit retry behind pt) sz)) 0 0 (va_A (W_holdsWith cI cJ cZ cG cH pl r0 s0 pna pta rails limit retry behind pt) sz) := by
  refine xMet (cc := cX3_holdsWith) (maxL := 3) (ret := (some .boolean)) (Qf := Q_holdsWith D cI cJ cZ cG cH pl r0 s0 pna pta rails limit retry behind pt) (by decide) rfl (Nat.le_of_ble_eq_true rfl) ?_
  intro p e s m below meth c ls A hx hb hr hml hts hown hlocks hnm hsz hP hK hD hA hS hl
  have hown : s.vm.findClass RX3 = some m.cls := hown
  have hP : va_P D vwCl [(pl, .inr (2, [.ref pna, .ref pta, .int rails, .int limit, .int retry, .int behind])), (pta, .inl (cJ, 64, .inr (.inl pt)))] s.heap := hP
  have hD : va_D A [(pl, .inr (2, [.ref pna, .ref pta, .int rails, .int limit, .int retry, .int behind])), (pta, .inl (cJ, 64, .inr (.inl pt)))] := hD
  have hl : lv_has ls 3 [(0, .ref pl), (1, .int r0), (2, .int s0)] := hl
  refine lv_aload_n hx hb dX3_holdsWith_0 rfl (lv_at hl 0 rfl) ?_
  refine va_get (D := D) (ci := 2) (v := .ref pta) (C := RX3) (T := TX3) (N := 6) hx hb hts (fun w h => tbC w (tbfX3 w h)) hown hK hP 0 rfl rfl 1 (by decide) (hts (.fieldLink RX3 15 "PowerRails$Plan" "tables" "[J") (tbC _ wd121)) (fun _ h9 => h9) rfl dX3_holdsWith_1 ?_
  refine lv_iload_n hx hb dX3_holdsWith_4 rfl (lv_at hl 1 rfl) ?_
  refine lv_bipush (v := 8) hx hb dX3_holdsWith_5 (by decide) ?_
  refine lv_imul hx hb dX3_holdsWith_7 ?_
  refine lv_topi (fun v1 ev1 => ?_)
  have tv1 : v1.toInt = (r0.toInt * 8) := (congrArg Int32.toInt ev1).trans (xmul rfl (by decide) (by omega) (by omega))
  refine lv_iload_n hx hb dX3_holdsWith_8 rfl (lv_at hl 2 rfl) ?_
  refine lv_bipush (v := 6) hx hb dX3_holdsWith_9 (by decide) ?_
  refine lv_ishr hx hb dX3_holdsWith_11 ?_
  refine lv_topi (fun v2 ev2 => ?_)
  refine lv_bipush (v := 7) hx hb dX3_holdsWith_12 (by decide) ?_
  refine lv_iand hx hb dX3_holdsWith_14 ?_
  refine lv_topi (fun v3 ev3 => ?_)
  have rv3 : 0 ≤ v3.toInt ∧ v3.toInt ≤ 7 := xandL ev3 (show (7 : Int32).toInt = 7 from (by decide)) (by omega)
  refine lv_iadd hx hb dX3_holdsWith_15 ?_
  refine lv_topi (fun v4 ev4 => ?_)
  have tv4 : v4.toInt = ((r0.toInt * 8) + v3.toInt) := (congrArg Int32.toInt ev4).trans (xadd tv1 rfl (by omega) (by omega))
  refine va_lald hx hb hK hP 1 1 rfl rfl (vp_in_iff.mpr (by rw [tv4]; omega)) dX3_holdsWith_16 ?_
  refine lv_topl (fun v5 ev5 => ?_)
  refine lv_iload_n hx hb dX3_holdsWith_17 rfl (lv_at hl 2 rfl) ?_
  refine lv_bipush (v := 63) hx hb dX3_holdsWith_18 (by decide) ?_
  refine lv_iand hx hb dX3_holdsWith_20 ?_
  refine lv_topi (fun v6 ev6 => ?_)
  have rv6 : 0 ≤ v6.toInt ∧ v6.toInt ≤ 63 := xandL ev6 (show (63 : Int32).toInt = 63 from (by decide)) (by omega)
  obtain ⟨v7, ev7⟩ : ∃ z : Int64, ((v5 : Int64).toUInt64 >>> ((v6 : Int32).toInt64.toUInt64 &&& Int64.toUInt64 63)).toInt64 = z := ⟨_, rfl⟩
  refine lv_lushr hx hb dX3_holdsWith_21 ev7 ?_
  refine lv_lconst (v := 1) hx hb dX3_holdsWith_22 (by decide) ?_
  refine lv_land hx hb dX3_holdsWith_23 ?_
  refine lv_topl (fun v8 ev8 => ?_)
  refine lv_lconst (v := 0) hx hb dX3_holdsWith_24 (by decide) ?_
  refine W.lcmp hx hb dX3_holdsWith_25 ?_
  refine lv_if_eq (tgt := 33) hx hb dX3_holdsWith_26 (by decide) (fun c_9 => ?_) (fun c_9 => ?_)
  · skip
    have i_9 : v8.toInt = 0 := ((lg_cmp_eq _ _).trans (jeq rfl (by decide))).mp c_9
    refine lv_iconst (v := 0) hx hb dX3_holdsWith_33 (by decide) ?_
    refine W.widen (k := 0) (n := 0) (by decide) (by decide) ?_
    have hP9 := hP.sub (ws' := [(pl, .inr (2, [.ref pna, .ref pta, .int rails, .int limit, .int retry, .int behind])), (pta, .inl (cJ, 64, .inr (.inl pt)))]) [0, 1] rfl
    have hD9 := hD.sub (ws' := [(pl, .inr (2, [.ref pna, .ref pta, .int rails, .int limit, .int retry, .int behind])), (pta, .inl (cJ, 64, .inr (.inl pt)))]) [0, 1] (by decide) rfl
    exact W.zret (v := 0) hx hb hr (by decide) (fun t ht hW => ⟨⟨0, (), rfl, ⟨by decide, by decide⟩, xB_of ht hW hP9 hK hD9⟩, hS.F ht⟩) hS.2.2 dX3_holdsWith_34
  · skip
    have i_9 : ¬ (v8.toInt = 0) := fun h9 => c_9 (((lg_cmp_eq _ _).trans (jeq rfl (by decide))).mpr h9)
    refine lv_iconst (v := 1) hx hb dX3_holdsWith_29 (by decide) ?_
    refine lv_goto (tgt := 34) hx hb dX3_holdsWith_30 (by decide) ?_
    refine W.widen (k := 0) (n := 0) (by decide) (by decide) ?_
    have hP9 := hP.sub (ws' := [(pl, .inr (2, [.ref pna, .ref pta, .int rails, .int limit, .int retry, .int behind])), (pta, .inl (cJ, 64, .inr (.inl pt)))]) [0, 1] rfl
    have hD9 := hD.sub (ws' := [(pl, .inr (2, [.ref pna, .ref pta, .int rails, .int limit, .int retry, .int behind])), (pta, .inl (cJ, 64, .inr (.inl pt)))]) [0, 1] (by decide) rfl
    exact W.zret (v := 1) hx hb hr (by decide) (fun t ht hW => ⟨⟨1, (), rfl, ⟨by decide, by decide⟩, xB_of ht hW hP9 hK hD9⟩, hS.F ht⟩) hS.2.2 dX3_holdsWith_34
abbrev W_isLeastSet (cI cJ cZ cG cH : ClassId) (pl : Nat) (r0 : Int32) (s0 : Int32) (pna : Nat) (pta : Nat) (rails : Int32) (limit : Int32) (retry : Int32) (behind : Int32) (pt : Nat → Int64) : va_W := [(pl, .inr (2, [.ref pna, .ref pta, .int rails, .int limit, .int retry, .int behind])), (pta, .inl (cJ, 64, .inr (.inl pt)))]
abbrev Q_isLeastSet (D : va_G) (cI cJ cZ cG cH : ClassId) (pl : Nat) (r0 : Int32) (s0 : Int32) (pna : Nat) (pta : Nat) (rails : Int32) (limit : Int32) (retry : Int32) (behind : Int32) (pt : Nat → Int64) (A : Nat → Prop) : Array Value → State → Outcome → State → Prop := va_Qi (fun (r : Int32) (_ : Unit) => 0 ≤ r.toInt ∧ r.toInt ≤ 1) (fun _ t => xB D (tyL cI cJ cZ cG cH) [(pl, .inr (2, [.ref pna, .ref pta, .int rails, .int limit, .int retry, .int behind])), (pta, .inl (cJ, 64, .inr (.inl pt)))] A t) A
abbrev rm_isLeastSet : Room := { frames := 1, cells := 0, slots := 0, locals := 22 }
set_option maxRecDepth 100000 in
set_option maxHeartbeats 4000000 in
theorem c_isLeastSet (l : Launch) (D : va_G) (cI cJ cZ cG cH : ClassId) (sz : Nat) (pl : Nat) (r0 : Int32) (s0 : Int32) (pna : Nat) (pta : Nat) (rails : Int32) (limit : Int32) (retry : Int32) (behind : Int32) (pt : Nat → Int64) (h_r0 : 0 ≤ r0.toInt ∧ r0.toInt ≤ 7) (h_rails : 0 ≤ rails.toInt ∧ rails.toInt ≤ 8) : Met l yX3_isLeastSet (wt yX3_isLeastSet cX3_isLeastSet 4 (some .boolean)) rm_isLeastSet (xPc [.ref pl, .int r0, .int s0] D (tyL cI cJ cZ cG cH) (W_isLeastSet cI cJ cZ cG cH pl r0 s0 pna pta rails limit retry behind pt) sz) (Q_isLeastSet D cI cJ cZ cG cH pl r0 s0 pna pta rails limit retry behind pt (va_A (W_isLeastSet cI cJ cZ cG cH pl r0 s0 pna pta rails limit retry behind pt) sz)) 0 0 (va_A (W_isLeastSet cI cJ cZ cG cH pl r0 s0 pna pta rails limit retry behind pt) sz) := by
  refine xMet (cc := cX3_isLeastSet) (maxL := 4) (ret := (some .boolean)) (Qf := Q_isLeastSet D cI cJ cZ cG cH pl r0 s0 pna pta rails limit retry behind pt) (by decide) rfl (Nat.le_of_ble_eq_true rfl) ?_
  intro p e s m below meth c ls A hx hb hr hml hts hown hlocks hnm hsz hP hK hD hA hS hl
  have hown : s.vm.findClass RX3 = some m.cls := hown
  have hP : va_P D vwCl [(pl, .inr (2, [.ref pna, .ref pta, .int rails, .int limit, .int retry, .int behind])), (pta, .inl (cJ, 64, .inr (.inl pt)))] s.heap := hP
  have hD : va_D A [(pl, .inr (2, [.ref pna, .ref pta, .int rails, .int limit, .int retry, .int behind])), (pta, .inl (cJ, 64, .inr (.inl pt)))] := hD
  have hl : lv_has ls 4 [(0, .ref pl), (1, .int r0), (2, .int s0)] := hl
  refine lv_aload_n hx hb dX3_isLeastSet_0 rfl (lv_at hl 0 rfl) ?_
  refine lv_iload_n hx hb dX3_isLeastSet_1 rfl (lv_at hl 1 rfl) ?_
  refine lv_iload_n hx hb dX3_isLeastSet_2 rfl (lv_at hl 2 rfl) ?_
  have hPc := hP.sub (ws' := [(pl, .inr (2, [.ref pna, .ref pta, .int rails, .int limit, .int retry, .int behind])), (pta, .inl (cJ, 64, .inr (.inl pt)))]) [0, 1] rfl
  have hDc := hD.sub (ws' := [(pl, .inr (2, [.ref pna, .ref pta, .int rails, .int limit, .int retry, .int behind])), (pta, .inl (cJ, 64, .inr (.inl pt)))]) [0, 1] (by decide) rfl
  have hFc := va_free (wc := [(pl, .inr (2, [.ref pna, .ref pta, .int rails, .int limit, .int retry, .int behind])), (pta, .inl (cJ, 64, .inr (.inl pt)))]) hD hS hA [0, 1] rfl
  refine va_calli (va_runV (As := [.int r0, .int s0]) (rest := []) ⟨hx, hb, hml, hown, hts⟩ (c_holdsWith l D cI cJ cZ cG cH s.heap.size pl r0 s0 pna pta rails limit retry behind pt (xrng rfl (by omega) (by omega)) (xrng rfl (by omega) (by omega))) (cwV 2 hts (xGV tbC wd610 wd580 wd581 wd39 wd582) rfl rfl rfl (by decide +kernel) ⟨Nat.le_of_ble_eq_true rfl, Nat.le_of_ble_eq_true rfl⟩) ⟨xPc_blind, va_recv hK hPc (ci := 2) (q0 := 0) rfl rfl, xPc_pre hPc hK hDc⟩ rfl rfl hl.1 rfl (lv_room (Nat.le_of_ble_eq_true rfl)) dX3_isLeastSet_3 ⟨Nat.le_of_ble_eq_true rfl, Nat.le_of_ble_eq_true rfl⟩) hS (fun q _ h => hFc q h) hFc (fun r1 u t H1 locs ht hvm hw1 hB hz1 hk1 hS => ?_)
  obtain ⟨hP1, hK1, hD1⟩ := hB
  rw [ht] at hP1
  obtain ⟨hP, hD⟩ := va_join (wr := []) (w1 := [(pl, .inr (2, [.ref pna, .ref pta, .int rails, .int limit, .int retry, .int behind])), (pta, .inl (cJ, 64, .inr (.inl pt)))]) hP hD [0, 1] [] rfl rfl (by decide) (by decide) hk1 hFc hP1 hD1
  generalize H1 = H at hP hS ⊢
  have hP : va_P D vwCl [(pl, .inr (2, [.ref pna, .ref pta, .int rails, .int limit, .int retry, .int behind])), (pta, .inl (cJ, 64, .inr (.inl pt)))] H := hP
  have hD : va_D A [(pl, .inr (2, [.ref pna, .ref pta, .int rails, .int limit, .int retry, .int behind])), (pta, .inl (cJ, 64, .inr (.inl pt)))] := hD
  have hw1 : 0 ≤ r1.toInt ∧ r1.toInt ≤ 1 := hw1
  refine lv_if_ne (tgt := 11) hx hb dX3_isLeastSet_6 (by decide) (fun c_2 => ?_) (fun c_2 => ?_)
  · skip
    have i_2 : ¬ (r1.toInt = 0) := fun h9 => c_2 ((ieq rfl (by decide)).mpr h9)
    refine lv_iconst (v := 0) hx hb dX3_isLeastSet_11 (by decide) ?_
    refine lv_istore_n (lv' := [(3, .int 0), (0, .ref pl), (1, .int r0), (2, .int s0)]) hx hb dX3_isLeastSet_12 rfl hl (by decide) rfl (fun ls hl => ?_)
    have hl72 : ∀ (nhl72 : Nat) (x71 : Int32), ((9 - x71.toInt).toNat < nhl72) → (hx71 : 0 ≤ x71.toInt ∧ x71.toInt ≤ 9) → ∀ (H : Heap) (locs : List Loc), va_P D vwCl [(pl, .inr (2, [.ref pna, .ref pta, .int rails, .int limit, .int retry, .int behind])), (pta, .inl (cJ, 64, .inr (.inl pt)))] H → va_D A [(pl, .inr (2, [.ref pna, .ref pta, .int rails, .int limit, .int retry, .int behind])), (pta, .inl (cJ, 64, .inr (.inl pt)))] → va_S A s.heap H locs → ∀ (ls : Array Slot), lv_has ls 4 [(3, .int x71), (0, .ref pl), (1, .int r0), (2, .int s0)] → W p l e rm_isLeastSet s m [Value.ref pl, Value.int r0, Value.int s0].toArray below meth c H locs 0 0 (MQ below ((Q_isLeastSet D cI cJ cZ cG cH pl r0 s0 pna pta rails limit retry behind pt) A) [Value.ref pl, Value.int r0, Value.int s0].toArray s 0 0 A) (F0 m 13 ls []) := by
      intro nhl72
      induction nhl72 with
      | zero =>
        intro x71 hmhl72
        exact absurd hmhl72 (Nat.not_lt_zero _)
      | succ nhl72 ihhl72 =>
        intro x71 hmhl72 hx71 H locs hP hD hS ls hl
        refine lv_iload_n hx hb dX3_isLeastSet_13 rfl (lv_at hl 0 rfl) ?_
        refine lv_bipush (v := 8) hx hb dX3_isLeastSet_14 (by decide) ?_
        refine lv_icmp_gt (tgt := 51) hx hb dX3_isLeastSet_16 (by decide) (fun c_73 => ?_) (fun c_73 => ?_)
        · skip
          have i_73 : 8 < x71.toInt := (ilt (by decide) rfl).mp c_73
          refine lv_iconst (v := 1) hx hb dX3_isLeastSet_51 (by decide) ?_
          refine W.widen (k := 0) (n := 0) (by decide) (by decide) ?_
          have hP9 := hP.sub (ws' := [(pl, .inr (2, [.ref pna, .ref pta, .int rails, .int limit, .int retry, .int behind])), (pta, .inl (cJ, 64, .inr (.inl pt)))]) [0, 1] rfl
          have hD9 := hD.sub (ws' := [(pl, .inr (2, [.ref pna, .ref pta, .int rails, .int limit, .int retry, .int behind])), (pta, .inl (cJ, 64, .inr (.inl pt)))]) [0, 1] (by decide) rfl
          exact W.zret (v := 1) hx hb hr (by decide) (fun t ht hW => ⟨⟨1, (), rfl, ⟨by decide, by decide⟩, xB_of ht hW hP9 hK hD9⟩, hS.F ht⟩) hS.2.2 dX3_isLeastSet_52
        · skip
          have i_73 : ¬ (8 < x71.toInt) := fun h9 => c_73 ((ilt (by decide) rfl).mpr h9)
          refine lv_iload_n hx hb dX3_isLeastSet_19 rfl (lv_at hl 3 rfl) ?_
          refine lv_iload_n hx hb dX3_isLeastSet_20 rfl (lv_at hl 0 rfl) ?_
          refine lv_ishr hx hb dX3_isLeastSet_21 ?_
          refine lv_topi (fun v74 ev74 => ?_)
          refine lv_iconst (v := 1) hx hb dX3_isLeastSet_22 (by decide) ?_
          refine lv_iand hx hb dX3_isLeastSet_23 ?_
          refine lv_topi (fun v75 ev75 => ?_)
          have rv75 : 0 ≤ v75.toInt ∧ v75.toInt ≤ 1 := xandL ev75 (show (1 : Int32).toInt = 1 from (by decide)) (by omega)
          refine lv_iconst (v := 1) hx hb dX3_isLeastSet_24 (by decide) ?_
          refine lv_icmp_ne (tgt := 45) hx hb dX3_isLeastSet_25 (by decide) (fun c_76 => ?_) (fun c_76 => ?_)
          · skip
            have i_76 : ¬ (v75.toInt = 1) := fun h9 => c_76 ((ieq rfl (by decide)).mpr h9)
            obtain ⟨x77, ex77⟩ : ∃ y : Int32, y = x71 + 1 := ⟨_, rfl⟩
            have tx77 : x77.toInt = (x71.toInt + 1) := (congrArg Int32.toInt ex77).trans (xadd rfl (by decide) (by omega) (by omega))
            refine lv_iinc (v := x77) (lv' := [(3, .int x77), (0, .ref pl), (1, .int r0), (2, .int s0)]) hx hb dX3_isLeastSet_45 hl (k := 0) rfl (by rw [ex77]; rfl) (by decide) rfl (fun ls hl => ?_)
            refine lv_goto (tgt := 13) hx hb dX3_isLeastSet_48 (by decide) ?_
            exact ihhl72 x77 (by omega) (xrng tx77 (by omega) (by omega)) _ _ hP hD hS ls (lv_sub hl [0, 1, 2, 3] rfl)
          · skip
            have i_76 : v75.toInt = 1 := (ieq rfl (by decide)).mp c_76
            refine lv_aload_n hx hb dX3_isLeastSet_28 rfl (lv_at hl 1 rfl) ?_
            refine lv_iload_n hx hb dX3_isLeastSet_29 rfl (lv_at hl 2 rfl) ?_
            refine lv_iload_n hx hb dX3_isLeastSet_30 rfl (lv_at hl 3 rfl) ?_
            refine lv_iconst (v := 1) hx hb dX3_isLeastSet_31 (by decide) ?_
            refine lv_iload_n hx hb dX3_isLeastSet_32 rfl (lv_at hl 0 rfl) ?_
            refine lv_ishl hx hb dX3_isLeastSet_33 ?_
            refine lv_topi (fun v78 ev78 => ?_)
            have rv78 : 1 ≤ v78.toInt ∧ v78.toInt ≤ 256 := xshl1 8 ev78 (show (x71 : Int32).toInt = x71.toInt from rfl) (by omega) (by omega) (by decide)
            refine lv_iconst (v := (-1)) hx hb dX3_isLeastSet_34 (by decide) ?_
            refine lv_ixor hx hb dX3_isLeastSet_35 ?_
            refine lv_topi (fun v79 ev79 => ?_)
            refine lv_iand hx hb dX3_isLeastSet_36 ?_
            refine lv_topi (fun v80 ev80 => ?_)
            have hPc := hP.sub (ws' := [(pl, .inr (2, [.ref pna, .ref pta, .int rails, .int limit, .int retry, .int behind])), (pta, .inl (cJ, 64, .inr (.inl pt)))]) [0, 1] rfl
            have hDc := hD.sub (ws' := [(pl, .inr (2, [.ref pna, .ref pta, .int rails, .int limit, .int retry, .int behind])), (pta, .inl (cJ, 64, .inr (.inl pt)))]) [0, 1] (by decide) rfl
            have hFc := va_free (wc := [(pl, .inr (2, [.ref pna, .ref pta, .int rails, .int limit, .int retry, .int behind])), (pta, .inl (cJ, 64, .inr (.inl pt)))]) hD hS hA [0, 1] rfl
            refine va_calli (va_runV (As := [.int r0, .int v80]) (rest := []) ⟨hx, hb, hml, hown, hts⟩ (c_holdsWith l D cI cJ cZ cG cH H.size pl r0 v80 pna pta rails limit retry behind pt (xrng rfl (by omega) (by omega)) (xrng rfl (by omega) (by omega))) (cwV 2 hts (xGV tbC wd610 wd580 wd581 wd39 wd582) rfl rfl rfl (by decide +kernel) ⟨Nat.le_of_ble_eq_true rfl, Nat.le_of_ble_eq_true rfl⟩) ⟨xPc_blind, va_recv hK hPc (ci := 2) (q0 := 0) rfl rfl, xPc_pre hPc hK hDc⟩ rfl rfl hl.1 rfl (lv_room (Nat.le_of_ble_eq_true rfl)) dX3_isLeastSet_37 ⟨Nat.le_of_ble_eq_true rfl, Nat.le_of_ble_eq_true rfl⟩) hS (fun q _ h => hFc q h) hFc (fun r81 u t H1 locs ht hvm hw81 hB hz1 hk1 hS => ?_)
            obtain ⟨hP1, hK1, hD1⟩ := hB
            rw [ht] at hP1
            obtain ⟨hP, hD⟩ := va_join (wr := []) (w1 := [(pl, .inr (2, [.ref pna, .ref pta, .int rails, .int limit, .int retry, .int behind])), (pta, .inl (cJ, 64, .inr (.inl pt)))]) hP hD [0, 1] [] rfl rfl (by decide) (by decide) hk1 hFc hP1 hD1
            generalize H1 = H at hP hS ⊢
            have hP : va_P D vwCl [(pl, .inr (2, [.ref pna, .ref pta, .int rails, .int limit, .int retry, .int behind])), (pta, .inl (cJ, 64, .inr (.inl pt)))] H := hP
            have hD : va_D A [(pl, .inr (2, [.ref pna, .ref pta, .int rails, .int limit, .int retry, .int behind])), (pta, .inl (cJ, 64, .inr (.inl pt)))] := hD
            have hw81 : 0 ≤ r81.toInt ∧ r81.toInt ≤ 1 := hw81
            refine lv_if_eq (tgt := 45) hx hb dX3_isLeastSet_40 (by decide) (fun c_82 => ?_) (fun c_82 => ?_)
            · skip
              have i_82 : r81.toInt = 0 := (ieq rfl (by decide)).mp c_82
              obtain ⟨x83, ex83⟩ : ∃ y : Int32, y = x71 + 1 := ⟨_, rfl⟩
              have tx83 : x83.toInt = (x71.toInt + 1) := (congrArg Int32.toInt ex83).trans (xadd rfl (by decide) (by omega) (by omega))
              refine lv_iinc (v := x83) (lv' := [(3, .int x83), (0, .ref pl), (1, .int r0), (2, .int s0)]) hx hb dX3_isLeastSet_45 hl (k := 0) rfl (by rw [ex83]; rfl) (by decide) rfl (fun ls hl => ?_)
              refine lv_goto (tgt := 13) hx hb dX3_isLeastSet_48 (by decide) ?_
              exact ihhl72 x83 (by omega) (xrng tx83 (by omega) (by omega)) _ _ hP hD hS ls (lv_sub hl [0, 1, 2, 3] rfl)
            · skip
              have i_82 : ¬ (r81.toInt = 0) := fun h9 => c_82 ((ieq rfl (by decide)).mpr h9)
              refine lv_iconst (v := 0) hx hb dX3_isLeastSet_43 (by decide) ?_
              refine W.widen (k := 0) (n := 0) (by decide) (by decide) ?_
              have hP9 := hP.sub (ws' := [(pl, .inr (2, [.ref pna, .ref pta, .int rails, .int limit, .int retry, .int behind])), (pta, .inl (cJ, 64, .inr (.inl pt)))]) [0, 1] rfl
              have hD9 := hD.sub (ws' := [(pl, .inr (2, [.ref pna, .ref pta, .int rails, .int limit, .int retry, .int behind])), (pta, .inl (cJ, 64, .inr (.inl pt)))]) [0, 1] (by decide) rfl
              exact W.zret (v := 0) hx hb hr (by decide) (fun t ht hW => ⟨⟨0, (), rfl, ⟨by decide, by decide⟩, xB_of ht hW hP9 hK hD9⟩, hS.F ht⟩) hS.2.2 dX3_isLeastSet_44
    exact hl72 _ 0 (Nat.lt_succ_self _) ⟨by decide, by decide⟩ _ _ hP hD hS ls (lv_sub hl [0, 1, 2, 3] rfl)
  · skip
    have i_2 : r1.toInt = 0 := (ieq rfl (by decide)).mp c_2
    refine lv_iconst (v := 0) hx hb dX3_isLeastSet_9 (by decide) ?_
    refine W.widen (k := 0) (n := 0) (by decide) (by decide) ?_
    have hP9 := hP.sub (ws' := [(pl, .inr (2, [.ref pna, .ref pta, .int rails, .int limit, .int retry, .int behind])), (pta, .inl (cJ, 64, .inr (.inl pt)))]) [0, 1] rfl
    have hD9 := hD.sub (ws' := [(pl, .inr (2, [.ref pna, .ref pta, .int rails, .int limit, .int retry, .int behind])), (pta, .inl (cJ, 64, .inr (.inl pt)))]) [0, 1] (by decide) rfl
    exact W.zret (v := 0) hx hb hr (by decide) (fun t ht hW => ⟨⟨0, (), rfl, ⟨by decide, by decide⟩, xB_of ht hW hP9 hK hD9⟩, hS.F ht⟩) hS.2.2 dX3_isLeastSet_10
abbrev W_countLeastSets (cI cJ cZ cG cH : ClassId) (pl : Nat) (r0 : Int32) (pna : Nat) (pta : Nat) (rails : Int32) (limit : Int32) (retry : Int32) (behind : Int32) (pt : Nat → Int64) : va_W := [(pl, .inr (2, [.ref pna, .ref pta, .int rails, .int limit, .int retry, .int behind])), (pta, .inl (cJ, 64, .inr (.inl pt)))]
abbrev Q_countLeastSets (D : va_G) (cI cJ cZ cG cH : ClassId) (pl : Nat) (r0 : Int32) (pna : Nat) (pta : Nat) (rails : Int32) (limit : Int32) (retry : Int32) (behind : Int32) (pt : Nat → Int64) (A : Nat → Prop) : Array Value → State → Outcome → State → Prop := va_Qi (fun (r : Int32) (_ : Unit) => True) (fun _ t => xB D (tyL cI cJ cZ cG cH) [(pl, .inr (2, [.ref pna, .ref pta, .int rails, .int limit, .int retry, .int behind])), (pta, .inl (cJ, 64, .inr (.inl pt)))] A t) A
abbrev rm_countLeastSets : Room := { frames := 2, cells := 0, slots := 0, locals := 45 }
set_option maxRecDepth 100000 in
set_option maxHeartbeats 4000000 in
theorem c_countLeastSets (l : Launch) (D : va_G) (cI cJ cZ cG cH : ClassId) (sz : Nat) (pl : Nat) (r0 : Int32) (pna : Nat) (pta : Nat) (rails : Int32) (limit : Int32) (retry : Int32) (behind : Int32) (pt : Nat → Int64) (h_r0 : 0 ≤ r0.toInt ∧ r0.toInt ≤ 7) (h_rails : 0 ≤ rails.toInt ∧ rails.toInt ≤ 8) : Met l yX3_countLeastSets (wt yX3_countLeastSets cX3_countLeastSets 4 (some .int)) rm_countLeastSets (xPc [.ref pl, .int r0] D (tyL cI cJ cZ cG cH) (W_countLeastSets cI cJ cZ cG cH pl r0 pna pta rails limit retry behind pt) sz) (Q_countLeastSets D cI cJ cZ cG cH pl r0 pna pta rails limit retry behind pt (va_A (W_countLeastSets cI cJ cZ cG cH pl r0 pna pta rails limit retry behind pt) sz)) 0 0 (va_A (W_countLeastSets cI cJ cZ cG cH pl r0 pna pta rails limit retry behind pt) sz) := by
  refine xMet (cc := cX3_countLeastSets) (maxL := 4) (ret := (some .int)) (Qf := Q_countLeastSets D cI cJ cZ cG cH pl r0 pna pta rails limit retry behind pt) (by decide) rfl (Nat.le_of_ble_eq_true rfl) ?_
  intro p e s m below meth c ls A hx hb hr hml hts hown hlocks hnm hsz hP hK hD hA hS hl
  have hown : s.vm.findClass RX3 = some m.cls := hown
  have hP : va_P D vwCl [(pl, .inr (2, [.ref pna, .ref pta, .int rails, .int limit, .int retry, .int behind])), (pta, .inl (cJ, 64, .inr (.inl pt)))] s.heap := hP
  have hD : va_D A [(pl, .inr (2, [.ref pna, .ref pta, .int rails, .int limit, .int retry, .int behind])), (pta, .inl (cJ, 64, .inr (.inl pt)))] := hD
  have hl : lv_has ls 4 [(0, .ref pl), (1, .int r0)] := hl
  refine lv_iconst (v := 0) hx hb dX3_countLeastSets_0 (by decide) ?_
  refine lv_istore_n (lv' := [(2, .int 0), (0, .ref pl), (1, .int r0)]) hx hb dX3_countLeastSets_1 rfl hl (by decide) rfl (fun ls hl => ?_)
  refine lv_iconst (v := 0) hx hb dX3_countLeastSets_2 (by decide) ?_
  refine lv_istore_n (lv' := [(3, .int 0), (2, .int 0), (0, .ref pl), (1, .int r0)]) hx hb dX3_countLeastSets_3 rfl hl (by decide) rfl (fun ls hl => ?_)
  have hl45 : ∀ (nhl45 : Nat) (x43 : Int32) (x44 : Int32), ((512 - x43.toInt).toNat < nhl45) → (hx43 : 0 ≤ x43.toInt ∧ x43.toInt ≤ 512) → ∀ (H : Heap) (locs : List Loc), va_P D vwCl [(pl, .inr (2, [.ref pna, .ref pta, .int rails, .int limit, .int retry, .int behind])), (pta, .inl (cJ, 64, .inr (.inl pt)))] H → va_D A [(pl, .inr (2, [.ref pna, .ref pta, .int rails, .int limit, .int retry, .int behind])), (pta, .inl (cJ, 64, .inr (.inl pt)))] → va_S A s.heap H locs → ∀ (ls : Array Slot), lv_has ls 4 [(3, .int x43), (2, .int x44), (0, .ref pl), (1, .int r0)] → W p l e rm_countLeastSets s m [Value.ref pl, Value.int r0].toArray below meth c H locs 0 0 (MQ below ((Q_countLeastSets D cI cJ cZ cG cH pl r0 pna pta rails limit retry behind pt) A) [Value.ref pl, Value.int r0].toArray s 0 0 A) (F0 m 4 ls []) := by
    intro nhl45
    induction nhl45 with
    | zero =>
      intro x43 x44 hmhl45
      exact absurd hmhl45 (Nat.not_lt_zero _)
    | succ nhl45 ihhl45 =>
      intro x43 x44 hmhl45 hx43 H locs hP hD hS ls hl
      refine lv_iload_n hx hb dX3_countLeastSets_4 rfl (lv_at hl 0 rfl) ?_
      refine lv_sipush (v := 512) hx hb dX3_countLeastSets_5 (by decide) ?_
      refine lv_icmp_ge (tgt := 29) hx hb dX3_countLeastSets_8 (by decide) (fun c_46 => ?_) (fun c_46 => ?_)
      · skip
        have i_46 : 512 ≤ x43.toInt := (ile (by decide) rfl).mp c_46
        refine lv_iload_n hx hb dX3_countLeastSets_29 rfl (lv_at hl 1 rfl) ?_
        refine W.widen (k := 0) (n := 0) (by decide) (by decide) ?_
        have hP9 := hP.sub (ws' := [(pl, .inr (2, [.ref pna, .ref pta, .int rails, .int limit, .int retry, .int behind])), (pta, .inl (cJ, 64, .inr (.inl pt)))]) [0, 1] rfl
        have hD9 := hD.sub (ws' := [(pl, .inr (2, [.ref pna, .ref pta, .int rails, .int limit, .int retry, .int behind])), (pta, .inl (cJ, 64, .inr (.inl pt)))]) [0, 1] (by decide) rfl
        exact W.iret (v := x44) hx hb hr (fun t ht hW => ⟨⟨x44, (), rfl, trivial, xB_of ht hW hP9 hK hD9⟩, hS.F ht⟩) hS.2.2 dX3_countLeastSets_30
      · skip
        have i_46 : ¬ (512 ≤ x43.toInt) := fun h9 => c_46 ((ile (by decide) rfl).mpr h9)
        refine lv_aload_n hx hb dX3_countLeastSets_11 rfl (lv_at hl 2 rfl) ?_
        refine lv_iload_n hx hb dX3_countLeastSets_12 rfl (lv_at hl 3 rfl) ?_
        refine lv_iload_n hx hb dX3_countLeastSets_13 rfl (lv_at hl 0 rfl) ?_
        have hPc := hP.sub (ws' := [(pl, .inr (2, [.ref pna, .ref pta, .int rails, .int limit, .int retry, .int behind])), (pta, .inl (cJ, 64, .inr (.inl pt)))]) [0, 1] rfl
        have hDc := hD.sub (ws' := [(pl, .inr (2, [.ref pna, .ref pta, .int rails, .int limit, .int retry, .int behind])), (pta, .inl (cJ, 64, .inr (.inl pt)))]) [0, 1] (by decide) rfl
        have hFc := va_free (wc := [(pl, .inr (2, [.ref pna, .ref pta, .int rails, .int limit, .int retry, .int behind])), (pta, .inl (cJ, 64, .inr (.inl pt)))]) hD hS hA [0, 1] rfl
        refine va_calli (va_runV (As := [.int r0, .int x43]) (rest := []) ⟨hx, hb, hml, hown, hts⟩ (c_isLeastSet l D cI cJ cZ cG cH H.size pl r0 x43 pna pta rails limit retry behind pt (xrng rfl (by omega) (by omega)) (xrng rfl (by omega) (by omega))) (cwV 2 hts (xGV tbC wd606 wd607 wd608 wd39 wd609) rfl rfl rfl (by decide +kernel) ⟨Nat.le_of_ble_eq_true rfl, Nat.le_of_ble_eq_true rfl⟩) ⟨xPc_blind, va_recv hK hPc (ci := 2) (q0 := 0) rfl rfl, xPc_pre hPc hK hDc⟩ rfl rfl hl.1 rfl (lv_room (Nat.le_of_ble_eq_true rfl)) dX3_countLeastSets_14 ⟨Nat.le_of_ble_eq_true rfl, Nat.le_of_ble_eq_true rfl⟩) hS (fun q _ h => hFc q h) hFc (fun r47 u t H1 locs ht hvm hw47 hB hz1 hk1 hS => ?_)
        obtain ⟨hP1, hK1, hD1⟩ := hB
        rw [ht] at hP1
        obtain ⟨hP, hD⟩ := va_join (wr := []) (w1 := [(pl, .inr (2, [.ref pna, .ref pta, .int rails, .int limit, .int retry, .int behind])), (pta, .inl (cJ, 64, .inr (.inl pt)))]) hP hD [0, 1] [] rfl rfl (by decide) (by decide) hk1 hFc hP1 hD1
        generalize H1 = H at hP hS ⊢
        have hP : va_P D vwCl [(pl, .inr (2, [.ref pna, .ref pta, .int rails, .int limit, .int retry, .int behind])), (pta, .inl (cJ, 64, .inr (.inl pt)))] H := hP
        have hD : va_D A [(pl, .inr (2, [.ref pna, .ref pta, .int rails, .int limit, .int retry, .int behind])), (pta, .inl (cJ, 64, .inr (.inl pt)))] := hD
        have hw47 : 0 ≤ r47.toInt ∧ r47.toInt ≤ 1 := hw47
        refine lv_if_eq (tgt := 23) hx hb dX3_countLeastSets_17 (by decide) (fun c_48 => ?_) (fun c_48 => ?_)
        · skip
          have i_48 : r47.toInt = 0 := (ieq rfl (by decide)).mp c_48
          obtain ⟨x49, ex49⟩ : ∃ y : Int32, y = x43 + 1 := ⟨_, rfl⟩
          have tx49 : x49.toInt = (x43.toInt + 1) := (congrArg Int32.toInt ex49).trans (xadd rfl (by decide) (by omega) (by omega))
          refine lv_iinc (v := x49) (lv' := [(3, .int x49), (2, .int x44), (0, .ref pl), (1, .int r0)]) hx hb dX3_countLeastSets_23 hl (k := 0) rfl (by rw [ex49]; rfl) (by decide) rfl (fun ls hl => ?_)
          refine lv_goto (tgt := 4) hx hb dX3_countLeastSets_26 (by decide) ?_
          exact ihhl45 x49 x44 (by omega) (xrng tx49 (by omega) (by omega)) _ _ hP hD hS ls (lv_sub hl [0, 1, 2, 3] rfl)
        · skip
          have i_48 : ¬ (r47.toInt = 0) := fun h9 => c_48 ((ieq rfl (by decide)).mpr h9)
          obtain ⟨x50, ex50⟩ : ∃ y : Int32, y = x44 + 1 := ⟨_, rfl⟩
          refine lv_iinc (v := x50) (lv' := [(2, .int x50), (3, .int x43), (0, .ref pl), (1, .int r0)]) hx hb dX3_countLeastSets_20 hl (k := 1) rfl (by rw [ex50]; rfl) (by decide) rfl (fun ls hl => ?_)
          obtain ⟨x51, ex51⟩ : ∃ y : Int32, y = x43 + 1 := ⟨_, rfl⟩
          have tx51 : x51.toInt = (x43.toInt + 1) := (congrArg Int32.toInt ex51).trans (xadd rfl (by decide) (by omega) (by omega))
          refine lv_iinc (v := x51) (lv' := [(3, .int x51), (2, .int x50), (0, .ref pl), (1, .int r0)]) hx hb dX3_countLeastSets_23 hl (k := 1) rfl (by rw [ex51]; rfl) (by decide) rfl (fun ls hl => ?_)
          refine lv_goto (tgt := 4) hx hb dX3_countLeastSets_26 (by decide) ?_
          exact ihhl45 x51 x50 (by omega) (xrng tx51 (by omega) (by omega)) _ _ hP hD hS ls (lv_sub hl [0, 1, 2, 3] rfl)
  exact hl45 _ 0 0 (Nat.lt_succ_self _) ⟨by decide, by decide⟩ _ _ hP hD hS ls (lv_sub hl [0, 1, 2, 3] rfl)
abbrev W_leastSet (cI cJ cZ cG cH : ClassId) (pl : Nat) (r0 : Int32) (i0 : Int32) (pna : Nat) (pta : Nat) (rails : Int32) (limit : Int32) (retry : Int32) (behind : Int32) (pt : Nat → Int64) : va_W := [(pl, .inr (2, [.ref pna, .ref pta, .int rails, .int limit, .int retry, .int behind])), (pta, .inl (cJ, 64, .inr (.inl pt)))]
abbrev Q_leastSet (D : va_G) (cI cJ cZ cG cH : ClassId) (pl : Nat) (r0 : Int32) (i0 : Int32) (pna : Nat) (pta : Nat) (rails : Int32) (limit : Int32) (retry : Int32) (behind : Int32) (pt : Nat → Int64) (A : Nat → Prop) : Array Value → State → Outcome → State → Prop := va_Qi (fun (r : Int32) (_ : Unit) => (-1) ≤ r.toInt ∧ r.toInt ≤ 511) (fun _ t => xB D (tyL cI cJ cZ cG cH) [(pl, .inr (2, [.ref pna, .ref pta, .int rails, .int limit, .int retry, .int behind])), (pta, .inl (cJ, 64, .inr (.inl pt)))] A t) A
abbrev rm_leastSet : Room := { frames := 2, cells := 0, slots := 0, locals := 45 }
set_option maxRecDepth 100000 in
set_option maxHeartbeats 4000000 in
theorem c_leastSet (l : Launch) (D : va_G) (cI cJ cZ cG cH : ClassId) (sz : Nat) (pl : Nat) (r0 : Int32) (i0 : Int32) (pna : Nat) (pta : Nat) (rails : Int32) (limit : Int32) (retry : Int32) (behind : Int32) (pt : Nat → Int64) (h_r0 : 0 ≤ r0.toInt ∧ r0.toInt ≤ 7) (h_rails : 0 ≤ rails.toInt ∧ rails.toInt ≤ 8) : Met l yX3_leastSet (wt yX3_leastSet cX3_leastSet 5 (some .int)) rm_leastSet (xPc [.ref pl, .int r0, .int i0] D (tyL cI cJ cZ cG cH) (W_leastSet cI cJ cZ cG cH pl r0 i0 pna pta rails limit retry behind pt) sz) (Q_leastSet D cI cJ cZ cG cH pl r0 i0 pna pta rails limit retry behind pt (va_A (W_leastSet cI cJ cZ cG cH pl r0 i0 pna pta rails limit retry behind pt) sz)) 0 0 (va_A (W_leastSet cI cJ cZ cG cH pl r0 i0 pna pta rails limit retry behind pt) sz) := by
  refine xMet (cc := cX3_leastSet) (maxL := 5) (ret := (some .int)) (Qf := Q_leastSet D cI cJ cZ cG cH pl r0 i0 pna pta rails limit retry behind pt) (by decide) rfl (Nat.le_of_ble_eq_true rfl) ?_
  intro p e s m below meth c ls A hx hb hr hml hts hown hlocks hnm hsz hP hK hD hA hS hl
  have hown : s.vm.findClass RX3 = some m.cls := hown
  have hP : va_P D vwCl [(pl, .inr (2, [.ref pna, .ref pta, .int rails, .int limit, .int retry, .int behind])), (pta, .inl (cJ, 64, .inr (.inl pt)))] s.heap := hP
  have hD : va_D A [(pl, .inr (2, [.ref pna, .ref pta, .int rails, .int limit, .int retry, .int behind])), (pta, .inl (cJ, 64, .inr (.inl pt)))] := hD
  have hl : lv_has ls 5 [(0, .ref pl), (1, .int r0), (2, .int i0)] := hl
  refine lv_iconst (v := 0) hx hb dX3_leastSet_0 (by decide) ?_
  refine lv_istore_n (lv' := [(3, .int 0), (0, .ref pl), (1, .int r0), (2, .int i0)]) hx hb dX3_leastSet_1 rfl hl (by decide) rfl (fun ls hl => ?_)
  refine lv_iconst (v := 0) hx hb dX3_leastSet_2 (by decide) ?_
  refine lv_istore (lv' := [(4, .int 0), (3, .int 0), (0, .ref pl), (1, .int r0), (2, .int i0)]) hx hb dX3_leastSet_3 hl (by decide) rfl (fun ls hl => ?_)
  have hl51 : ∀ (nhl51 : Nat) (x49 : Int32) (x50 : Int32), ((512 - x49.toInt).toNat < nhl51) → (hx49 : 0 ≤ x49.toInt ∧ x49.toInt ≤ 512) → ∀ (H : Heap) (locs : List Loc), va_P D vwCl [(pl, .inr (2, [.ref pna, .ref pta, .int rails, .int limit, .int retry, .int behind])), (pta, .inl (cJ, 64, .inr (.inl pt)))] H → va_D A [(pl, .inr (2, [.ref pna, .ref pta, .int rails, .int limit, .int retry, .int behind])), (pta, .inl (cJ, 64, .inr (.inl pt)))] → va_S A s.heap H locs → ∀ (ls : Array Slot), lv_has ls 5 [(4, .int x49), (3, .int x50), (0, .ref pl), (1, .int r0), (2, .int i0)] → W p l e rm_leastSet s m [Value.ref pl, Value.int r0, Value.int i0].toArray below meth c H locs 0 0 (MQ below ((Q_leastSet D cI cJ cZ cG cH pl r0 i0 pna pta rails limit retry behind pt) A) [Value.ref pl, Value.int r0, Value.int i0].toArray s 0 0 A) (F0 m 5 ls []) := by
    intro nhl51
    induction nhl51 with
    | zero =>
      intro x49 x50 hmhl51
      exact absurd hmhl51 (Nat.not_lt_zero _)
    | succ nhl51 ihhl51 =>
      intro x49 x50 hmhl51 hx49 H locs hP hD hS ls hl
      refine lv_iload hx hb dX3_leastSet_5 (lv_at hl 0 rfl) ?_
      refine lv_sipush (v := 512) hx hb dX3_leastSet_7 (by decide) ?_
      refine lv_icmp_ge (tgt := 40) hx hb dX3_leastSet_10 (by decide) (fun c_52 => ?_) (fun c_52 => ?_)
      · skip
        have i_52 : 512 ≤ x49.toInt := (ile (by decide) rfl).mp c_52
        refine lv_iconst (v := (-1)) hx hb dX3_leastSet_40 (by decide) ?_
        refine W.widen (k := 0) (n := 0) (by decide) (by decide) ?_
        have hP9 := hP.sub (ws' := [(pl, .inr (2, [.ref pna, .ref pta, .int rails, .int limit, .int retry, .int behind])), (pta, .inl (cJ, 64, .inr (.inl pt)))]) [0, 1] rfl
        have hD9 := hD.sub (ws' := [(pl, .inr (2, [.ref pna, .ref pta, .int rails, .int limit, .int retry, .int behind])), (pta, .inl (cJ, 64, .inr (.inl pt)))]) [0, 1] (by decide) rfl
        exact W.iret (v := (-1)) hx hb hr (fun t ht hW => ⟨⟨(-1), (), rfl, ⟨by decide, by decide⟩, xB_of ht hW hP9 hK hD9⟩, hS.F ht⟩) hS.2.2 dX3_leastSet_41
      · skip
        have i_52 : ¬ (512 ≤ x49.toInt) := fun h9 => c_52 ((ile (by decide) rfl).mpr h9)
        refine lv_aload_n hx hb dX3_leastSet_13 rfl (lv_at hl 2 rfl) ?_
        refine lv_iload_n hx hb dX3_leastSet_14 rfl (lv_at hl 3 rfl) ?_
        refine lv_iload hx hb dX3_leastSet_15 (lv_at hl 0 rfl) ?_
        have hPc := hP.sub (ws' := [(pl, .inr (2, [.ref pna, .ref pta, .int rails, .int limit, .int retry, .int behind])), (pta, .inl (cJ, 64, .inr (.inl pt)))]) [0, 1] rfl
        have hDc := hD.sub (ws' := [(pl, .inr (2, [.ref pna, .ref pta, .int rails, .int limit, .int retry, .int behind])), (pta, .inl (cJ, 64, .inr (.inl pt)))]) [0, 1] (by decide) rfl
        have hFc := va_free (wc := [(pl, .inr (2, [.ref pna, .ref pta, .int rails, .int limit, .int retry, .int behind])), (pta, .inl (cJ, 64, .inr (.inl pt)))]) hD hS hA [0, 1] rfl
        refine va_calli (va_runV (As := [.int r0, .int x49]) (rest := []) ⟨hx, hb, hml, hown, hts⟩ (c_isLeastSet l D cI cJ cZ cG cH H.size pl r0 x49 pna pta rails limit retry behind pt (xrng rfl (by omega) (by omega)) (xrng rfl (by omega) (by omega))) (cwV 2 hts (xGV tbC wd606 wd607 wd608 wd39 wd609) rfl rfl rfl (by decide +kernel) ⟨Nat.le_of_ble_eq_true rfl, Nat.le_of_ble_eq_true rfl⟩) ⟨xPc_blind, va_recv hK hPc (ci := 2) (q0 := 0) rfl rfl, xPc_pre hPc hK hDc⟩ rfl rfl hl.1 rfl (lv_room (Nat.le_of_ble_eq_true rfl)) dX3_leastSet_17 ⟨Nat.le_of_ble_eq_true rfl, Nat.le_of_ble_eq_true rfl⟩) hS (fun q _ h => hFc q h) hFc (fun r53 u t H1 locs ht hvm hw53 hB hz1 hk1 hS => ?_)
        obtain ⟨hP1, hK1, hD1⟩ := hB
        rw [ht] at hP1
        obtain ⟨hP, hD⟩ := va_join (wr := []) (w1 := [(pl, .inr (2, [.ref pna, .ref pta, .int rails, .int limit, .int retry, .int behind])), (pta, .inl (cJ, 64, .inr (.inl pt)))]) hP hD [0, 1] [] rfl rfl (by decide) (by decide) hk1 hFc hP1 hD1
        generalize H1 = H at hP hS ⊢
        have hP : va_P D vwCl [(pl, .inr (2, [.ref pna, .ref pta, .int rails, .int limit, .int retry, .int behind])), (pta, .inl (cJ, 64, .inr (.inl pt)))] H := hP
        have hD : va_D A [(pl, .inr (2, [.ref pna, .ref pta, .int rails, .int limit, .int retry, .int behind])), (pta, .inl (cJ, 64, .inr (.inl pt)))] := hD
        have hw53 : 0 ≤ r53.toInt ∧ r53.toInt ≤ 1 := hw53
        refine lv_if_eq (tgt := 34) hx hb dX3_leastSet_20 (by decide) (fun c_54 => ?_) (fun c_54 => ?_)
        · skip
          have i_54 : r53.toInt = 0 := (ieq rfl (by decide)).mp c_54
          obtain ⟨x55, ex55⟩ : ∃ y : Int32, y = x49 + 1 := ⟨_, rfl⟩
          have tx55 : x55.toInt = (x49.toInt + 1) := (congrArg Int32.toInt ex55).trans (xadd rfl (by decide) (by omega) (by omega))
          refine lv_iinc (v := x55) (lv' := [(4, .int x55), (3, .int x50), (0, .ref pl), (1, .int r0), (2, .int i0)]) hx hb dX3_leastSet_34 hl (k := 0) rfl (by rw [ex55]; rfl) (by decide) rfl (fun ls hl => ?_)
          refine lv_goto (tgt := 5) hx hb dX3_leastSet_37 (by decide) ?_
          exact ihhl51 x55 x50 (by omega) (xrng tx55 (by omega) (by omega)) _ _ hP hD hS ls (lv_sub hl [0, 1, 2, 3, 4] rfl)
        · skip
          have i_54 : ¬ (r53.toInt = 0) := fun h9 => c_54 ((ieq rfl (by decide)).mpr h9)
          refine lv_iload_n hx hb dX3_leastSet_23 rfl (lv_at hl 1 rfl) ?_
          refine lv_iload_n hx hb dX3_leastSet_24 rfl (lv_at hl 4 rfl) ?_
          refine lv_icmp_ne (tgt := 31) hx hb dX3_leastSet_25 (by decide) (fun c_56 => ?_) (fun c_56 => ?_)
          · skip
            have i_56 : ¬ (x50.toInt = i0.toInt) := fun h9 => c_56 ((ieq rfl rfl).mpr h9)
            obtain ⟨x57, ex57⟩ : ∃ y : Int32, y = x50 + 1 := ⟨_, rfl⟩
            refine lv_iinc (v := x57) (lv' := [(3, .int x57), (4, .int x49), (0, .ref pl), (1, .int r0), (2, .int i0)]) hx hb dX3_leastSet_31 hl (k := 1) rfl (by rw [ex57]; rfl) (by decide) rfl (fun ls hl => ?_)
            obtain ⟨x58, ex58⟩ : ∃ y : Int32, y = x49 + 1 := ⟨_, rfl⟩
            have tx58 : x58.toInt = (x49.toInt + 1) := (congrArg Int32.toInt ex58).trans (xadd rfl (by decide) (by omega) (by omega))
            refine lv_iinc (v := x58) (lv' := [(4, .int x58), (3, .int x57), (0, .ref pl), (1, .int r0), (2, .int i0)]) hx hb dX3_leastSet_34 hl (k := 1) rfl (by rw [ex58]; rfl) (by decide) rfl (fun ls hl => ?_)
            refine lv_goto (tgt := 5) hx hb dX3_leastSet_37 (by decide) ?_
            exact ihhl51 x58 x57 (by omega) (xrng tx58 (by omega) (by omega)) _ _ hP hD hS ls (lv_sub hl [0, 1, 2, 3, 4] rfl)
          · skip
            have i_56 : x50.toInt = i0.toInt := (ieq rfl rfl).mp c_56
            refine lv_iload hx hb dX3_leastSet_28 (lv_at hl 0 rfl) ?_
            refine W.widen (k := 0) (n := 0) (by decide) (by decide) ?_
            have hP9 := hP.sub (ws' := [(pl, .inr (2, [.ref pna, .ref pta, .int rails, .int limit, .int retry, .int behind])), (pta, .inl (cJ, 64, .inr (.inl pt)))]) [0, 1] rfl
            have hD9 := hD.sub (ws' := [(pl, .inr (2, [.ref pna, .ref pta, .int rails, .int limit, .int retry, .int behind])), (pta, .inl (cJ, 64, .inr (.inl pt)))]) [0, 1] (by decide) rfl
            exact W.iret (v := x49) hx hb hr (fun t ht hW => ⟨⟨x49, (), rfl, (xrng rfl (by omega) (by omega)), xB_of ht hW hP9 hK hD9⟩, hS.F ht⟩) hS.2.2 dX3_leastSet_30
  exact hl51 _ 0 0 (Nat.lt_succ_self _) ⟨by decide, by decide⟩ _ _ hP hD hS ls (lv_sub hl [0, 1, 2, 3, 4] rfl)
abbrev W_upAmong (cI cJ cZ cG cH : ClassId) (pl : Nat) (s0 : Int32) (pna : Nat) (pta : Nat) (rails : Int32) (limit : Int32) (retry : Int32) (behind : Int32) (pt : Nat → Int64) : va_W := [(pl, .inr (2, [.ref pna, .ref pta, .int rails, .int limit, .int retry, .int behind])), (pta, .inl (cJ, 64, .inr (.inl pt)))]
abbrev Q_upAmong (D : va_G) (cI cJ cZ cG cH : ClassId) (pl : Nat) (s0 : Int32) (pna : Nat) (pta : Nat) (rails : Int32) (limit : Int32) (retry : Int32) (behind : Int32) (pt : Nat → Int64) (A : Nat → Prop) : Array Value → State → Outcome → State → Prop := va_Qi (fun (r : Int32) (_ : Unit) => 0 ≤ r.toInt ∧ r.toInt ≤ 2147483647) (fun _ t => xB D (tyL cI cJ cZ cG cH) [(pl, .inr (2, [.ref pna, .ref pta, .int rails, .int limit, .int retry, .int behind])), (pta, .inl (cJ, 64, .inr (.inl pt)))] A t) A
abbrev rm_upAmong : Room := { frames := 1, cells := 0, slots := 0, locals := 22 }
set_option maxRecDepth 100000 in
set_option maxHeartbeats 4000000 in
theorem c_upAmong (l : Launch) (D : va_G) (cI cJ cZ cG cH : ClassId) (sz : Nat) (pl : Nat) (s0 : Int32) (pna : Nat) (pta : Nat) (rails : Int32) (limit : Int32) (retry : Int32) (behind : Int32) (pt : Nat → Int64) (h_rails : 0 ≤ rails.toInt ∧ rails.toInt ≤ 8) : Met l yX3_upAmong (wt yX3_upAmong cX3_upAmong 6 (some .int)) rm_upAmong (xPc [.ref pl, .int s0] D (tyL cI cJ cZ cG cH) (W_upAmong cI cJ cZ cG cH pl s0 pna pta rails limit retry behind pt) sz) (Q_upAmong D cI cJ cZ cG cH pl s0 pna pta rails limit retry behind pt (va_A (W_upAmong cI cJ cZ cG cH pl s0 pna pta rails limit retry behind pt) sz)) 0 0 (va_A (W_upAmong cI cJ cZ cG cH pl s0 pna pta rails limit retry behind pt) sz) := by
  refine xMet (cc := cX3_upAmong) (maxL := 6) (ret := (some .int)) (Qf := Q_upAmong D cI cJ cZ cG cH pl s0 pna pta rails limit retry behind pt) (by decide) rfl (Nat.le_of_ble_eq_true rfl) ?_
  intro p e s m below meth c ls A hx hb hr hml hts hown hlocks hnm hsz hP hK hD hA hS hl
  have hown : s.vm.findClass RX3 = some m.cls := hown
  have hP : va_P D vwCl [(pl, .inr (2, [.ref pna, .ref pta, .int rails, .int limit, .int retry, .int behind])), (pta, .inl (cJ, 64, .inr (.inl pt)))] s.heap := hP
  have hD : va_D A [(pl, .inr (2, [.ref pna, .ref pta, .int rails, .int limit, .int retry, .int behind])), (pta, .inl (cJ, 64, .inr (.inl pt)))] := hD
  have hl : lv_has ls 6 [(0, .ref pl), (1, .int s0)] := hl
  refine lv_iconst (v := 0) hx hb dX3_upAmong_0 (by decide) ?_
  refine lv_istore_n (lv' := [(2, .int 0), (0, .ref pl), (1, .int s0)]) hx hb dX3_upAmong_1 rfl hl (by decide) rfl (fun ls hl => ?_)
  refine lv_iconst (v := 0) hx hb dX3_upAmong_2 (by decide) ?_
  refine lv_istore_n (lv' := [(3, .int 0), (2, .int 0), (0, .ref pl), (1, .int s0)]) hx hb dX3_upAmong_3 rfl hl (by decide) rfl (fun ls hl => ?_)
  have hl593 : ∀ (nhl593 : Nat) (x591 : Int32) (x592 : Int32), ((9 - x591.toInt).toNat < nhl593) → (hx591 : 0 ≤ x591.toInt ∧ x591.toInt ≤ 9) → (hx592 : 0 ≤ x592.toInt ∧ x592.toInt ≤ 2147483647) → ∀ (H : Heap) (locs : List Loc), va_P D vwCl [(pl, .inr (2, [.ref pna, .ref pta, .int rails, .int limit, .int retry, .int behind])), (pta, .inl (cJ, 64, .inr (.inl pt)))] H → va_D A [(pl, .inr (2, [.ref pna, .ref pta, .int rails, .int limit, .int retry, .int behind])), (pta, .inl (cJ, 64, .inr (.inl pt)))] → va_S A s.heap H locs → ∀ (ls : Array Slot), lv_has ls 6 [(3, .int x591), (2, .int x592), (0, .ref pl), (1, .int s0)] → W p l e rm_upAmong s m [Value.ref pl, Value.int s0].toArray below meth c H locs 0 0 (MQ below ((Q_upAmong D cI cJ cZ cG cH pl s0 pna pta rails limit retry behind pt) A) [Value.ref pl, Value.int s0].toArray s 0 0 A) (F0 m 4 ls []) := by
    intro nhl593
    induction nhl593 with
    | zero =>
      intro x591 x592 hmhl593
      exact absurd hmhl593 (Nat.not_lt_zero _)
    | succ nhl593 ihhl593 =>
      intro x591 x592 hmhl593 hx591 hx592 H locs hP hD hS ls hl
      refine lv_iload_n hx hb dX3_upAmong_4 rfl (lv_at hl 0 rfl) ?_
      refine lv_bipush (v := 8) hx hb dX3_upAmong_5 (by decide) ?_
      refine lv_icmp_gt (tgt := 82) hx hb dX3_upAmong_7 (by decide) (fun c_594 => ?_) (fun c_594 => ?_)
      · skip
        have i_594 : 8 < x591.toInt := (ilt (by decide) rfl).mp c_594
        refine lv_iload_n hx hb dX3_upAmong_82 rfl (lv_at hl 1 rfl) ?_
        refine W.widen (k := 0) (n := 0) (by decide) (by decide) ?_
        have hP9 := hP.sub (ws' := [(pl, .inr (2, [.ref pna, .ref pta, .int rails, .int limit, .int retry, .int behind])), (pta, .inl (cJ, 64, .inr (.inl pt)))]) [0, 1] rfl
        have hD9 := hD.sub (ws' := [(pl, .inr (2, [.ref pna, .ref pta, .int rails, .int limit, .int retry, .int behind])), (pta, .inl (cJ, 64, .inr (.inl pt)))]) [0, 1] (by decide) rfl
        exact W.iret (v := x592) hx hb hr (fun t ht hW => ⟨⟨x592, (), rfl, (xrng rfl (by omega) (by omega)), xB_of ht hW hP9 hK hD9⟩, hS.F ht⟩) hS.2.2 dX3_upAmong_83
      · skip
        have i_594 : ¬ (8 < x591.toInt) := fun h9 => c_594 ((ilt (by decide) rfl).mpr h9)
        refine lv_iload_n hx hb dX3_upAmong_10 rfl (lv_at hl 1 rfl) ?_
        refine lv_istore (lv' := [(4, .int x592), (3, .int x591), (2, .int x592), (0, .ref pl), (1, .int s0)]) hx hb dX3_upAmong_11 hl (by decide) rfl (fun ls hl => ?_)
        refine lv_iconst (v := 0) hx hb dX3_upAmong_13 (by decide) ?_
        refine lv_istore (lv' := [(5, .int 0), (4, .int x592), (3, .int x591), (2, .int x592), (0, .ref pl), (1, .int s0)]) hx hb dX3_upAmong_14 hl (by decide) rfl (fun ls hl => ?_)
        have hl676 : ∀ (nhl676 : Nat) (x674 : Int32) (x675 : Int32), ((8 - x674.toInt).toNat < nhl676) → (hx674 : 0 ≤ x674.toInt ∧ x674.toInt ≤ 8) → (hx675 : 0 ≤ x675.toInt ∧ x675.toInt ≤ 2147483647) → ∀ (H : Heap) (locs : List Loc), va_P D vwCl [(pl, .inr (2, [.ref pna, .ref pta, .int rails, .int limit, .int retry, .int behind])), (pta, .inl (cJ, 64, .inr (.inl pt)))] H → va_D A [(pl, .inr (2, [.ref pna, .ref pta, .int rails, .int limit, .int retry, .int behind])), (pta, .inl (cJ, 64, .inr (.inl pt)))] → va_S A s.heap H locs → ∀ (ls : Array Slot), lv_has ls 6 [(5, .int x674), (4, .int x675), (3, .int x591), (2, .int x592), (0, .ref pl), (1, .int s0)] → W p l e rm_upAmong s m [Value.ref pl, Value.int s0].toArray below meth c H locs 0 0 (MQ below ((Q_upAmong D cI cJ cZ cG cH pl s0 pna pta rails limit retry behind pt) A) [Value.ref pl, Value.int s0].toArray s 0 0 A) (F0 m 16 ls []) := by
          intro nhl676
          induction nhl676 with
          | zero =>
            intro x674 x675 hmhl676
            exact absurd hmhl676 (Nat.not_lt_zero _)
          | succ nhl676 ihhl676 =>
            intro x674 x675 hmhl676 hx674 hx675 H locs hP hD hS ls hl
            refine lv_iload hx hb dX3_upAmong_16 (lv_at hl 0 rfl) ?_
            refine lv_aload_n hx hb dX3_upAmong_18 rfl (lv_at hl 4 rfl) ?_
            refine va_get (D := D) (ci := 2) (v := .int rails) (C := RX3) (T := TX3) (N := 6) hx hb hts (fun w h => tbC w (tbfX3 w h)) hown hK hP 0 rfl rfl 2 (by decide) (hts (.fieldLink RX3 19 "PowerRails$Plan" "rails" "I") (tbC _ wd122)) (fun _ h9 => h9) rfl dX3_upAmong_19 ?_
            refine lv_icmp_ge (tgt := 64) hx hb dX3_upAmong_22 (by decide) (fun c_677 => ?_) (fun c_677 => ?_)
            · skip
              have i_677 : rails.toInt ≤ x674.toInt := (ile rfl rfl).mp c_677
              refine lv_iload hx hb dX3_upAmong_64 (lv_at hl 1 rfl) ?_
              refine lv_iload_n hx hb dX3_upAmong_66 rfl (lv_at hl 3 rfl) ?_
              refine lv_icmp_ne (tgt := 73) hx hb dX3_upAmong_67 (by decide) (fun c_678 => ?_) (fun c_678 => ?_)
              · skip
                have i_678 : ¬ (x675.toInt = x592.toInt) := fun h9 => c_678 ((ieq rfl rfl).mpr h9)
                refine lv_iload hx hb dX3_upAmong_73 (lv_at hl 1 rfl) ?_
                refine lv_istore_n (lv' := [(2, .int x675), (5, .int x674), (4, .int x675), (3, .int x591), (0, .ref pl), (1, .int s0)]) hx hb dX3_upAmong_75 rfl hl (by decide) rfl (fun ls hl => ?_)
                obtain ⟨x679, ex679⟩ : ∃ y : Int32, y = x591 + 1 := ⟨_, rfl⟩
                have tx679 : x679.toInt = (x591.toInt + 1) := (congrArg Int32.toInt ex679).trans (xadd rfl (by decide) (by omega) (by omega))
                refine lv_iinc (v := x679) (lv' := [(3, .int x679), (2, .int x675), (5, .int x674), (4, .int x675), (0, .ref pl), (1, .int s0)]) hx hb dX3_upAmong_76 hl (k := 3) rfl (by rw [ex679]; rfl) (by decide) rfl (fun ls hl => ?_)
                refine lv_goto (tgt := 4) hx hb dX3_upAmong_79 (by decide) ?_
                exact ihhl593 x679 x675 (by omega) (xrng tx679 (by omega) (by omega)) (xrng rfl (by omega) (by omega)) _ _ hP hD hS ls (lv_sub hl [0, 1, 4, 5] rfl)
              · skip
                have i_678 : x675.toInt = x592.toInt := (ieq rfl rfl).mp c_678
                refine lv_goto (tgt := 82) hx hb dX3_upAmong_70 (by decide) ?_
                refine lv_iload_n hx hb dX3_upAmong_82 rfl (lv_at hl 3 rfl) ?_
                refine W.widen (k := 0) (n := 0) (by decide) (by decide) ?_
                have hP9 := hP.sub (ws' := [(pl, .inr (2, [.ref pna, .ref pta, .int rails, .int limit, .int retry, .int behind])), (pta, .inl (cJ, 64, .inr (.inl pt)))]) [0, 1] rfl
                have hD9 := hD.sub (ws' := [(pl, .inr (2, [.ref pna, .ref pta, .int rails, .int limit, .int retry, .int behind])), (pta, .inl (cJ, 64, .inr (.inl pt)))]) [0, 1] (by decide) rfl
                exact W.iret (v := x592) hx hb hr (fun t ht hW => ⟨⟨x592, (), rfl, (xrng rfl (by omega) (by omega)), xB_of ht hW hP9 hK hD9⟩, hS.F ht⟩) hS.2.2 dX3_upAmong_83
            · skip
              have i_677 : ¬ (rails.toInt ≤ x674.toInt) := fun h9 => c_677 ((ile rfl rfl).mpr h9)
              refine lv_iload_n hx hb dX3_upAmong_25 rfl (lv_at hl 5 rfl) ?_
              refine lv_iload hx hb dX3_upAmong_26 (lv_at hl 0 rfl) ?_
              refine lv_ishr hx hb dX3_upAmong_28 ?_
              refine lv_topi (fun v680 ev680 => ?_)
              refine lv_iconst (v := 1) hx hb dX3_upAmong_29 (by decide) ?_
              refine lv_iand hx hb dX3_upAmong_30 ?_
              refine lv_topi (fun v681 ev681 => ?_)
              have rv681 : 0 ≤ v681.toInt ∧ v681.toInt ≤ 1 := xandL ev681 (show (1 : Int32).toInt = 1 from (by decide)) (by omega)
              refine lv_iconst (v := 1) hx hb dX3_upAmong_31 (by decide) ?_
              refine lv_icmp_ne (tgt := 58) hx hb dX3_upAmong_32 (by decide) (fun c_682 => ?_) (fun c_682 => ?_)
              · skip
                have i_682 : ¬ (v681.toInt = 1) := fun h9 => c_682 ((ieq rfl (by decide)).mpr h9)
                obtain ⟨x683, ex683⟩ : ∃ y : Int32, y = x674 + 1 := ⟨_, rfl⟩
                have tx683 : x683.toInt = (x674.toInt + 1) := (congrArg Int32.toInt ex683).trans (xadd rfl (by decide) (by omega) (by omega))
                refine lv_iinc (v := x683) (lv' := [(5, .int x683), (4, .int x675), (3, .int x591), (2, .int x592), (0, .ref pl), (1, .int s0)]) hx hb dX3_upAmong_58 hl (k := 0) rfl (by rw [ex683]; rfl) (by decide) rfl (fun ls hl => ?_)
                refine lv_goto (tgt := 16) hx hb dX3_upAmong_61 (by decide) ?_
                exact ihhl676 x683 x675 (by omega) (xrng tx683 (by omega) (by omega)) (xrng rfl (by omega) (by omega)) _ _ hP hD hS ls (lv_sub hl [0, 1, 2, 3, 4, 5] rfl)
              · skip
                have i_682 : v681.toInt = 1 := (ieq rfl (by decide)).mp c_682
                refine lv_aload_n hx hb dX3_upAmong_35 rfl (lv_at hl 4 rfl) ?_
                refine lv_iload hx hb dX3_upAmong_36 (lv_at hl 0 rfl) ?_
                refine lv_iload_n hx hb dX3_upAmong_38 rfl (lv_at hl 3 rfl) ?_
                refine lv_sipush (v := 256) hx hb dX3_upAmong_39 (by decide) ?_
                refine lv_ior hx hb dX3_upAmong_42 ?_
                refine lv_topi (fun v684 ev684 => ?_)
                have rv684 : 0 ≤ v684.toInt ∧ v684.toInt ≤ 2147483647 := xorL 31 ev684 (show (x592 : Int32).toInt = x592.toInt from rfl) (show (256 : Int32).toInt = 256 from (by decide)) (by decide) (by decide) (by omega) (by omega) (by omega) (by omega)
                have hPc := hP.sub (ws' := [(pl, .inr (2, [.ref pna, .ref pta, .int rails, .int limit, .int retry, .int behind])), (pta, .inl (cJ, 64, .inr (.inl pt)))]) [0, 1] rfl
                have hDc := hD.sub (ws' := [(pl, .inr (2, [.ref pna, .ref pta, .int rails, .int limit, .int retry, .int behind])), (pta, .inl (cJ, 64, .inr (.inl pt)))]) [0, 1] (by decide) rfl
                have hFc := va_free (wc := [(pl, .inr (2, [.ref pna, .ref pta, .int rails, .int limit, .int retry, .int behind])), (pta, .inl (cJ, 64, .inr (.inl pt)))]) hD hS hA [0, 1] rfl
                refine va_calli (va_runV (As := [.int x674, .int v684]) (rest := []) ⟨hx, hb, hml, hown, hts⟩ (c_holdsWith l D cI cJ cZ cG cH H.size pl x674 v684 pna pta rails limit retry behind pt (xrng rfl (by omega) (by omega)) (xrng rfl (by omega) (by omega))) (cwV 2 hts (xGV tbC wd610 wd580 wd581 wd39 wd582) rfl rfl rfl (by decide +kernel) ⟨Nat.le_of_ble_eq_true rfl, Nat.le_of_ble_eq_true rfl⟩) ⟨xPc_blind, va_recv hK hPc (ci := 2) (q0 := 0) rfl rfl, xPc_pre hPc hK hDc⟩ rfl rfl hl.1 rfl (lv_room (Nat.le_of_ble_eq_true rfl)) dX3_upAmong_43 ⟨Nat.le_of_ble_eq_true rfl, Nat.le_of_ble_eq_true rfl⟩) hS (fun q _ h => hFc q h) hFc (fun r685 u t H1 locs ht hvm hw685 hB hz1 hk1 hS => ?_)
                obtain ⟨hP1, hK1, hD1⟩ := hB
                rw [ht] at hP1
                obtain ⟨hP, hD⟩ := va_join (wr := []) (w1 := [(pl, .inr (2, [.ref pna, .ref pta, .int rails, .int limit, .int retry, .int behind])), (pta, .inl (cJ, 64, .inr (.inl pt)))]) hP hD [0, 1] [] rfl rfl (by decide) (by decide) hk1 hFc hP1 hD1
                generalize H1 = H at hP hS ⊢
                have hP : va_P D vwCl [(pl, .inr (2, [.ref pna, .ref pta, .int rails, .int limit, .int retry, .int behind])), (pta, .inl (cJ, 64, .inr (.inl pt)))] H := hP
                have hD : va_D A [(pl, .inr (2, [.ref pna, .ref pta, .int rails, .int limit, .int retry, .int behind])), (pta, .inl (cJ, 64, .inr (.inl pt)))] := hD
                have hw685 : 0 ≤ r685.toInt ∧ r685.toInt ≤ 1 := hw685
                refine lv_if_eq (tgt := 58) hx hb dX3_upAmong_46 (by decide) (fun c_686 => ?_) (fun c_686 => ?_)
                · skip
                  have i_686 : r685.toInt = 0 := (ieq rfl (by decide)).mp c_686
                  obtain ⟨x687, ex687⟩ : ∃ y : Int32, y = x674 + 1 := ⟨_, rfl⟩
                  have tx687 : x687.toInt = (x674.toInt + 1) := (congrArg Int32.toInt ex687).trans (xadd rfl (by decide) (by omega) (by omega))
                  refine lv_iinc (v := x687) (lv' := [(5, .int x687), (4, .int x675), (3, .int x591), (2, .int x592), (0, .ref pl), (1, .int s0)]) hx hb dX3_upAmong_58 hl (k := 0) rfl (by rw [ex687]; rfl) (by decide) rfl (fun ls hl => ?_)
                  refine lv_goto (tgt := 16) hx hb dX3_upAmong_61 (by decide) ?_
                  exact ihhl676 x687 x675 (by omega) (xrng tx687 (by omega) (by omega)) (xrng rfl (by omega) (by omega)) _ _ hP hD hS ls (lv_sub hl [0, 1, 2, 3, 4, 5] rfl)
                · skip
                  have i_686 : ¬ (r685.toInt = 0) := fun h9 => c_686 ((ieq rfl (by decide)).mpr h9)
                  refine lv_iload hx hb dX3_upAmong_49 (lv_at hl 1 rfl) ?_
                  refine lv_iconst (v := 1) hx hb dX3_upAmong_51 (by decide) ?_
                  refine lv_iload hx hb dX3_upAmong_52 (lv_at hl 0 rfl) ?_
                  refine lv_ishl hx hb dX3_upAmong_54 ?_
                  refine lv_topi (fun v688 ev688 => ?_)
                  have rv688 : 1 ≤ v688.toInt ∧ v688.toInt ≤ 128 := xshl1 7 ev688 (show (x674 : Int32).toInt = x674.toInt from rfl) (by omega) (by omega) (by decide)
                  refine lv_ior hx hb dX3_upAmong_55 ?_
                  refine lv_topi (fun v689 ev689 => ?_)
                  have rv689 : 0 ≤ v689.toInt ∧ v689.toInt ≤ 2147483647 := xorL 31 ev689 (show (x675 : Int32).toInt = x675.toInt from rfl) (show (v688 : Int32).toInt = v688.toInt from rfl) (by decide) (by decide) (by omega) (by omega) (by omega) (by omega)
                  refine lv_istore (lv' := [(4, .int v689), (5, .int x674), (3, .int x591), (2, .int x592), (0, .ref pl), (1, .int s0)]) hx hb dX3_upAmong_56 hl (by decide) rfl (fun ls hl => ?_)
                  obtain ⟨x690, ex690⟩ : ∃ y : Int32, y = x674 + 1 := ⟨_, rfl⟩
                  have tx690 : x690.toInt = (x674.toInt + 1) := (congrArg Int32.toInt ex690).trans (xadd rfl (by decide) (by omega) (by omega))
                  refine lv_iinc (v := x690) (lv' := [(5, .int x690), (4, .int v689), (3, .int x591), (2, .int x592), (0, .ref pl), (1, .int s0)]) hx hb dX3_upAmong_58 hl (k := 1) rfl (by rw [ex690]; rfl) (by decide) rfl (fun ls hl => ?_)
                  refine lv_goto (tgt := 16) hx hb dX3_upAmong_61 (by decide) ?_
                  exact ihhl676 x690 v689 (by omega) (xrng tx690 (by omega) (by omega)) (xrng rfl (by omega) (by omega)) _ _ hP hD hS ls (lv_sub hl [0, 1, 2, 3, 4, 5] rfl)
        exact hl676 _ 0 x592 (Nat.lt_succ_self _) ⟨by decide, by decide⟩ (xrng rfl (by omega) (by omega)) _ _ hP hD hS ls (lv_sub hl [0, 1, 2, 3, 4, 5] rfl)
  exact hl593 _ 0 0 (Nat.lt_succ_self _) ⟨by decide, by decide⟩ ⟨by decide, by decide⟩ _ _ hP hD hS ls (lv_sub hl [0, 1, 2, 3] rfl)
abbrev W_countWays (cI cJ cZ cG cH : ClassId) (pl : Nat) (pna : Nat) (pta : Nat) (rails : Int32) (limit : Int32) (retry : Int32) (behind : Int32) (pn : Nat → Int32) : va_W := [(pl, .inr (2, [.ref pna, .ref pta, .int rails, .int limit, .int retry, .int behind])), (pna, .inl (cI, 64, .inl pn))]
abbrev Q_countWays (D : va_G) (cI cJ cZ cG cH : ClassId) (pl : Nat) (pna : Nat) (pta : Nat) (rails : Int32) (limit : Int32) (retry : Int32) (behind : Int32) (pn : Nat → Int32) (A : Nat → Prop) : Array Value → State → Outcome → State → Prop := va_Qi (fun (r : Int32) (_ : Unit) => True) (fun _ t => xB D (tyL cI cJ cZ cG cH) [(pl, .inr (2, [.ref pna, .ref pta, .int rails, .int limit, .int retry, .int behind])), (pna, .inl (cI, 64, .inl pn))] A t) A
abbrev rm_countWays : Room := { frames := 1, cells := 0, slots := 0, locals := 22 }
set_option maxRecDepth 100000 in
set_option maxHeartbeats 4000000 in
theorem c_countWays (l : Launch) (D : va_G) (cI cJ cZ cG cH : ClassId) (sz : Nat) (pl : Nat) (pna : Nat) (pta : Nat) (rails : Int32) (limit : Int32) (retry : Int32) (behind : Int32) (pn : Nat → Int32) (h_rails : 0 ≤ rails.toInt ∧ rails.toInt ≤ 8) (h_pn : ∀ j, j < 64 → 0 ≤ (pn j).toInt ∧ (pn j).toInt ≤ 511) : Met l yX3_countWays (wt yX3_countWays cX3_countWays 3 (some .int)) rm_countWays (xPc [.ref pl] D (tyL cI cJ cZ cG cH) (W_countWays cI cJ cZ cG cH pl pna pta rails limit retry behind pn) sz) (Q_countWays D cI cJ cZ cG cH pl pna pta rails limit retry behind pn (va_A (W_countWays cI cJ cZ cG cH pl pna pta rails limit retry behind pn) sz)) 0 0 (va_A (W_countWays cI cJ cZ cG cH pl pna pta rails limit retry behind pn) sz) := by
  refine xMet (cc := cX3_countWays) (maxL := 3) (ret := (some .int)) (Qf := Q_countWays D cI cJ cZ cG cH pl pna pta rails limit retry behind pn) (by decide) rfl (Nat.le_of_ble_eq_true rfl) ?_
  intro p e s m below meth c ls A hx hb hr hml hts hown hlocks hnm hsz hP hK hD hA hS hl
  have hown : s.vm.findClass RX3 = some m.cls := hown
  have hP : va_P D vwCl [(pl, .inr (2, [.ref pna, .ref pta, .int rails, .int limit, .int retry, .int behind])), (pna, .inl (cI, 64, .inl pn))] s.heap := hP
  have hD : va_D A [(pl, .inr (2, [.ref pna, .ref pta, .int rails, .int limit, .int retry, .int behind])), (pna, .inl (cI, 64, .inl pn))] := hD
  have hl : lv_has ls 3 [(0, .ref pl)] := hl
  refine lv_iconst (v := 1) hx hb dX3_countWays_0 (by decide) ?_
  refine lv_istore_n (lv' := [(1, .int 1), (0, .ref pl)]) hx hb dX3_countWays_1 rfl hl (by decide) rfl (fun ls hl => ?_)
  refine lv_iconst (v := 0) hx hb dX3_countWays_2 (by decide) ?_
  refine lv_istore_n (lv' := [(2, .int 0), (1, .int 1), (0, .ref pl)]) hx hb dX3_countWays_3 rfl hl (by decide) rfl (fun ls hl => ?_)
  have hl54 : ∀ (nhl54 : Nat) (x52 : Int32) (x53 : Int32), ((8 - x52.toInt).toNat < nhl54) → (hx52 : 0 ≤ x52.toInt ∧ x52.toInt ≤ 8) → ∀ (H : Heap) (locs : List Loc), va_P D vwCl [(pl, .inr (2, [.ref pna, .ref pta, .int rails, .int limit, .int retry, .int behind])), (pna, .inl (cI, 64, .inl pn))] H → va_D A [(pl, .inr (2, [.ref pna, .ref pta, .int rails, .int limit, .int retry, .int behind])), (pna, .inl (cI, 64, .inl pn))] → va_S A s.heap H locs → ∀ (ls : Array Slot), lv_has ls 3 [(2, .int x52), (1, .int x53), (0, .ref pl)] → W p l e rm_countWays s m [Value.ref pl].toArray below meth c H locs 0 0 (MQ below ((Q_countWays D cI cJ cZ cG cH pl pna pta rails limit retry behind pn) A) [Value.ref pl].toArray s 0 0 A) (F0 m 4 ls []) := by
    intro nhl54
    induction nhl54 with
    | zero =>
      intro x52 x53 hmhl54
      exact absurd hmhl54 (Nat.not_lt_zero _)
    | succ nhl54 ihhl54 =>
      intro x52 x53 hmhl54 hx52 H locs hP hD hS ls hl
      refine lv_iload_n hx hb dX3_countWays_4 rfl (lv_at hl 0 rfl) ?_
      refine lv_aload_n hx hb dX3_countWays_5 rfl (lv_at hl 2 rfl) ?_
      refine va_get (D := D) (ci := 2) (v := .int rails) (C := RX3) (T := TX3) (N := 6) hx hb hts (fun w h => tbC w (tbfX3 w h)) hown hK hP 0 rfl rfl 2 (by decide) (hts (.fieldLink RX3 19 "PowerRails$Plan" "rails" "I") (tbC _ wd122)) (fun _ h9 => h9) rfl dX3_countWays_6 ?_
      refine lv_icmp_ge (tgt := 36) hx hb dX3_countWays_9 (by decide) (fun c_55 => ?_) (fun c_55 => ?_)
      · skip
        have i_55 : rails.toInt ≤ x52.toInt := (ile rfl rfl).mp c_55
        refine lv_iload_n hx hb dX3_countWays_36 rfl (lv_at hl 1 rfl) ?_
        refine W.widen (k := 0) (n := 0) (by decide) (by decide) ?_
        have hP9 := hP.sub (ws' := [(pl, .inr (2, [.ref pna, .ref pta, .int rails, .int limit, .int retry, .int behind])), (pna, .inl (cI, 64, .inl pn))]) [0, 1] rfl
        have hD9 := hD.sub (ws' := [(pl, .inr (2, [.ref pna, .ref pta, .int rails, .int limit, .int retry, .int behind])), (pna, .inl (cI, 64, .inl pn))]) [0, 1] (by decide) rfl
        exact W.iret (v := x53) hx hb hr (fun t ht hW => ⟨⟨x53, (), rfl, trivial, xB_of ht hW hP9 hK hD9⟩, hS.F ht⟩) hS.2.2 dX3_countWays_37
      · skip
        have i_55 : ¬ (rails.toInt ≤ x52.toInt) := fun h9 => c_55 ((ile rfl rfl).mpr h9)
        refine lv_iload_n hx hb dX3_countWays_12 rfl (lv_at hl 1 rfl) ?_
        refine lv_aload_n hx hb dX3_countWays_13 rfl (lv_at hl 2 rfl) ?_
        refine lv_iload_n hx hb dX3_countWays_14 rfl (lv_at hl 0 rfl) ?_
        refine lv_iconst (v := 1) hx hb dX3_countWays_15 (by decide) ?_
        have hPc := hP.sub (ws' := [(pl, .inr (2, [.ref pna, .ref pta, .int rails, .int limit, .int retry, .int behind])), (pna, .inl (cI, 64, .inl pn))]) [0, 1] rfl
        have hDc := hD.sub (ws' := [(pl, .inr (2, [.ref pna, .ref pta, .int rails, .int limit, .int retry, .int behind])), (pna, .inl (cI, 64, .inl pn))]) [0, 1] (by decide) rfl
        have hFc := va_free (wc := [(pl, .inr (2, [.ref pna, .ref pta, .int rails, .int limit, .int retry, .int behind])), (pna, .inl (cI, 64, .inl pn))]) hD hS hA [0, 1] rfl
        refine va_calli (va_runV (As := [.int x52, .int 1]) (rest := [.int x53]) ⟨hx, hb, hml, hown, hts⟩ (c_number l D cI cJ cZ cG cH H.size pl x52 (1 : Int32) pna pta rails limit retry behind pn (xrng rfl (by omega) (by omega)) ⟨by decide, by decide⟩ (xrng rfl (by omega) (by omega)) (xwk_rng h_pn (by decide) (by decide))) (cwV 2 hts (xGV tbC wd885 wd388 wd389 wd39 wd390) rfl rfl rfl (by decide +kernel) ⟨Nat.le_of_ble_eq_true rfl, Nat.le_of_ble_eq_true rfl⟩) ⟨xPc_blind, va_recv hK hPc (ci := 2) (q0 := 0) rfl rfl, xPc_pre hPc hK hDc⟩ rfl rfl hl.1 rfl (lv_room (Nat.le_of_ble_eq_true rfl)) dX3_countWays_16 ⟨Nat.le_of_ble_eq_true rfl, Nat.le_of_ble_eq_true rfl⟩) hS (fun q _ h => hFc q h) hFc (fun r56 u t H1 locs ht hvm hw56 hB hz1 hk1 hS => ?_)
        obtain ⟨hP1, hK1, hD1⟩ := hB
        rw [ht] at hP1
        obtain ⟨hP, hD⟩ := va_join (wr := []) (w1 := [(pl, .inr (2, [.ref pna, .ref pta, .int rails, .int limit, .int retry, .int behind])), (pna, .inl (cI, 64, .inl pn))]) hP hD [0, 1] [] rfl rfl (by decide) (by decide) hk1 hFc hP1 hD1
        generalize H1 = H at hP hS ⊢
        have hP : va_P D vwCl [(pl, .inr (2, [.ref pna, .ref pta, .int rails, .int limit, .int retry, .int behind])), (pna, .inl (cI, 64, .inl pn))] H := hP
        have hD : va_D A [(pl, .inr (2, [.ref pna, .ref pta, .int rails, .int limit, .int retry, .int behind])), (pna, .inl (cI, 64, .inl pn))] := hD
        have hw56 : 0 ≤ r56.toInt ∧ r56.toInt ≤ 511 := hw56
        refine lv_aload_n hx hb dX3_countWays_19 rfl (lv_at hl 2 rfl) ?_
        refine lv_iload_n hx hb dX3_countWays_20 rfl (lv_at hl 0 rfl) ?_
        refine lv_iconst (v := 0) hx hb dX3_countWays_21 (by decide) ?_
        have hPc := hP.sub (ws' := [(pl, .inr (2, [.ref pna, .ref pta, .int rails, .int limit, .int retry, .int behind])), (pna, .inl (cI, 64, .inl pn))]) [0, 1] rfl
        have hDc := hD.sub (ws' := [(pl, .inr (2, [.ref pna, .ref pta, .int rails, .int limit, .int retry, .int behind])), (pna, .inl (cI, 64, .inl pn))]) [0, 1] (by decide) rfl
        have hFc := va_free (wc := [(pl, .inr (2, [.ref pna, .ref pta, .int rails, .int limit, .int retry, .int behind])), (pna, .inl (cI, 64, .inl pn))]) hD hS hA [0, 1] rfl
        refine va_calli (va_runV (As := [.int x52, .int 0]) (rest := [.int r56, .int x53]) ⟨hx, hb, hml, hown, hts⟩ (c_number l D cI cJ cZ cG cH H.size pl x52 (0 : Int32) pna pta rails limit retry behind pn (xrng rfl (by omega) (by omega)) ⟨by decide, by decide⟩ (xrng rfl (by omega) (by omega)) (xwk_rng h_pn (by decide) (by decide))) (cwV 2 hts (xGV tbC wd885 wd388 wd389 wd39 wd390) rfl rfl rfl (by decide +kernel) ⟨Nat.le_of_ble_eq_true rfl, Nat.le_of_ble_eq_true rfl⟩) ⟨xPc_blind, va_recv hK hPc (ci := 2) (q0 := 0) rfl rfl, xPc_pre hPc hK hDc⟩ rfl rfl hl.1 rfl (lv_room (Nat.le_of_ble_eq_true rfl)) dX3_countWays_22 ⟨Nat.le_of_ble_eq_true rfl, Nat.le_of_ble_eq_true rfl⟩) hS (fun q _ h => hFc q h) hFc (fun r57 u t H1 locs ht hvm hw57 hB hz1 hk1 hS => ?_)
        obtain ⟨hP1, hK1, hD1⟩ := hB
        rw [ht] at hP1
        obtain ⟨hP, hD⟩ := va_join (wr := []) (w1 := [(pl, .inr (2, [.ref pna, .ref pta, .int rails, .int limit, .int retry, .int behind])), (pna, .inl (cI, 64, .inl pn))]) hP hD [0, 1] [] rfl rfl (by decide) (by decide) hk1 hFc hP1 hD1
        generalize H1 = H at hP hS ⊢
        have hP : va_P D vwCl [(pl, .inr (2, [.ref pna, .ref pta, .int rails, .int limit, .int retry, .int behind])), (pna, .inl (cI, 64, .inl pn))] H := hP
        have hD : va_D A [(pl, .inr (2, [.ref pna, .ref pta, .int rails, .int limit, .int retry, .int behind])), (pna, .inl (cI, 64, .inl pn))] := hD
        have hw57 : 0 ≤ r57.toInt ∧ r57.toInt ≤ 511 := hw57
        refine lv_isub hx hb dX3_countWays_25 ?_
        refine lv_topi (fun v58 ev58 => ?_)
        have tv58 : v58.toInt = (r56.toInt - r57.toInt) := (congrArg Int32.toInt ev58).trans (xsub rfl rfl (by omega) (by omega))
        refine lv_iconst (v := 1) hx hb dX3_countWays_26 (by decide) ?_
        refine lv_iadd hx hb dX3_countWays_27 ?_
        refine lv_topi (fun v59 ev59 => ?_)
        have tv59 : v59.toInt = ((r56.toInt - r57.toInt) + 1) := (congrArg Int32.toInt ev59).trans (xadd tv58 (by decide) (by omega) (by omega))
        refine lv_imul hx hb dX3_countWays_28 ?_
        refine lv_topi (fun v60 ev60 => ?_)
        refine lv_istore_n (lv' := [(1, .int v60), (2, .int x52), (0, .ref pl)]) hx hb dX3_countWays_29 rfl hl (by decide) rfl (fun ls hl => ?_)
        obtain ⟨x61, ex61⟩ : ∃ y : Int32, y = x52 + 1 := ⟨_, rfl⟩
        have tx61 : x61.toInt = (x52.toInt + 1) := (congrArg Int32.toInt ex61).trans (xadd rfl (by decide) (by omega) (by omega))
        refine lv_iinc (v := x61) (lv' := [(2, .int x61), (1, .int v60), (0, .ref pl)]) hx hb dX3_countWays_30 hl (k := 1) rfl (by rw [ex61]; rfl) (by decide) rfl (fun ls hl => ?_)
        refine lv_goto (tgt := 4) hx hb dX3_countWays_33 (by decide) ?_
        exact ihhl54 x61 v60 (by omega) (xrng tx61 (by omega) (by omega)) _ _ hP hD hS ls (lv_sub hl [0, 1, 2] rfl)
  exact hl54 _ 0 1 (Nat.lt_succ_self _) ⟨by decide, by decide⟩ _ _ hP hD hS ls (lv_sub hl [0, 1, 2] rfl)
abbrev W_sourcesOf (cI cJ cZ cG cH : ClassId) (pl : Nat) (s0 : Int32) (pna : Nat) (pta : Nat) (rails : Int32) (limit : Int32) (retry : Int32) (behind : Int32) (pn : Nat → Int32) : va_W := [(pl, .inr (2, [.ref pna, .ref pta, .int rails, .int limit, .int retry, .int behind])), (pna, .inl (cI, 64, .inl pn))]
abbrev Q_sourcesOf (D : va_G) (cI cJ cZ cG cH : ClassId) (pl : Nat) (s0 : Int32) (pna : Nat) (pta : Nat) (rails : Int32) (limit : Int32) (retry : Int32) (behind : Int32) (pn : Nat → Int32) (A : Nat → Prop) : Array Value → State → Outcome → State → Prop := va_Qi (fun (r : Int32) (_ : Unit) => True) (fun _ t => xB D (tyL cI cJ cZ cG cH) [(pl, .inr (2, [.ref pna, .ref pta, .int rails, .int limit, .int retry, .int behind])), (pna, .inl (cI, 64, .inl pn))] A t) A
abbrev rm_sourcesOf : Room := { frames := 1, cells := 0, slots := 0, locals := 22 }
set_option maxRecDepth 100000 in
set_option maxHeartbeats 4000000 in
theorem c_sourcesOf (l : Launch) (D : va_G) (cI cJ cZ cG cH : ClassId) (sz : Nat) (pl : Nat) (s0 : Int32) (pna : Nat) (pta : Nat) (rails : Int32) (limit : Int32) (retry : Int32) (behind : Int32) (pn : Nat → Int32) (h_rails : 0 ≤ rails.toInt ∧ rails.toInt ≤ 8) (h_pn : ∀ j, j < 64 → 0 ≤ (pn j).toInt ∧ (pn j).toInt ≤ 511) : Met l yX3_sourcesOf (wt yX3_sourcesOf cX3_sourcesOf 5 (some .int)) rm_sourcesOf (xPc [.ref pl, .int s0] D (tyL cI cJ cZ cG cH) (W_sourcesOf cI cJ cZ cG cH pl s0 pna pta rails limit retry behind pn) sz) (Q_sourcesOf D cI cJ cZ cG cH pl s0 pna pta rails limit retry behind pn (va_A (W_sourcesOf cI cJ cZ cG cH pl s0 pna pta rails limit retry behind pn) sz)) 0 0 (va_A (W_sourcesOf cI cJ cZ cG cH pl s0 pna pta rails limit retry behind pn) sz) := by
  refine xMet (cc := cX3_sourcesOf) (maxL := 5) (ret := (some .int)) (Qf := Q_sourcesOf D cI cJ cZ cG cH pl s0 pna pta rails limit retry behind pn) (by decide) rfl (Nat.le_of_ble_eq_true rfl) ?_
  intro p e s m below meth c ls A hx hb hr hml hts hown hlocks hnm hsz hP hK hD hA hS hl
  have hown : s.vm.findClass RX3 = some m.cls := hown
  have hP : va_P D vwCl [(pl, .inr (2, [.ref pna, .ref pta, .int rails, .int limit, .int retry, .int behind])), (pna, .inl (cI, 64, .inl pn))] s.heap := hP
  have hD : va_D A [(pl, .inr (2, [.ref pna, .ref pta, .int rails, .int limit, .int retry, .int behind])), (pna, .inl (cI, 64, .inl pn))] := hD
  have hl : lv_has ls 5 [(0, .ref pl), (1, .int s0)] := hl
  refine lv_iload_n hx hb dX3_sourcesOf_0 rfl (lv_at hl 1 rfl) ?_
  refine lv_istore_n (lv' := [(2, .int s0), (0, .ref pl), (1, .int s0)]) hx hb dX3_sourcesOf_1 rfl hl (by decide) rfl (fun ls hl => ?_)
  refine lv_iconst (v := 0) hx hb dX3_sourcesOf_2 (by decide) ?_
  refine lv_istore_n (lv' := [(3, .int 0), (2, .int s0), (0, .ref pl), (1, .int s0)]) hx hb dX3_sourcesOf_3 rfl hl (by decide) rfl (fun ls hl => ?_)
  have hl509 : ∀ (nhl509 : Nat) (x507 : Int32) (x508 : Int32), ((8 - x507.toInt).toNat < nhl509) → (hx507 : 0 ≤ x507.toInt ∧ x507.toInt ≤ 8) → ∀ (H : Heap) (locs : List Loc), va_P D vwCl [(pl, .inr (2, [.ref pna, .ref pta, .int rails, .int limit, .int retry, .int behind])), (pna, .inl (cI, 64, .inl pn))] H → va_D A [(pl, .inr (2, [.ref pna, .ref pta, .int rails, .int limit, .int retry, .int behind])), (pna, .inl (cI, 64, .inl pn))] → va_S A s.heap H locs → ∀ (ls : Array Slot), lv_has ls 5 [(3, .int x507), (2, .int x508), (0, .ref pl), (1, .int s0)] → W p l e rm_sourcesOf s m [Value.ref pl, Value.int s0].toArray below meth c H locs 0 0 (MQ below ((Q_sourcesOf D cI cJ cZ cG cH pl s0 pna pta rails limit retry behind pn) A) [Value.ref pl, Value.int s0].toArray s 0 0 A) (F0 m 4 ls []) := by
    intro nhl509
    induction nhl509 with
    | zero =>
      intro x507 x508 hmhl509
      exact absurd hmhl509 (Nat.not_lt_zero _)
    | succ nhl509 ihhl509 =>
      intro x507 x508 hmhl509 hx507 H locs hP hD hS ls hl
      refine lv_iload_n hx hb dX3_sourcesOf_4 rfl (lv_at hl 0 rfl) ?_
      refine lv_bipush (v := 8) hx hb dX3_sourcesOf_5 (by decide) ?_
      refine lv_icmp_ge (tgt := 60) hx hb dX3_sourcesOf_7 (by decide) (fun c_510 => ?_) (fun c_510 => ?_)
      · skip
        have i_510 : 8 ≤ x507.toInt := (ile (by decide) rfl).mp c_510
        refine lv_iload_n hx hb dX3_sourcesOf_60 rfl (lv_at hl 1 rfl) ?_
        refine W.widen (k := 0) (n := 0) (by decide) (by decide) ?_
        have hP9 := hP.sub (ws' := [(pl, .inr (2, [.ref pna, .ref pta, .int rails, .int limit, .int retry, .int behind])), (pna, .inl (cI, 64, .inl pn))]) [0, 1] rfl
        have hD9 := hD.sub (ws' := [(pl, .inr (2, [.ref pna, .ref pta, .int rails, .int limit, .int retry, .int behind])), (pna, .inl (cI, 64, .inl pn))]) [0, 1] (by decide) rfl
        exact W.iret (v := x508) hx hb hr (fun t ht hW => ⟨⟨x508, (), rfl, trivial, xB_of ht hW hP9 hK hD9⟩, hS.F ht⟩) hS.2.2 dX3_sourcesOf_61
      · skip
        have i_510 : ¬ (8 ≤ x507.toInt) := fun h9 => c_510 ((ile (by decide) rfl).mpr h9)
        refine lv_iconst (v := 0) hx hb dX3_sourcesOf_10 (by decide) ?_
        refine lv_istore (lv' := [(4, .int 0), (3, .int x507), (2, .int x508), (0, .ref pl), (1, .int s0)]) hx hb dX3_sourcesOf_11 hl (by decide) rfl (fun ls hl => ?_)
        have hl581 : ∀ (nhl581 : Nat) (x579 : Int32) (x580 : Int32), ((8 - x579.toInt).toNat < nhl581) → (hx579 : 0 ≤ x579.toInt ∧ x579.toInt ≤ 8) → ∀ (H : Heap) (locs : List Loc), va_P D vwCl [(pl, .inr (2, [.ref pna, .ref pta, .int rails, .int limit, .int retry, .int behind])), (pna, .inl (cI, 64, .inl pn))] H → va_D A [(pl, .inr (2, [.ref pna, .ref pta, .int rails, .int limit, .int retry, .int behind])), (pna, .inl (cI, 64, .inl pn))] → va_S A s.heap H locs → ∀ (ls : Array Slot), lv_has ls 5 [(4, .int x579), (3, .int x507), (2, .int x580), (0, .ref pl), (1, .int s0)] → W p l e rm_sourcesOf s m [Value.ref pl, Value.int s0].toArray below meth c H locs 0 0 (MQ below ((Q_sourcesOf D cI cJ cZ cG cH pl s0 pna pta rails limit retry behind pn) A) [Value.ref pl, Value.int s0].toArray s 0 0 A) (F0 m 13 ls []) := by
          intro nhl581
          induction nhl581 with
          | zero =>
            intro x579 x580 hmhl581
            exact absurd hmhl581 (Nat.not_lt_zero _)
          | succ nhl581 ihhl581 =>
            intro x579 x580 hmhl581 hx579 H locs hP hD hS ls hl
            refine lv_iload hx hb dX3_sourcesOf_13 (lv_at hl 0 rfl) ?_
            refine lv_aload_n hx hb dX3_sourcesOf_15 rfl (lv_at hl 3 rfl) ?_
            refine va_get (D := D) (ci := 2) (v := .int rails) (C := RX3) (T := TX3) (N := 6) hx hb hts (fun w h => tbC w (tbfX3 w h)) hown hK hP 0 rfl rfl 2 (by decide) (hts (.fieldLink RX3 19 "PowerRails$Plan" "rails" "I") (tbC _ wd122)) (fun _ h9 => h9) rfl dX3_sourcesOf_16 ?_
            refine lv_icmp_ge (tgt := 54) hx hb dX3_sourcesOf_19 (by decide) (fun c_582 => ?_) (fun c_582 => ?_)
            · skip
              have i_582 : rails.toInt ≤ x579.toInt := (ile rfl rfl).mp c_582
              obtain ⟨x583, ex583⟩ : ∃ y : Int32, y = x507 + 1 := ⟨_, rfl⟩
              have tx583 : x583.toInt = (x507.toInt + 1) := (congrArg Int32.toInt ex583).trans (xadd rfl (by decide) (by omega) (by omega))
              refine lv_iinc (v := x583) (lv' := [(3, .int x583), (4, .int x579), (2, .int x580), (0, .ref pl), (1, .int s0)]) hx hb dX3_sourcesOf_54 hl (k := 1) rfl (by rw [ex583]; rfl) (by decide) rfl (fun ls hl => ?_)
              refine lv_goto (tgt := 4) hx hb dX3_sourcesOf_57 (by decide) ?_
              exact ihhl509 x583 x580 (by omega) (xrng tx583 (by omega) (by omega)) _ _ hP hD hS ls (lv_sub hl [0, 2, 3, 4] rfl)
            · skip
              have i_582 : ¬ (rails.toInt ≤ x579.toInt) := fun h9 => c_582 ((ile rfl rfl).mpr h9)
              refine lv_iload_n hx hb dX3_sourcesOf_22 rfl (lv_at hl 2 rfl) ?_
              refine lv_iload hx hb dX3_sourcesOf_23 (lv_at hl 0 rfl) ?_
              refine lv_ishr hx hb dX3_sourcesOf_25 ?_
              refine lv_topi (fun v584 ev584 => ?_)
              refine lv_iconst (v := 1) hx hb dX3_sourcesOf_26 (by decide) ?_
              refine lv_iand hx hb dX3_sourcesOf_27 ?_
              refine lv_topi (fun v585 ev585 => ?_)
              have rv585 : 0 ≤ v585.toInt ∧ v585.toInt ≤ 1 := xandL ev585 (show (1 : Int32).toInt = 1 from (by decide)) (by omega)
              refine lv_iconst (v := 1) hx hb dX3_sourcesOf_28 (by decide) ?_
              refine lv_icmp_ne (tgt := 48) hx hb dX3_sourcesOf_29 (by decide) (fun c_586 => ?_) (fun c_586 => ?_)
              · skip
                have i_586 : ¬ (v585.toInt = 1) := fun h9 => c_586 ((ieq rfl (by decide)).mpr h9)
                obtain ⟨x587, ex587⟩ : ∃ y : Int32, y = x579 + 1 := ⟨_, rfl⟩
                have tx587 : x587.toInt = (x579.toInt + 1) := (congrArg Int32.toInt ex587).trans (xadd rfl (by decide) (by omega) (by omega))
                refine lv_iinc (v := x587) (lv' := [(4, .int x587), (3, .int x507), (2, .int x580), (0, .ref pl), (1, .int s0)]) hx hb dX3_sourcesOf_48 hl (k := 0) rfl (by rw [ex587]; rfl) (by decide) rfl (fun ls hl => ?_)
                refine lv_goto (tgt := 13) hx hb dX3_sourcesOf_51 (by decide) ?_
                exact ihhl581 x587 x580 (by omega) (xrng tx587 (by omega) (by omega)) _ _ hP hD hS ls (lv_sub hl [0, 1, 2, 3, 4] rfl)
              · skip
                have i_586 : v585.toInt = 1 := (ieq rfl (by decide)).mp c_586
                refine lv_iload_n hx hb dX3_sourcesOf_32 rfl (lv_at hl 2 rfl) ?_
                refine lv_aload_n hx hb dX3_sourcesOf_33 rfl (lv_at hl 3 rfl) ?_
                refine lv_iload hx hb dX3_sourcesOf_34 (lv_at hl 0 rfl) ?_
                refine lv_bipush (v := 7) hx hb dX3_sourcesOf_36 (by decide) ?_
                have hPc := hP.sub (ws' := [(pl, .inr (2, [.ref pna, .ref pta, .int rails, .int limit, .int retry, .int behind])), (pna, .inl (cI, 64, .inl pn))]) [0, 1] rfl
                have hDc := hD.sub (ws' := [(pl, .inr (2, [.ref pna, .ref pta, .int rails, .int limit, .int retry, .int behind])), (pna, .inl (cI, 64, .inl pn))]) [0, 1] (by decide) rfl
                have hFc := va_free (wc := [(pl, .inr (2, [.ref pna, .ref pta, .int rails, .int limit, .int retry, .int behind])), (pna, .inl (cI, 64, .inl pn))]) hD hS hA [0, 1] rfl
                refine va_calli (va_runV (As := [.int x579, .int 7]) (rest := [.int x580]) ⟨hx, hb, hml, hown, hts⟩ (c_number l D cI cJ cZ cG cH H.size pl x579 (7 : Int32) pna pta rails limit retry behind pn (xrng rfl (by omega) (by omega)) ⟨by decide, by decide⟩ (xrng rfl (by omega) (by omega)) (xwk_rng h_pn (by decide) (by decide))) (cwV 2 hts (xGV tbC wd885 wd388 wd389 wd39 wd390) rfl rfl rfl (by decide +kernel) ⟨Nat.le_of_ble_eq_true rfl, Nat.le_of_ble_eq_true rfl⟩) ⟨xPc_blind, va_recv hK hPc (ci := 2) (q0 := 0) rfl rfl, xPc_pre hPc hK hDc⟩ rfl rfl hl.1 rfl (lv_room (Nat.le_of_ble_eq_true rfl)) dX3_sourcesOf_38 ⟨Nat.le_of_ble_eq_true rfl, Nat.le_of_ble_eq_true rfl⟩) hS (fun q _ h => hFc q h) hFc (fun r588 u t H1 locs ht hvm hw588 hB hz1 hk1 hS => ?_)
                obtain ⟨hP1, hK1, hD1⟩ := hB
                rw [ht] at hP1
                obtain ⟨hP, hD⟩ := va_join (wr := []) (w1 := [(pl, .inr (2, [.ref pna, .ref pta, .int rails, .int limit, .int retry, .int behind])), (pna, .inl (cI, 64, .inl pn))]) hP hD [0, 1] [] rfl rfl (by decide) (by decide) hk1 hFc hP1 hD1
                generalize H1 = H at hP hS ⊢
                have hP : va_P D vwCl [(pl, .inr (2, [.ref pna, .ref pta, .int rails, .int limit, .int retry, .int behind])), (pna, .inl (cI, 64, .inl pn))] H := hP
                have hD : va_D A [(pl, .inr (2, [.ref pna, .ref pta, .int rails, .int limit, .int retry, .int behind])), (pna, .inl (cI, 64, .inl pn))] := hD
                have hw588 : 0 ≤ r588.toInt ∧ r588.toInt ≤ 511 := hw588
                refine lv_aload_n hx hb dX3_sourcesOf_41 rfl (lv_at hl 3 rfl) ?_
                have hPc := hP.sub (ws' := [(pl, .inr (2, [.ref pna, .ref pta, .int rails, .int limit, .int retry, .int behind]))]) [0] rfl
                have hDc := hD.sub (ws' := [(pl, .inr (2, [.ref pna, .ref pta, .int rails, .int limit, .int retry, .int behind]))]) [0] (by decide) rfl
                have hFc := va_free (wc := [(pl, .inr (2, [.ref pna, .ref pta, .int rails, .int limit, .int retry, .int behind]))]) hD hS hA [0] rfl
                refine va_calli (va_runV (As := []) (rest := [.int r588, .int x580]) ⟨hx, hb, hml, hown, hts⟩ (c_allRails l D cI cJ cZ cG cH H.size pl pna pta rails limit retry behind (xrng rfl (by omega) (by omega))) (cwV 0 hts (xGV tbC wd896 wd576 wd577 wd39 wd578) rfl rfl rfl (by decide +kernel) ⟨Nat.le_of_ble_eq_true rfl, Nat.le_of_ble_eq_true rfl⟩) ⟨xPc_blind, va_recv hK hPc (ci := 2) (q0 := 0) rfl rfl, xPc_pre hPc hK hDc⟩ rfl rfl hl.1 rfl (lv_room (Nat.le_of_ble_eq_true rfl)) dX3_sourcesOf_42 ⟨Nat.le_of_ble_eq_true rfl, Nat.le_of_ble_eq_true rfl⟩) hS (fun q _ h => hFc q h) hFc (fun r589 u t H1 locs ht hvm hw589 hB hz1 hk1 hS => ?_)
                obtain ⟨hP1, hK1, hD1⟩ := hB
                rw [ht] at hP1
                obtain ⟨hP, hD⟩ := va_join (wr := [(pna, .inl (cI, 64, .inl pn))]) (w1 := [(pl, .inr (2, [.ref pna, .ref pta, .int rails, .int limit, .int retry, .int behind]))]) hP hD [0] [1] rfl rfl (by decide) (by decide) hk1 hFc hP1 hD1
                generalize H1 = H at hP hS ⊢
                have hP : va_P D vwCl [(pna, .inl (cI, 64, .inl pn)), (pl, .inr (2, [.ref pna, .ref pta, .int rails, .int limit, .int retry, .int behind]))] H := hP
                have hD : va_D A [(pna, .inl (cI, 64, .inl pn)), (pl, .inr (2, [.ref pna, .ref pta, .int rails, .int limit, .int retry, .int behind]))] := hD
                have hw589 : 0 ≤ r589.toInt ∧ r589.toInt ≤ 255 := hw589
                refine lv_iand hx hb dX3_sourcesOf_45 ?_
                refine lv_topi (fun v590 ev590 => ?_)
                have rv590 : 0 ≤ v590.toInt ∧ v590.toInt ≤ r589.toInt := xandL ev590 (show (r589 : Int32).toInt = r589.toInt from rfl) (by omega)
                refine lv_ior hx hb dX3_sourcesOf_46 ?_
                refine lv_topi (fun v591 ev591 => ?_)
                refine lv_istore_n (lv' := [(2, .int v591), (4, .int x579), (3, .int x507), (0, .ref pl), (1, .int s0)]) hx hb dX3_sourcesOf_47 rfl hl (by decide) rfl (fun ls hl => ?_)
                obtain ⟨x592, ex592⟩ : ∃ y : Int32, y = x579 + 1 := ⟨_, rfl⟩
                have tx592 : x592.toInt = (x579.toInt + 1) := (congrArg Int32.toInt ex592).trans (xadd rfl (by decide) (by omega) (by omega))
                refine lv_iinc (v := x592) (lv' := [(4, .int x592), (2, .int v591), (3, .int x507), (0, .ref pl), (1, .int s0)]) hx hb dX3_sourcesOf_48 hl (k := 1) rfl (by rw [ex592]; rfl) (by decide) rfl (fun ls hl => ?_)
                refine lv_goto (tgt := 13) hx hb dX3_sourcesOf_51 (by decide) ?_
                have hP := hP.sub (ws' := [(pl, .inr (2, [.ref pna, .ref pta, .int rails, .int limit, .int retry, .int behind])), (pna, .inl (cI, 64, .inl pn))]) [1, 0] rfl
                have hD := hD.sub (ws' := [(pl, .inr (2, [.ref pna, .ref pta, .int rails, .int limit, .int retry, .int behind])), (pna, .inl (cI, 64, .inl pn))]) [1, 0] (by decide) rfl
                exact ihhl581 x592 v591 (by omega) (xrng tx592 (by omega) (by omega)) _ _ hP hD hS ls (lv_sub hl [0, 2, 1, 3, 4] rfl)
        exact hl581 _ 0 x508 (Nat.lt_succ_self _) ⟨by decide, by decide⟩ _ _ hP hD hS ls (lv_sub hl [0, 1, 2, 3, 4] rfl)
  exact hl509 _ 0 s0 (Nat.lt_succ_self _) ⟨by decide, by decide⟩ _ _ hP hD hS ls (lv_sub hl [0, 1, 2, 3] rfl)
abbrev W_addRail (cI cJ cZ cG cH : ClassId) (pl : Nat) (pna : Nat) (pta : Nat) (rails : Int32) (limit : Int32) (retry : Int32) (behind : Int32) (pn : Nat → Int32) (pt : Nat → Int64) : va_W := [(pl, .inr (2, [.ref pna, .ref pta, .int rails, .int limit, .int retry, .int behind])), (pna, .inl (cI, 64, .inl pn)), (pta, .inl (cJ, 64, .inr (.inl pt)))]
abbrev Q_addRail (D : va_G) (cI cJ cZ cG cH : ClassId) (pl : Nat) (pna : Nat) (pta : Nat) (rails : Int32) (limit : Int32) (retry : Int32) (behind : Int32) (pn : Nat → Int32) (pt : Nat → Int64) (A : Nat → Prop) : Array Value → State → Outcome → State → Prop := va_Qv (fun (_ : Unit) => True) (fun _ t => ∃ (rails9 : Int32) (pn9 : Nat → Int32) (pt9 : Nat → Int64), (1 ≤ rails9.toInt ∧ rails9.toInt ≤ 8) ∧ (∀ j, j < 64 → 0 ≤ (pn9 j).toInt ∧ (pn9 j).toInt ≤ 511) ∧ xB D (tyL cI cJ cZ cG cH) [(pl, .inr (2, [.ref pna, .ref pta, .int rails9, .int limit, .int retry, .int behind])), (pna, .inl (cI, 64, .inl pn9)), (pta, .inl (cJ, 64, .inr (.inl pt9)))] A t) A
abbrev rm_addRail : Room := { frames := 1, cells := 0, slots := 0, locals := 23 }
set_option maxRecDepth 100000 in
set_option maxHeartbeats 4000000 in
theorem c_addRail (l : Launch) (D : va_G) (cI cJ cZ cG cH : ClassId) (sz : Nat) (pl : Nat) (pna : Nat) (pta : Nat) (rails : Int32) (limit : Int32) (retry : Int32) (behind : Int32) (pn : Nat → Int32) (pt : Nat → Int64) (h_rails : 0 ≤ rails.toInt ∧ rails.toInt ≤ 7) (h_pn : ∀ j, j < 64 → 0 ≤ (pn j).toInt ∧ (pn j).toInt ≤ 511) : Met l yX3_addRail (wt yX3_addRail cX3_addRail 2 none) rm_addRail (xPc [.ref pl] D (tyL cI cJ cZ cG cH) (W_addRail cI cJ cZ cG cH pl pna pta rails limit retry behind pn pt) sz) (Q_addRail D cI cJ cZ cG cH pl pna pta rails limit retry behind pn pt (va_A (W_addRail cI cJ cZ cG cH pl pna pta rails limit retry behind pn pt) sz)) 0 0 (va_A (W_addRail cI cJ cZ cG cH pl pna pta rails limit retry behind pn pt) sz) := by
  refine xMet (cc := cX3_addRail) (maxL := 2) (ret := none) (Qf := Q_addRail D cI cJ cZ cG cH pl pna pta rails limit retry behind pn pt) (by decide) rfl (Nat.le_of_ble_eq_true rfl) ?_
  intro p e s m below meth c ls A hx hb hr hml hts hown hlocks hnm hsz hP hK hD hA hS hl
  have hown : s.vm.findClass RX3 = some m.cls := hown
  have hP : va_P D vwCl [(pl, .inr (2, [.ref pna, .ref pta, .int rails, .int limit, .int retry, .int behind])), (pna, .inl (cI, 64, .inl pn)), (pta, .inl (cJ, 64, .inr (.inl pt)))] s.heap := hP
  have hD : va_D A [(pl, .inr (2, [.ref pna, .ref pta, .int rails, .int limit, .int retry, .int behind])), (pna, .inl (cI, 64, .inl pn)), (pta, .inl (cJ, 64, .inr (.inl pt)))] := hD
  have hl : lv_has ls 2 [(0, .ref pl)] := hl
  refine lv_aload_n hx hb dX3_addRail_0 rfl (lv_at hl 0 rfl) ?_
  refine lv_aload_n hx hb dX3_addRail_1 rfl (lv_at hl 0 rfl) ?_
  refine va_get (D := D) (ci := 2) (v := .int rails) (C := RX3) (T := TX3) (N := 6) hx hb hts (fun w h => tbC w (tbfX3 w h)) hown hK hP 0 rfl rfl 2 (by decide) (hts (.fieldLink RX3 19 "PowerRails$Plan" "rails" "I") (tbC _ wd122)) (fun _ h9 => h9) rfl dX3_addRail_2 ?_
  refine lv_iconst (v := 2) hx hb dX3_addRail_5 (by decide) ?_
  refine lv_iconst (v := 1) hx hb dX3_addRail_6 (by decide) ?_
  have hPc := hP.sub (ws' := [(pl, .inr (2, [.ref pna, .ref pta, .int rails, .int limit, .int retry, .int behind])), (pna, .inl (cI, 64, .inl pn))]) [0, 1] rfl
  have hDc := hD.sub (ws' := [(pl, .inr (2, [.ref pna, .ref pta, .int rails, .int limit, .int retry, .int behind])), (pna, .inl (cI, 64, .inl pn))]) [0, 1] (by decide) rfl
  have hFc := va_free (wc := [(pl, .inr (2, [.ref pna, .ref pta, .int rails, .int limit, .int retry, .int behind])), (pna, .inl (cI, 64, .inl pn))]) hD hS hA [0, 1] rfl
  refine va_callv (va_runV (As := [.int rails, .int 2, .int 1]) (rest := []) ⟨hx, hb, hml, hown, hts⟩ (c_setNumber l D cI cJ cZ cG cH s.heap.size pl rails (2 : Int32) (1 : Int32) pna pta rails limit retry behind pn (xrng rfl (by omega) (by omega)) ⟨by decide, by decide⟩ ⟨by decide, by decide⟩ (xrng rfl (by omega) (by omega)) (xwk_rng h_pn (by decide) (by decide))) (cwV 3 hts (xGV tbC wd331 wd332 wd333 wd39 wd334) rfl rfl rfl (by decide +kernel) ⟨Nat.le_of_ble_eq_true rfl, Nat.le_of_ble_eq_true rfl⟩) ⟨xPc_blind, va_recv hK hPc (ci := 2) (q0 := 0) rfl rfl, xPc_pre hPc hK hDc⟩ rfl rfl hl.1 rfl (lv_room (Nat.le_of_ble_eq_true rfl)) dX3_addRail_7 ⟨Nat.le_of_ble_eq_true rfl, Nat.le_of_ble_eq_true rfl⟩) hS (fun q _ h => hFc q h) hFc (fun u t H1 locs ht hvm hw1 hB hz1 hk1 hS => ?_)
  obtain ⟨pn_2, hf2_0, hP1, hK1, hD1⟩ := hB
  rw [ht] at hP1
  obtain ⟨hP, hD⟩ := va_join (wr := [(pta, .inl (cJ, 64, .inr (.inl pt)))]) (w1 := [(pl, .inr (2, [.ref pna, .ref pta, .int rails, .int limit, .int retry, .int behind])), (pna, .inl (cI, 64, .inl pn_2))]) hP hD [0, 1] [2] rfl rfl (by decide) (by decide) hk1 hFc hP1 hD1
  generalize H1 = H at hP hS ⊢
  have hP : va_P D vwCl [(pta, .inl (cJ, 64, .inr (.inl pt))), (pl, .inr (2, [.ref pna, .ref pta, .int rails, .int limit, .int retry, .int behind])), (pna, .inl (cI, 64, .inl pn_2))] H := hP
  have hD : va_D A [(pta, .inl (cJ, 64, .inr (.inl pt))), (pl, .inr (2, [.ref pna, .ref pta, .int rails, .int limit, .int retry, .int behind])), (pna, .inl (cI, 64, .inl pn_2))] := hD
  have hf2_0 : ∀ j, j < 64 → 0 ≤ (pn_2 j).toInt ∧ (pn_2 j).toInt ≤ 511 := hf2_0
  refine lv_aload_n hx hb dX3_addRail_10 rfl (lv_at hl 0 rfl) ?_
  refine lv_aload_n hx hb dX3_addRail_11 rfl (lv_at hl 0 rfl) ?_
  refine va_get (D := D) (ci := 2) (v := .int rails) (C := RX3) (T := TX3) (N := 6) hx hb hts (fun w h => tbC w (tbfX3 w h)) hown hK hP 1 rfl rfl 2 (by decide) (hts (.fieldLink RX3 19 "PowerRails$Plan" "rails" "I") (tbC _ wd122)) (fun _ h9 => h9) rfl dX3_addRail_12 ?_
  refine lv_iconst (v := 3) hx hb dX3_addRail_15 (by decide) ?_
  refine lv_iconst (v := 1) hx hb dX3_addRail_16 (by decide) ?_
  have hPc := hP.sub (ws' := [(pl, .inr (2, [.ref pna, .ref pta, .int rails, .int limit, .int retry, .int behind])), (pna, .inl (cI, 64, .inl pn_2))]) [1, 2] rfl
  have hDc := hD.sub (ws' := [(pl, .inr (2, [.ref pna, .ref pta, .int rails, .int limit, .int retry, .int behind])), (pna, .inl (cI, 64, .inl pn_2))]) [1, 2] (by decide) rfl
  have hFc := va_free (wc := [(pl, .inr (2, [.ref pna, .ref pta, .int rails, .int limit, .int retry, .int behind])), (pna, .inl (cI, 64, .inl pn_2))]) hD hS hA [1, 2] rfl
  refine va_callv (va_runV (As := [.int rails, .int 3, .int 1]) (rest := []) ⟨hx, hb, hml, hown, hts⟩ (c_setNumber l D cI cJ cZ cG cH H.size pl rails (3 : Int32) (1 : Int32) pna pta rails limit retry behind pn_2 (xrng rfl (by omega) (by omega)) ⟨by decide, by decide⟩ ⟨by decide, by decide⟩ (xrng rfl (by omega) (by omega)) (xwk_rng hf2_0 (by decide) (by decide))) (cwV 3 hts (xGV tbC wd331 wd332 wd333 wd39 wd334) rfl rfl rfl (by decide +kernel) ⟨Nat.le_of_ble_eq_true rfl, Nat.le_of_ble_eq_true rfl⟩) ⟨xPc_blind, va_recv hK hPc (ci := 2) (q0 := 0) rfl rfl, xPc_pre hPc hK hDc⟩ rfl rfl hl.1 rfl (lv_room (Nat.le_of_ble_eq_true rfl)) dX3_addRail_17 ⟨Nat.le_of_ble_eq_true rfl, Nat.le_of_ble_eq_true rfl⟩) hS (fun q _ h => hFc q h) hFc (fun u t H1 locs ht hvm hw3 hB hz1 hk1 hS => ?_)
  obtain ⟨pn_4, hf4_0, hP1, hK1, hD1⟩ := hB
  rw [ht] at hP1
  obtain ⟨hP, hD⟩ := va_join (wr := [(pta, .inl (cJ, 64, .inr (.inl pt)))]) (w1 := [(pl, .inr (2, [.ref pna, .ref pta, .int rails, .int limit, .int retry, .int behind])), (pna, .inl (cI, 64, .inl pn_4))]) hP hD [1, 2] [0] rfl rfl (by decide) (by decide) hk1 hFc hP1 hD1
  generalize H1 = H at hP hS ⊢
  have hP : va_P D vwCl [(pta, .inl (cJ, 64, .inr (.inl pt))), (pl, .inr (2, [.ref pna, .ref pta, .int rails, .int limit, .int retry, .int behind])), (pna, .inl (cI, 64, .inl pn_4))] H := hP
  have hD : va_D A [(pta, .inl (cJ, 64, .inr (.inl pt))), (pl, .inr (2, [.ref pna, .ref pta, .int rails, .int limit, .int retry, .int behind])), (pna, .inl (cI, 64, .inl pn_4))] := hD
  have hf4_0 : ∀ j, j < 64 → 0 ≤ (pn_4 j).toInt ∧ (pn_4 j).toInt ≤ 511 := hf4_0
  refine lv_aload_n hx hb dX3_addRail_20 rfl (lv_at hl 0 rfl) ?_
  refine lv_aload_n hx hb dX3_addRail_21 rfl (lv_at hl 0 rfl) ?_
  refine va_get (D := D) (ci := 2) (v := .int rails) (C := RX3) (T := TX3) (N := 6) hx hb hts (fun w h => tbC w (tbfX3 w h)) hown hK hP 1 rfl rfl 2 (by decide) (hts (.fieldLink RX3 19 "PowerRails$Plan" "rails" "I") (tbC _ wd122)) (fun _ h9 => h9) rfl dX3_addRail_22 ?_
  refine lv_iconst (v := 4) hx hb dX3_addRail_25 (by decide) ?_
  refine lv_iconst (v := 2) hx hb dX3_addRail_26 (by decide) ?_
  have hPc := hP.sub (ws' := [(pl, .inr (2, [.ref pna, .ref pta, .int rails, .int limit, .int retry, .int behind])), (pna, .inl (cI, 64, .inl pn_4))]) [1, 2] rfl
  have hDc := hD.sub (ws' := [(pl, .inr (2, [.ref pna, .ref pta, .int rails, .int limit, .int retry, .int behind])), (pna, .inl (cI, 64, .inl pn_4))]) [1, 2] (by decide) rfl
  have hFc := va_free (wc := [(pl, .inr (2, [.ref pna, .ref pta, .int rails, .int limit, .int retry, .int behind])), (pna, .inl (cI, 64, .inl pn_4))]) hD hS hA [1, 2] rfl
  refine va_callv (va_runV (As := [.int rails, .int 4, .int 2]) (rest := []) ⟨hx, hb, hml, hown, hts⟩ (c_setNumber l D cI cJ cZ cG cH H.size pl rails (4 : Int32) (2 : Int32) pna pta rails limit retry behind pn_4 (xrng rfl (by omega) (by omega)) ⟨by decide, by decide⟩ ⟨by decide, by decide⟩ (xrng rfl (by omega) (by omega)) (xwk_rng hf4_0 (by decide) (by decide))) (cwV 3 hts (xGV tbC wd331 wd332 wd333 wd39 wd334) rfl rfl rfl (by decide +kernel) ⟨Nat.le_of_ble_eq_true rfl, Nat.le_of_ble_eq_true rfl⟩) ⟨xPc_blind, va_recv hK hPc (ci := 2) (q0 := 0) rfl rfl, xPc_pre hPc hK hDc⟩ rfl rfl hl.1 rfl (lv_room (Nat.le_of_ble_eq_true rfl)) dX3_addRail_27 ⟨Nat.le_of_ble_eq_true rfl, Nat.le_of_ble_eq_true rfl⟩) hS (fun q _ h => hFc q h) hFc (fun u t H1 locs ht hvm hw5 hB hz1 hk1 hS => ?_)
  obtain ⟨pn_6, hf6_0, hP1, hK1, hD1⟩ := hB
  rw [ht] at hP1
  obtain ⟨hP, hD⟩ := va_join (wr := [(pta, .inl (cJ, 64, .inr (.inl pt)))]) (w1 := [(pl, .inr (2, [.ref pna, .ref pta, .int rails, .int limit, .int retry, .int behind])), (pna, .inl (cI, 64, .inl pn_6))]) hP hD [1, 2] [0] rfl rfl (by decide) (by decide) hk1 hFc hP1 hD1
  generalize H1 = H at hP hS ⊢
  have hP : va_P D vwCl [(pta, .inl (cJ, 64, .inr (.inl pt))), (pl, .inr (2, [.ref pna, .ref pta, .int rails, .int limit, .int retry, .int behind])), (pna, .inl (cI, 64, .inl pn_6))] H := hP
  have hD : va_D A [(pta, .inl (cJ, 64, .inr (.inl pt))), (pl, .inr (2, [.ref pna, .ref pta, .int rails, .int limit, .int retry, .int behind])), (pna, .inl (cI, 64, .inl pn_6))] := hD
  have hf6_0 : ∀ j, j < 64 → 0 ≤ (pn_6 j).toInt ∧ (pn_6 j).toInt ≤ 511 := hf6_0
  refine lv_aload_n hx hb dX3_addRail_30 rfl (lv_at hl 0 rfl) ?_
  refine lv_aload_n hx hb dX3_addRail_31 rfl (lv_at hl 0 rfl) ?_
  refine va_get (D := D) (ci := 2) (v := .int rails) (C := RX3) (T := TX3) (N := 6) hx hb hts (fun w h => tbC w (tbfX3 w h)) hown hK hP 1 rfl rfl 2 (by decide) (hts (.fieldLink RX3 19 "PowerRails$Plan" "rails" "I") (tbC _ wd122)) (fun _ h9 => h9) rfl dX3_addRail_32 ?_
  refine lv_iconst (v := 5) hx hb dX3_addRail_35 (by decide) ?_
  refine lv_iconst (v := 0) hx hb dX3_addRail_36 (by decide) ?_
  have hPc := hP.sub (ws' := [(pl, .inr (2, [.ref pna, .ref pta, .int rails, .int limit, .int retry, .int behind])), (pna, .inl (cI, 64, .inl pn_6))]) [1, 2] rfl
  have hDc := hD.sub (ws' := [(pl, .inr (2, [.ref pna, .ref pta, .int rails, .int limit, .int retry, .int behind])), (pna, .inl (cI, 64, .inl pn_6))]) [1, 2] (by decide) rfl
  have hFc := va_free (wc := [(pl, .inr (2, [.ref pna, .ref pta, .int rails, .int limit, .int retry, .int behind])), (pna, .inl (cI, 64, .inl pn_6))]) hD hS hA [1, 2] rfl
  refine va_callv (va_runV (As := [.int rails, .int 5, .int 0]) (rest := []) ⟨hx, hb, hml, hown, hts⟩ (c_setNumber l D cI cJ cZ cG cH H.size pl rails (5 : Int32) (0 : Int32) pna pta rails limit retry behind pn_6 (xrng rfl (by omega) (by omega)) ⟨by decide, by decide⟩ ⟨by decide, by decide⟩ (xrng rfl (by omega) (by omega)) (xwk_rng hf6_0 (by decide) (by decide))) (cwV 3 hts (xGV tbC wd331 wd332 wd333 wd39 wd334) rfl rfl rfl (by decide +kernel) ⟨Nat.le_of_ble_eq_true rfl, Nat.le_of_ble_eq_true rfl⟩) ⟨xPc_blind, va_recv hK hPc (ci := 2) (q0 := 0) rfl rfl, xPc_pre hPc hK hDc⟩ rfl rfl hl.1 rfl (lv_room (Nat.le_of_ble_eq_true rfl)) dX3_addRail_37 ⟨Nat.le_of_ble_eq_true rfl, Nat.le_of_ble_eq_true rfl⟩) hS (fun q _ h => hFc q h) hFc (fun u t H1 locs ht hvm hw7 hB hz1 hk1 hS => ?_)
  obtain ⟨pn_8, hf8_0, hP1, hK1, hD1⟩ := hB
  rw [ht] at hP1
  obtain ⟨hP, hD⟩ := va_join (wr := [(pta, .inl (cJ, 64, .inr (.inl pt)))]) (w1 := [(pl, .inr (2, [.ref pna, .ref pta, .int rails, .int limit, .int retry, .int behind])), (pna, .inl (cI, 64, .inl pn_8))]) hP hD [1, 2] [0] rfl rfl (by decide) (by decide) hk1 hFc hP1 hD1
  generalize H1 = H at hP hS ⊢
  have hP : va_P D vwCl [(pta, .inl (cJ, 64, .inr (.inl pt))), (pl, .inr (2, [.ref pna, .ref pta, .int rails, .int limit, .int retry, .int behind])), (pna, .inl (cI, 64, .inl pn_8))] H := hP
  have hD : va_D A [(pta, .inl (cJ, 64, .inr (.inl pt))), (pl, .inr (2, [.ref pna, .ref pta, .int rails, .int limit, .int retry, .int behind])), (pna, .inl (cI, 64, .inl pn_8))] := hD
  have hf8_0 : ∀ j, j < 64 → 0 ≤ (pn_8 j).toInt ∧ (pn_8 j).toInt ≤ 511 := hf8_0
  refine lv_aload_n hx hb dX3_addRail_40 rfl (lv_at hl 0 rfl) ?_
  refine lv_aload_n hx hb dX3_addRail_41 rfl (lv_at hl 0 rfl) ?_
  refine va_get (D := D) (ci := 2) (v := .int rails) (C := RX3) (T := TX3) (N := 6) hx hb hts (fun w h => tbC w (tbfX3 w h)) hown hK hP 1 rfl rfl 2 (by decide) (hts (.fieldLink RX3 19 "PowerRails$Plan" "rails" "I") (tbC _ wd122)) (fun _ h9 => h9) rfl dX3_addRail_42 ?_
  refine lv_bipush (v := 6) hx hb dX3_addRail_45 (by decide) ?_
  refine lv_iconst (v := 0) hx hb dX3_addRail_47 (by decide) ?_
  have hPc := hP.sub (ws' := [(pl, .inr (2, [.ref pna, .ref pta, .int rails, .int limit, .int retry, .int behind])), (pna, .inl (cI, 64, .inl pn_8))]) [1, 2] rfl
  have hDc := hD.sub (ws' := [(pl, .inr (2, [.ref pna, .ref pta, .int rails, .int limit, .int retry, .int behind])), (pna, .inl (cI, 64, .inl pn_8))]) [1, 2] (by decide) rfl
  have hFc := va_free (wc := [(pl, .inr (2, [.ref pna, .ref pta, .int rails, .int limit, .int retry, .int behind])), (pna, .inl (cI, 64, .inl pn_8))]) hD hS hA [1, 2] rfl
  refine va_callv (va_runV (As := [.int rails, .int 6, .int 0]) (rest := []) ⟨hx, hb, hml, hown, hts⟩ (c_setNumber l D cI cJ cZ cG cH H.size pl rails (6 : Int32) (0 : Int32) pna pta rails limit retry behind pn_8 (xrng rfl (by omega) (by omega)) ⟨by decide, by decide⟩ ⟨by decide, by decide⟩ (xrng rfl (by omega) (by omega)) (xwk_rng hf8_0 (by decide) (by decide))) (cwV 3 hts (xGV tbC wd331 wd332 wd333 wd39 wd334) rfl rfl rfl (by decide +kernel) ⟨Nat.le_of_ble_eq_true rfl, Nat.le_of_ble_eq_true rfl⟩) ⟨xPc_blind, va_recv hK hPc (ci := 2) (q0 := 0) rfl rfl, xPc_pre hPc hK hDc⟩ rfl rfl hl.1 rfl (lv_room (Nat.le_of_ble_eq_true rfl)) dX3_addRail_48 ⟨Nat.le_of_ble_eq_true rfl, Nat.le_of_ble_eq_true rfl⟩) hS (fun q _ h => hFc q h) hFc (fun u t H1 locs ht hvm hw9 hB hz1 hk1 hS => ?_)
  obtain ⟨pn_10, hf10_0, hP1, hK1, hD1⟩ := hB
  rw [ht] at hP1
  obtain ⟨hP, hD⟩ := va_join (wr := [(pta, .inl (cJ, 64, .inr (.inl pt)))]) (w1 := [(pl, .inr (2, [.ref pna, .ref pta, .int rails, .int limit, .int retry, .int behind])), (pna, .inl (cI, 64, .inl pn_10))]) hP hD [1, 2] [0] rfl rfl (by decide) (by decide) hk1 hFc hP1 hD1
  generalize H1 = H at hP hS ⊢
  have hP : va_P D vwCl [(pta, .inl (cJ, 64, .inr (.inl pt))), (pl, .inr (2, [.ref pna, .ref pta, .int rails, .int limit, .int retry, .int behind])), (pna, .inl (cI, 64, .inl pn_10))] H := hP
  have hD : va_D A [(pta, .inl (cJ, 64, .inr (.inl pt))), (pl, .inr (2, [.ref pna, .ref pta, .int rails, .int limit, .int retry, .int behind])), (pna, .inl (cI, 64, .inl pn_10))] := hD
  have hf10_0 : ∀ j, j < 64 → 0 ≤ (pn_10 j).toInt ∧ (pn_10 j).toInt ≤ 511 := hf10_0
  refine lv_aload_n hx hb dX3_addRail_51 rfl (lv_at hl 0 rfl) ?_
  refine lv_aload_n hx hb dX3_addRail_52 rfl (lv_at hl 0 rfl) ?_
  refine va_get (D := D) (ci := 2) (v := .int rails) (C := RX3) (T := TX3) (N := 6) hx hb hts (fun w h => tbC w (tbfX3 w h)) hown hK hP 1 rfl rfl 2 (by decide) (hts (.fieldLink RX3 19 "PowerRails$Plan" "rails" "I") (tbC _ wd122)) (fun _ h9 => h9) rfl dX3_addRail_53 ?_
  refine lv_bipush (v := 7) hx hb dX3_addRail_56 (by decide) ?_
  refine lv_sipush (v := 256) hx hb dX3_addRail_58 (by decide) ?_
  have hPc := hP.sub (ws' := [(pl, .inr (2, [.ref pna, .ref pta, .int rails, .int limit, .int retry, .int behind])), (pna, .inl (cI, 64, .inl pn_10))]) [1, 2] rfl
  have hDc := hD.sub (ws' := [(pl, .inr (2, [.ref pna, .ref pta, .int rails, .int limit, .int retry, .int behind])), (pna, .inl (cI, 64, .inl pn_10))]) [1, 2] (by decide) rfl
  have hFc := va_free (wc := [(pl, .inr (2, [.ref pna, .ref pta, .int rails, .int limit, .int retry, .int behind])), (pna, .inl (cI, 64, .inl pn_10))]) hD hS hA [1, 2] rfl
  refine va_callv (va_runV (As := [.int rails, .int 7, .int 256]) (rest := []) ⟨hx, hb, hml, hown, hts⟩ (c_setNumber l D cI cJ cZ cG cH H.size pl rails (7 : Int32) (256 : Int32) pna pta rails limit retry behind pn_10 (xrng rfl (by omega) (by omega)) ⟨by decide, by decide⟩ ⟨by decide, by decide⟩ (xrng rfl (by omega) (by omega)) (xwk_rng hf10_0 (by decide) (by decide))) (cwV 3 hts (xGV tbC wd331 wd332 wd333 wd39 wd334) rfl rfl rfl (by decide +kernel) ⟨Nat.le_of_ble_eq_true rfl, Nat.le_of_ble_eq_true rfl⟩) ⟨xPc_blind, va_recv hK hPc (ci := 2) (q0 := 0) rfl rfl, xPc_pre hPc hK hDc⟩ rfl rfl hl.1 rfl (lv_room (Nat.le_of_ble_eq_true rfl)) dX3_addRail_61 ⟨Nat.le_of_ble_eq_true rfl, Nat.le_of_ble_eq_true rfl⟩) hS (fun q _ h => hFc q h) hFc (fun u t H1 locs ht hvm hw11 hB hz1 hk1 hS => ?_)
  obtain ⟨pn_12, hf12_0, hP1, hK1, hD1⟩ := hB
  rw [ht] at hP1
  obtain ⟨hP, hD⟩ := va_join (wr := [(pta, .inl (cJ, 64, .inr (.inl pt)))]) (w1 := [(pl, .inr (2, [.ref pna, .ref pta, .int rails, .int limit, .int retry, .int behind])), (pna, .inl (cI, 64, .inl pn_12))]) hP hD [1, 2] [0] rfl rfl (by decide) (by decide) hk1 hFc hP1 hD1
  generalize H1 = H at hP hS ⊢
  have hP : va_P D vwCl [(pta, .inl (cJ, 64, .inr (.inl pt))), (pl, .inr (2, [.ref pna, .ref pta, .int rails, .int limit, .int retry, .int behind])), (pna, .inl (cI, 64, .inl pn_12))] H := hP
  have hD : va_D A [(pta, .inl (cJ, 64, .inr (.inl pt))), (pl, .inr (2, [.ref pna, .ref pta, .int rails, .int limit, .int retry, .int behind])), (pna, .inl (cI, 64, .inl pn_12))] := hD
  have hf12_0 : ∀ j, j < 64 → 0 ≤ (pn_12 j).toInt ∧ (pn_12 j).toInt ≤ 511 := hf12_0
  refine lv_iconst (v := 0) hx hb dX3_addRail_64 (by decide) ?_
  refine lv_istore_n (lv' := [(1, .int 0), (0, .ref pl)]) hx hb dX3_addRail_65 rfl hl (by decide) rfl (fun ls hl => ?_)
  have hl64 : ∀ (nhl64 : Nat) (x62 : Int32) (f63 : Nat → Int64), ((8 - x62.toInt).toNat < nhl64) → (hx62 : 0 ≤ x62.toInt ∧ x62.toInt ≤ 8) → ∀ (H : Heap) (locs : List Loc), va_P D vwCl [(pta, .inl (cJ, 64, .inr (.inl f63))), (pl, .inr (2, [.ref pna, .ref pta, .int rails, .int limit, .int retry, .int behind])), (pna, .inl (cI, 64, .inl pn_12))] H → va_D A [(pta, .inl (cJ, 64, .inr (.inl f63))), (pl, .inr (2, [.ref pna, .ref pta, .int rails, .int limit, .int retry, .int behind])), (pna, .inl (cI, 64, .inl pn_12))] → va_S A s.heap H locs → ∀ (ls : Array Slot), lv_has ls 2 [(1, .int x62), (0, .ref pl)] → W p l e rm_addRail s m [Value.ref pl].toArray below meth c H locs 0 0 (MQ below ((Q_addRail D cI cJ cZ cG cH pl pna pta rails limit retry behind pn pt) A) [Value.ref pl].toArray s 0 0 A) (F0 m 66 ls []) := by
    intro nhl64
    induction nhl64 with
    | zero =>
      intro x62 f63 hmhl64
      exact absurd hmhl64 (Nat.not_lt_zero _)
    | succ nhl64 ihhl64 =>
      intro x62 f63 hmhl64 hx62 H locs hP hD hS ls hl
      refine lv_iload_n hx hb dX3_addRail_66 rfl (lv_at hl 0 rfl) ?_
      refine lv_bipush (v := 8) hx hb dX3_addRail_67 (by decide) ?_
      refine lv_icmp_ge (tgt := 104) hx hb dX3_addRail_69 (by decide) (fun c_65 => ?_) (fun c_65 => ?_)
      · skip
        have i_65 : 8 ≤ x62.toInt := (ile (by decide) rfl).mp c_65
        refine lv_aload_n hx hb dX3_addRail_104 rfl (lv_at hl 1 rfl) ?_
        refine lv_dup hx hb dX3_addRail_105 rfl ?_
        refine va_get (D := D) (ci := 2) (v := .int rails) (C := RX3) (T := TX3) (N := 6) hx hb hts (fun w h => tbC w (tbfX3 w h)) hown hK hP 1 rfl rfl 2 (by decide) (hts (.fieldLink RX3 19 "PowerRails$Plan" "rails" "I") (tbC _ wd122)) (fun _ h9 => h9) rfl dX3_addRail_106 ?_
        refine lv_iconst (v := 1) hx hb dX3_addRail_109 (by decide) ?_
        refine lv_iadd hx hb dX3_addRail_110 ?_
        refine lv_topi (fun v66 ev66 => ?_)
        have tv66 : v66.toInt = (rails.toInt + 1) := (congrArg Int32.toInt ev66).trans (xadd rfl (by decide) (by omega) (by omega))
        refine va_put (D := D) (ci := 2) (v := .int v66) (ty := .int) (C := RX3) (T := TX3) (N := 6) hx hb hts (fun w h => tbC w (tbfX3 w h)) tyX3 tyX3_ok nmX3 hown hK hP hD hS 1 rfl rfl 2 (by decide) (hts (.fieldLink RX3 19 "PowerRails$Plan" "rails" "I") (tbC _ wd122)) (fun _ h9 => h9) rfl (by decide +kernel) rfl rfl (Nat.le_of_ble_eq_true rfl) dX3_addRail_111 (fun H locs hP hD hS => ?_)
        have hP : va_P D vwCl [(pta, .inl (cJ, 64, .inr (.inl f63))), (pl, .inr (2, [.ref pna, .ref pta, .int v66, .int limit, .int retry, .int behind])), (pna, .inl (cI, 64, .inl pn_12))] H := hP
        have hD : va_D A [(pta, .inl (cJ, 64, .inr (.inl f63))), (pl, .inr (2, [.ref pna, .ref pta, .int v66, .int limit, .int retry, .int behind])), (pna, .inl (cI, 64, .inl pn_12))] := hD
        refine W.widen (k := 0) (n := 0) (by decide) (by decide) ?_
        have hP9 := hP.sub (ws' := [(pl, .inr (2, [.ref pna, .ref pta, .int v66, .int limit, .int retry, .int behind])), (pna, .inl (cI, 64, .inl pn_12)), (pta, .inl (cJ, 64, .inr (.inl f63)))]) [1, 2, 0] rfl
        have hD9 := hD.sub (ws' := [(pl, .inr (2, [.ref pna, .ref pta, .int v66, .int limit, .int retry, .int behind])), (pna, .inl (cI, 64, .inl pn_12)), (pta, .inl (cJ, 64, .inr (.inl f63)))]) [1, 2, 0] (by decide) rfl
        exact W.vret hx hb hr (fun t ht hW => ⟨⟨(), rfl, trivial, ⟨v66, pn_12, f63, (xrng tv66 (by omega) (by omega)), (xwk_rng hf12_0 (by decide) (by decide)), xB_of ht hW hP9 hK hD9⟩⟩, hS.F ht⟩) hS.2.2 dX3_addRail_114
      · skip
        have i_65 : ¬ (8 ≤ x62.toInt) := fun h9 => c_65 ((ile (by decide) rfl).mpr h9)
        refine lv_aload_n hx hb dX3_addRail_72 rfl (lv_at hl 1 rfl) ?_
        refine va_get (D := D) (ci := 2) (v := .ref pta) (C := RX3) (T := TX3) (N := 6) hx hb hts (fun w h => tbC w (tbfX3 w h)) hown hK hP 1 rfl rfl 1 (by decide) (hts (.fieldLink RX3 15 "PowerRails$Plan" "tables" "[J") (tbC _ wd121)) (fun _ h9 => h9) rfl dX3_addRail_73 ?_
        refine lv_aload_n hx hb dX3_addRail_76 rfl (lv_at hl 1 rfl) ?_
        refine va_get (D := D) (ci := 2) (v := .int rails) (C := RX3) (T := TX3) (N := 6) hx hb hts (fun w h => tbC w (tbfX3 w h)) hown hK hP 1 rfl rfl 2 (by decide) (hts (.fieldLink RX3 19 "PowerRails$Plan" "rails" "I") (tbC _ wd122)) (fun _ h9 => h9) rfl dX3_addRail_77 ?_
        refine lv_bipush (v := 8) hx hb dX3_addRail_80 (by decide) ?_
        refine lv_imul hx hb dX3_addRail_82 ?_
        refine lv_topi (fun v67 ev67 => ?_)
        have tv67 : v67.toInt = (rails.toInt * 8) := (congrArg Int32.toInt ev67).trans (xmul rfl (by decide) (by omega) (by omega))
        refine lv_iload_n hx hb dX3_addRail_83 rfl (lv_at hl 0 rfl) ?_
        refine lv_iadd hx hb dX3_addRail_84 ?_
        refine lv_topi (fun v68 ev68 => ?_)
        have tv68 : v68.toInt = ((rails.toInt * 8) + x62.toInt) := (congrArg Int32.toInt ev68).trans (xadd tv67 rfl (by omega) (by omega))
        refine lv_iload_n hx hb dX3_addRail_85 rfl (lv_at hl 0 rfl) ?_
        refine lv_iconst (v := 4) hx hb dX3_addRail_86 (by decide) ?_
        refine lv_icmp_lt (tgt := 96) hx hb dX3_addRail_87 (by decide) (fun c_69 => ?_) (fun c_69 => ?_)
        · skip
          have i_69 : x62.toInt < 4 := (ilt rfl (by decide)).mp c_69
          refine lv_lconst (v := 0) hx hb dX3_addRail_96 (by decide) ?_
          refine va_last hx hb hK hP hD hS 0 1 rfl rfl (vp_in_iff.mpr (by rw [tv68]; omega)) dX3_addRail_97 (fun H locs hP hD hS => ?_)
          obtain ⟨f70, ef70⟩ : ∃ fz9 : Nat → Int64, fz9 = vp_updL f63 (v68 : Int32).toNatClampNeg 0 := ⟨_, rfl⟩
          have hP : va_P D vwCl [(pta, .inl (cJ, 64, .inr (.inl f70))), (pl, .inr (2, [.ref pna, .ref pta, .int rails, .int limit, .int retry, .int behind])), (pna, .inl (cI, 64, .inl pn_12))] H := by rw [ef70]; exact hP
          have hD : va_D A [(pta, .inl (cJ, 64, .inr (.inl f70))), (pl, .inr (2, [.ref pna, .ref pta, .int rails, .int limit, .int retry, .int behind])), (pna, .inl (cI, 64, .inl pn_12))] := by rw [ef70]; exact hD
          obtain ⟨x71, ex71⟩ : ∃ y : Int32, y = x62 + 1 := ⟨_, rfl⟩
          have tx71 : x71.toInt = (x62.toInt + 1) := (congrArg Int32.toInt ex71).trans (xadd rfl (by decide) (by omega) (by omega))
          refine lv_iinc (v := x71) (lv' := [(1, .int x71), (0, .ref pl)]) hx hb dX3_addRail_98 hl (k := 0) rfl (by rw [ex71]; rfl) (by decide) rfl (fun ls hl => ?_)
          refine lv_goto (tgt := 66) hx hb dX3_addRail_101 (by decide) ?_
          exact ihhl64 x71 f70 (by omega) (xrng tx71 (by omega) (by omega)) _ _ hP hD hS ls (lv_sub hl [0, 1] rfl)
        · skip
          have i_69 : ¬ (x62.toInt < 4) := fun h9 => c_69 ((ilt rfl (by decide)).mpr h9)
          refine lv_ldc2 (v := (-1)) hx hb hown (hts (.constantLong RX3 36 (-1)) (tbC _ wd330)) dX3_addRail_90 ?_
          refine lv_goto (tgt := 97) hx hb dX3_addRail_93 (by decide) ?_
          refine va_last hx hb hK hP hD hS 0 1 rfl rfl (vp_in_iff.mpr (by rw [tv68]; omega)) dX3_addRail_97 (fun H locs hP hD hS => ?_)
          obtain ⟨f72, ef72⟩ : ∃ fz9 : Nat → Int64, fz9 = vp_updL f63 (v68 : Int32).toNatClampNeg (-1) := ⟨_, rfl⟩
          have hP : va_P D vwCl [(pta, .inl (cJ, 64, .inr (.inl f72))), (pl, .inr (2, [.ref pna, .ref pta, .int rails, .int limit, .int retry, .int behind])), (pna, .inl (cI, 64, .inl pn_12))] H := by rw [ef72]; exact hP
          have hD : va_D A [(pta, .inl (cJ, 64, .inr (.inl f72))), (pl, .inr (2, [.ref pna, .ref pta, .int rails, .int limit, .int retry, .int behind])), (pna, .inl (cI, 64, .inl pn_12))] := by rw [ef72]; exact hD
          obtain ⟨x73, ex73⟩ : ∃ y : Int32, y = x62 + 1 := ⟨_, rfl⟩
          have tx73 : x73.toInt = (x62.toInt + 1) := (congrArg Int32.toInt ex73).trans (xadd rfl (by decide) (by omega) (by omega))
          refine lv_iinc (v := x73) (lv' := [(1, .int x73), (0, .ref pl)]) hx hb dX3_addRail_98 hl (k := 0) rfl (by rw [ex73]; rfl) (by decide) rfl (fun ls hl => ?_)
          refine lv_goto (tgt := 66) hx hb dX3_addRail_101 (by decide) ?_
          exact ihhl64 x73 f72 (by omega) (xrng tx73 (by omega) (by omega)) _ _ hP hD hS ls (lv_sub hl [0, 1] rfl)
  exact hl64 _ 0 pt (Nat.lt_succ_self _) ⟨by decide, by decide⟩ _ _ hP hD hS ls (lv_sub hl [0, 1] rfl)
abbrev W_pSetWaits (cI cJ cZ cG cH : ClassId) (pl : Nat) (srwa : Nat) (pna : Nat) (pta : Nat) (rails : Int32) (limit : Int32) (retry : Int32) (behind : Int32) (pn : Nat → Int32) (srow : Nat → Int32) : va_W := [(pl, .inr (2, [.ref pna, .ref pta, .int rails, .int limit, .int retry, .int behind])), (pna, .inl (cI, 64, .inl pn)), (srwa, .inl (cI, 8, .inl srow))]
abbrev Q_pSetWaits (D : va_G) (cI cJ cZ cG cH : ClassId) (pl : Nat) (srwa : Nat) (pna : Nat) (pta : Nat) (rails : Int32) (limit : Int32) (retry : Int32) (behind : Int32) (pn : Nat → Int32) (srow : Nat → Int32) (A : Nat → Prop) : Array Value → State → Outcome → State → Prop := va_Qv (fun (_ : Unit) => True) (fun _ t => ∃ (pn9 : Nat → Int32), (∀ j, j < 64 → 0 ≤ (pn9 j).toInt ∧ (pn9 j).toInt ≤ 511) ∧ xB D (tyL cI cJ cZ cG cH) [(pl, .inr (2, [.ref pna, .ref pta, .int rails, .int limit, .int retry, .int behind])), (pna, .inl (cI, 64, .inl pn9)), (srwa, .inl (cI, 8, .inl srow))] A t) A
abbrev rm_pSetWaits : Room := { frames := 1, cells := 0, slots := 0, locals := 23 }
set_option maxRecDepth 100000 in
set_option maxHeartbeats 4000000 in
theorem c_pSetWaits (l : Launch) (D : va_G) (cI cJ cZ cG cH : ClassId) (sz : Nat) (pl : Nat) (srwa : Nat) (pna : Nat) (pta : Nat) (rails : Int32) (limit : Int32) (retry : Int32) (behind : Int32) (pn : Nat → Int32) (srow : Nat → Int32) (h_rails : 0 ≤ rails.toInt ∧ rails.toInt ≤ 8) (h_pn : ∀ j, j < 64 → 0 ≤ (pn j).toInt ∧ (pn j).toInt ≤ 511) (h_srow : ∀ j, j < 8 → 0 ≤ (srow j).toInt ∧ (srow j).toInt ≤ 511) : Met l yX3_setWaits (wt yX3_setWaits cX3_setWaits 3 none) rm_pSetWaits (xPc [.ref pl, .ref srwa] D (tyL cI cJ cZ cG cH) (W_pSetWaits cI cJ cZ cG cH pl srwa pna pta rails limit retry behind pn srow) sz) (Q_pSetWaits D cI cJ cZ cG cH pl srwa pna pta rails limit retry behind pn srow (va_A (W_pSetWaits cI cJ cZ cG cH pl srwa pna pta rails limit retry behind pn srow) sz)) 0 0 (va_A (W_pSetWaits cI cJ cZ cG cH pl srwa pna pta rails limit retry behind pn srow) sz) := by
  refine xMet (cc := cX3_setWaits) (maxL := 3) (ret := none) (Qf := Q_pSetWaits D cI cJ cZ cG cH pl srwa pna pta rails limit retry behind pn srow) (by decide) rfl (Nat.le_of_ble_eq_true rfl) ?_
  intro p e s m below meth c ls A hx hb hr hml hts hown hlocks hnm hsz hP hK hD hA hS hl
  have hown : s.vm.findClass RX3 = some m.cls := hown
  have hP : va_P D vwCl [(pl, .inr (2, [.ref pna, .ref pta, .int rails, .int limit, .int retry, .int behind])), (pna, .inl (cI, 64, .inl pn)), (srwa, .inl (cI, 8, .inl srow))] s.heap := hP
  have hD : va_D A [(pl, .inr (2, [.ref pna, .ref pta, .int rails, .int limit, .int retry, .int behind])), (pna, .inl (cI, 64, .inl pn)), (srwa, .inl (cI, 8, .inl srow))] := hD
  have hl : lv_has ls 3 [(0, .ref pl), (1, .ref srwa)] := hl
  refine lv_iconst (v := 0) hx hb dX3_setWaits_0 (by decide) ?_
  refine lv_istore_n (lv' := [(2, .int 0), (0, .ref pl), (1, .ref srwa)]) hx hb dX3_setWaits_1 rfl hl (by decide) rfl (fun ls hl => ?_)
  have hl42 : ∀ (nhl42 : Nat) (x40 : Int32) (f41 : Nat → Int32), ((8 - x40.toInt).toNat < nhl42) → (hx40 : 0 ≤ x40.toInt ∧ x40.toInt ≤ 8) → (hf41 : ∀ j, j < 64 → 0 ≤ (f41 j).toInt ∧ (f41 j).toInt ≤ 511) → ∀ (H : Heap) (locs : List Loc), va_P D vwCl [(pl, .inr (2, [.ref pna, .ref pta, .int rails, .int limit, .int retry, .int behind])), (pna, .inl (cI, 64, .inl f41)), (srwa, .inl (cI, 8, .inl srow))] H → va_D A [(pl, .inr (2, [.ref pna, .ref pta, .int rails, .int limit, .int retry, .int behind])), (pna, .inl (cI, 64, .inl f41)), (srwa, .inl (cI, 8, .inl srow))] → va_S A s.heap H locs → ∀ (ls : Array Slot), lv_has ls 3 [(2, .int x40), (0, .ref pl), (1, .ref srwa)] → W p l e rm_pSetWaits s m [Value.ref pl, Value.ref srwa].toArray below meth c H locs 0 0 (MQ below ((Q_pSetWaits D cI cJ cZ cG cH pl srwa pna pta rails limit retry behind pn srow) A) [Value.ref pl, Value.ref srwa].toArray s 0 0 A) (F0 m 2 ls []) := by
    intro nhl42
    induction nhl42 with
    | zero =>
      intro x40 f41 hmhl42
      exact absurd hmhl42 (Nat.not_lt_zero _)
    | succ nhl42 ihhl42 =>
      intro x40 f41 hmhl42 hx40 hf41 H locs hP hD hS ls hl
      refine lv_iload_n hx hb dX3_setWaits_2 rfl (lv_at hl 0 rfl) ?_
      refine lv_aload_n hx hb dX3_setWaits_3 rfl (lv_at hl 1 rfl) ?_
      refine va_get (D := D) (ci := 2) (v := .int rails) (C := RX3) (T := TX3) (N := 6) hx hb hts (fun w h => tbC w (tbfX3 w h)) hown hK hP 0 rfl rfl 2 (by decide) (hts (.fieldLink RX3 19 "PowerRails$Plan" "rails" "I") (tbC _ wd122)) (fun _ h9 => h9) rfl dX3_setWaits_4 ?_
      refine lv_icmp_ge (tgt := 25) hx hb dX3_setWaits_7 (by decide) (fun c_43 => ?_) (fun c_43 => ?_)
      · skip
        have i_43 : rails.toInt ≤ x40.toInt := (ile rfl rfl).mp c_43
        refine W.widen (k := 0) (n := 0) (by decide) (by decide) ?_
        have hP9 := hP.sub (ws' := [(pl, .inr (2, [.ref pna, .ref pta, .int rails, .int limit, .int retry, .int behind])), (pna, .inl (cI, 64, .inl f41)), (srwa, .inl (cI, 8, .inl srow))]) [0, 1, 2] rfl
        have hD9 := hD.sub (ws' := [(pl, .inr (2, [.ref pna, .ref pta, .int rails, .int limit, .int retry, .int behind])), (pna, .inl (cI, 64, .inl f41)), (srwa, .inl (cI, 8, .inl srow))]) [0, 1, 2] (by decide) rfl
        exact W.vret hx hb hr (fun t ht hW => ⟨⟨(), rfl, trivial, ⟨f41, (xwk_rng hf41 (by decide) (by decide)), xB_of ht hW hP9 hK hD9⟩⟩, hS.F ht⟩) hS.2.2 dX3_setWaits_25
      · skip
        have i_43 : ¬ (rails.toInt ≤ x40.toInt) := fun h9 => c_43 ((ile rfl rfl).mpr h9)
        refine lv_aload_n hx hb dX3_setWaits_10 rfl (lv_at hl 1 rfl) ?_
        refine lv_iload_n hx hb dX3_setWaits_11 rfl (lv_at hl 0 rfl) ?_
        refine lv_iconst (v := 5) hx hb dX3_setWaits_12 (by decide) ?_
        refine lv_aload_n hx hb dX3_setWaits_13 rfl (lv_at hl 2 rfl) ?_
        refine lv_iload_n hx hb dX3_setWaits_14 rfl (lv_at hl 0 rfl) ?_
        refine va_iald hx hb hK hP 2 0 rfl rfl (vp_in_iff.mpr ⟨by omega, by omega⟩) dX3_setWaits_15 ?_
        refine lv_topi (fun v44 ev44 => ?_)
        have rv44 : 0 ≤ v44.toInt ∧ v44.toInt ≤ 511 := xrd ev44 h_srow (xinK (vp_in_iff.mpr ⟨by omega, by omega⟩))
        have hPc := hP.sub (ws' := [(pl, .inr (2, [.ref pna, .ref pta, .int rails, .int limit, .int retry, .int behind])), (pna, .inl (cI, 64, .inl f41))]) [0, 1] rfl
        have hDc := hD.sub (ws' := [(pl, .inr (2, [.ref pna, .ref pta, .int rails, .int limit, .int retry, .int behind])), (pna, .inl (cI, 64, .inl f41))]) [0, 1] (by decide) rfl
        have hFc := va_free (wc := [(pl, .inr (2, [.ref pna, .ref pta, .int rails, .int limit, .int retry, .int behind])), (pna, .inl (cI, 64, .inl f41))]) hD hS hA [0, 1] rfl
        refine va_callv (va_runV (As := [.int x40, .int 5, .int v44]) (rest := []) ⟨hx, hb, hml, hown, hts⟩ (c_setNumber l D cI cJ cZ cG cH H.size pl x40 (5 : Int32) v44 pna pta rails limit retry behind f41 (xrng rfl (by omega) (by omega)) ⟨by decide, by decide⟩ (xrng rfl (by omega) (by omega)) (xrng rfl (by omega) (by omega)) (xwk_rng hf41 (by decide) (by decide))) (cwV 3 hts (xGV tbC wd331 wd332 wd333 wd39 wd334) rfl rfl rfl (by decide +kernel) ⟨Nat.le_of_ble_eq_true rfl, Nat.le_of_ble_eq_true rfl⟩) ⟨xPc_blind, va_recv hK hPc (ci := 2) (q0 := 0) rfl rfl, xPc_pre hPc hK hDc⟩ rfl rfl hl.1 rfl (lv_room (Nat.le_of_ble_eq_true rfl)) dX3_setWaits_16 ⟨Nat.le_of_ble_eq_true rfl, Nat.le_of_ble_eq_true rfl⟩) hS (fun q _ h => hFc q h) hFc (fun u t H1 locs ht hvm hw45 hB hz1 hk1 hS => ?_)
        obtain ⟨pn_46, hf46_0, hP1, hK1, hD1⟩ := hB
        rw [ht] at hP1
        obtain ⟨hP, hD⟩ := va_join (wr := [(srwa, .inl (cI, 8, .inl srow))]) (w1 := [(pl, .inr (2, [.ref pna, .ref pta, .int rails, .int limit, .int retry, .int behind])), (pna, .inl (cI, 64, .inl pn_46))]) hP hD [0, 1] [2] rfl rfl (by decide) (by decide) hk1 hFc hP1 hD1
        generalize H1 = H at hP hS ⊢
        have hP : va_P D vwCl [(srwa, .inl (cI, 8, .inl srow)), (pl, .inr (2, [.ref pna, .ref pta, .int rails, .int limit, .int retry, .int behind])), (pna, .inl (cI, 64, .inl pn_46))] H := hP
        have hD : va_D A [(srwa, .inl (cI, 8, .inl srow)), (pl, .inr (2, [.ref pna, .ref pta, .int rails, .int limit, .int retry, .int behind])), (pna, .inl (cI, 64, .inl pn_46))] := hD
        have hf46_0 : ∀ j, j < 64 → 0 ≤ (pn_46 j).toInt ∧ (pn_46 j).toInt ≤ 511 := hf46_0
        obtain ⟨x47, ex47⟩ : ∃ y : Int32, y = x40 + 1 := ⟨_, rfl⟩
        have tx47 : x47.toInt = (x40.toInt + 1) := (congrArg Int32.toInt ex47).trans (xadd rfl (by decide) (by omega) (by omega))
        refine lv_iinc (v := x47) (lv' := [(2, .int x47), (0, .ref pl), (1, .ref srwa)]) hx hb dX3_setWaits_19 hl (k := 0) rfl (by rw [ex47]; rfl) (by decide) rfl (fun ls hl => ?_)
        refine lv_goto (tgt := 2) hx hb dX3_setWaits_22 (by decide) ?_
        have hP := hP.sub (ws' := [(pl, .inr (2, [.ref pna, .ref pta, .int rails, .int limit, .int retry, .int behind])), (pna, .inl (cI, 64, .inl pn_46)), (srwa, .inl (cI, 8, .inl srow))]) [1, 2, 0] rfl
        have hD := hD.sub (ws' := [(pl, .inr (2, [.ref pna, .ref pta, .int rails, .int limit, .int retry, .int behind])), (pna, .inl (cI, 64, .inl pn_46)), (srwa, .inl (cI, 8, .inl srow))]) [1, 2, 0] (by decide) rfl
        exact ihhl42 x47 pn_46 (by omega) (xrng tx47 (by omega) (by omega)) (xwk_rng hf46_0 (by decide) (by decide)) _ _ hP hD hS ls (lv_sub hl [0, 1, 2] rfl)
  exact hl42 _ 0 pn (Nat.lt_succ_self _) ⟨by decide, by decide⟩ (xwk_rng h_pn (by decide) (by decide)) _ _ hP hD hS ls (lv_sub hl [0, 1, 2] rfl)
