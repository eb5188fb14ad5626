abbrev W_q_pReset (cI cJ cZ cG cH : ClassId) (pl : Nat) (pna : Nat) (pta : Nat) (rails : Int32) (limit : Int32) (retry : Int32) (behind : Int32) : va_W := [oX3 pl pna pta rails limit retry behind]
abbrev Q_q_pReset (D : va_G) (cI cJ cZ cG cH : ClassId) (pl : Nat) (pna : Nat) (pta : Nat) (rails : Int32) (limit : Int32) (retry : Int32) (behind : Int32) (A : Nat → Prop) : Array Value → State → Outcome → State → Prop := va_Qv (fun (_ : Unit) => True) (fun _ t => xB D (tyL cI cJ cZ cG cH) [oX3 pl pna pta 0 999 0 5] A t) A
abbrev rm_q_pReset : Room := { frames := 0, cells := 0, slots := 0, locals := 0 }
set_option maxRecDepth 100000 in
set_option maxHeartbeats 40000000 in
theorem c_q_pReset (l : Launch) (D : va_G) (cI cJ cZ cG cH : ClassId) (sz : Nat) (pl : Nat) (pna : Nat) (pta : Nat) (rails : Int32) (limit : Int32) (retry : Int32) (behind : Int32) (h_rails : 0 ≤ rails.toInt ∧ rails.toInt ≤ 8) : Met l yX3_reset (wt yX3_reset cX3_reset 1 none) rm_q_pReset (xPc [.ref pl] D (tyL cI cJ cZ cG cH) (W_q_pReset cI cJ cZ cG cH pl pna pta rails limit retry behind) sz) (Q_q_pReset D cI cJ cZ cG cH pl pna pta rails limit retry behind (va_A (W_q_pReset cI cJ cZ cG cH pl pna pta rails limit retry behind) sz)) 0 0 (va_A (W_q_pReset cI cJ cZ cG cH pl pna pta rails limit retry behind) sz) := by
  refine xMet (cc := cX3_reset) (maxL := 1) (ret := none) (Qf := Q_q_pReset D cI cJ cZ cG cH pl pna pta rails limit retry behind) (by decide) rfl (Nat.le_of_ble_eq_true rfl) ?_
  intro p e s m below meth c ls A hx hb hr hml hts hown hlocks hnm hsz hP hK hD hA hS hl
  have hown : s.vm.findClass RX3 = some m.cls := hown
  have hP : va_P D vwCl [oX3 pl pna pta rails limit retry behind] s.heap := hP
  have hD : va_D A [oX3 pl pna pta rails limit retry behind] := hD
  have hl : lv_has ls 1 [(0, .ref pl)] := hl
  refine lv_aload_n hx hb dX3_reset_0 rfl (lv_at hl 0 rfl) ?_
  refine lv_iconst (v := 0) hx hb dX3_reset_1 (by decide) ?_
  refine va_put (D := D) (ci := 2) (v := .int 0) (ty := .int) (C := RX3) (T := TX3) (N := 6) hx hb hts (fun w h => tbC w (tbfX3 w h)) tyX3 tyX3_ok nmX3 hown hK hP hD hS 0 rfl rfl 2 (by decide) (hts (.fieldLink RX3 19 "PowerRails$Plan" "rails" "I") (tbC _ wd122)) (fun _ h9 => h9) rfl (by decide +kernel) rfl rfl (Nat.le_of_ble_eq_true rfl) dX3_reset_2 (fun H locs hP hD hS => ?_)
  obtain ⟨hP, hD⟩ : xPD D A [oX3 pl pna pta 0 limit retry behind] H := ⟨hP, hD⟩
  refine lv_aload_n hx hb dX3_reset_5 rfl (lv_at hl 0 rfl) ?_
  refine lv_sipush (v := 999) hx hb dX3_reset_6 (by decide) ?_
  refine va_put (D := D) (ci := 2) (v := .int 999) (ty := .int) (C := RX3) (T := TX3) (N := 6) hx hb hts (fun w h => tbC w (tbfX3 w h)) tyX3 tyX3_ok nmX3 hown hK hP hD hS 0 rfl rfl 3 (by decide) (hts (.fieldLink RX3 23 "PowerRails$Plan" "limit" "I") (tbC _ wd123)) (fun _ h9 => h9) rfl (by decide +kernel) rfl rfl (Nat.le_of_ble_eq_true rfl) dX3_reset_9 (fun H locs hP hD hS => ?_)
  obtain ⟨hP, hD⟩ : xPD D A [oX3 pl pna pta 0 999 retry behind] H := ⟨hP, hD⟩
  refine lv_aload_n hx hb dX3_reset_12 rfl (lv_at hl 0 rfl) ?_
  refine lv_iconst (v := 0) hx hb dX3_reset_13 (by decide) ?_
  refine va_put (D := D) (ci := 2) (v := .int 0) (ty := .int) (C := RX3) (T := TX3) (N := 6) hx hb hts (fun w h => tbC w (tbfX3 w h)) tyX3 tyX3_ok nmX3 hown hK hP hD hS 0 rfl rfl 4 (by decide) (hts (.fieldLink RX3 26 "PowerRails$Plan" "retry" "I") (tbC _ wd124)) (fun _ h9 => h9) rfl (by decide +kernel) rfl rfl (Nat.le_of_ble_eq_true rfl) dX3_reset_14 (fun H locs hP hD hS => ?_)
  obtain ⟨hP, hD⟩ : xPD D A [oX3 pl pna pta 0 999 0 behind] H := ⟨hP, hD⟩
  refine lv_aload_n hx hb dX3_reset_17 rfl (lv_at hl 0 rfl) ?_
  refine lv_iconst (v := 5) hx hb dX3_reset_18 (by decide) ?_
  refine va_put (D := D) (ci := 2) (v := .int 5) (ty := .int) (C := RX3) (T := TX3) (N := 6) hx hb hts (fun w h => tbC w (tbfX3 w h)) tyX3 tyX3_ok nmX3 hown hK hP hD hS 0 rfl rfl 5 (by decide) (hts (.fieldLink RX3 29 "PowerRails$Plan" "behind" "I") (tbC _ wd125)) (fun _ h9 => h9) rfl (by decide +kernel) rfl rfl (Nat.le_of_ble_eq_true rfl) dX3_reset_19 (fun H locs hP hD hS => ?_)
  obtain ⟨hP, hD⟩ : xPD D A [oX3 pl pna pta 0 999 0 5] H := ⟨hP, hD⟩
  refine W.widen (k := 0) (n := 0) (by decide) (by decide) ?_
  exact W.vret hx hb hr (fun t ht hW => ⟨⟨(), rfl, trivial, xB_of9 ht hW hP hK hD [0] (by decide +kernel) rfl⟩, hS.F ht⟩) hS.2.2 dX3_reset_22
abbrev W_q_setNumber (cI cJ cZ cG cH : ClassId) (pl : Nat) (r0 : Int32) (w0 : Int32) (v0 : Int32) (pna : Nat) (pta : Nat) (rails : Int32) (limit : Int32) (retry : Int32) (behind : Int32) (pn : Nat → Int32) : va_W := [oX3 pl pna pta rails limit retry behind, oAI pna cI 64 pn]
abbrev Q_q_setNumber (D : va_G) (cI cJ cZ cG cH : ClassId) (pl : Nat) (r0 : Int32) (w0 : Int32) (v0 : Int32) (pna : Nat) (pta : Nat) (rails : Int32) (limit : Int32) (retry : Int32) (behind : Int32) (pn : Nat → Int32) (A : Nat → Prop) : Array Value → State → Outcome → State → Prop := va_Qv (fun (_ : Unit) => True) (fun _ t => ∃ (pn9 : Nat → Int32), (∀ j, j < 64 → 0 ≤ (pn9 j).toInt ∧ (pn9 j).toInt ≤ 511) ∧ xB D (tyL cI cJ cZ cG cH) [oX3 pl pna pta rails limit retry behind, oAI pna cI 64 pn9] A t) A
abbrev rm_q_setNumber : Room := { frames := 0, cells := 0, slots := 0, locals := 0 }
set_option maxRecDepth 100000 in
set_option maxHeartbeats 40000000 in
theorem c_q_setNumber (l : Launch) (D : va_G) (cI cJ cZ cG cH : ClassId) (sz : Nat) (pl : Nat) (r0 : Int32) (w0 : Int32) (v0 : Int32) (pna : Nat) (pta : Nat) (rails : Int32) (limit : Int32) (retry : Int32) (behind : Int32) (pn : Nat → Int32) (h_r0 : 0 ≤ r0.toInt ∧ r0.toInt ≤ 7) (h_w0 : 0 ≤ w0.toInt ∧ w0.toInt ≤ 7) (h_v0 : 0 ≤ v0.toInt ∧ v0.toInt ≤ 511) (h_rails : 0 ≤ rails.toInt ∧ rails.toInt ≤ 8) (h_pn : ∀ j, j < 64 → 0 ≤ (pn j).toInt ∧ (pn j).toInt ≤ 511) : Met l yX3_setNumber (wt yX3_setNumber cX3_setNumber 4 none) rm_q_setNumber (xPc [.ref pl, .int r0, .int w0, .int v0] D (tyL cI cJ cZ cG cH) (W_q_setNumber cI cJ cZ cG cH pl r0 w0 v0 pna pta rails limit retry behind pn) sz) (Q_q_setNumber D cI cJ cZ cG cH pl r0 w0 v0 pna pta rails limit retry behind pn (va_A (W_q_setNumber cI cJ cZ cG cH pl r0 w0 v0 pna pta rails limit retry behind pn) sz)) 0 0 (va_A (W_q_setNumber cI cJ cZ cG cH pl r0 w0 v0 pna pta rails limit retry behind pn) sz) := by
  refine xMet (cc := cX3_setNumber) (maxL := 4) (ret := none) (Qf := Q_q_setNumber D cI cJ cZ cG cH pl r0 w0 v0 pna pta rails limit retry behind pn) (by decide) rfl (Nat.le_of_ble_eq_true rfl) ?_
  intro p e s m below meth c ls A hx hb hr hml hts hown hlocks hnm hsz hP hK hD hA hS hl
  have hown : s.vm.findClass RX3 = some m.cls := hown
  have hP : va_P D vwCl [oX3 pl pna pta rails limit retry behind, oAI pna cI 64 pn] s.heap := hP
  have hD : va_D A [oX3 pl pna pta rails limit retry behind, oAI pna cI 64 pn] := hD
  have hl : lv_has ls 4 [(0, .ref pl), (1, .int r0), (2, .int w0), (3, .int v0)] := hl
  refine lv_aload_n hx hb dX3_setNumber_0 rfl (lv_at hl 0 rfl) ?_
  refine va_get (D := D) (ci := 2) (v := .ref pna) (C := RX3) (T := TX3) (N := 6) hx hb hts (fun w h => tbC w (tbfX3 w h)) hown hK hP 0 rfl rfl 0 (by decide) (hts (.fieldLink RX3 11 "PowerRails$Plan" "numbers" "[I") (tbC _ wd119)) (fun _ h9 => h9) rfl dX3_setNumber_1 ?_
  refine lv_iload_n hx hb dX3_setNumber_4 rfl (lv_at hl 1 rfl) ?_
  refine lv_bipush (v := 8) hx hb dX3_setNumber_5 (by decide) ?_
  refine lv_imul hx hb dX3_setNumber_7 ?_
  refine lv_topi (fun v1 ev1 => ?_)
  have tv1 : v1.toInt = (r0.toInt * 8) := (congrArg Int32.toInt ev1).trans (xmul rfl (by decide) (by omega) (by omega))
  refine lv_iload_n hx hb dX3_setNumber_8 rfl (lv_at hl 2 rfl) ?_
  refine lv_iadd hx hb dX3_setNumber_9 ?_
  refine lv_topi (fun v2 ev2 => ?_)
  have tv2 : v2.toInt = ((r0.toInt * 8) + w0.toInt) := (congrArg Int32.toInt ev2).trans (xadd tv1 rfl (by omega) (by omega))
  refine lv_iload_n hx hb dX3_setNumber_10 rfl (lv_at hl 3 rfl) ?_
  refine va_iast hx hb hK hP hD hS 1 0 rfl rfl (vp_in_iff.mpr (by rw [tv2]; omega)) dX3_setNumber_11 (fun H locs hP hD hS => ?_)
  obtain ⟨f3, ef3⟩ : ∃ fz9 : Nat → Int32, fz9 = upd pn (v2 : Int32).toNatClampNeg v0 := ⟨_, rfl⟩
  have hP : va_P D vwCl [oX3 pl pna pta rails limit retry behind, oAI pna cI 64 f3] H := by rw [ef3]; exact hP
  have hD : va_D A [oX3 pl pna pta rails limit retry behind, oAI pna cI 64 f3] := by rw [ef3]; exact hD
  have rf3 : ∀ j, j < 64 → 0 ≤ (f3 j).toInt ∧ (f3 j).toInt ≤ 511 := by rw [ef3]; exact xup_rng (xwk_rng h_pn (by decide) (by decide)) (xrng rfl (by omega) (by omega))
  refine W.widen (k := 0) (n := 0) (by decide) (by decide) ?_
  exact W.vret hx hb hr (fun t ht hW => ⟨⟨(), rfl, trivial, ⟨f3, (xwk_rng rf3 (by decide) (by decide)), xB_of9 ht hW hP hK hD [0, 1] (by decide +kernel) rfl⟩⟩, hS.F ht⟩) hS.2.2 dX3_setNumber_12
def K_q_addRail_3 (rails : Int32) : (Int32) := ((rails + (1 : Int32)))
def K_q_addRail_5 (rec_2 : (Int32) → ((Int32))) (x36 : Int32) : (Int32) := (rec_2 (x36 + 1))
def K_q_addRail_6 (rec_2 : (Int32) → ((Int32))) (x36 : Int32) : (Int32) := (rec_2 (x36 + 1))
def K_q_addRail_4 (x36 : Int32) (rec_2 : (Int32) → ((Int32))) : (Int32) := (if x36.toInt < 4 then (K_q_addRail_5 rec_2 x36) else (K_q_addRail_6 rec_2 x36))
def K_q_addRail_2 (x36 : Int32) (rails : Int32) (rec_2 : (Int32) → ((Int32))) : (Int32) := (if 8 ≤ x36.toInt then (K_q_addRail_3 rails) else (K_q_addRail_4 x36 rec_2))
def K_q_addRail_L2 (rails : Int32) : Nat → (Int32) → (Int32)
  | 0, _ => (0)
  | n9 + 1, x36 => (K_q_addRail_2 x36 rails (K_q_addRail_L2 rails n9))
def K_q_addRail_1 (rails : Int32) : (Int32) := (K_q_addRail_L2 rails 100000 (0 : Int32))
def M_q_addRail (rails : Int32) : (Int32) := (K_q_addRail_1 rails)
abbrev W_q_addRail (cI cJ cZ cG cH : ClassId) (pl : Nat) (pna : Nat) (pta : Nat) (rails : Int32) (limit : Int32) (retry : Int32) (behind : Int32) (pn : Nat → Int32) (pt : Nat → Int64) : va_W := [oX3 pl pna pta rails limit retry behind, oAI pna cI 64 pn, oAJ pta cJ 64 pt]
abbrev Q_q_addRail (D : va_G) (cI cJ cZ cG cH : ClassId) (pl : Nat) (pna : Nat) (pta : Nat) (rails : Int32) (limit : Int32) (retry : Int32) (behind : Int32) (pn : Nat → Int32) (pt : Nat → Int64) (A : Nat → Prop) : Array Value → State → Outcome → State → Prop := va_Qv (fun (_ : Unit) => True) (fun _ t => ∃ (rails9 : Int32) (pn9 : Nat → Int32) (pt9 : Nat → Int64), (1 ≤ rails9.toInt ∧ rails9.toInt ≤ 8) ∧ (∀ j, j < 64 → 0 ≤ (pn9 j).toInt ∧ (pn9 j).toInt ≤ 511) ∧ (M_q_addRail rails = (rails9)) ∧ xB D (tyL cI cJ cZ cG cH) [oX3 pl pna pta rails9 limit retry behind, oAI pna cI 64 pn9, oAJ pta cJ 64 pt9] A t) A
abbrev rm_q_addRail : Room := { frames := 1, cells := 0, slots := 0, locals := 23 }
set_option maxRecDepth 100000 in
set_option maxHeartbeats 40000000 in
theorem c_q_addRail (l : Launch) (D : va_G) (cI cJ cZ cG cH : ClassId) (sz : Nat) (pl : Nat) (pna : Nat) (pta : Nat) (rails : Int32) (limit : Int32) (retry : Int32) (behind : Int32) (pn : Nat → Int32) (pt : Nat → Int64) (h_rails : 0 ≤ rails.toInt ∧ rails.toInt ≤ 7) (h_pn : ∀ j, j < 64 → 0 ≤ (pn j).toInt ∧ (pn j).toInt ≤ 511) : Met l yX3_addRail (wt yX3_addRail cX3_addRail 2 none) rm_q_addRail (xPc [.ref pl] D (tyL cI cJ cZ cG cH) (W_q_addRail cI cJ cZ cG cH pl pna pta rails limit retry behind pn pt) sz) (Q_q_addRail D cI cJ cZ cG cH pl pna pta rails limit retry behind pn pt (va_A (W_q_addRail cI cJ cZ cG cH pl pna pta rails limit retry behind pn pt) sz)) 0 0 (va_A (W_q_addRail cI cJ cZ cG cH pl pna pta rails limit retry behind pn pt) sz) := by
  refine xMet (cc := cX3_addRail) (maxL := 2) (ret := none) (Qf := Q_q_addRail D cI cJ cZ cG cH pl pna pta rails limit retry behind pn pt) (by decide) rfl (Nat.le_of_ble_eq_true rfl) ?_
  intro p e s m below meth c ls A hx hb hr hml hts hown hlocks hnm hsz hP hK hD hA hS hl
  have hown : s.vm.findClass RX3 = some m.cls := hown
  have hP : va_P D vwCl [oX3 pl pna pta rails limit retry behind, oAI pna cI 64 pn, oAJ pta cJ 64 pt] s.heap := hP
  have hD : va_D A [oX3 pl pna pta rails limit retry behind, oAI pna cI 64 pn, oAJ pta cJ 64 pt] := hD
  have hl : lv_has ls 2 [(0, .ref pl)] := hl
  have hM : M_q_addRail rails = (K_q_addRail_1 rails) := rfl
  refine lv_aload_n hx hb dX3_addRail_0 rfl (lv_at hl 0 rfl) ?_
  refine lv_aload_n hx hb dX3_addRail_1 rfl (lv_at hl 0 rfl) ?_
  refine va_get (D := D) (ci := 2) (v := .int rails) (C := RX3) (T := TX3) (N := 6) hx hb hts (fun w h => tbC w (tbfX3 w h)) hown hK hP 0 rfl rfl 2 (by decide) (hts (.fieldLink RX3 19 "PowerRails$Plan" "rails" "I") (tbC _ wd122)) (fun _ h9 => h9) rfl dX3_addRail_2 ?_
  refine lv_iconst (v := 2) hx hb dX3_addRail_5 (by decide) ?_
  refine lv_iconst (v := 1) hx hb dX3_addRail_6 (by decide) ?_
  obtain ⟨hPc, hDc, hFc, hC9⟩ := xpk (wc := W_q_setNumber cI cJ cZ cG cH pl rails (2 : Int32) (1 : Int32) pna pta rails limit retry behind pn) hP hD hS hA [0, 1] (by decide +kernel) rfl
  refine va_callv (va_runV (As := [.int rails, .int 2, .int 1]) (rest := []) ⟨hx, hb, hml, hown, hts⟩ (c_q_setNumber l D cI cJ cZ cG cH s.heap.size pl rails (2 : Int32) (1 : Int32) pna pta rails limit retry behind pn (xrng rfl (by omega) (by omega)) ⟨by decide, by decide⟩ ⟨by decide, by decide⟩ (xrng rfl (by omega) (by omega)) (xwk_rng h_pn (by decide) (by decide))) (cwV 3 hts (xGV tbC wd331 wd332 wd333 wd39 wd334) rfl rfl rfl (by decide +kernel) ⟨Nat.le_of_ble_eq_true rfl, Nat.le_of_ble_eq_true rfl⟩) ⟨xPc_blind, va_recv hK hPc (ci := 2) (q0 := 0) rfl rfl, xPc_pre hPc hK hDc⟩ rfl rfl hl.1 rfl (lv_room (Nat.le_of_ble_eq_true rfl)) dX3_addRail_7 ⟨Nat.le_of_ble_eq_true rfl, Nat.le_of_ble_eq_true rfl⟩) hS (fun q _ h => hFc q h) hFc (fun u t H1 locs ht hvm hw1 hB hz1 hk1 hS => ?_)
  obtain ⟨pn_2, hf2_0, hP1, hK1, hD1⟩ := hB
  rw [ht] at hP1
  obtain ⟨hP, hD⟩ : xPD D A [oAJ pta cJ 64 pt, oX3 pl pna pta rails limit retry behind, oAI pna cI 64 pn_2] H1 := xjn 1 hP hD [0, 1] [2] hC9 rfl (by decide +kernel) (by decide +kernel) hk1 hFc hP1 hD1
  generalize H1 = H at hP hS ⊢
  have hf2_0 : ∀ j, j < 64 → 0 ≤ (pn_2 j).toInt ∧ (pn_2 j).toInt ≤ 511 := hf2_0
  refine lv_aload_n hx hb dX3_addRail_10 rfl (lv_at hl 0 rfl) ?_
  refine lv_aload_n hx hb dX3_addRail_11 rfl (lv_at hl 0 rfl) ?_
  refine va_get (D := D) (ci := 2) (v := .int rails) (C := RX3) (T := TX3) (N := 6) hx hb hts (fun w h => tbC w (tbfX3 w h)) hown hK hP 1 rfl rfl 2 (by decide) (hts (.fieldLink RX3 19 "PowerRails$Plan" "rails" "I") (tbC _ wd122)) (fun _ h9 => h9) rfl dX3_addRail_12 ?_
  refine lv_iconst (v := 3) hx hb dX3_addRail_15 (by decide) ?_
  refine lv_iconst (v := 1) hx hb dX3_addRail_16 (by decide) ?_
  obtain ⟨hPc, hDc, hFc, hC9⟩ := xpk (wc := W_q_setNumber cI cJ cZ cG cH pl rails (3 : Int32) (1 : Int32) pna pta rails limit retry behind pn_2) hP hD hS hA [1, 2] (by decide +kernel) rfl
  refine va_callv (va_runV (As := [.int rails, .int 3, .int 1]) (rest := []) ⟨hx, hb, hml, hown, hts⟩ (c_q_setNumber l D cI cJ cZ cG cH H.size pl rails (3 : Int32) (1 : Int32) pna pta rails limit retry behind pn_2 (xrng rfl (by omega) (by omega)) ⟨by decide, by decide⟩ ⟨by decide, by decide⟩ (xrng rfl (by omega) (by omega)) (xwk_rng hf2_0 (by decide) (by decide))) (cwV 3 hts (xGV tbC wd331 wd332 wd333 wd39 wd334) rfl rfl rfl (by decide +kernel) ⟨Nat.le_of_ble_eq_true rfl, Nat.le_of_ble_eq_true rfl⟩) ⟨xPc_blind, va_recv hK hPc (ci := 2) (q0 := 0) rfl rfl, xPc_pre hPc hK hDc⟩ rfl rfl hl.1 rfl (lv_room (Nat.le_of_ble_eq_true rfl)) dX3_addRail_17 ⟨Nat.le_of_ble_eq_true rfl, Nat.le_of_ble_eq_true rfl⟩) hS (fun q _ h => hFc q h) hFc (fun u t H1 locs ht hvm hw3 hB hz1 hk1 hS => ?_)
  obtain ⟨pn_4, hf4_0, hP1, hK1, hD1⟩ := hB
  rw [ht] at hP1
  obtain ⟨hP, hD⟩ : xPD D A [oAJ pta cJ 64 pt, oX3 pl pna pta rails limit retry behind, oAI pna cI 64 pn_4] H1 := xjn 1 hP hD [1, 2] [0] hC9 rfl (by decide +kernel) (by decide +kernel) hk1 hFc hP1 hD1
  generalize H1 = H at hP hS ⊢
  have hf4_0 : ∀ j, j < 64 → 0 ≤ (pn_4 j).toInt ∧ (pn_4 j).toInt ≤ 511 := hf4_0
  refine lv_aload_n hx hb dX3_addRail_20 rfl (lv_at hl 0 rfl) ?_
  refine lv_aload_n hx hb dX3_addRail_21 rfl (lv_at hl 0 rfl) ?_
  refine va_get (D := D) (ci := 2) (v := .int rails) (C := RX3) (T := TX3) (N := 6) hx hb hts (fun w h => tbC w (tbfX3 w h)) hown hK hP 1 rfl rfl 2 (by decide) (hts (.fieldLink RX3 19 "PowerRails$Plan" "rails" "I") (tbC _ wd122)) (fun _ h9 => h9) rfl dX3_addRail_22 ?_
  refine lv_iconst (v := 4) hx hb dX3_addRail_25 (by decide) ?_
  refine lv_iconst (v := 2) hx hb dX3_addRail_26 (by decide) ?_
  obtain ⟨hPc, hDc, hFc, hC9⟩ := xpk (wc := W_q_setNumber cI cJ cZ cG cH pl rails (4 : Int32) (2 : Int32) pna pta rails limit retry behind pn_4) hP hD hS hA [1, 2] (by decide +kernel) rfl
  refine va_callv (va_runV (As := [.int rails, .int 4, .int 2]) (rest := []) ⟨hx, hb, hml, hown, hts⟩ (c_q_setNumber l D cI cJ cZ cG cH H.size pl rails (4 : Int32) (2 : Int32) pna pta rails limit retry behind pn_4 (xrng rfl (by omega) (by omega)) ⟨by decide, by decide⟩ ⟨by decide, by decide⟩ (xrng rfl (by omega) (by omega)) (xwk_rng hf4_0 (by decide) (by decide))) (cwV 3 hts (xGV tbC wd331 wd332 wd333 wd39 wd334) rfl rfl rfl (by decide +kernel) ⟨Nat.le_of_ble_eq_true rfl, Nat.le_of_ble_eq_true rfl⟩) ⟨xPc_blind, va_recv hK hPc (ci := 2) (q0 := 0) rfl rfl, xPc_pre hPc hK hDc⟩ rfl rfl hl.1 rfl (lv_room (Nat.le_of_ble_eq_true rfl)) dX3_addRail_27 ⟨Nat.le_of_ble_eq_true rfl, Nat.le_of_ble_eq_true rfl⟩) hS (fun q _ h => hFc q h) hFc (fun u t H1 locs ht hvm hw5 hB hz1 hk1 hS => ?_)
  obtain ⟨pn_6, hf6_0, hP1, hK1, hD1⟩ := hB
  rw [ht] at hP1
  obtain ⟨hP, hD⟩ : xPD D A [oAJ pta cJ 64 pt, oX3 pl pna pta rails limit retry behind, oAI pna cI 64 pn_6] H1 := xjn 1 hP hD [1, 2] [0] hC9 rfl (by decide +kernel) (by decide +kernel) hk1 hFc hP1 hD1
  generalize H1 = H at hP hS ⊢
  have hf6_0 : ∀ j, j < 64 → 0 ≤ (pn_6 j).toInt ∧ (pn_6 j).toInt ≤ 511 := hf6_0
  refine lv_aload_n hx hb dX3_addRail_30 rfl (lv_at hl 0 rfl) ?_
  refine lv_aload_n hx hb dX3_addRail_31 rfl (lv_at hl 0 rfl) ?_
  refine va_get (D := D) (ci := 2) (v := .int rails) (C := RX3) (T := TX3) (N := 6) hx hb hts (fun w h => tbC w (tbfX3 w h)) hown hK hP 1 rfl rfl 2 (by decide) (hts (.fieldLink RX3 19 "PowerRails$Plan" "rails" "I") (tbC _ wd122)) (fun _ h9 => h9) rfl dX3_addRail_32 ?_
  refine lv_iconst (v := 5) hx hb dX3_addRail_35 (by decide) ?_
  refine lv_iconst (v := 0) hx hb dX3_addRail_36 (by decide) ?_
  obtain ⟨hPc, hDc, hFc, hC9⟩ := xpk (wc := W_q_setNumber cI cJ cZ cG cH pl rails (5 : Int32) (0 : Int32) pna pta rails limit retry behind pn_6) hP hD hS hA [1, 2] (by decide +kernel) rfl
  refine va_callv (va_runV (As := [.int rails, .int 5, .int 0]) (rest := []) ⟨hx, hb, hml, hown, hts⟩ (c_q_setNumber l D cI cJ cZ cG cH H.size pl rails (5 : Int32) (0 : Int32) pna pta rails limit retry behind pn_6 (xrng rfl (by omega) (by omega)) ⟨by decide, by decide⟩ ⟨by decide, by decide⟩ (xrng rfl (by omega) (by omega)) (xwk_rng hf6_0 (by decide) (by decide))) (cwV 3 hts (xGV tbC wd331 wd332 wd333 wd39 wd334) rfl rfl rfl (by decide +kernel) ⟨Nat.le_of_ble_eq_true rfl, Nat.le_of_ble_eq_true rfl⟩) ⟨xPc_blind, va_recv hK hPc (ci := 2) (q0 := 0) rfl rfl, xPc_pre hPc hK hDc⟩ rfl rfl hl.1 rfl (lv_room (Nat.le_of_ble_eq_true rfl)) dX3_addRail_37 ⟨Nat.le_of_ble_eq_true rfl, Nat.le_of_ble_eq_true rfl⟩) hS (fun q _ h => hFc q h) hFc (fun u t H1 locs ht hvm hw7 hB hz1 hk1 hS => ?_)
  obtain ⟨pn_8, hf8_0, hP1, hK1, hD1⟩ := hB
  rw [ht] at hP1
  obtain ⟨hP, hD⟩ : xPD D A [oAJ pta cJ 64 pt, oX3 pl pna pta rails limit retry behind, oAI pna cI 64 pn_8] H1 := xjn 1 hP hD [1, 2] [0] hC9 rfl (by decide +kernel) (by decide +kernel) hk1 hFc hP1 hD1
  generalize H1 = H at hP hS ⊢
  have hf8_0 : ∀ j, j < 64 → 0 ≤ (pn_8 j).toInt ∧ (pn_8 j).toInt ≤ 511 := hf8_0
  refine lv_aload_n hx hb dX3_addRail_40 rfl (lv_at hl 0 rfl) ?_
  refine lv_aload_n hx hb dX3_addRail_41 rfl (lv_at hl 0 rfl) ?_
  refine va_get (D := D) (ci := 2) (v := .int rails) (C := RX3) (T := TX3) (N := 6) hx hb hts (fun w h => tbC w (tbfX3 w h)) hown hK hP 1 rfl rfl 2 (by decide) (hts (.fieldLink RX3 19 "PowerRails$Plan" "rails" "I") (tbC _ wd122)) (fun _ h9 => h9) rfl dX3_addRail_42 ?_
  refine lv_bipush (v := 6) hx hb dX3_addRail_45 (by decide) ?_
  refine lv_iconst (v := 0) hx hb dX3_addRail_47 (by decide) ?_
  obtain ⟨hPc, hDc, hFc, hC9⟩ := xpk (wc := W_q_setNumber cI cJ cZ cG cH pl rails (6 : Int32) (0 : Int32) pna pta rails limit retry behind pn_8) hP hD hS hA [1, 2] (by decide +kernel) rfl
  refine va_callv (va_runV (As := [.int rails, .int 6, .int 0]) (rest := []) ⟨hx, hb, hml, hown, hts⟩ (c_q_setNumber l D cI cJ cZ cG cH H.size pl rails (6 : Int32) (0 : Int32) pna pta rails limit retry behind pn_8 (xrng rfl (by omega) (by omega)) ⟨by decide, by decide⟩ ⟨by decide, by decide⟩ (xrng rfl (by omega) (by omega)) (xwk_rng hf8_0 (by decide) (by decide))) (cwV 3 hts (xGV tbC wd331 wd332 wd333 wd39 wd334) rfl rfl rfl (by decide +kernel) ⟨Nat.le_of_ble_eq_true rfl, Nat.le_of_ble_eq_true rfl⟩) ⟨xPc_blind, va_recv hK hPc (ci := 2) (q0 := 0) rfl rfl, xPc_pre hPc hK hDc⟩ rfl rfl hl.1 rfl (lv_room (Nat.le_of_ble_eq_true rfl)) dX3_addRail_48 ⟨Nat.le_of_ble_eq_true rfl, Nat.le_of_ble_eq_true rfl⟩) hS (fun q _ h => hFc q h) hFc (fun u t H1 locs ht hvm hw9 hB hz1 hk1 hS => ?_)
  obtain ⟨pn_10, hf10_0, hP1, hK1, hD1⟩ := hB
  rw [ht] at hP1
  obtain ⟨hP, hD⟩ : xPD D A [oAJ pta cJ 64 pt, oX3 pl pna pta rails limit retry behind, oAI pna cI 64 pn_10] H1 := xjn 1 hP hD [1, 2] [0] hC9 rfl (by decide +kernel) (by decide +kernel) hk1 hFc hP1 hD1
  generalize H1 = H at hP hS ⊢
  have hf10_0 : ∀ j, j < 64 → 0 ≤ (pn_10 j).toInt ∧ (pn_10 j).toInt ≤ 511 := hf10_0
  refine lv_aload_n hx hb dX3_addRail_51 rfl (lv_at hl 0 rfl) ?_
  refine lv_aload_n hx hb dX3_addRail_52 rfl (lv_at hl 0 rfl) ?_
  refine va_get (D := D) (ci := 2) (v := .int rails) (C := RX3) (T := TX3) (N := 6) hx hb hts (fun w h => tbC w (tbfX3 w h)) hown hK hP 1 rfl rfl 2 (by decide) (hts (.fieldLink RX3 19 "PowerRails$Plan" "rails" "I") (tbC _ wd122)) (fun _ h9 => h9) rfl dX3_addRail_53 ?_
  refine lv_bipush (v := 7) hx hb dX3_addRail_56 (by decide) ?_
  refine lv_sipush (v := 256) hx hb dX3_addRail_58 (by decide) ?_
  obtain ⟨hPc, hDc, hFc, hC9⟩ := xpk (wc := W_q_setNumber cI cJ cZ cG cH pl rails (7 : Int32) (256 : Int32) pna pta rails limit retry behind pn_10) hP hD hS hA [1, 2] (by decide +kernel) rfl
  refine va_callv (va_runV (As := [.int rails, .int 7, .int 256]) (rest := []) ⟨hx, hb, hml, hown, hts⟩ (c_q_setNumber l D cI cJ cZ cG cH H.size pl rails (7 : Int32) (256 : Int32) pna pta rails limit retry behind pn_10 (xrng rfl (by omega) (by omega)) ⟨by decide, by decide⟩ ⟨by decide, by decide⟩ (xrng rfl (by omega) (by omega)) (xwk_rng hf10_0 (by decide) (by decide))) (cwV 3 hts (xGV tbC wd331 wd332 wd333 wd39 wd334) rfl rfl rfl (by decide +kernel) ⟨Nat.le_of_ble_eq_true rfl, Nat.le_of_ble_eq_true rfl⟩) ⟨xPc_blind, va_recv hK hPc (ci := 2) (q0 := 0) rfl rfl, xPc_pre hPc hK hDc⟩ rfl rfl hl.1 rfl (lv_room (Nat.le_of_ble_eq_true rfl)) dX3_addRail_61 ⟨Nat.le_of_ble_eq_true rfl, Nat.le_of_ble_eq_true rfl⟩) hS (fun q _ h => hFc q h) hFc (fun u t H1 locs ht hvm hw11 hB hz1 hk1 hS => ?_)
  obtain ⟨pn_12, hf12_0, hP1, hK1, hD1⟩ := hB
  rw [ht] at hP1
  obtain ⟨hP, hD⟩ : xPD D A [oAJ pta cJ 64 pt, oX3 pl pna pta rails limit retry behind, oAI pna cI 64 pn_12] H1 := xjn 1 hP hD [1, 2] [0] hC9 rfl (by decide +kernel) (by decide +kernel) hk1 hFc hP1 hD1
  generalize H1 = H at hP hS ⊢
  have hf12_0 : ∀ j, j < 64 → 0 ≤ (pn_12 j).toInt ∧ (pn_12 j).toInt ≤ 511 := hf12_0
  refine lv_iconst (v := 0) hx hb dX3_addRail_64 (by decide) ?_
  refine lv_istore_n (lv' := [(1, .int 0), (0, .ref pl)]) hx hb dX3_addRail_65 rfl hl (by decide) rfl (fun ls hl => ?_)
  have hl38 : ∀ (nhl38 : Nat) (x36 : Int32) (f37 : Nat → Int64), ((8 - x36.toInt).toNat < nhl38) → (hx36 : 0 ≤ x36.toInt ∧ x36.toInt ≤ 8) → (hM : M_q_addRail rails = (K_q_addRail_L2 rails nhl38 x36)) → ∀ (H : Heap) (locs : List Loc), va_P D vwCl [oAJ pta cJ 64 f37, oX3 pl pna pta rails limit retry behind, oAI pna cI 64 pn_12] H → va_D A [oAJ pta cJ 64 f37, oX3 pl pna pta rails limit retry behind, oAI pna cI 64 pn_12] → va_S A s.heap H locs → ∀ (ls : Array Slot), lv_has ls 2 [(1, .int x36), (0, .ref pl)] → W p l e rm_q_addRail s m [Value.ref pl].toArray below meth c H locs 0 0 (MQ below ((Q_q_addRail D cI cJ cZ cG cH pl pna pta rails limit retry behind pn pt) A) [Value.ref pl].toArray s 0 0 A) (F0 m 66 ls []) := by
    intro nhl38
    induction nhl38 with
    | zero =>
      intro x36 f37 hmhl38
      exact absurd hmhl38 (Nat.not_lt_zero _)
    | succ nhl38 ihhl38 =>
      intro x36 f37 hmhl38 hx36 hM H locs hP hD hS ls hl
      have hM : M_q_addRail rails = (K_q_addRail_2 x36 rails (K_q_addRail_L2 rails nhl38)) := hM
      refine lv_iload_n hx hb dX3_addRail_66 rfl (lv_at hl 0 rfl) ?_
      refine lv_bipush (v := 8) hx hb dX3_addRail_67 (by decide) ?_
      refine lv_icmp_ge (tgt := 104) hx hb dX3_addRail_69 (by decide) (fun c_39 => ?_) (fun c_39 => ?_)
      · skip
        have i_39 : 8 ≤ x36.toInt := (ile (by decide) rfl).mp c_39
        have hM : M_q_addRail rails = (K_q_addRail_3 rails) := (show M_q_addRail rails = (if 8 ≤ x36.toInt then (K_q_addRail_3 rails) else (K_q_addRail_4 x36 (K_q_addRail_L2 rails nhl38))) from hM).trans (if_pos i_39)
        refine lv_aload_n hx hb dX3_addRail_104 rfl (lv_at hl 1 rfl) ?_
        refine lv_dup hx hb dX3_addRail_105 rfl ?_
        refine va_get (D := D) (ci := 2) (v := .int rails) (C := RX3) (T := TX3) (N := 6) hx hb hts (fun w h => tbC w (tbfX3 w h)) hown hK hP 1 rfl rfl 2 (by decide) (hts (.fieldLink RX3 19 "PowerRails$Plan" "rails" "I") (tbC _ wd122)) (fun _ h9 => h9) rfl dX3_addRail_106 ?_
        refine lv_iconst (v := 1) hx hb dX3_addRail_109 (by decide) ?_
        refine lv_iadd hx hb dX3_addRail_110 ?_
        refine lv_topi (fun v40 ev40 => ?_)
        have tv40 : v40.toInt = (rails.toInt + 1) := (congrArg Int32.toInt ev40).trans (xadd rfl (by decide) (by omega) (by omega))
        refine va_put (D := D) (ci := 2) (v := .int v40) (ty := .int) (C := RX3) (T := TX3) (N := 6) hx hb hts (fun w h => tbC w (tbfX3 w h)) tyX3 tyX3_ok nmX3 hown hK hP hD hS 1 rfl rfl 2 (by decide) (hts (.fieldLink RX3 19 "PowerRails$Plan" "rails" "I") (tbC _ wd122)) (fun _ h9 => h9) rfl (by decide +kernel) rfl rfl (Nat.le_of_ble_eq_true rfl) dX3_addRail_111 (fun H locs hP hD hS => ?_)
        obtain ⟨hP, hD⟩ : xPD D A [oAJ pta cJ 64 f37, oX3 pl pna pta v40 limit retry behind, oAI pna cI 64 pn_12] H := ⟨hP, hD⟩
        refine W.widen (k := 0) (n := 0) (by decide) (by decide) ?_
        exact W.vret hx hb hr (fun t ht hW => ⟨⟨(), rfl, trivial, ⟨v40, pn_12, f37, (xrng tv40 (by omega) (by omega)), (xwk_rng hf12_0 (by decide) (by decide)), (by rw [ev40]; exact hM), xB_of9 ht hW hP hK hD [1, 2, 0] (by decide +kernel) rfl⟩⟩, hS.F ht⟩) hS.2.2 dX3_addRail_114
      · skip
        have i_39 : ¬ (8 ≤ x36.toInt) := fun h9 => c_39 ((ile (by decide) rfl).mpr h9)
        have hM : M_q_addRail rails = (K_q_addRail_4 x36 (K_q_addRail_L2 rails nhl38)) := (show M_q_addRail rails = (if 8 ≤ x36.toInt then (K_q_addRail_3 rails) else (K_q_addRail_4 x36 (K_q_addRail_L2 rails nhl38))) from hM).trans (if_neg i_39)
        refine lv_aload_n hx hb dX3_addRail_72 rfl (lv_at hl 1 rfl) ?_
        refine va_get (D := D) (ci := 2) (v := .ref pta) (C := RX3) (T := TX3) (N := 6) hx hb hts (fun w h => tbC w (tbfX3 w h)) hown hK hP 1 rfl rfl 1 (by decide) (hts (.fieldLink RX3 15 "PowerRails$Plan" "tables" "[J") (tbC _ wd121)) (fun _ h9 => h9) rfl dX3_addRail_73 ?_
        refine lv_aload_n hx hb dX3_addRail_76 rfl (lv_at hl 1 rfl) ?_
        refine va_get (D := D) (ci := 2) (v := .int rails) (C := RX3) (T := TX3) (N := 6) hx hb hts (fun w h => tbC w (tbfX3 w h)) hown hK hP 1 rfl rfl 2 (by decide) (hts (.fieldLink RX3 19 "PowerRails$Plan" "rails" "I") (tbC _ wd122)) (fun _ h9 => h9) rfl dX3_addRail_77 ?_
        refine lv_bipush (v := 8) hx hb dX3_addRail_80 (by decide) ?_
        refine lv_imul hx hb dX3_addRail_82 ?_
        refine lv_topi (fun v41 ev41 => ?_)
        have tv41 : v41.toInt = (rails.toInt * 8) := (congrArg Int32.toInt ev41).trans (xmul rfl (by decide) (by omega) (by omega))
        refine lv_iload_n hx hb dX3_addRail_83 rfl (lv_at hl 0 rfl) ?_
        refine lv_iadd hx hb dX3_addRail_84 ?_
        refine lv_topi (fun v42 ev42 => ?_)
        have tv42 : v42.toInt = ((rails.toInt * 8) + x36.toInt) := (congrArg Int32.toInt ev42).trans (xadd tv41 rfl (by omega) (by omega))
        refine lv_iload_n hx hb dX3_addRail_85 rfl (lv_at hl 0 rfl) ?_
        refine lv_iconst (v := 4) hx hb dX3_addRail_86 (by decide) ?_
        refine lv_icmp_lt (tgt := 96) hx hb dX3_addRail_87 (by decide) (fun c_43 => ?_) (fun c_43 => ?_)
        · skip
          have i_43 : x36.toInt < 4 := (ilt rfl (by decide)).mp c_43
          have hM : M_q_addRail rails = (K_q_addRail_5 (K_q_addRail_L2 rails nhl38) x36) := (show M_q_addRail rails = (if x36.toInt < 4 then (K_q_addRail_5 (K_q_addRail_L2 rails nhl38) x36) else (K_q_addRail_6 (K_q_addRail_L2 rails nhl38) x36)) from hM).trans (if_pos i_43)
          refine lv_lconst (v := 0) hx hb dX3_addRail_96 (by decide) ?_
          refine va_last hx hb hK hP hD hS 0 1 rfl rfl (vp_in_iff.mpr (by rw [tv42]; omega)) dX3_addRail_97 (fun H locs hP hD hS => ?_)
          obtain ⟨f44, ef44⟩ : ∃ fz9 : Nat → Int64, fz9 = vp_updL f37 (v42 : Int32).toNatClampNeg 0 := ⟨_, rfl⟩
          have hP : va_P D vwCl [oAJ pta cJ 64 f44, oX3 pl pna pta rails limit retry behind, oAI pna cI 64 pn_12] H := by rw [ef44]; exact hP
          have hD : va_D A [oAJ pta cJ 64 f44, oX3 pl pna pta rails limit retry behind, oAI pna cI 64 pn_12] := by rw [ef44]; exact hD
          obtain ⟨x45, ex45⟩ : ∃ y : Int32, y = x36 + 1 := ⟨_, rfl⟩
          have tx45 : x45.toInt = (x36.toInt + 1) := (congrArg Int32.toInt ex45).trans (xadd rfl (by decide) (by omega) (by omega))
          refine lv_iinc (v := x45) (lv' := [(1, .int x45), (0, .ref pl)]) hx hb dX3_addRail_98 hl (k := 0) rfl (by rw [ex45]; rfl) (by decide) rfl (fun ls hl => ?_)
          refine lv_goto (tgt := 66) hx hb dX3_addRail_101 (by decide) ?_
          exact ihhl38 x45 f44 (by omega) (xrng tx45 (by omega) (by omega)) (by rw [ex45]; exact hM) _ _ hP hD hS ls (lv_sub hl [0, 1] rfl)
        · skip
          have i_43 : ¬ (x36.toInt < 4) := fun h9 => c_43 ((ilt rfl (by decide)).mpr h9)
          have hM : M_q_addRail rails = (K_q_addRail_6 (K_q_addRail_L2 rails nhl38) x36) := (show M_q_addRail rails = (if x36.toInt < 4 then (K_q_addRail_5 (K_q_addRail_L2 rails nhl38) x36) else (K_q_addRail_6 (K_q_addRail_L2 rails nhl38) x36)) from hM).trans (if_neg i_43)
          refine lv_ldc2 (v := (-1)) hx hb hown (hts (.constantLong RX3 36 (-1)) (tbC _ wd330)) dX3_addRail_90 ?_
          refine lv_goto (tgt := 97) hx hb dX3_addRail_93 (by decide) ?_
          refine va_last hx hb hK hP hD hS 0 1 rfl rfl (vp_in_iff.mpr (by rw [tv42]; omega)) dX3_addRail_97 (fun H locs hP hD hS => ?_)
          obtain ⟨f46, ef46⟩ : ∃ fz9 : Nat → Int64, fz9 = vp_updL f37 (v42 : Int32).toNatClampNeg (-1) := ⟨_, rfl⟩
          have hP : va_P D vwCl [oAJ pta cJ 64 f46, oX3 pl pna pta rails limit retry behind, oAI pna cI 64 pn_12] H := by rw [ef46]; exact hP
          have hD : va_D A [oAJ pta cJ 64 f46, oX3 pl pna pta rails limit retry behind, oAI pna cI 64 pn_12] := by rw [ef46]; exact hD
          obtain ⟨x47, ex47⟩ : ∃ y : Int32, y = x36 + 1 := ⟨_, rfl⟩
          have tx47 : x47.toInt = (x36.toInt + 1) := (congrArg Int32.toInt ex47).trans (xadd rfl (by decide) (by omega) (by omega))
          refine lv_iinc (v := x47) (lv' := [(1, .int x47), (0, .ref pl)]) hx hb dX3_addRail_98 hl (k := 0) rfl (by rw [ex47]; rfl) (by decide) rfl (fun ls hl => ?_)
          refine lv_goto (tgt := 66) hx hb dX3_addRail_101 (by decide) ?_
          exact ihhl38 x47 f46 (by omega) (xrng tx47 (by omega) (by omega)) (by rw [ex47]; exact hM) _ _ hP hD hS ls (lv_sub hl [0, 1] rfl)
  exact hl38 100000 0 pt (by have z9_0 : (0 : Int32).toInt = 0 := (by decide); omega) ⟨by decide, by decide⟩ hM _ _ hP hD hS ls (lv_sub hl [0, 1] rfl)
