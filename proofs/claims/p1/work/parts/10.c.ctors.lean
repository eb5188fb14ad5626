theorem in_X5_init_X2 : ∀ w ∈ wsX20, w ∈ wsX5_init := by decide +kernel
theorem in_X5_init_X5 : ∀ w ∈ wsX50, w ∈ wsX5_init := by decide +kernel
abbrev W_Run_init (cI cJ cZ cG cH : ClassId) (rn : Nat) : va_W := [(rn, .inr (4, [.null, .null, .null, .null, .null, .null, .int 0, .int 0, .int 0, .int 0, .int 0, .int 0, .int 0, .int 0]))]
abbrev Q_Run_init (D : va_G) (cI cJ cZ cG cH : ClassId) (rn : Nat) (A : Nat → Prop) : Array Value → State → Outcome → State → Prop := va_Qv (fun (_ : Unit) => True) (fun _ t => ∃ (hy : Nat) (rs : Nat) (ri : Nat) (ra : Nat) (rt : Nat) (rg : Nat) (ya : Nat) (yb : Nat) (yc : Nat), xB D (tyL cI cJ cZ cG cH) [(rn, .inr (4, [.ref hy, .ref rs, .ref ri, .ref ra, .ref rt, .ref rg, .int 0, .int 0, .int 0, .int 0, .int 0, .int 0, .int 0, .int 0])), (rs, .inl (cI, 8, .inl (fun _ => 0))), (ri, .inl (cI, 8, .inl (fun _ => 0))), (ra, .inl (cI, 8, .inl (fun _ => 0))), (rt, .inl (cI, 8, .inl (fun _ => 0))), (rg, .inl (cI, 8, .inl (fun _ => 0))), (hy, .inr (1, [.ref ya, .ref yb, .ref yc, .int 0])), (ya, .inl (cI, 64, .inl (fun _ => 0))), (yb, .inl (cI, 64, .inl (fun _ => 0))), (yc, .inl (cI, 64, .inl (fun _ => 0)))] A t) A
abbrev rm_Run_init : Room := { frames := 2, cells := 9, slots := 236, locals := 32 }
set_option maxRecDepth 100000 in
set_option maxHeartbeats 4000000 in
theorem c_Run_init (l : Launch) (D : va_G) (cI cJ cZ cG cH : ClassId) (sz : Nat) (rn : Nat) : Met l yX5_init wsX5_init rm_Run_init (xPc [.ref rn] D (tyL cI cJ cZ cG cH) (W_Run_init cI cJ cZ cG cH rn) sz) (Q_Run_init D cI cJ cZ cG cH rn (va_A (W_Run_init cI cJ cZ cG cH rn) sz)) 9 236 (va_A (W_Run_init cI cJ cZ cG cH rn) sz) := by
  refine xMet (cc := cX5_init) (maxL := 1) (ret := none) (Qf := Q_Run_init D cI cJ cZ cG cH rn) (by decide) rfl (Nat.le_of_ble_eq_true rfl) ?_
  intro p e s m below meth c ls A hx hb hr hml hts hown hlocks hnm hsz hP hK hD hA hS hl
  have hown : s.vm.findClass RX5 = some m.cls := hown
  have hin : meth.name = "<init>" := hnm
  have hP : va_P D vwCl [(rn, .inr (4, [.null, .null, .null, .null, .null, .null, .int 0, .int 0, .int 0, .int 0, .int 0, .int 0, .int 0, .int 0]))] s.heap := hP
  have hD : va_D A [(rn, .inr (4, [.null, .null, .null, .null, .null, .null, .int 0, .int 0, .int 0, .int 0, .int 0, .int 0, .int 0, .int 0]))] := hD
  have hl : lv_has ls 1 [(0, .ref rn)] := hl
  refine lv_aload_n hx hb dX5_init_0 rfl (lv_at hl 0 rfl) ?_
  refine W.objInit hx hb hown (hts (.methodLink RX5 3 objectInit) (by decide +kernel)) (hts (.instanceMethod objectInit) (by decide +kernel)) (hts (.code objectInit ⟨#[0xb1]⟩ 1 none) (by decide +kernel)) rfl (by rw [hml]; exact hl.1) rfl dX5_init_1 (Nat.le_of_ble_eq_true rfl) (Nat.le_of_ble_eq_true rfl) ?_
  refine W.eq (g2 := F0 m 4 ls []) rfl ?_
  refine lv_aload_n hx hb dX5_init_4 rfl (lv_at hl 0 rfl) ?_
  refine va_new (ci := 1) (fs := [.null, .null, .null, .int 0]) (C := RX2) (T := TX2) (N := 4) hx hb hts in_X5_init_X2 tyX2 tyX2_ok hown (hts (.classLink RX5 9 RX2) (by decide +kernel)) (hts (.instantiable RX2 4) (by decide +kernel)) (hts (.initialized RX2) (by decide +kernel)) hK hP hD hS hA rfl (xdef_X2) (Nat.le_of_ble_eq_true rfl) (Nat.le_of_ble_eq_true rfl) dX5_init_5 (fun q1 H hP hD hS => ?_)
  have hP : va_P D vwCl [(rn, .inr (4, [.null, .null, .null, .null, .null, .null, .int 0, .int 0, .int 0, .int 0, .int 0, .int 0, .int 0, .int 0])), (q1, .inr (1, [.null, .null, .null, .int 0]))] H := hP
  have hD : va_D A [(rn, .inr (4, [.null, .null, .null, .null, .null, .null, .int 0, .int 0, .int 0, .int 0, .int 0, .int 0, .int 0, .int 0])), (q1, .inr (1, [.null, .null, .null, .int 0]))] := hD
  refine W.widen (k := 1) (n := 4) (by decide) (by decide) ?_
  refine lv_dup hx hb dX5_init_8 rfl ?_
  have hPc := hP.sub (ws' := [(q1, .inr (1, [.null, .null, .null, .int 0]))]) [1] rfl
  have hDc := hD.sub (ws' := [(q1, .inr (1, [.null, .null, .null, .int 0]))]) [1] (by decide) rfl
  have hFc := va_free (wc := [(q1, .inr (1, [.null, .null, .null, .int 0]))]) hD hS hA [1] rfl
  refine va_callv (va_runI (As := []) (rest := [.ref q1, .ref rn]) ⟨hx, hb, hml, hown, hts⟩ (c_History_init l D cI cJ cZ cG cH H.size q1) (cwI 0 hts gX5_init_X2_init rfl rfl rfl (hts (.initialized RX2) (by decide +kernel)) (hts (.methodLink RX5 11 yX2_init) (by decide +kernel)) (hts (.instanceMethod yX2_init) (by decide +kernel)) rfl (by decide +kernel) ⟨Nat.le_of_ble_eq_true rfl, Nat.le_of_ble_eq_true rfl⟩) ⟨xPc_blind, xPc_pre hPc hK hDc⟩ rfl rfl hl.1 rfl (lv_room (Nat.le_of_ble_eq_true rfl)) dX5_init_9 ⟨Nat.le_of_ble_eq_true rfl, Nat.le_of_ble_eq_true rfl⟩) hS (fun q _ h => hFc q h) hFc (fun u t H1 locs ht hvm hw2 hB hz1 hk1 hS => ?_)
  obtain ⟨ya_3, yb_4, yc_5, hP1, hK1, hD1⟩ := hB
  rw [ht] at hP1
  obtain ⟨hP, hD⟩ := va_join (wr := [(rn, .inr (4, [.null, .null, .null, .null, .null, .null, .int 0, .int 0, .int 0, .int 0, .int 0, .int 0, .int 0, .int 0]))]) (w1 := [(q1, .inr (1, [.ref ya_3, .ref yb_4, .ref yc_5, .int 0])), (ya_3, .inl (cI, 64, .inl (fun _ => 0))), (yb_4, .inl (cI, 64, .inl (fun _ => 0))), (yc_5, .inl (cI, 64, .inl (fun _ => 0)))]) hP hD [1] [0] rfl rfl (by decide) (by decide) hk1 hFc hP1 hD1
  generalize H1 = H at hP hS ⊢
  have hP : va_P D vwCl [(rn, .inr (4, [.null, .null, .null, .null, .null, .null, .int 0, .int 0, .int 0, .int 0, .int 0, .int 0, .int 0, .int 0])), (q1, .inr (1, [.ref ya_3, .ref yb_4, .ref yc_5, .int 0])), (ya_3, .inl (cI, 64, .inl (fun _ => 0))), (yb_4, .inl (cI, 64, .inl (fun _ => 0))), (yc_5, .inl (cI, 64, .inl (fun _ => 0)))] H := hP
  have hD : va_D A [(rn, .inr (4, [.null, .null, .null, .null, .null, .null, .int 0, .int 0, .int 0, .int 0, .int 0, .int 0, .int 0, .int 0])), (q1, .inr (1, [.ref ya_3, .ref yb_4, .ref yc_5, .int 0])), (ya_3, .inl (cI, 64, .inl (fun _ => 0))), (yb_4, .inl (cI, 64, .inl (fun _ => 0))), (yc_5, .inl (cI, 64, .inl (fun _ => 0)))] := hD
  refine W.widen (k := 4) (n := 196) (by decide) (by decide) ?_
  refine va_putF (D := D) (ci := 4) (v := .ref q1) (ty := (.object "PowerRails$History")) (C := RX5) (T := TX5) (N := 14) hx hb hts in_X5_init_X5 tyX5 tyX5_ok nmX5 hown hK hP hD hS 0 rfl rfl 0 (by decide) (hts (.fieldLink RX5 12 "PowerRails$Run" "history" "LPowerRails$History;") (by decide +kernel)) (fun _ h9 => h9) rfl hin rfl (by decide +kernel) rfl rfl (Nat.le_of_ble_eq_true rfl) dX5_init_12 (fun H locs hP hD hS => ?_)
  have hP : va_P D vwCl [(rn, .inr (4, [.ref q1, .null, .null, .null, .null, .null, .int 0, .int 0, .int 0, .int 0, .int 0, .int 0, .int 0, .int 0])), (q1, .inr (1, [.ref ya_3, .ref yb_4, .ref yc_5, .int 0])), (ya_3, .inl (cI, 64, .inl (fun _ => 0))), (yb_4, .inl (cI, 64, .inl (fun _ => 0))), (yc_5, .inl (cI, 64, .inl (fun _ => 0)))] H := hP
  have hD : va_D A [(rn, .inr (4, [.ref q1, .null, .null, .null, .null, .null, .int 0, .int 0, .int 0, .int 0, .int 0, .int 0, .int 0, .int 0])), (q1, .inr (1, [.ref ya_3, .ref yb_4, .ref yc_5, .int 0])), (ya_3, .inl (cI, 64, .inl (fun _ => 0))), (yb_4, .inl (cI, 64, .inl (fun _ => 0))), (yc_5, .inl (cI, 64, .inl (fun _ => 0)))] := hD
  refine lv_aload_n hx hb dX5_init_15 rfl (lv_at hl 0 rfl) ?_
  refine lv_bipush (v := 8) hx hb dX5_init_16 (by decide) ?_
  refine va_newa (atype := .int) (ty := .int) (a0 := (8, .inl (fun _ => 0))) (N' := 8) hx hb (hts (.arrayClass .int) (by decide +kernel)) rfl hK hP hD hS hA (xnewI _) (by decide) (by decide) (by decide) (Nat.le_of_ble_eq_true rfl) (Nat.le_of_ble_eq_true rfl) dX5_init_18 (fun q6 cA7 H hKn hP hD hS => ?_)
  obtain rfl : cI = cA7 := xcls hKn (i := 0) (j := 5) rfl rfl (Or.inl rfl)
  have hP : va_P D vwCl [(rn, .inr (4, [.ref q1, .null, .null, .null, .null, .null, .int 0, .int 0, .int 0, .int 0, .int 0, .int 0, .int 0, .int 0])), (q1, .inr (1, [.ref ya_3, .ref yb_4, .ref yc_5, .int 0])), (ya_3, .inl (cI, 64, .inl (fun _ => 0))), (yb_4, .inl (cI, 64, .inl (fun _ => 0))), (yc_5, .inl (cI, 64, .inl (fun _ => 0))), (q6, .inl (cI, 8, .inl (fun _ => 0)))] H := hP
  have hD : va_D A [(rn, .inr (4, [.ref q1, .null, .null, .null, .null, .null, .int 0, .int 0, .int 0, .int 0, .int 0, .int 0, .int 0, .int 0])), (q1, .inr (1, [.ref ya_3, .ref yb_4, .ref yc_5, .int 0])), (ya_3, .inl (cI, 64, .inl (fun _ => 0))), (yb_4, .inl (cI, 64, .inl (fun _ => 0))), (yc_5, .inl (cI, 64, .inl (fun _ => 0))), (q6, .inl (cI, 8, .inl (fun _ => 0)))] := hD
  refine W.widen (k := 5) (n := 204) (by decide) (by decide) ?_
  refine va_putF (D := D) (ci := 4) (v := .ref q6) (ty := (.array .int)) (C := RX5) (T := TX5) (N := 14) hx hb hts in_X5_init_X5 tyX5 tyX5_ok nmX5 hown hK hP hD hS 0 rfl rfl 1 (by decide) (hts (.fieldLink RX5 18 "PowerRails$Run" "states" "[I") (by decide +kernel)) (fun _ h9 => h9) rfl hin rfl (by decide +kernel) rfl rfl (Nat.le_of_ble_eq_true rfl) dX5_init_20 (fun H locs hP hD hS => ?_)
  have hP : va_P D vwCl [(rn, .inr (4, [.ref q1, .ref q6, .null, .null, .null, .null, .int 0, .int 0, .int 0, .int 0, .int 0, .int 0, .int 0, .int 0])), (q1, .inr (1, [.ref ya_3, .ref yb_4, .ref yc_5, .int 0])), (ya_3, .inl (cI, 64, .inl (fun _ => 0))), (yb_4, .inl (cI, 64, .inl (fun _ => 0))), (yc_5, .inl (cI, 64, .inl (fun _ => 0))), (q6, .inl (cI, 8, .inl (fun _ => 0)))] H := hP
  have hD : va_D A [(rn, .inr (4, [.ref q1, .ref q6, .null, .null, .null, .null, .int 0, .int 0, .int 0, .int 0, .int 0, .int 0, .int 0, .int 0])), (q1, .inr (1, [.ref ya_3, .ref yb_4, .ref yc_5, .int 0])), (ya_3, .inl (cI, 64, .inl (fun _ => 0))), (yb_4, .inl (cI, 64, .inl (fun _ => 0))), (yc_5, .inl (cI, 64, .inl (fun _ => 0))), (q6, .inl (cI, 8, .inl (fun _ => 0)))] := hD
  refine lv_aload_n hx hb dX5_init_23 rfl (lv_at hl 0 rfl) ?_
  refine lv_bipush (v := 8) hx hb dX5_init_24 (by decide) ?_
  refine va_newa (atype := .int) (ty := .int) (a0 := (8, .inl (fun _ => 0))) (N' := 8) hx hb (hts (.arrayClass .int) (by decide +kernel)) rfl hK hP hD hS hA (xnewI _) (by decide) (by decide) (by decide) (Nat.le_of_ble_eq_true rfl) (Nat.le_of_ble_eq_true rfl) dX5_init_26 (fun q8 cA9 H hKn hP hD hS => ?_)
  obtain rfl : cI = cA9 := xcls hKn (i := 0) (j := 5) rfl rfl (Or.inl rfl)
  have hP : va_P D vwCl [(rn, .inr (4, [.ref q1, .ref q6, .null, .null, .null, .null, .int 0, .int 0, .int 0, .int 0, .int 0, .int 0, .int 0, .int 0])), (q1, .inr (1, [.ref ya_3, .ref yb_4, .ref yc_5, .int 0])), (ya_3, .inl (cI, 64, .inl (fun _ => 0))), (yb_4, .inl (cI, 64, .inl (fun _ => 0))), (yc_5, .inl (cI, 64, .inl (fun _ => 0))), (q6, .inl (cI, 8, .inl (fun _ => 0))), (q8, .inl (cI, 8, .inl (fun _ => 0)))] H := hP
  have hD : va_D A [(rn, .inr (4, [.ref q1, .ref q6, .null, .null, .null, .null, .int 0, .int 0, .int 0, .int 0, .int 0, .int 0, .int 0, .int 0])), (q1, .inr (1, [.ref ya_3, .ref yb_4, .ref yc_5, .int 0])), (ya_3, .inl (cI, 64, .inl (fun _ => 0))), (yb_4, .inl (cI, 64, .inl (fun _ => 0))), (yc_5, .inl (cI, 64, .inl (fun _ => 0))), (q6, .inl (cI, 8, .inl (fun _ => 0))), (q8, .inl (cI, 8, .inl (fun _ => 0)))] := hD
  refine W.widen (k := 6) (n := 212) (by decide) (by decide) ?_
  refine va_putF (D := D) (ci := 4) (v := .ref q8) (ty := (.array .int)) (C := RX5) (T := TX5) (N := 14) hx hb hts in_X5_init_X5 tyX5 tyX5_ok nmX5 hown hK hP hD hS 0 rfl rfl 2 (by decide) (hts (.fieldLink RX5 22 "PowerRails$Run" "since" "[I") (by decide +kernel)) (fun _ h9 => h9) rfl hin rfl (by decide +kernel) rfl rfl (Nat.le_of_ble_eq_true rfl) dX5_init_28 (fun H locs hP hD hS => ?_)
  have hP : va_P D vwCl [(rn, .inr (4, [.ref q1, .ref q6, .ref q8, .null, .null, .null, .int 0, .int 0, .int 0, .int 0, .int 0, .int 0, .int 0, .int 0])), (q1, .inr (1, [.ref ya_3, .ref yb_4, .ref yc_5, .int 0])), (ya_3, .inl (cI, 64, .inl (fun _ => 0))), (yb_4, .inl (cI, 64, .inl (fun _ => 0))), (yc_5, .inl (cI, 64, .inl (fun _ => 0))), (q6, .inl (cI, 8, .inl (fun _ => 0))), (q8, .inl (cI, 8, .inl (fun _ => 0)))] H := hP
  have hD : va_D A [(rn, .inr (4, [.ref q1, .ref q6, .ref q8, .null, .null, .null, .int 0, .int 0, .int 0, .int 0, .int 0, .int 0, .int 0, .int 0])), (q1, .inr (1, [.ref ya_3, .ref yb_4, .ref yc_5, .int 0])), (ya_3, .inl (cI, 64, .inl (fun _ => 0))), (yb_4, .inl (cI, 64, .inl (fun _ => 0))), (yc_5, .inl (cI, 64, .inl (fun _ => 0))), (q6, .inl (cI, 8, .inl (fun _ => 0))), (q8, .inl (cI, 8, .inl (fun _ => 0)))] := hD
  refine lv_aload_n hx hb dX5_init_31 rfl (lv_at hl 0 rfl) ?_
  refine lv_bipush (v := 8) hx hb dX5_init_32 (by decide) ?_
  refine va_newa (atype := .int) (ty := .int) (a0 := (8, .inl (fun _ => 0))) (N' := 8) hx hb (hts (.arrayClass .int) (by decide +kernel)) rfl hK hP hD hS hA (xnewI _) (by decide) (by decide) (by decide) (Nat.le_of_ble_eq_true rfl) (Nat.le_of_ble_eq_true rfl) dX5_init_34 (fun q10 cA11 H hKn hP hD hS => ?_)
  obtain rfl : cI = cA11 := xcls hKn (i := 0) (j := 5) rfl rfl (Or.inl rfl)
  have hP : va_P D vwCl [(rn, .inr (4, [.ref q1, .ref q6, .ref q8, .null, .null, .null, .int 0, .int 0, .int 0, .int 0, .int 0, .int 0, .int 0, .int 0])), (q1, .inr (1, [.ref ya_3, .ref yb_4, .ref yc_5, .int 0])), (ya_3, .inl (cI, 64, .inl (fun _ => 0))), (yb_4, .inl (cI, 64, .inl (fun _ => 0))), (yc_5, .inl (cI, 64, .inl (fun _ => 0))), (q6, .inl (cI, 8, .inl (fun _ => 0))), (q8, .inl (cI, 8, .inl (fun _ => 0))), (q10, .inl (cI, 8, .inl (fun _ => 0)))] H := hP
  have hD : va_D A [(rn, .inr (4, [.ref q1, .ref q6, .ref q8, .null, .null, .null, .int 0, .int 0, .int 0, .int 0, .int 0, .int 0, .int 0, .int 0])), (q1, .inr (1, [.ref ya_3, .ref yb_4, .ref yc_5, .int 0])), (ya_3, .inl (cI, 64, .inl (fun _ => 0))), (yb_4, .inl (cI, 64, .inl (fun _ => 0))), (yc_5, .inl (cI, 64, .inl (fun _ => 0))), (q6, .inl (cI, 8, .inl (fun _ => 0))), (q8, .inl (cI, 8, .inl (fun _ => 0))), (q10, .inl (cI, 8, .inl (fun _ => 0)))] := hD
  refine W.widen (k := 7) (n := 220) (by decide) (by decide) ?_
  refine va_putF (D := D) (ci := 4) (v := .ref q10) (ty := (.array .int)) (C := RX5) (T := TX5) (N := 14) hx hb hts in_X5_init_X5 tyX5 tyX5_ok nmX5 hown hK hP hD hS 0 rfl rfl 3 (by decide) (hts (.fieldLink RX5 25 "PowerRails$Run" "asked" "[I") (by decide +kernel)) (fun _ h9 => h9) rfl hin rfl (by decide +kernel) rfl rfl (Nat.le_of_ble_eq_true rfl) dX5_init_36 (fun H locs hP hD hS => ?_)
  have hP : va_P D vwCl [(rn, .inr (4, [.ref q1, .ref q6, .ref q8, .ref q10, .null, .null, .int 0, .int 0, .int 0, .int 0, .int 0, .int 0, .int 0, .int 0])), (q1, .inr (1, [.ref ya_3, .ref yb_4, .ref yc_5, .int 0])), (ya_3, .inl (cI, 64, .inl (fun _ => 0))), (yb_4, .inl (cI, 64, .inl (fun _ => 0))), (yc_5, .inl (cI, 64, .inl (fun _ => 0))), (q6, .inl (cI, 8, .inl (fun _ => 0))), (q8, .inl (cI, 8, .inl (fun _ => 0))), (q10, .inl (cI, 8, .inl (fun _ => 0)))] H := hP
  have hD : va_D A [(rn, .inr (4, [.ref q1, .ref q6, .ref q8, .ref q10, .null, .null, .int 0, .int 0, .int 0, .int 0, .int 0, .int 0, .int 0, .int 0])), (q1, .inr (1, [.ref ya_3, .ref yb_4, .ref yc_5, .int 0])), (ya_3, .inl (cI, 64, .inl (fun _ => 0))), (yb_4, .inl (cI, 64, .inl (fun _ => 0))), (yc_5, .inl (cI, 64, .inl (fun _ => 0))), (q6, .inl (cI, 8, .inl (fun _ => 0))), (q8, .inl (cI, 8, .inl (fun _ => 0))), (q10, .inl (cI, 8, .inl (fun _ => 0)))] := hD
  refine lv_aload_n hx hb dX5_init_39 rfl (lv_at hl 0 rfl) ?_
  refine lv_bipush (v := 8) hx hb dX5_init_40 (by decide) ?_
  refine va_newa (atype := .int) (ty := .int) (a0 := (8, .inl (fun _ => 0))) (N' := 8) hx hb (hts (.arrayClass .int) (by decide +kernel)) rfl hK hP hD hS hA (xnewI _) (by decide) (by decide) (by decide) (Nat.le_of_ble_eq_true rfl) (Nat.le_of_ble_eq_true rfl) dX5_init_42 (fun q12 cA13 H hKn hP hD hS => ?_)
  obtain rfl : cI = cA13 := xcls hKn (i := 0) (j := 5) rfl rfl (Or.inl rfl)
  have hP : va_P D vwCl [(rn, .inr (4, [.ref q1, .ref q6, .ref q8, .ref q10, .null, .null, .int 0, .int 0, .int 0, .int 0, .int 0, .int 0, .int 0, .int 0])), (q1, .inr (1, [.ref ya_3, .ref yb_4, .ref yc_5, .int 0])), (ya_3, .inl (cI, 64, .inl (fun _ => 0))), (yb_4, .inl (cI, 64, .inl (fun _ => 0))), (yc_5, .inl (cI, 64, .inl (fun _ => 0))), (q6, .inl (cI, 8, .inl (fun _ => 0))), (q8, .inl (cI, 8, .inl (fun _ => 0))), (q10, .inl (cI, 8, .inl (fun _ => 0))), (q12, .inl (cI, 8, .inl (fun _ => 0)))] H := hP
  have hD : va_D A [(rn, .inr (4, [.ref q1, .ref q6, .ref q8, .ref q10, .null, .null, .int 0, .int 0, .int 0, .int 0, .int 0, .int 0, .int 0, .int 0])), (q1, .inr (1, [.ref ya_3, .ref yb_4, .ref yc_5, .int 0])), (ya_3, .inl (cI, 64, .inl (fun _ => 0))), (yb_4, .inl (cI, 64, .inl (fun _ => 0))), (yc_5, .inl (cI, 64, .inl (fun _ => 0))), (q6, .inl (cI, 8, .inl (fun _ => 0))), (q8, .inl (cI, 8, .inl (fun _ => 0))), (q10, .inl (cI, 8, .inl (fun _ => 0))), (q12, .inl (cI, 8, .inl (fun _ => 0)))] := hD
  refine W.widen (k := 8) (n := 228) (by decide) (by decide) ?_
  refine va_putF (D := D) (ci := 4) (v := .ref q12) (ty := (.array .int)) (C := RX5) (T := TX5) (N := 14) hx hb hts in_X5_init_X5 tyX5 tyX5_ok nmX5 hown hK hP hD hS 0 rfl rfl 4 (by decide) (hts (.fieldLink RX5 28 "PowerRails$Run" "takes" "[I") (by decide +kernel)) (fun _ h9 => h9) rfl hin rfl (by decide +kernel) rfl rfl (Nat.le_of_ble_eq_true rfl) dX5_init_44 (fun H locs hP hD hS => ?_)
  have hP : va_P D vwCl [(rn, .inr (4, [.ref q1, .ref q6, .ref q8, .ref q10, .ref q12, .null, .int 0, .int 0, .int 0, .int 0, .int 0, .int 0, .int 0, .int 0])), (q1, .inr (1, [.ref ya_3, .ref yb_4, .ref yc_5, .int 0])), (ya_3, .inl (cI, 64, .inl (fun _ => 0))), (yb_4, .inl (cI, 64, .inl (fun _ => 0))), (yc_5, .inl (cI, 64, .inl (fun _ => 0))), (q6, .inl (cI, 8, .inl (fun _ => 0))), (q8, .inl (cI, 8, .inl (fun _ => 0))), (q10, .inl (cI, 8, .inl (fun _ => 0))), (q12, .inl (cI, 8, .inl (fun _ => 0)))] H := hP
  have hD : va_D A [(rn, .inr (4, [.ref q1, .ref q6, .ref q8, .ref q10, .ref q12, .null, .int 0, .int 0, .int 0, .int 0, .int 0, .int 0, .int 0, .int 0])), (q1, .inr (1, [.ref ya_3, .ref yb_4, .ref yc_5, .int 0])), (ya_3, .inl (cI, 64, .inl (fun _ => 0))), (yb_4, .inl (cI, 64, .inl (fun _ => 0))), (yc_5, .inl (cI, 64, .inl (fun _ => 0))), (q6, .inl (cI, 8, .inl (fun _ => 0))), (q8, .inl (cI, 8, .inl (fun _ => 0))), (q10, .inl (cI, 8, .inl (fun _ => 0))), (q12, .inl (cI, 8, .inl (fun _ => 0)))] := hD
  refine lv_aload_n hx hb dX5_init_47 rfl (lv_at hl 0 rfl) ?_
  refine lv_bipush (v := 8) hx hb dX5_init_48 (by decide) ?_
  refine va_newa (atype := .int) (ty := .int) (a0 := (8, .inl (fun _ => 0))) (N' := 8) hx hb (hts (.arrayClass .int) (by decide +kernel)) rfl hK hP hD hS hA (xnewI _) (by decide) (by decide) (by decide) (Nat.le_of_ble_eq_true rfl) (Nat.le_of_ble_eq_true rfl) dX5_init_50 (fun q14 cA15 H hKn hP hD hS => ?_)
  obtain rfl : cI = cA15 := xcls hKn (i := 0) (j := 5) rfl rfl (Or.inl rfl)
  have hP : va_P D vwCl [(rn, .inr (4, [.ref q1, .ref q6, .ref q8, .ref q10, .ref q12, .null, .int 0, .int 0, .int 0, .int 0, .int 0, .int 0, .int 0, .int 0])), (q1, .inr (1, [.ref ya_3, .ref yb_4, .ref yc_5, .int 0])), (ya_3, .inl (cI, 64, .inl (fun _ => 0))), (yb_4, .inl (cI, 64, .inl (fun _ => 0))), (yc_5, .inl (cI, 64, .inl (fun _ => 0))), (q6, .inl (cI, 8, .inl (fun _ => 0))), (q8, .inl (cI, 8, .inl (fun _ => 0))), (q10, .inl (cI, 8, .inl (fun _ => 0))), (q12, .inl (cI, 8, .inl (fun _ => 0))), (q14, .inl (cI, 8, .inl (fun _ => 0)))] H := hP
  have hD : va_D A [(rn, .inr (4, [.ref q1, .ref q6, .ref q8, .ref q10, .ref q12, .null, .int 0, .int 0, .int 0, .int 0, .int 0, .int 0, .int 0, .int 0])), (q1, .inr (1, [.ref ya_3, .ref yb_4, .ref yc_5, .int 0])), (ya_3, .inl (cI, 64, .inl (fun _ => 0))), (yb_4, .inl (cI, 64, .inl (fun _ => 0))), (yc_5, .inl (cI, 64, .inl (fun _ => 0))), (q6, .inl (cI, 8, .inl (fun _ => 0))), (q8, .inl (cI, 8, .inl (fun _ => 0))), (q10, .inl (cI, 8, .inl (fun _ => 0))), (q12, .inl (cI, 8, .inl (fun _ => 0))), (q14, .inl (cI, 8, .inl (fun _ => 0)))] := hD
  refine W.widen (k := 9) (n := 236) (by decide) (by decide) ?_
  refine va_putF (D := D) (ci := 4) (v := .ref q14) (ty := (.array .int)) (C := RX5) (T := TX5) (N := 14) hx hb hts in_X5_init_X5 tyX5 tyX5_ok nmX5 hown hK hP hD hS 0 rfl rfl 5 (by decide) (hts (.fieldLink RX5 31 "PowerRails$Run" "timesGood" "[I") (by decide +kernel)) (fun _ h9 => h9) rfl hin rfl (by decide +kernel) rfl rfl (Nat.le_of_ble_eq_true rfl) dX5_init_52 (fun H locs hP hD hS => ?_)
  have hP : va_P D vwCl [(rn, .inr (4, [.ref q1, .ref q6, .ref q8, .ref q10, .ref q12, .ref q14, .int 0, .int 0, .int 0, .int 0, .int 0, .int 0, .int 0, .int 0])), (q1, .inr (1, [.ref ya_3, .ref yb_4, .ref yc_5, .int 0])), (ya_3, .inl (cI, 64, .inl (fun _ => 0))), (yb_4, .inl (cI, 64, .inl (fun _ => 0))), (yc_5, .inl (cI, 64, .inl (fun _ => 0))), (q6, .inl (cI, 8, .inl (fun _ => 0))), (q8, .inl (cI, 8, .inl (fun _ => 0))), (q10, .inl (cI, 8, .inl (fun _ => 0))), (q12, .inl (cI, 8, .inl (fun _ => 0))), (q14, .inl (cI, 8, .inl (fun _ => 0)))] H := hP
  have hD : va_D A [(rn, .inr (4, [.ref q1, .ref q6, .ref q8, .ref q10, .ref q12, .ref q14, .int 0, .int 0, .int 0, .int 0, .int 0, .int 0, .int 0, .int 0])), (q1, .inr (1, [.ref ya_3, .ref yb_4, .ref yc_5, .int 0])), (ya_3, .inl (cI, 64, .inl (fun _ => 0))), (yb_4, .inl (cI, 64, .inl (fun _ => 0))), (yc_5, .inl (cI, 64, .inl (fun _ => 0))), (q6, .inl (cI, 8, .inl (fun _ => 0))), (q8, .inl (cI, 8, .inl (fun _ => 0))), (q10, .inl (cI, 8, .inl (fun _ => 0))), (q12, .inl (cI, 8, .inl (fun _ => 0))), (q14, .inl (cI, 8, .inl (fun _ => 0)))] := hD
  refine lv_aload_n hx hb dX5_init_55 rfl (lv_at hl 0 rfl) ?_
  refine lv_iconst (v := 0) hx hb dX5_init_56 (by decide) ?_
  refine va_put (D := D) (ci := 4) (v := .int 0) (ty := .int) (C := RX5) (T := TX5) (N := 14) hx hb hts in_X5_init_X5 tyX5 tyX5_ok nmX5 hown hK hP hD hS 0 rfl rfl 6 (by decide) (hts (.fieldLink RX5 34 "PowerRails$Run" "dead" "I") (by decide +kernel)) (fun _ h9 => h9) rfl (by decide +kernel) rfl rfl (Nat.le_of_ble_eq_true rfl) dX5_init_57 (fun H locs hP hD hS => ?_)
  have hP : va_P D vwCl [(rn, .inr (4, [.ref q1, .ref q6, .ref q8, .ref q10, .ref q12, .ref q14, .int 0, .int 0, .int 0, .int 0, .int 0, .int 0, .int 0, .int 0])), (q1, .inr (1, [.ref ya_3, .ref yb_4, .ref yc_5, .int 0])), (ya_3, .inl (cI, 64, .inl (fun _ => 0))), (yb_4, .inl (cI, 64, .inl (fun _ => 0))), (yc_5, .inl (cI, 64, .inl (fun _ => 0))), (q6, .inl (cI, 8, .inl (fun _ => 0))), (q8, .inl (cI, 8, .inl (fun _ => 0))), (q10, .inl (cI, 8, .inl (fun _ => 0))), (q12, .inl (cI, 8, .inl (fun _ => 0))), (q14, .inl (cI, 8, .inl (fun _ => 0)))] H := hP
  have hD : va_D A [(rn, .inr (4, [.ref q1, .ref q6, .ref q8, .ref q10, .ref q12, .ref q14, .int 0, .int 0, .int 0, .int 0, .int 0, .int 0, .int 0, .int 0])), (q1, .inr (1, [.ref ya_3, .ref yb_4, .ref yc_5, .int 0])), (ya_3, .inl (cI, 64, .inl (fun _ => 0))), (yb_4, .inl (cI, 64, .inl (fun _ => 0))), (yc_5, .inl (cI, 64, .inl (fun _ => 0))), (q6, .inl (cI, 8, .inl (fun _ => 0))), (q8, .inl (cI, 8, .inl (fun _ => 0))), (q10, .inl (cI, 8, .inl (fun _ => 0))), (q12, .inl (cI, 8, .inl (fun _ => 0))), (q14, .inl (cI, 8, .inl (fun _ => 0)))] := hD
  refine lv_aload_n hx hb dX5_init_60 rfl (lv_at hl 0 rfl) ?_
  refine lv_iconst (v := 0) hx hb dX5_init_61 (by decide) ?_
  refine va_put (D := D) (ci := 4) (v := .int 0) (ty := .boolean) (C := RX5) (T := TX5) (N := 14) hx hb hts in_X5_init_X5 tyX5 tyX5_ok nmX5 hown hK hP hD hS 0 rfl rfl 7 (by decide) (hts (.fieldLink RX5 38 "PowerRails$Run" "key" "Z") (by decide +kernel)) (fun _ h9 => h9) rfl (by decide +kernel) (by decide) rfl (Nat.le_of_ble_eq_true rfl) dX5_init_62 (fun H locs hP hD hS => ?_)
  have hP : va_P D vwCl [(rn, .inr (4, [.ref q1, .ref q6, .ref q8, .ref q10, .ref q12, .ref q14, .int 0, .int 0, .int 0, .int 0, .int 0, .int 0, .int 0, .int 0])), (q1, .inr (1, [.ref ya_3, .ref yb_4, .ref yc_5, .int 0])), (ya_3, .inl (cI, 64, .inl (fun _ => 0))), (yb_4, .inl (cI, 64, .inl (fun _ => 0))), (yc_5, .inl (cI, 64, .inl (fun _ => 0))), (q6, .inl (cI, 8, .inl (fun _ => 0))), (q8, .inl (cI, 8, .inl (fun _ => 0))), (q10, .inl (cI, 8, .inl (fun _ => 0))), (q12, .inl (cI, 8, .inl (fun _ => 0))), (q14, .inl (cI, 8, .inl (fun _ => 0)))] H := hP
  have hD : va_D A [(rn, .inr (4, [.ref q1, .ref q6, .ref q8, .ref q10, .ref q12, .ref q14, .int 0, .int 0, .int 0, .int 0, .int 0, .int 0, .int 0, .int 0])), (q1, .inr (1, [.ref ya_3, .ref yb_4, .ref yc_5, .int 0])), (ya_3, .inl (cI, 64, .inl (fun _ => 0))), (yb_4, .inl (cI, 64, .inl (fun _ => 0))), (yc_5, .inl (cI, 64, .inl (fun _ => 0))), (q6, .inl (cI, 8, .inl (fun _ => 0))), (q8, .inl (cI, 8, .inl (fun _ => 0))), (q10, .inl (cI, 8, .inl (fun _ => 0))), (q12, .inl (cI, 8, .inl (fun _ => 0))), (q14, .inl (cI, 8, .inl (fun _ => 0)))] := hD
  refine W.widen (k := 9) (n := 236) (by decide) (by decide) ?_
  have hP9 := hP.sub (ws' := [(rn, .inr (4, [.ref q1, .ref q6, .ref q8, .ref q10, .ref q12, .ref q14, .int 0, .int 0, .int 0, .int 0, .int 0, .int 0, .int 0, .int 0])), (q6, .inl (cI, 8, .inl (fun _ => 0))), (q8, .inl (cI, 8, .inl (fun _ => 0))), (q10, .inl (cI, 8, .inl (fun _ => 0))), (q12, .inl (cI, 8, .inl (fun _ => 0))), (q14, .inl (cI, 8, .inl (fun _ => 0))), (q1, .inr (1, [.ref ya_3, .ref yb_4, .ref yc_5, .int 0])), (ya_3, .inl (cI, 64, .inl (fun _ => 0))), (yb_4, .inl (cI, 64, .inl (fun _ => 0))), (yc_5, .inl (cI, 64, .inl (fun _ => 0)))]) [0, 5, 6, 7, 8, 9, 1, 2, 3, 4] rfl
  have hD9 := hD.sub (ws' := [(rn, .inr (4, [.ref q1, .ref q6, .ref q8, .ref q10, .ref q12, .ref q14, .int 0, .int 0, .int 0, .int 0, .int 0, .int 0, .int 0, .int 0])), (q6, .inl (cI, 8, .inl (fun _ => 0))), (q8, .inl (cI, 8, .inl (fun _ => 0))), (q10, .inl (cI, 8, .inl (fun _ => 0))), (q12, .inl (cI, 8, .inl (fun _ => 0))), (q14, .inl (cI, 8, .inl (fun _ => 0))), (q1, .inr (1, [.ref ya_3, .ref yb_4, .ref yc_5, .int 0])), (ya_3, .inl (cI, 64, .inl (fun _ => 0))), (yb_4, .inl (cI, 64, .inl (fun _ => 0))), (yc_5, .inl (cI, 64, .inl (fun _ => 0)))]) [0, 5, 6, 7, 8, 9, 1, 2, 3, 4] (by decide) rfl
  exact W.vret hx hb hr (fun t ht hW => ⟨⟨(), rfl, trivial, ⟨q1, q6, q8, q10, q12, q14, ya_3, yb_4, yc_5, xB_of ht hW hP9 hK hD9⟩⟩, hS.F ht⟩) hS.2.2 dX5_init_65
theorem in_X0_init_X0 : ∀ w ∈ wsX00, w ∈ wsX0_init := by decide +kernel
abbrev W_Course_init (cI cJ cZ cG cH : ClassId) (co : Nat) : va_W := [(co, .inr (0, [.null, .null, .null, .null, .null, .int 0, .int 0, .int 0, .int 0]))]
abbrev Q_Course_init (D : va_G) (cI cJ cZ cG cH : ClassId) (co : Nat) (A : Nat → Prop) : Array Value → State → Outcome → State → Prop := va_Qv (fun (_ : Unit) => True) (fun _ t => ∃ (cw : Nat) (ct : Nat) (cr : Nat) (cg : Nat) (cx : Nat), xB D (tyL cI cJ cZ cG cH) [(co, .inr (0, [.ref cw, .ref ct, .ref cr, .ref cg, .ref cx, .int 0, .int 0, .int 0, .int 0])), (cw, .inl (cI, 8, .inl (fun _ => 0))), (ct, .inl (cI, 8, .inl (fun _ => 0))), (cr, .inl (cI, 8, .inl (fun _ => 0))), (cg, .inl (cI, 8, .inl (fun _ => 0))), (cx, .inl (cI, 145, .inl (fun _ => 0)))] A t) A
abbrev rm_Course_init : Room := { frames := 1, cells := 5, slots := 177, locals := 12 }
set_option maxRecDepth 100000 in
set_option maxHeartbeats 4000000 in
theorem c_Course_init (l : Launch) (D : va_G) (cI cJ cZ cG cH : ClassId) (sz : Nat) (co : Nat) : Met l yX0_init wsX0_init rm_Course_init (xPc [.ref co] D (tyL cI cJ cZ cG cH) (W_Course_init cI cJ cZ cG cH co) sz) (Q_Course_init D cI cJ cZ cG cH co (va_A (W_Course_init cI cJ cZ cG cH co) sz)) 5 177 (va_A (W_Course_init cI cJ cZ cG cH co) sz) := by
  refine xMet (cc := cX0_init) (maxL := 1) (ret := none) (Qf := Q_Course_init D cI cJ cZ cG cH co) (by decide) rfl (Nat.le_of_ble_eq_true rfl) ?_
  intro p e s m below meth c ls A hx hb hr hml hts hown hlocks hnm hsz hP hK hD hA hS hl
  have hown : s.vm.findClass RX0 = some m.cls := hown
  have hin : meth.name = "<init>" := hnm
  have hP : va_P D vwCl [(co, .inr (0, [.null, .null, .null, .null, .null, .int 0, .int 0, .int 0, .int 0]))] s.heap := hP
  have hD : va_D A [(co, .inr (0, [.null, .null, .null, .null, .null, .int 0, .int 0, .int 0, .int 0]))] := hD
  have hl : lv_has ls 1 [(0, .ref co)] := hl
  refine lv_aload_n hx hb dX0_init_0 rfl (lv_at hl 0 rfl) ?_
  refine W.objInit hx hb hown (hts (.methodLink RX0 3 objectInit) (by decide +kernel)) (hts (.instanceMethod objectInit) (by decide +kernel)) (hts (.code objectInit ⟨#[0xb1]⟩ 1 none) (by decide +kernel)) rfl (by rw [hml]; exact hl.1) rfl dX0_init_1 (Nat.le_of_ble_eq_true rfl) (Nat.le_of_ble_eq_true rfl) ?_
  refine W.eq (g2 := F0 m 4 ls []) rfl ?_
  refine lv_aload_n hx hb dX0_init_4 rfl (lv_at hl 0 rfl) ?_
  refine lv_bipush (v := 8) hx hb dX0_init_5 (by decide) ?_
  refine va_newa (atype := .int) (ty := .int) (a0 := (8, .inl (fun _ => 0))) (N' := 8) hx hb (hts (.arrayClass .int) (by decide +kernel)) rfl hK hP hD hS hA (xnewI _) (by decide) (by decide) (by decide) (Nat.le_of_ble_eq_true rfl) (Nat.le_of_ble_eq_true rfl) dX0_init_7 (fun q1 cA2 H hKn hP hD hS => ?_)
  obtain rfl : cI = cA2 := xcls hKn (i := 0) (j := 5) rfl rfl (Or.inl rfl)
  have hP : va_P D vwCl [(co, .inr (0, [.null, .null, .null, .null, .null, .int 0, .int 0, .int 0, .int 0])), (q1, .inl (cI, 8, .inl (fun _ => 0)))] H := hP
  have hD : va_D A [(co, .inr (0, [.null, .null, .null, .null, .null, .int 0, .int 0, .int 0, .int 0])), (q1, .inl (cI, 8, .inl (fun _ => 0)))] := hD
  refine W.widen (k := 1) (n := 8) (by decide) (by decide) ?_
  refine va_putF (D := D) (ci := 0) (v := .ref q1) (ty := (.array .int)) (C := RX0) (T := TX0) (N := 9) hx hb hts in_X0_init_X0 tyX0 tyX0_ok nmX0 hown hK hP hD hS 0 rfl rfl 0 (by decide) (hts (.fieldLink RX0 9 "PowerRails$Course" "waits" "[I") (by decide +kernel)) (fun _ h9 => h9) rfl hin rfl (by decide +kernel) rfl rfl (Nat.le_of_ble_eq_true rfl) dX0_init_9 (fun H locs hP hD hS => ?_)
  have hP : va_P D vwCl [(co, .inr (0, [.ref q1, .null, .null, .null, .null, .int 0, .int 0, .int 0, .int 0])), (q1, .inl (cI, 8, .inl (fun _ => 0)))] H := hP
  have hD : va_D A [(co, .inr (0, [.ref q1, .null, .null, .null, .null, .int 0, .int 0, .int 0, .int 0])), (q1, .inl (cI, 8, .inl (fun _ => 0)))] := hD
  refine lv_aload_n hx hb dX0_init_12 rfl (lv_at hl 0 rfl) ?_
  refine lv_bipush (v := 8) hx hb dX0_init_13 (by decide) ?_
  refine va_newa (atype := .int) (ty := .int) (a0 := (8, .inl (fun _ => 0))) (N' := 8) hx hb (hts (.arrayClass .int) (by decide +kernel)) rfl hK hP hD hS hA (xnewI _) (by decide) (by decide) (by decide) (Nat.le_of_ble_eq_true rfl) (Nat.le_of_ble_eq_true rfl) dX0_init_15 (fun q3 cA4 H hKn hP hD hS => ?_)
  obtain rfl : cI = cA4 := xcls hKn (i := 0) (j := 5) rfl rfl (Or.inl rfl)
  have hP : va_P D vwCl [(co, .inr (0, [.ref q1, .null, .null, .null, .null, .int 0, .int 0, .int 0, .int 0])), (q1, .inl (cI, 8, .inl (fun _ => 0))), (q3, .inl (cI, 8, .inl (fun _ => 0)))] H := hP
  have hD : va_D A [(co, .inr (0, [.ref q1, .null, .null, .null, .null, .int 0, .int 0, .int 0, .int 0])), (q1, .inl (cI, 8, .inl (fun _ => 0))), (q3, .inl (cI, 8, .inl (fun _ => 0)))] := hD
  refine W.widen (k := 2) (n := 16) (by decide) (by decide) ?_
  refine va_putF (D := D) (ci := 0) (v := .ref q3) (ty := (.array .int)) (C := RX0) (T := TX0) (N := 9) hx hb hts in_X0_init_X0 tyX0 tyX0_ok nmX0 hown hK hP hD hS 0 rfl rfl 1 (by decide) (hts (.fieldLink RX0 15 "PowerRails$Course" "takes" "[I") (by decide +kernel)) (fun _ h9 => h9) rfl hin rfl (by decide +kernel) rfl rfl (Nat.le_of_ble_eq_true rfl) dX0_init_17 (fun H locs hP hD hS => ?_)
  have hP : va_P D vwCl [(co, .inr (0, [.ref q1, .ref q3, .null, .null, .null, .int 0, .int 0, .int 0, .int 0])), (q1, .inl (cI, 8, .inl (fun _ => 0))), (q3, .inl (cI, 8, .inl (fun _ => 0)))] H := hP
  have hD : va_D A [(co, .inr (0, [.ref q1, .ref q3, .null, .null, .null, .int 0, .int 0, .int 0, .int 0])), (q1, .inl (cI, 8, .inl (fun _ => 0))), (q3, .inl (cI, 8, .inl (fun _ => 0)))] := hD
  refine lv_aload_n hx hb dX0_init_20 rfl (lv_at hl 0 rfl) ?_
  refine lv_bipush (v := 8) hx hb dX0_init_21 (by decide) ?_
  refine va_newa (atype := .int) (ty := .int) (a0 := (8, .inl (fun _ => 0))) (N' := 8) hx hb (hts (.arrayClass .int) (by decide +kernel)) rfl hK hP hD hS hA (xnewI _) (by decide) (by decide) (by decide) (Nat.le_of_ble_eq_true rfl) (Nat.le_of_ble_eq_true rfl) dX0_init_23 (fun q5 cA6 H hKn hP hD hS => ?_)
  obtain rfl : cI = cA6 := xcls hKn (i := 0) (j := 5) rfl rfl (Or.inl rfl)
  have hP : va_P D vwCl [(co, .inr (0, [.ref q1, .ref q3, .null, .null, .null, .int 0, .int 0, .int 0, .int 0])), (q1, .inl (cI, 8, .inl (fun _ => 0))), (q3, .inl (cI, 8, .inl (fun _ => 0))), (q5, .inl (cI, 8, .inl (fun _ => 0)))] H := hP
  have hD : va_D A [(co, .inr (0, [.ref q1, .ref q3, .null, .null, .null, .int 0, .int 0, .int 0, .int 0])), (q1, .inl (cI, 8, .inl (fun _ => 0))), (q3, .inl (cI, 8, .inl (fun _ => 0))), (q5, .inl (cI, 8, .inl (fun _ => 0)))] := hD
  refine W.widen (k := 3) (n := 24) (by decide) (by decide) ?_
  refine va_putF (D := D) (ci := 0) (v := .ref q5) (ty := (.array .int)) (C := RX0) (T := TX0) (N := 9) hx hb hts in_X0_init_X0 tyX0 tyX0_ok nmX0 hown hK hP hD hS 0 rfl rfl 2 (by decide) (hts (.fieldLink RX0 18 "PowerRails$Course" "risesAt" "[I") (by decide +kernel)) (fun _ h9 => h9) rfl hin rfl (by decide +kernel) rfl rfl (Nat.le_of_ble_eq_true rfl) dX0_init_25 (fun H locs hP hD hS => ?_)
  have hP : va_P D vwCl [(co, .inr (0, [.ref q1, .ref q3, .ref q5, .null, .null, .int 0, .int 0, .int 0, .int 0])), (q1, .inl (cI, 8, .inl (fun _ => 0))), (q3, .inl (cI, 8, .inl (fun _ => 0))), (q5, .inl (cI, 8, .inl (fun _ => 0)))] H := hP
  have hD : va_D A [(co, .inr (0, [.ref q1, .ref q3, .ref q5, .null, .null, .int 0, .int 0, .int 0, .int 0])), (q1, .inl (cI, 8, .inl (fun _ => 0))), (q3, .inl (cI, 8, .inl (fun _ => 0))), (q5, .inl (cI, 8, .inl (fun _ => 0)))] := hD
  refine lv_aload_n hx hb dX0_init_28 rfl (lv_at hl 0 rfl) ?_
  refine lv_bipush (v := 8) hx hb dX0_init_29 (by decide) ?_
  refine va_newa (atype := .int) (ty := .int) (a0 := (8, .inl (fun _ => 0))) (N' := 8) hx hb (hts (.arrayClass .int) (by decide +kernel)) rfl hK hP hD hS hA (xnewI _) (by decide) (by decide) (by decide) (Nat.le_of_ble_eq_true rfl) (Nat.le_of_ble_eq_true rfl) dX0_init_31 (fun q7 cA8 H hKn hP hD hS => ?_)
  obtain rfl : cI = cA8 := xcls hKn (i := 0) (j := 5) rfl rfl (Or.inl rfl)
  have hP : va_P D vwCl [(co, .inr (0, [.ref q1, .ref q3, .ref q5, .null, .null, .int 0, .int 0, .int 0, .int 0])), (q1, .inl (cI, 8, .inl (fun _ => 0))), (q3, .inl (cI, 8, .inl (fun _ => 0))), (q5, .inl (cI, 8, .inl (fun _ => 0))), (q7, .inl (cI, 8, .inl (fun _ => 0)))] H := hP
  have hD : va_D A [(co, .inr (0, [.ref q1, .ref q3, .ref q5, .null, .null, .int 0, .int 0, .int 0, .int 0])), (q1, .inl (cI, 8, .inl (fun _ => 0))), (q3, .inl (cI, 8, .inl (fun _ => 0))), (q5, .inl (cI, 8, .inl (fun _ => 0))), (q7, .inl (cI, 8, .inl (fun _ => 0)))] := hD
  refine W.widen (k := 4) (n := 32) (by decide) (by decide) ?_
  refine va_putF (D := D) (ci := 0) (v := .ref q7) (ty := (.array .int)) (C := RX0) (T := TX0) (N := 9) hx hb hts in_X0_init_X0 tyX0 tyX0_ok nmX0 hown hK hP hD hS 0 rfl rfl 3 (by decide) (hts (.fieldLink RX0 21 "PowerRails$Course" "goodAt" "[I") (by decide +kernel)) (fun _ h9 => h9) rfl hin rfl (by decide +kernel) rfl rfl (Nat.le_of_ble_eq_true rfl) dX0_init_33 (fun H locs hP hD hS => ?_)
  have hP : va_P D vwCl [(co, .inr (0, [.ref q1, .ref q3, .ref q5, .ref q7, .null, .int 0, .int 0, .int 0, .int 0])), (q1, .inl (cI, 8, .inl (fun _ => 0))), (q3, .inl (cI, 8, .inl (fun _ => 0))), (q5, .inl (cI, 8, .inl (fun _ => 0))), (q7, .inl (cI, 8, .inl (fun _ => 0)))] H := hP
  have hD : va_D A [(co, .inr (0, [.ref q1, .ref q3, .ref q5, .ref q7, .null, .int 0, .int 0, .int 0, .int 0])), (q1, .inl (cI, 8, .inl (fun _ => 0))), (q3, .inl (cI, 8, .inl (fun _ => 0))), (q5, .inl (cI, 8, .inl (fun _ => 0))), (q7, .inl (cI, 8, .inl (fun _ => 0)))] := hD
  refine lv_aload_n hx hb dX0_init_36 rfl (lv_at hl 0 rfl) ?_
  refine lv_sipush (v := 145) hx hb dX0_init_37 (by decide) ?_
  refine va_newa (atype := .int) (ty := .int) (a0 := (145, .inl (fun _ => 0))) (N' := 145) hx hb (hts (.arrayClass .int) (by decide +kernel)) rfl hK hP hD hS hA (xnewI _) (by decide) (by decide) (by decide) (Nat.le_of_ble_eq_true rfl) (Nat.le_of_ble_eq_true rfl) dX0_init_40 (fun q9 cA10 H hKn hP hD hS => ?_)
  obtain rfl : cI = cA10 := xcls hKn (i := 0) (j := 5) rfl rfl (Or.inl rfl)
  have hP : va_P D vwCl [(co, .inr (0, [.ref q1, .ref q3, .ref q5, .ref q7, .null, .int 0, .int 0, .int 0, .int 0])), (q1, .inl (cI, 8, .inl (fun _ => 0))), (q3, .inl (cI, 8, .inl (fun _ => 0))), (q5, .inl (cI, 8, .inl (fun _ => 0))), (q7, .inl (cI, 8, .inl (fun _ => 0))), (q9, .inl (cI, 145, .inl (fun _ => 0)))] H := hP
  have hD : va_D A [(co, .inr (0, [.ref q1, .ref q3, .ref q5, .ref q7, .null, .int 0, .int 0, .int 0, .int 0])), (q1, .inl (cI, 8, .inl (fun _ => 0))), (q3, .inl (cI, 8, .inl (fun _ => 0))), (q5, .inl (cI, 8, .inl (fun _ => 0))), (q7, .inl (cI, 8, .inl (fun _ => 0))), (q9, .inl (cI, 145, .inl (fun _ => 0)))] := hD
  refine W.widen (k := 5) (n := 177) (by decide) (by decide) ?_
  refine va_putF (D := D) (ci := 0) (v := .ref q9) (ty := (.array .int)) (C := RX0) (T := TX0) (N := 9) hx hb hts in_X0_init_X0 tyX0 tyX0_ok nmX0 hown hK hP hD hS 0 rfl rfl 4 (by decide) (hts (.fieldLink RX0 24 "PowerRails$Course" "changes" "[I") (by decide +kernel)) (fun _ h9 => h9) rfl hin rfl (by decide +kernel) rfl rfl (Nat.le_of_ble_eq_true rfl) dX0_init_42 (fun H locs hP hD hS => ?_)
  have hP : va_P D vwCl [(co, .inr (0, [.ref q1, .ref q3, .ref q5, .ref q7, .ref q9, .int 0, .int 0, .int 0, .int 0])), (q1, .inl (cI, 8, .inl (fun _ => 0))), (q3, .inl (cI, 8, .inl (fun _ => 0))), (q5, .inl (cI, 8, .inl (fun _ => 0))), (q7, .inl (cI, 8, .inl (fun _ => 0))), (q9, .inl (cI, 145, .inl (fun _ => 0)))] H := hP
  have hD : va_D A [(co, .inr (0, [.ref q1, .ref q3, .ref q5, .ref q7, .ref q9, .int 0, .int 0, .int 0, .int 0])), (q1, .inl (cI, 8, .inl (fun _ => 0))), (q3, .inl (cI, 8, .inl (fun _ => 0))), (q5, .inl (cI, 8, .inl (fun _ => 0))), (q7, .inl (cI, 8, .inl (fun _ => 0))), (q9, .inl (cI, 145, .inl (fun _ => 0)))] := hD
  refine W.widen (k := 5) (n := 177) (by decide) (by decide) ?_
  have hP9 := hP.sub (ws' := [(co, .inr (0, [.ref q1, .ref q3, .ref q5, .ref q7, .ref q9, .int 0, .int 0, .int 0, .int 0])), (q1, .inl (cI, 8, .inl (fun _ => 0))), (q3, .inl (cI, 8, .inl (fun _ => 0))), (q5, .inl (cI, 8, .inl (fun _ => 0))), (q7, .inl (cI, 8, .inl (fun _ => 0))), (q9, .inl (cI, 145, .inl (fun _ => 0)))]) [0, 1, 2, 3, 4, 5] rfl
  have hD9 := hD.sub (ws' := [(co, .inr (0, [.ref q1, .ref q3, .ref q5, .ref q7, .ref q9, .int 0, .int 0, .int 0, .int 0])), (q1, .inl (cI, 8, .inl (fun _ => 0))), (q3, .inl (cI, 8, .inl (fun _ => 0))), (q5, .inl (cI, 8, .inl (fun _ => 0))), (q7, .inl (cI, 8, .inl (fun _ => 0))), (q9, .inl (cI, 145, .inl (fun _ => 0)))]) [0, 1, 2, 3, 4, 5] (by decide) rfl
  exact W.vret hx hb hr (fun t ht hW => ⟨⟨(), rfl, trivial, ⟨q1, q3, q5, q7, q9, xB_of ht hW hP9 hK hD9⟩⟩, hS.F ht⟩) hS.2.2 dX0_init_45
theorem in_X9_init_X9 : ∀ w ∈ wsX90, w ∈ wsX9_init := by decide +kernel
abbrev W_Ways_init (cI cJ cZ cG cH : ClassId) (wy : Nat) (co : Nat) : va_W := [(wy, .inr (8, [.null, .null, .null, .int 0, .int 0, .int 0]))]
abbrev Q_Ways_init (D : va_G) (cI cJ cZ cG cH : ClassId) (wy : Nat) (co : Nat) (A : Nat → Prop) : Array Value → State → Outcome → State → Prop := va_Qv (fun (_ : Unit) => True) (fun _ t => ∃ (wb : Nat) (wk : Nat), xB D (tyL cI cJ cZ cG cH) [(wy, .inr (8, [.ref co, .ref wb, .ref wk, .int 0, .int 0, .int 0])), (wb, .inl (cI, 64, .inl (fun _ => 0))), (wk, .inl (cZ, 64, .inl (fun _ => 0)))] A t) A
abbrev rm_Ways_init : Room := { frames := 1, cells := 2, slots := 128, locals := 12 }
set_option maxRecDepth 100000 in
set_option maxHeartbeats 4000000 in
theorem c_Ways_init (l : Launch) (D : va_G) (cI cJ cZ cG cH : ClassId) (sz : Nat) (wy : Nat) (co : Nat) : Met l yX9_init wsX9_init rm_Ways_init (xPc [.ref wy, .ref co] D (tyL cI cJ cZ cG cH) (W_Ways_init cI cJ cZ cG cH wy co) sz) (Q_Ways_init D cI cJ cZ cG cH wy co (va_A (W_Ways_init cI cJ cZ cG cH wy co) sz)) 2 128 (va_A (W_Ways_init cI cJ cZ cG cH wy co) sz) := by
  refine xMet (cc := cX9_init) (maxL := 2) (ret := none) (Qf := Q_Ways_init D cI cJ cZ cG cH wy co) (by decide) rfl (Nat.le_of_ble_eq_true rfl) ?_
  intro p e s m below meth c ls A hx hb hr hml hts hown hlocks hnm hsz hP hK hD hA hS hl
  have hown : s.vm.findClass RX9 = some m.cls := hown
  have hin : meth.name = "<init>" := hnm
  have hP : va_P D vwCl [(wy, .inr (8, [.null, .null, .null, .int 0, .int 0, .int 0]))] s.heap := hP
  have hD : va_D A [(wy, .inr (8, [.null, .null, .null, .int 0, .int 0, .int 0]))] := hD
  have hl : lv_has ls 2 [(0, .ref wy), (1, .ref co)] := hl
  refine lv_aload_n hx hb dX9_init_0 rfl (lv_at hl 0 rfl) ?_
  refine W.objInit hx hb hown (hts (.methodLink RX9 3 objectInit) (by decide +kernel)) (hts (.instanceMethod objectInit) (by decide +kernel)) (hts (.code objectInit ⟨#[0xb1]⟩ 1 none) (by decide +kernel)) rfl (by rw [hml]; exact hl.1) rfl dX9_init_1 (Nat.le_of_ble_eq_true rfl) (Nat.le_of_ble_eq_true rfl) ?_
  refine W.eq (g2 := F0 m 4 ls []) rfl ?_
  refine lv_aload_n hx hb dX9_init_4 rfl (lv_at hl 0 rfl) ?_
  refine lv_aload_n hx hb dX9_init_5 rfl (lv_at hl 1 rfl) ?_
  refine va_putF (D := D) (ci := 8) (v := .ref co) (ty := (.object "PowerRails$Course")) (C := RX9) (T := TX9) (N := 6) hx hb hts in_X9_init_X9 tyX9 tyX9_ok nmX9 hown hK hP hD hS 0 rfl rfl 0 (by decide) (hts (.fieldLink RX9 9 "PowerRails$Ways" "course" "LPowerRails$Course;") (by decide +kernel)) (fun _ h9 => h9) rfl hin rfl (by decide +kernel) rfl rfl (Nat.le_of_ble_eq_true rfl) dX9_init_6 (fun H locs hP hD hS => ?_)
  have hP : va_P D vwCl [(wy, .inr (8, [.ref co, .null, .null, .int 0, .int 0, .int 0]))] H := hP
  have hD : va_D A [(wy, .inr (8, [.ref co, .null, .null, .int 0, .int 0, .int 0]))] := hD
  refine lv_aload_n hx hb dX9_init_9 rfl (lv_at hl 0 rfl) ?_
  refine lv_bipush (v := 64) hx hb dX9_init_10 (by decide) ?_
  refine va_newa (atype := .int) (ty := .int) (a0 := (64, .inl (fun _ => 0))) (N' := 64) hx hb (hts (.arrayClass .int) (by decide +kernel)) rfl hK hP hD hS hA (xnewI _) (by decide) (by decide) (by decide) (Nat.le_of_ble_eq_true rfl) (Nat.le_of_ble_eq_true rfl) dX9_init_12 (fun q1 cA2 H hKn hP hD hS => ?_)
  obtain rfl : cI = cA2 := xcls hKn (i := 0) (j := 5) rfl rfl (Or.inl rfl)
  have hP : va_P D vwCl [(wy, .inr (8, [.ref co, .null, .null, .int 0, .int 0, .int 0])), (q1, .inl (cI, 64, .inl (fun _ => 0)))] H := hP
  have hD : va_D A [(wy, .inr (8, [.ref co, .null, .null, .int 0, .int 0, .int 0])), (q1, .inl (cI, 64, .inl (fun _ => 0)))] := hD
  refine W.widen (k := 1) (n := 64) (by decide) (by decide) ?_
  refine va_putF (D := D) (ci := 8) (v := .ref q1) (ty := (.array .int)) (C := RX9) (T := TX9) (N := 6) hx hb hts in_X9_init_X9 tyX9 tyX9_ok nmX9 hown hK hP hD hS 0 rfl rfl 1 (by decide) (hts (.fieldLink RX9 15 "PowerRails$Ways" "behind" "[I") (by decide +kernel)) (fun _ h9 => h9) rfl hin rfl (by decide +kernel) rfl rfl (Nat.le_of_ble_eq_true rfl) dX9_init_14 (fun H locs hP hD hS => ?_)
  have hP : va_P D vwCl [(wy, .inr (8, [.ref co, .ref q1, .null, .int 0, .int 0, .int 0])), (q1, .inl (cI, 64, .inl (fun _ => 0)))] H := hP
  have hD : va_D A [(wy, .inr (8, [.ref co, .ref q1, .null, .int 0, .int 0, .int 0])), (q1, .inl (cI, 64, .inl (fun _ => 0)))] := hD
  refine lv_aload_n hx hb dX9_init_17 rfl (lv_at hl 0 rfl) ?_
  refine lv_bipush (v := 64) hx hb dX9_init_18 (by decide) ?_
  refine va_newa (atype := .boolean) (ty := .boolean) (a0 := (64, .inl (fun _ => 0))) (N' := 64) hx hb (hts (.arrayClass .boolean) (by decide +kernel)) rfl hK hP hD hS hA (xnewZ _) (by decide) (by decide) (by decide) (Nat.le_of_ble_eq_true rfl) (Nat.le_of_ble_eq_true rfl) dX9_init_20 (fun q3 cA4 H hKn hP hD hS => ?_)
  obtain rfl : cZ = cA4 := xcls hKn (i := 2) (j := 5) rfl rfl (Or.inl rfl)
  have hP : va_P D vwCl [(wy, .inr (8, [.ref co, .ref q1, .null, .int 0, .int 0, .int 0])), (q1, .inl (cI, 64, .inl (fun _ => 0))), (q3, .inl (cZ, 64, .inl (fun _ => 0)))] H := hP
  have hD : va_D A [(wy, .inr (8, [.ref co, .ref q1, .null, .int 0, .int 0, .int 0])), (q1, .inl (cI, 64, .inl (fun _ => 0))), (q3, .inl (cZ, 64, .inl (fun _ => 0)))] := hD
  refine W.widen (k := 2) (n := 128) (by decide) (by decide) ?_
  refine va_putF (D := D) (ci := 8) (v := .ref q3) (ty := (.array .boolean)) (C := RX9) (T := TX9) (N := 6) hx hb hts in_X9_init_X9 tyX9 tyX9_ok nmX9 hown hK hP hD hS 0 rfl rfl 2 (by decide) (hts (.fieldLink RX9 19 "PowerRails$Ways" "behindKnown" "[Z") (by decide +kernel)) (fun _ h9 => h9) rfl hin rfl (by decide +kernel) rfl rfl (Nat.le_of_ble_eq_true rfl) dX9_init_22 (fun H locs hP hD hS => ?_)
  have hP : va_P D vwCl [(wy, .inr (8, [.ref co, .ref q1, .ref q3, .int 0, .int 0, .int 0])), (q1, .inl (cI, 64, .inl (fun _ => 0))), (q3, .inl (cZ, 64, .inl (fun _ => 0)))] H := hP
  have hD : va_D A [(wy, .inr (8, [.ref co, .ref q1, .ref q3, .int 0, .int 0, .int 0])), (q1, .inl (cI, 64, .inl (fun _ => 0))), (q3, .inl (cZ, 64, .inl (fun _ => 0)))] := hD
  refine lv_aload_n hx hb dX9_init_25 rfl (lv_at hl 0 rfl) ?_
  refine lv_iconst (v := 0) hx hb dX9_init_26 (by decide) ?_
  refine va_put (D := D) (ci := 8) (v := .int 0) (ty := .boolean) (C := RX9) (T := TX9) (N := 6) hx hb hts in_X9_init_X9 tyX9 tyX9_ok nmX9 hown hK hP hD hS 0 rfl rfl 3 (by decide) (hts (.fieldLink RX9 23 "PowerRails$Ways" "peaksKnown" "Z") (by decide +kernel)) (fun _ h9 => h9) rfl (by decide +kernel) (by decide) rfl (Nat.le_of_ble_eq_true rfl) dX9_init_27 (fun H locs hP hD hS => ?_)
  have hP : va_P D vwCl [(wy, .inr (8, [.ref co, .ref q1, .ref q3, .int 0, .int 0, .int 0])), (q1, .inl (cI, 64, .inl (fun _ => 0))), (q3, .inl (cZ, 64, .inl (fun _ => 0)))] H := hP
  have hD : va_D A [(wy, .inr (8, [.ref co, .ref q1, .ref q3, .int 0, .int 0, .int 0])), (q1, .inl (cI, 64, .inl (fun _ => 0))), (q3, .inl (cZ, 64, .inl (fun _ => 0)))] := hD
  refine W.widen (k := 2) (n := 128) (by decide) (by decide) ?_
  have hP9 := hP.sub (ws' := [(wy, .inr (8, [.ref co, .ref q1, .ref q3, .int 0, .int 0, .int 0])), (q1, .inl (cI, 64, .inl (fun _ => 0))), (q3, .inl (cZ, 64, .inl (fun _ => 0)))]) [0, 1, 2] rfl
  have hD9 := hD.sub (ws' := [(wy, .inr (8, [.ref co, .ref q1, .ref q3, .int 0, .int 0, .int 0])), (q1, .inl (cI, 64, .inl (fun _ => 0))), (q3, .inl (cZ, 64, .inl (fun _ => 0)))]) [0, 1, 2] (by decide) rfl
  exact W.vret hx hb hr (fun t ht hW => ⟨⟨(), rfl, trivial, ⟨q1, q3, xB_of ht hW hP9 hK hD9⟩⟩, hS.F ht⟩) hS.2.2 dX9_init_30
theorem in_X7_init_X7 : ∀ w ∈ wsX70, w ∈ wsX7_init := by decide +kernel
abbrev W_Stagger_init (cI cJ cZ cG cH : ClassId) (sg : Nat) (co : Nat) : va_W := [(sg, .inr (6, [.null, .null, .int 0, .int 0]))]
abbrev Q_Stagger_init (D : va_G) (cI cJ cZ cG cH : ClassId) (sg : Nat) (co : Nat) (A : Nat → Prop) : Array Value → State → Outcome → State → Prop := va_Qv (fun (_ : Unit) => True) (fun _ t => ∃ (sr : Nat), xB D (tyL cI cJ cZ cG cH) [(sg, .inr (6, [.ref co, .ref sr, .int 0, .int (-4)])), (sr, .inl (cI, 8, .inl (fun _ => 0)))] A t) A
abbrev rm_Stagger_init : Room := { frames := 1, cells := 1, slots := 8, locals := 12 }
set_option maxRecDepth 100000 in
set_option maxHeartbeats 4000000 in
theorem c_Stagger_init (l : Launch) (D : va_G) (cI cJ cZ cG cH : ClassId) (sz : Nat) (sg : Nat) (co : Nat) : Met l yX7_init wsX7_init rm_Stagger_init (xPc [.ref sg, .ref co] D (tyL cI cJ cZ cG cH) (W_Stagger_init cI cJ cZ cG cH sg co) sz) (Q_Stagger_init D cI cJ cZ cG cH sg co (va_A (W_Stagger_init cI cJ cZ cG cH sg co) sz)) 1 8 (va_A (W_Stagger_init cI cJ cZ cG cH sg co) sz) := by
  refine xMet (cc := cX7_init) (maxL := 2) (ret := none) (Qf := Q_Stagger_init D cI cJ cZ cG cH sg co) (by decide) rfl (Nat.le_of_ble_eq_true rfl) ?_
  intro p e s m below meth c ls A hx hb hr hml hts hown hlocks hnm hsz hP hK hD hA hS hl
  have hown : s.vm.findClass RX7 = some m.cls := hown
  have hin : meth.name = "<init>" := hnm
  have hP : va_P D vwCl [(sg, .inr (6, [.null, .null, .int 0, .int 0]))] s.heap := hP
  have hD : va_D A [(sg, .inr (6, [.null, .null, .int 0, .int 0]))] := hD
  have hl : lv_has ls 2 [(0, .ref sg), (1, .ref co)] := hl
  refine lv_aload_n hx hb dX7_init_0 rfl (lv_at hl 0 rfl) ?_
  refine W.objInit hx hb hown (hts (.methodLink RX7 3 objectInit) (by decide +kernel)) (hts (.instanceMethod objectInit) (by decide +kernel)) (hts (.code objectInit ⟨#[0xb1]⟩ 1 none) (by decide +kernel)) rfl (by rw [hml]; exact hl.1) rfl dX7_init_1 (Nat.le_of_ble_eq_true rfl) (Nat.le_of_ble_eq_true rfl) ?_
  refine W.eq (g2 := F0 m 4 ls []) rfl ?_
  refine lv_aload_n hx hb dX7_init_4 rfl (lv_at hl 0 rfl) ?_
  refine lv_aload_n hx hb dX7_init_5 rfl (lv_at hl 1 rfl) ?_
  refine va_putF (D := D) (ci := 6) (v := .ref co) (ty := (.object "PowerRails$Course")) (C := RX7) (T := TX7) (N := 4) hx hb hts in_X7_init_X7 tyX7 tyX7_ok nmX7 hown hK hP hD hS 0 rfl rfl 0 (by decide) (hts (.fieldLink RX7 9 "PowerRails$Stagger" "course" "LPowerRails$Course;") (by decide +kernel)) (fun _ h9 => h9) rfl hin rfl (by decide +kernel) rfl rfl (Nat.le_of_ble_eq_true rfl) dX7_init_6 (fun H locs hP hD hS => ?_)
  have hP : va_P D vwCl [(sg, .inr (6, [.ref co, .null, .int 0, .int 0]))] H := hP
  have hD : va_D A [(sg, .inr (6, [.ref co, .null, .int 0, .int 0]))] := hD
  refine lv_aload_n hx hb dX7_init_9 rfl (lv_at hl 0 rfl) ?_
  refine lv_bipush (v := 8) hx hb dX7_init_10 (by decide) ?_
  refine va_newa (atype := .int) (ty := .int) (a0 := (8, .inl (fun _ => 0))) (N' := 8) hx hb (hts (.arrayClass .int) (by decide +kernel)) rfl hK hP hD hS hA (xnewI _) (by decide) (by decide) (by decide) (Nat.le_of_ble_eq_true rfl) (Nat.le_of_ble_eq_true rfl) dX7_init_12 (fun q1 cA2 H hKn hP hD hS => ?_)
  obtain rfl : cI = cA2 := xcls hKn (i := 0) (j := 5) rfl rfl (Or.inl rfl)
  have hP : va_P D vwCl [(sg, .inr (6, [.ref co, .null, .int 0, .int 0])), (q1, .inl (cI, 8, .inl (fun _ => 0)))] H := hP
  have hD : va_D A [(sg, .inr (6, [.ref co, .null, .int 0, .int 0])), (q1, .inl (cI, 8, .inl (fun _ => 0)))] := hD
  refine W.widen (k := 1) (n := 8) (by decide) (by decide) ?_
  refine va_putF (D := D) (ci := 6) (v := .ref q1) (ty := (.array .int)) (C := RX7) (T := TX7) (N := 4) hx hb hts in_X7_init_X7 tyX7 tyX7_ok nmX7 hown hK hP hD hS 0 rfl rfl 1 (by decide) (hts (.fieldLink RX7 15 "PowerRails$Stagger" "row" "[I") (by decide +kernel)) (fun _ h9 => h9) rfl hin rfl (by decide +kernel) rfl rfl (Nat.le_of_ble_eq_true rfl) dX7_init_14 (fun H locs hP hD hS => ?_)
  have hP : va_P D vwCl [(sg, .inr (6, [.ref co, .ref q1, .int 0, .int 0])), (q1, .inl (cI, 8, .inl (fun _ => 0)))] H := hP
  have hD : va_D A [(sg, .inr (6, [.ref co, .ref q1, .int 0, .int 0])), (q1, .inl (cI, 8, .inl (fun _ => 0)))] := hD
  refine lv_aload_n hx hb dX7_init_17 rfl (lv_at hl 0 rfl) ?_
  refine lv_iconst (v := 0) hx hb dX7_init_18 (by decide) ?_
  refine va_put (D := D) (ci := 6) (v := .int 0) (ty := .boolean) (C := RX7) (T := TX7) (N := 4) hx hb hts in_X7_init_X7 tyX7 tyX7_ok nmX7 hown hK hP hD hS 0 rfl rfl 2 (by decide) (hts (.fieldLink RX7 19 "PowerRails$Stagger" "known" "Z") (by decide +kernel)) (fun _ h9 => h9) rfl (by decide +kernel) (by decide) rfl (Nat.le_of_ble_eq_true rfl) dX7_init_19 (fun H locs hP hD hS => ?_)
  have hP : va_P D vwCl [(sg, .inr (6, [.ref co, .ref q1, .int 0, .int 0])), (q1, .inl (cI, 8, .inl (fun _ => 0)))] H := hP
  have hD : va_D A [(sg, .inr (6, [.ref co, .ref q1, .int 0, .int 0])), (q1, .inl (cI, 8, .inl (fun _ => 0)))] := hD
  refine lv_aload_n hx hb dX7_init_22 rfl (lv_at hl 0 rfl) ?_
  refine lv_bipush (v := (-4)) hx hb dX7_init_23 (by decide) ?_
  refine va_put (D := D) (ci := 6) (v := .int (-4)) (ty := .int) (C := RX7) (T := TX7) (N := 4) hx hb hts in_X7_init_X7 tyX7 tyX7_ok nmX7 hown hK hP hD hS 0 rfl rfl 3 (by decide) (hts (.fieldLink RX7 23 "PowerRails$Stagger" "last" "I") (by decide +kernel)) (fun _ h9 => h9) rfl (by decide +kernel) rfl rfl (Nat.le_of_ble_eq_true rfl) dX7_init_25 (fun H locs hP hD hS => ?_)
  have hP : va_P D vwCl [(sg, .inr (6, [.ref co, .ref q1, .int 0, .int (-4)])), (q1, .inl (cI, 8, .inl (fun _ => 0)))] H := hP
  have hD : va_D A [(sg, .inr (6, [.ref co, .ref q1, .int 0, .int (-4)])), (q1, .inl (cI, 8, .inl (fun _ => 0)))] := hD
  refine W.widen (k := 1) (n := 8) (by decide) (by decide) ?_
  have hP9 := hP.sub (ws' := [(sg, .inr (6, [.ref co, .ref q1, .int 0, .int (-4)])), (q1, .inl (cI, 8, .inl (fun _ => 0)))]) [0, 1] rfl
  have hD9 := hD.sub (ws' := [(sg, .inr (6, [.ref co, .ref q1, .int 0, .int (-4)])), (q1, .inl (cI, 8, .inl (fun _ => 0)))]) [0, 1] (by decide) rfl
  exact W.vret hx hb hr (fun t ht hW => ⟨⟨(), rfl, trivial, ⟨q1, xB_of ht hW hP9 hK hD9⟩⟩, hS.F ht⟩) hS.2.2 dX7_init_28
theorem in_X3_init_X3 : ∀ w ∈ wsX30, w ∈ wsX3_init := by decide +kernel
abbrev W_Plan_init (cI cJ cZ cG cH : ClassId) (pl : Nat) : va_W := [(pl, .inr (2, [.null, .null, .int 0, .int 0, .int 0, .int 0]))]
abbrev Q_Plan_init (D : va_G) (cI cJ cZ cG cH : ClassId) (pl : Nat) (A : Nat → Prop) : Array Value → State → Outcome → State → Prop := va_Qv (fun (_ : Unit) => True) (fun _ t => ∃ (pn : Nat) (pt : Nat), xB D (tyL cI cJ cZ cG cH) [(pl, .inr (2, [.ref pn, .ref pt, .int 0, .int 999, .int 0, .int 5])), (pn, .inl (cI, 64, .inl (fun _ => 0))), (pt, .inl (cJ, 64, .inr (.inl (fun _ => 0))))] A t) A
abbrev rm_Plan_init : Room := { frames := 1, cells := 2, slots := 128, locals := 12 }
set_option maxRecDepth 100000 in
set_option maxHeartbeats 4000000 in
theorem c_Plan_init (l : Launch) (D : va_G) (cI cJ cZ cG cH : ClassId) (sz : Nat) (pl : Nat) : Met l yX3_init wsX3_init rm_Plan_init (xPc [.ref pl] D (tyL cI cJ cZ cG cH) (W_Plan_init cI cJ cZ cG cH pl) sz) (Q_Plan_init D cI cJ cZ cG cH pl (va_A (W_Plan_init cI cJ cZ cG cH pl) sz)) 2 128 (va_A (W_Plan_init cI cJ cZ cG cH pl) sz) := by
  refine xMet (cc := cX3_init) (maxL := 1) (ret := none) (Qf := Q_Plan_init D cI cJ cZ cG cH pl) (by decide) rfl (Nat.le_of_ble_eq_true rfl) ?_
  intro p e s m below meth c ls A hx hb hr hml hts hown hlocks hnm hsz hP hK hD hA hS hl
  have hown : s.vm.findClass RX3 = some m.cls := hown
  have hin : meth.name = "<init>" := hnm
  have hP : va_P D vwCl [(pl, .inr (2, [.null, .null, .int 0, .int 0, .int 0, .int 0]))] s.heap := hP
  have hD : va_D A [(pl, .inr (2, [.null, .null, .int 0, .int 0, .int 0, .int 0]))] := hD
  have hl : lv_has ls 1 [(0, .ref pl)] := hl
  refine lv_aload_n hx hb dX3_init_0 rfl (lv_at hl 0 rfl) ?_
  refine W.objInit hx hb hown (hts (.methodLink RX3 3 objectInit) (by decide +kernel)) (hts (.instanceMethod objectInit) (by decide +kernel)) (hts (.code objectInit ⟨#[0xb1]⟩ 1 none) (by decide +kernel)) rfl (by rw [hml]; exact hl.1) rfl dX3_init_1 (Nat.le_of_ble_eq_true rfl) (Nat.le_of_ble_eq_true rfl) ?_
  refine W.eq (g2 := F0 m 4 ls []) rfl ?_
  refine lv_aload_n hx hb dX3_init_4 rfl (lv_at hl 0 rfl) ?_
  refine lv_bipush (v := 64) hx hb dX3_init_5 (by decide) ?_
  refine va_newa (atype := .int) (ty := .int) (a0 := (64, .inl (fun _ => 0))) (N' := 64) hx hb (hts (.arrayClass .int) (by decide +kernel)) rfl hK hP hD hS hA (xnewI _) (by decide) (by decide) (by decide) (Nat.le_of_ble_eq_true rfl) (Nat.le_of_ble_eq_true rfl) dX3_init_7 (fun q1 cA2 H hKn hP hD hS => ?_)
  obtain rfl : cI = cA2 := xcls hKn (i := 0) (j := 5) rfl rfl (Or.inl rfl)
  have hP : va_P D vwCl [(pl, .inr (2, [.null, .null, .int 0, .int 0, .int 0, .int 0])), (q1, .inl (cI, 64, .inl (fun _ => 0)))] H := hP
  have hD : va_D A [(pl, .inr (2, [.null, .null, .int 0, .int 0, .int 0, .int 0])), (q1, .inl (cI, 64, .inl (fun _ => 0)))] := hD
  refine W.widen (k := 1) (n := 64) (by decide) (by decide) ?_
  refine va_putF (D := D) (ci := 2) (v := .ref q1) (ty := (.array .int)) (C := RX3) (T := TX3) (N := 6) hx hb hts in_X3_init_X3 tyX3 tyX3_ok nmX3 hown hK hP hD hS 0 rfl rfl 0 (by decide) (hts (.fieldLink RX3 11 "PowerRails$Plan" "numbers" "[I") (by decide +kernel)) (fun _ h9 => h9) rfl hin rfl (by decide +kernel) rfl rfl (Nat.le_of_ble_eq_true rfl) dX3_init_9 (fun H locs hP hD hS => ?_)
  have hP : va_P D vwCl [(pl, .inr (2, [.ref q1, .null, .int 0, .int 0, .int 0, .int 0])), (q1, .inl (cI, 64, .inl (fun _ => 0)))] H := hP
  have hD : va_D A [(pl, .inr (2, [.ref q1, .null, .int 0, .int 0, .int 0, .int 0])), (q1, .inl (cI, 64, .inl (fun _ => 0)))] := hD
  refine lv_aload_n hx hb dX3_init_12 rfl (lv_at hl 0 rfl) ?_
  refine lv_bipush (v := 64) hx hb dX3_init_13 (by decide) ?_
  refine va_newa (atype := .long) (ty := .long) (a0 := (64, .inr (.inl (fun _ => 0)))) (N' := 64) hx hb (hts (.arrayClass .long) (by decide +kernel)) rfl hK hP hD hS hA (xnewJ _) (by decide) (by decide) (by decide) (Nat.le_of_ble_eq_true rfl) (Nat.le_of_ble_eq_true rfl) dX3_init_15 (fun q3 cA4 H hKn hP hD hS => ?_)
  obtain rfl : cJ = cA4 := xcls hKn (i := 1) (j := 5) rfl rfl (Or.inl rfl)
  have hP : va_P D vwCl [(pl, .inr (2, [.ref q1, .null, .int 0, .int 0, .int 0, .int 0])), (q1, .inl (cI, 64, .inl (fun _ => 0))), (q3, .inl (cJ, 64, .inr (.inl (fun _ => 0))))] H := hP
  have hD : va_D A [(pl, .inr (2, [.ref q1, .null, .int 0, .int 0, .int 0, .int 0])), (q1, .inl (cI, 64, .inl (fun _ => 0))), (q3, .inl (cJ, 64, .inr (.inl (fun _ => 0))))] := hD
  refine W.widen (k := 2) (n := 128) (by decide) (by decide) ?_
  refine va_putF (D := D) (ci := 2) (v := .ref q3) (ty := (.array .long)) (C := RX3) (T := TX3) (N := 6) hx hb hts in_X3_init_X3 tyX3 tyX3_ok nmX3 hown hK hP hD hS 0 rfl rfl 1 (by decide) (hts (.fieldLink RX3 15 "PowerRails$Plan" "tables" "[J") (by decide +kernel)) (fun _ h9 => h9) rfl hin rfl (by decide +kernel) rfl rfl (Nat.le_of_ble_eq_true rfl) dX3_init_17 (fun H locs hP hD hS => ?_)
  have hP : va_P D vwCl [(pl, .inr (2, [.ref q1, .ref q3, .int 0, .int 0, .int 0, .int 0])), (q1, .inl (cI, 64, .inl (fun _ => 0))), (q3, .inl (cJ, 64, .inr (.inl (fun _ => 0))))] H := hP
  have hD : va_D A [(pl, .inr (2, [.ref q1, .ref q3, .int 0, .int 0, .int 0, .int 0])), (q1, .inl (cI, 64, .inl (fun _ => 0))), (q3, .inl (cJ, 64, .inr (.inl (fun _ => 0))))] := hD
  refine lv_aload_n hx hb dX3_init_20 rfl (lv_at hl 0 rfl) ?_
  refine lv_iconst (v := 0) hx hb dX3_init_21 (by decide) ?_
  refine va_put (D := D) (ci := 2) (v := .int 0) (ty := .int) (C := RX3) (T := TX3) (N := 6) hx hb hts in_X3_init_X3 tyX3 tyX3_ok nmX3 hown hK hP hD hS 0 rfl rfl 2 (by decide) (hts (.fieldLink RX3 19 "PowerRails$Plan" "rails" "I") (by decide +kernel)) (fun _ h9 => h9) rfl (by decide +kernel) rfl rfl (Nat.le_of_ble_eq_true rfl) dX3_init_22 (fun H locs hP hD hS => ?_)
  have hP : va_P D vwCl [(pl, .inr (2, [.ref q1, .ref q3, .int 0, .int 0, .int 0, .int 0])), (q1, .inl (cI, 64, .inl (fun _ => 0))), (q3, .inl (cJ, 64, .inr (.inl (fun _ => 0))))] H := hP
  have hD : va_D A [(pl, .inr (2, [.ref q1, .ref q3, .int 0, .int 0, .int 0, .int 0])), (q1, .inl (cI, 64, .inl (fun _ => 0))), (q3, .inl (cJ, 64, .inr (.inl (fun _ => 0))))] := hD
  refine lv_aload_n hx hb dX3_init_25 rfl (lv_at hl 0 rfl) ?_
  refine lv_sipush (v := 999) hx hb dX3_init_26 (by decide) ?_
  refine va_put (D := D) (ci := 2) (v := .int 999) (ty := .int) (C := RX3) (T := TX3) (N := 6) hx hb hts in_X3_init_X3 tyX3 tyX3_ok nmX3 hown hK hP hD hS 0 rfl rfl 3 (by decide) (hts (.fieldLink RX3 23 "PowerRails$Plan" "limit" "I") (by decide +kernel)) (fun _ h9 => h9) rfl (by decide +kernel) rfl rfl (Nat.le_of_ble_eq_true rfl) dX3_init_29 (fun H locs hP hD hS => ?_)
  have hP : va_P D vwCl [(pl, .inr (2, [.ref q1, .ref q3, .int 0, .int 999, .int 0, .int 0])), (q1, .inl (cI, 64, .inl (fun _ => 0))), (q3, .inl (cJ, 64, .inr (.inl (fun _ => 0))))] H := hP
  have hD : va_D A [(pl, .inr (2, [.ref q1, .ref q3, .int 0, .int 999, .int 0, .int 0])), (q1, .inl (cI, 64, .inl (fun _ => 0))), (q3, .inl (cJ, 64, .inr (.inl (fun _ => 0))))] := hD
  refine lv_aload_n hx hb dX3_init_32 rfl (lv_at hl 0 rfl) ?_
  refine lv_iconst (v := 0) hx hb dX3_init_33 (by decide) ?_
  refine va_put (D := D) (ci := 2) (v := .int 0) (ty := .int) (C := RX3) (T := TX3) (N := 6) hx hb hts in_X3_init_X3 tyX3 tyX3_ok nmX3 hown hK hP hD hS 0 rfl rfl 4 (by decide) (hts (.fieldLink RX3 26 "PowerRails$Plan" "retry" "I") (by decide +kernel)) (fun _ h9 => h9) rfl (by decide +kernel) rfl rfl (Nat.le_of_ble_eq_true rfl) dX3_init_34 (fun H locs hP hD hS => ?_)
  have hP : va_P D vwCl [(pl, .inr (2, [.ref q1, .ref q3, .int 0, .int 999, .int 0, .int 0])), (q1, .inl (cI, 64, .inl (fun _ => 0))), (q3, .inl (cJ, 64, .inr (.inl (fun _ => 0))))] H := hP
  have hD : va_D A [(pl, .inr (2, [.ref q1, .ref q3, .int 0, .int 999, .int 0, .int 0])), (q1, .inl (cI, 64, .inl (fun _ => 0))), (q3, .inl (cJ, 64, .inr (.inl (fun _ => 0))))] := hD
  refine lv_aload_n hx hb dX3_init_37 rfl (lv_at hl 0 rfl) ?_
  refine lv_iconst (v := 5) hx hb dX3_init_38 (by decide) ?_
  refine va_put (D := D) (ci := 2) (v := .int 5) (ty := .int) (C := RX3) (T := TX3) (N := 6) hx hb hts in_X3_init_X3 tyX3 tyX3_ok nmX3 hown hK hP hD hS 0 rfl rfl 5 (by decide) (hts (.fieldLink RX3 29 "PowerRails$Plan" "behind" "I") (by decide +kernel)) (fun _ h9 => h9) rfl (by decide +kernel) rfl rfl (Nat.le_of_ble_eq_true rfl) dX3_init_39 (fun H locs hP hD hS => ?_)
  have hP : va_P D vwCl [(pl, .inr (2, [.ref q1, .ref q3, .int 0, .int 999, .int 0, .int 5])), (q1, .inl (cI, 64, .inl (fun _ => 0))), (q3, .inl (cJ, 64, .inr (.inl (fun _ => 0))))] H := hP
  have hD : va_D A [(pl, .inr (2, [.ref q1, .ref q3, .int 0, .int 999, .int 0, .int 5])), (q1, .inl (cI, 64, .inl (fun _ => 0))), (q3, .inl (cJ, 64, .inr (.inl (fun _ => 0))))] := hD
  refine W.widen (k := 2) (n := 128) (by decide) (by decide) ?_
  have hP9 := hP.sub (ws' := [(pl, .inr (2, [.ref q1, .ref q3, .int 0, .int 999, .int 0, .int 5])), (q1, .inl (cI, 64, .inl (fun _ => 0))), (q3, .inl (cJ, 64, .inr (.inl (fun _ => 0))))]) [0, 1, 2] rfl
  have hD9 := hD.sub (ws' := [(pl, .inr (2, [.ref q1, .ref q3, .int 0, .int 999, .int 0, .int 5])), (q1, .inl (cI, 64, .inl (fun _ => 0))), (q3, .inl (cJ, 64, .inr (.inl (fun _ => 0))))]) [0, 1, 2] (by decide) rfl
  exact W.vret hx hb hr (fun t ht hW => ⟨⟨(), rfl, trivial, ⟨q1, q3, xB_of ht hW hP9 hK hD9⟩⟩, hS.F ht⟩) hS.2.2 dX3_init_42
