theorem xdef_X0 : ∀ j, j < 9 → defaultValue (tyX0 j) = vp_V [.null, .null, .null, .null, .null, .int 0, .int 0, .int 0, .int 0] j := by decide +kernel
theorem xdef_X2 : ∀ j, j < 4 → defaultValue (tyX2 j) = vp_V [.null, .null, .null, .int 0] j := by decide +kernel
theorem xdef_X3 : ∀ j, j < 6 → defaultValue (tyX3 j) = vp_V [.null, .null, .int 0, .int 0, .int 0, .int 0] j := by decide +kernel
theorem xdef_X4 : ∀ j, j < 13 → defaultValue (tyX4 j) = vp_V [.null, .null, .null, .null, .null, .int 0, .int 0, .int 0, .int 0, .int 0, .int 0, .int 0, .int 0] j := by decide +kernel
theorem xdef_X5 : ∀ j, j < 14 → defaultValue (tyX5 j) = vp_V [.null, .null, .null, .null, .null, .null, .int 0, .int 0, .int 0, .int 0, .int 0, .int 0, .int 0, .int 0] j := by decide +kernel
theorem xdef_X6 : ∀ j, j < 3 → defaultValue (tyX6 j) = vp_V [.null, .null, .null] j := by decide +kernel
theorem xdef_X7 : ∀ j, j < 4 → defaultValue (tyX7 j) = vp_V [.null, .null, .int 0, .int 0] j := by decide +kernel
theorem xdef_X8 : ∀ j, j < 2 → defaultValue (tyX8 j) = vp_V [.null, .int 0] j := by decide +kernel
theorem xdef_X9 : ∀ j, j < 6 → defaultValue (tyX9 j) = vp_V [.null, .null, .null, .int 0, .int 0, .int 0] j := by decide +kernel
theorem xdef_X10 : ∀ j, j < 10 → defaultValue (tyX10 j) = vp_V [.null, .null, .null, .null, .null, .null, .null, .null, .null, .int 0] j := by decide +kernel
theorem xdef_X11 : ∀ j, j < 59 → defaultValue (tyX11 j) = vp_V [.int 0, .null, .null, .null, .int 0, .int 0, .int 0, .int 0, .null, .null, .null, .int 0, .int 0, .int 0, .int 0, .int 0, .int 0, .null, .null, .int 0, .null, .int 0, .null, .int 0, .null, .null, .int 0, .int 0, .int 0, .int 0, .int 0, .int 0, .int 0, .int 0, .int 0, .null, .null, .null, .null, .null, .null, .int 0, .int 0, .int 0, .int 0, .int 0, .int 0, .null, .null, .null, .null, .null, .int 0, .int 0, .null, .int 0, .null, .null, .null] j := by decide +kernel
theorem xs_I : "[" ++ (FieldType.array .int).toString = "[[I" := by decide +kernel
theorem xs_J : "[" ++ (FieldType.array .long).toString = "[[J" := by decide +kernel
abbrev W_n_Tape (cI cJ cZ cG cH : ClassId) (tp : Nat) : va_W := [(tp, .inr (7, [.null, .int 0]))]
abbrev Q_n_Tape (D : va_G) (cI cJ cZ cG cH : ClassId) (tp : Nat) (A : Nat → Prop) : Array Value → State → Outcome → State → Prop := va_Qv (fun (_ : Unit) => True) (fun _ t => ∃ (tba : Nat), xB D (tyL cI cJ cZ cG cH) [oX8 tp tba 0, oAI tba cI 400 (fun _ => 0)] A t) A
abbrev rm_n_Tape : Room := { frames := 1, cells := 1, slots := 400, locals := 12 }
set_option maxRecDepth 100000 in
set_option maxHeartbeats 40000000 in
theorem c_n_Tape (l : Launch) (D : va_G) (cI cJ cZ cG cH : ClassId) (sz : Nat) (tp : Nat) : Met l yX8_init (wt yX8_init cX8_init 1 none) rm_n_Tape (xPc [.ref tp] D (tyL cI cJ cZ cG cH) (W_n_Tape cI cJ cZ cG cH tp) sz) (Q_n_Tape D cI cJ cZ cG cH tp (va_A (W_n_Tape cI cJ cZ cG cH tp) sz)) 1 400 (va_A (W_n_Tape cI cJ cZ cG cH tp) sz) := by
  refine xMet (cc := cX8_init) (maxL := 1) (ret := none) (Qf := Q_n_Tape D cI cJ cZ cG cH tp) (by decide) rfl (Nat.le_of_ble_eq_true rfl) ?_
  intro p e s m below meth c ls A hx hb hr hml hts hown hlocks hnm hsz hP hK hD hA hS hl
  have hown : s.vm.findClass RX8 = some m.cls := hown
  have hin : meth.name = "<init>" := hnm
  have hP : va_P D vwCl [(tp, .inr (7, [.null, .int 0]))] s.heap := hP
  have hD : va_D A [(tp, .inr (7, [.null, .int 0]))] := hD
  have hl : lv_has ls 1 [(0, .ref tp)] := hl
  refine lv_aload_n hx hb dX8_init_0 rfl (lv_at hl 0 rfl) ?_
  refine W.objInit hx hb hown (hts (.methodLink RX8 1 objectInit) (tbC _ wd80)) (hts (.instanceMethod objectInit) (tbC _ wd75)) (hts (.code objectInit ⟨#[0xb1]⟩ 1 none) (tbC _ wd949)) rfl (by rw [hml]; exact hl.1) rfl dX8_init_1 (Nat.le_of_ble_eq_true rfl) (Nat.le_of_ble_eq_true rfl) ?_
  refine W.eq (g2 := F0 m 4 ls []) rfl ?_
  refine lv_aload_n hx hb dX8_init_4 rfl (lv_at hl 0 rfl) ?_
  refine lv_sipush (v := 400) hx hb dX8_init_5 (by decide) ?_
  refine va_newa (atype := .int) (ty := .int) (a0 := (400, .inl (fun _ => 0))) (N' := 400) hx hb (hts (.arrayClass .int) (tbC _ wd86)) rfl hK hP hD hS hA (xnewI _) (by decide) (by decide) (by decide) (Nat.le_of_ble_eq_true rfl) (Nat.le_of_ble_eq_true rfl) dX8_init_8 (fun q1 cA2 H hKn hP hD hS => ?_)
  obtain rfl : cI = cA2 := xcls hKn (i := 0) (j := 5) rfl rfl (Or.inl rfl)
  have hPD : xPD D A [(tp, .inr (7, [.null, .int 0])), oAI q1 cI 400 (fun _ => 0)] H := ⟨hP, hD⟩
  obtain ⟨hP, hD⟩ := hPD
  refine W.widen (k := 1) (n := 400) (by decide) (by decide) ?_
  refine va_putF (D := D) (ci := 7) (v := .ref q1) (ty := (.array .int)) (C := RX8) (T := TX8) (N := 2) hx hb hts (fun w h => tbC w (tbfX8 w h)) tyX8 tyX8_ok nmX8 hown hK hP hD hS 0 rfl rfl 0 (by decide) (hts (.fieldLink RX8 9 "PowerRails$Tape" "bytes" "[I") (tbC _ wd81)) (fun _ h9 => h9) rfl hin rfl (by decide +kernel) rfl rfl (Nat.le_of_ble_eq_true rfl) dX8_init_10 (fun H locs hP hD hS => ?_)
  obtain ⟨hP, hD⟩ : xPD D A [oX8 tp q1 0, oAI q1 cI 400 (fun _ => 0)] H := ⟨hP, hD⟩
  refine lv_aload_n hx hb dX8_init_13 rfl (lv_at hl 0 rfl) ?_
  refine lv_iconst (v := 0) hx hb dX8_init_14 (by decide) ?_
  refine va_put (D := D) (ci := 7) (v := .int 0) (ty := .int) (C := RX8) (T := TX8) (N := 2) hx hb hts (fun w h => tbC w (tbfX8 w h)) tyX8 tyX8_ok nmX8 hown hK hP hD hS 0 rfl rfl 1 (by decide) (hts (.fieldLink RX8 13 "PowerRails$Tape" "length" "I") (tbC _ wd83)) (fun _ h9 => h9) rfl (by decide +kernel) rfl rfl (Nat.le_of_ble_eq_true rfl) dX8_init_15 (fun H locs hP hD hS => ?_)
  obtain ⟨hP, hD⟩ : xPD D A [oX8 tp q1 0, oAI q1 cI 400 (fun _ => 0)] H := ⟨hP, hD⟩
  refine W.widen (k := 1) (n := 400) (by decide) (by decide) ?_
  exact W.vret hx hb hr (fun t ht hW => ⟨⟨(), rfl, trivial, ⟨q1, xB_of9 ht hW hP hK hD [0, 1] (by decide +kernel) rfl⟩⟩, hS.F ht⟩) hS.2.2 dX8_init_18
abbrev W_n_History (cI cJ cZ cG cH : ClassId) (hy : Nat) : va_W := [(hy, .inr (1, [.null, .null, .null, .int 0]))]
abbrev Q_n_History (D : va_G) (cI cJ cZ cG cH : ClassId) (hy : Nat) (A : Nat → Prop) : Array Value → State → Outcome → State → Prop := va_Qv (fun (_ : Unit) => True) (fun _ t => ∃ (yaa : Nat) (yba : Nat) (yca : Nat), xB D (tyL cI cJ cZ cG cH) [oX2 hy yaa yba yca 0, oAI yaa cI 64 (fun _ => 0), oAI yba cI 64 (fun _ => 0), oAI yca cI 64 (fun _ => 0)] A t) A
abbrev rm_n_History : Room := { frames := 1, cells := 3, slots := 192, locals := 12 }
set_option maxRecDepth 100000 in
set_option maxHeartbeats 40000000 in
theorem c_n_History (l : Launch) (D : va_G) (cI cJ cZ cG cH : ClassId) (sz : Nat) (hy : Nat) : Met l yX2_init (wt yX2_init cX2_init 1 none) rm_n_History (xPc [.ref hy] D (tyL cI cJ cZ cG cH) (W_n_History cI cJ cZ cG cH hy) sz) (Q_n_History D cI cJ cZ cG cH hy (va_A (W_n_History cI cJ cZ cG cH hy) sz)) 3 192 (va_A (W_n_History cI cJ cZ cG cH hy) sz) := by
  refine xMet (cc := cX2_init) (maxL := 1) (ret := none) (Qf := Q_n_History D cI cJ cZ cG cH hy) (by decide) rfl (Nat.le_of_ble_eq_true rfl) ?_
  intro p e s m below meth c ls A hx hb hr hml hts hown hlocks hnm hsz hP hK hD hA hS hl
  have hown : s.vm.findClass RX2 = some m.cls := hown
  have hin : meth.name = "<init>" := hnm
  have hP : va_P D vwCl [(hy, .inr (1, [.null, .null, .null, .int 0]))] s.heap := hP
  have hD : va_D A [(hy, .inr (1, [.null, .null, .null, .int 0]))] := hD
  have hl : lv_has ls 1 [(0, .ref hy)] := hl
  refine lv_aload_n hx hb dX2_init_0 rfl (lv_at hl 0 rfl) ?_
  refine W.objInit hx hb hown (hts (.methodLink RX2 1 objectInit) (tbC _ wd96)) (hts (.instanceMethod objectInit) (tbC _ wd75)) (hts (.code objectInit ⟨#[0xb1]⟩ 1 none) (tbC _ wd949)) rfl (by rw [hml]; exact hl.1) rfl dX2_init_1 (Nat.le_of_ble_eq_true rfl) (Nat.le_of_ble_eq_true rfl) ?_
  refine W.eq (g2 := F0 m 4 ls []) rfl ?_
  refine lv_aload_n hx hb dX2_init_4 rfl (lv_at hl 0 rfl) ?_
  refine lv_bipush (v := 64) hx hb dX2_init_5 (by decide) ?_
  refine va_newa (atype := .int) (ty := .int) (a0 := (64, .inl (fun _ => 0))) (N' := 64) hx hb (hts (.arrayClass .int) (tbC _ wd86)) rfl hK hP hD hS hA (xnewI _) (by decide) (by decide) (by decide) (Nat.le_of_ble_eq_true rfl) (Nat.le_of_ble_eq_true rfl) dX2_init_7 (fun q1 cA2 H hKn hP hD hS => ?_)
  obtain rfl : cI = cA2 := xcls hKn (i := 0) (j := 5) rfl rfl (Or.inl rfl)
  have hPD : xPD D A [(hy, .inr (1, [.null, .null, .null, .int 0])), oAI q1 cI 64 (fun _ => 0)] H := ⟨hP, hD⟩
  obtain ⟨hP, hD⟩ := hPD
  refine W.widen (k := 1) (n := 64) (by decide) (by decide) ?_
  refine va_putF (D := D) (ci := 1) (v := .ref q1) (ty := (.array .int)) (C := RX2) (T := TX2) (N := 4) hx hb hts (fun w h => tbC w (tbfX2 w h)) tyX2 tyX2_ok nmX2 hown hK hP hD hS 0 rfl rfl 0 (by decide) (hts (.fieldLink RX2 9 "PowerRails$History" "ticks" "[I") (tbC _ wd97)) (fun _ h9 => h9) rfl hin rfl (by decide +kernel) rfl rfl (Nat.le_of_ble_eq_true rfl) dX2_init_9 (fun H locs hP hD hS => ?_)
  have hPD : xPD D A [(hy, .inr (1, [.ref q1, .null, .null, .int 0])), oAI q1 cI 64 (fun _ => 0)] H := ⟨hP, hD⟩
  obtain ⟨hP, hD⟩ := hPD
  refine lv_aload_n hx hb dX2_init_12 rfl (lv_at hl 0 rfl) ?_
  refine lv_bipush (v := 64) hx hb dX2_init_13 (by decide) ?_
  refine va_newa (atype := .int) (ty := .int) (a0 := (64, .inl (fun _ => 0))) (N' := 64) hx hb (hts (.arrayClass .int) (tbC _ wd86)) rfl hK hP hD hS hA (xnewI _) (by decide) (by decide) (by decide) (Nat.le_of_ble_eq_true rfl) (Nat.le_of_ble_eq_true rfl) dX2_init_15 (fun q3 cA4 H hKn hP hD hS => ?_)
  obtain rfl : cI = cA4 := xcls hKn (i := 0) (j := 5) rfl rfl (Or.inl rfl)
  have hPD : xPD D A [(hy, .inr (1, [.ref q1, .null, .null, .int 0])), oAI q1 cI 64 (fun _ => 0), oAI q3 cI 64 (fun _ => 0)] H := ⟨hP, hD⟩
  obtain ⟨hP, hD⟩ := hPD
  refine W.widen (k := 2) (n := 128) (by decide) (by decide) ?_
  refine va_putF (D := D) (ci := 1) (v := .ref q3) (ty := (.array .int)) (C := RX2) (T := TX2) (N := 4) hx hb hts (fun w h => tbC w (tbfX2 w h)) tyX2 tyX2_ok nmX2 hown hK hP hD hS 0 rfl rfl 1 (by decide) (hts (.fieldLink RX2 13 "PowerRails$History" "who" "[I") (tbC _ wd99)) (fun _ h9 => h9) rfl hin rfl (by decide +kernel) rfl rfl (Nat.le_of_ble_eq_true rfl) dX2_init_17 (fun H locs hP hD hS => ?_)
  have hPD : xPD D A [(hy, .inr (1, [.ref q1, .ref q3, .null, .int 0])), oAI q1 cI 64 (fun _ => 0), oAI q3 cI 64 (fun _ => 0)] H := ⟨hP, hD⟩
  obtain ⟨hP, hD⟩ := hPD
  refine lv_aload_n hx hb dX2_init_20 rfl (lv_at hl 0 rfl) ?_
  refine lv_bipush (v := 64) hx hb dX2_init_21 (by decide) ?_
  refine va_newa (atype := .int) (ty := .int) (a0 := (64, .inl (fun _ => 0))) (N' := 64) hx hb (hts (.arrayClass .int) (tbC _ wd86)) rfl hK hP hD hS hA (xnewI _) (by decide) (by decide) (by decide) (Nat.le_of_ble_eq_true rfl) (Nat.le_of_ble_eq_true rfl) dX2_init_23 (fun q5 cA6 H hKn hP hD hS => ?_)
  obtain rfl : cI = cA6 := xcls hKn (i := 0) (j := 5) rfl rfl (Or.inl rfl)
  have hPD : xPD D A [(hy, .inr (1, [.ref q1, .ref q3, .null, .int 0])), oAI q1 cI 64 (fun _ => 0), oAI q3 cI 64 (fun _ => 0), oAI q5 cI 64 (fun _ => 0)] H := ⟨hP, hD⟩
  obtain ⟨hP, hD⟩ := hPD
  refine W.widen (k := 3) (n := 192) (by decide) (by decide) ?_
  refine va_putF (D := D) (ci := 1) (v := .ref q5) (ty := (.array .int)) (C := RX2) (T := TX2) (N := 4) hx hb hts (fun w h => tbC w (tbfX2 w h)) tyX2 tyX2_ok nmX2 hown hK hP hD hS 0 rfl rfl 2 (by decide) (hts (.fieldLink RX2 16 "PowerRails$History" "became" "[I") (tbC _ wd101)) (fun _ h9 => h9) rfl hin rfl (by decide +kernel) rfl rfl (Nat.le_of_ble_eq_true rfl) dX2_init_25 (fun H locs hP hD hS => ?_)
  obtain ⟨hP, hD⟩ : xPD D A [oX2 hy q1 q3 q5 0, oAI q1 cI 64 (fun _ => 0), oAI q3 cI 64 (fun _ => 0), oAI q5 cI 64 (fun _ => 0)] H := ⟨hP, hD⟩
  refine lv_aload_n hx hb dX2_init_28 rfl (lv_at hl 0 rfl) ?_
  refine lv_iconst (v := 0) hx hb dX2_init_29 (by decide) ?_
  refine va_put (D := D) (ci := 1) (v := .int 0) (ty := .int) (C := RX2) (T := TX2) (N := 4) hx hb hts (fun w h => tbC w (tbfX2 w h)) tyX2 tyX2_ok nmX2 hown hK hP hD hS 0 rfl rfl 3 (by decide) (hts (.fieldLink RX2 19 "PowerRails$History" "size" "I") (tbC _ wd103)) (fun _ h9 => h9) rfl (by decide +kernel) rfl rfl (Nat.le_of_ble_eq_true rfl) dX2_init_30 (fun H locs hP hD hS => ?_)
  obtain ⟨hP, hD⟩ : xPD D A [oX2 hy q1 q3 q5 0, oAI q1 cI 64 (fun _ => 0), oAI q3 cI 64 (fun _ => 0), oAI q5 cI 64 (fun _ => 0)] H := ⟨hP, hD⟩
  refine W.widen (k := 3) (n := 192) (by decide) (by decide) ?_
  exact W.vret hx hb hr (fun t ht hW => ⟨⟨(), rfl, trivial, ⟨q1, q3, q5, xB_of9 ht hW hP hK hD [0, 1, 2, 3] (by decide +kernel) rfl⟩⟩, hS.F ht⟩) hS.2.2 dX2_init_33
abbrev W_n_Run (cI cJ cZ cG cH : ClassId) (rn : Nat) : va_W := [(rn, .inr (4, [.null, .null, .null, .null, .null, .null, .int 0, .int 0, .int 0, .int 0, .int 0, .int 0, .int 0, .int 0]))]
abbrev Q_n_Run (D : va_G) (cI cJ cZ cG cH : ClassId) (rn : Nat) (A : Nat → Prop) : Array Value → State → Outcome → State → Prop := va_Qv (fun (_ : Unit) => True) (fun _ t => ∃ (hy : Nat) (rsa : Nat) (ria : Nat) (raa : Nat) (rta : Nat) (rga : Nat) (yaa : Nat) (yba : Nat) (yca : Nat), xB D (tyL cI cJ cZ cG cH) [oX5 rn hy rsa ria raa rta rga 0 0 0 0 0 0 0 0, oAI rsa cI 8 (fun _ => 0), oAI ria cI 8 (fun _ => 0), oAI raa cI 8 (fun _ => 0), oAI rta cI 8 (fun _ => 0), oAI rga cI 8 (fun _ => 0), oX2 hy yaa yba yca 0, oAI yaa cI 64 (fun _ => 0), oAI yba cI 64 (fun _ => 0), oAI yca cI 64 (fun _ => 0)] A t) A
abbrev rm_n_Run : Room := { frames := 2, cells := 9, slots := 236, locals := 32 }
set_option maxRecDepth 100000 in
set_option maxHeartbeats 40000000 in
theorem c_n_Run (l : Launch) (D : va_G) (cI cJ cZ cG cH : ClassId) (sz : Nat) (rn : Nat) : Met l yX5_init (wt yX5_init cX5_init 1 none) rm_n_Run (xPc [.ref rn] D (tyL cI cJ cZ cG cH) (W_n_Run cI cJ cZ cG cH rn) sz) (Q_n_Run D cI cJ cZ cG cH rn (va_A (W_n_Run cI cJ cZ cG cH rn) sz)) 9 236 (va_A (W_n_Run cI cJ cZ cG cH rn) sz) := by
  refine xMet (cc := cX5_init) (maxL := 1) (ret := none) (Qf := Q_n_Run D cI cJ cZ cG cH rn) (by decide) rfl (Nat.le_of_ble_eq_true rfl) ?_
  intro p e s m below meth c ls A hx hb hr hml hts hown hlocks hnm hsz hP hK hD hA hS hl
  have hown : s.vm.findClass RX5 = some m.cls := hown
  have hin : meth.name = "<init>" := hnm
  have hP : va_P D vwCl [(rn, .inr (4, [.null, .null, .null, .null, .null, .null, .int 0, .int 0, .int 0, .int 0, .int 0, .int 0, .int 0, .int 0]))] s.heap := hP
  have hD : va_D A [(rn, .inr (4, [.null, .null, .null, .null, .null, .null, .int 0, .int 0, .int 0, .int 0, .int 0, .int 0, .int 0, .int 0]))] := hD
  have hl : lv_has ls 1 [(0, .ref rn)] := hl
  refine lv_aload_n hx hb dX5_init_0 rfl (lv_at hl 0 rfl) ?_
  refine W.objInit hx hb hown (hts (.methodLink RX5 3 objectInit) (tbC _ wd91)) (hts (.instanceMethod objectInit) (tbC _ wd75)) (hts (.code objectInit ⟨#[0xb1]⟩ 1 none) (tbC _ wd949)) rfl (by rw [hml]; exact hl.1) rfl dX5_init_1 (Nat.le_of_ble_eq_true rfl) (Nat.le_of_ble_eq_true rfl) ?_
  refine W.eq (g2 := F0 m 4 ls []) rfl ?_
  refine lv_aload_n hx hb dX5_init_4 rfl (lv_at hl 0 rfl) ?_
  refine va_new (ci := 1) (fs := [.null, .null, .null, .int 0]) (C := RX2) (T := TX2) (N := 4) hx hb hts (fun w h => tbC w (tbfX2 w h)) tyX2 tyX2_ok hown (hts (.classLink RX5 9 RX2) (tbC _ wd92)) (hts (.instantiable RX2 4) (tbC _ wd93)) (hts (.initialized RX2) (tbC _ wd53)) hK hP hD hS hA rfl (xdef_X2) (Nat.le_of_ble_eq_true rfl) (Nat.le_of_ble_eq_true rfl) dX5_init_5 (fun q1 H hP hD hS => ?_)
  have hPD : xPD D A [(rn, .inr (4, [.null, .null, .null, .null, .null, .null, .int 0, .int 0, .int 0, .int 0, .int 0, .int 0, .int 0, .int 0])), (q1, .inr (1, [.null, .null, .null, .int 0]))] H := ⟨hP, hD⟩
  obtain ⟨hP, hD⟩ := hPD
  refine W.widen (k := 1) (n := 4) (by decide) (by decide) ?_
  refine lv_dup hx hb dX5_init_8 rfl ?_
  obtain ⟨hPc, hDc, hFc, hC9⟩ := xpk (wc := W_n_History cI cJ cZ cG cH q1) hP hD hS hA [1] (by decide +kernel) rfl
  refine va_callv (va_runI (As := []) (rest := [.ref q1, .ref rn]) ⟨hx, hb, hml, hown, hts⟩ (c_n_History l D cI cJ cZ cG cH H.size q1) (cwI 0 hts (xGW tbC wd952) rfl rfl rfl (hts (.initialized RX2) (tbC _ wd53)) (hts (.methodLink RX5 11 yX2_init) (tbC _ wd94)) (hts (.instanceMethod yX2_init) (tbC _ wd95)) rfl (by decide +kernel) ⟨Nat.le_of_ble_eq_true rfl, Nat.le_of_ble_eq_true rfl⟩) ⟨xPc_blind, xPc_pre hPc hK hDc⟩ rfl rfl hl.1 rfl (lv_room (Nat.le_of_ble_eq_true rfl)) dX5_init_9 ⟨Nat.le_of_ble_eq_true rfl, Nat.le_of_ble_eq_true rfl⟩) hS (fun q _ h => hFc q h) hFc (fun u t H1 locs ht hvm hw2 hB hz1 hk1 hS => ?_)
  obtain ⟨yaa_3, yba_4, yca_5, hP1, hK1, hD1⟩ := hB
  rw [ht] at hP1
  have hPD : xPD D A [(rn, .inr (4, [.null, .null, .null, .null, .null, .null, .int 0, .int 0, .int 0, .int 0, .int 0, .int 0, .int 0, .int 0])), oX2 q1 yaa_3 yba_4 yca_5 0, oAI yaa_3 cI 64 (fun _ => 0), oAI yba_4 cI 64 (fun _ => 0), oAI yca_5 cI 64 (fun _ => 0)] H1 := xjn 1 hP hD [1] [0] hC9 rfl (by decide +kernel) (by decide +kernel) hk1 hFc hP1 hD1
  obtain ⟨hP, hD⟩ := hPD
  generalize H1 = H at hP hS ⊢
  refine W.widen (k := 4) (n := 196) (by decide) (by decide) ?_
  refine va_putF (D := D) (ci := 4) (v := .ref q1) (ty := (.object "PowerRails$History")) (C := RX5) (T := TX5) (N := 14) hx hb hts (fun w h => tbC w (tbfX5 w h)) tyX5 tyX5_ok nmX5 hown hK hP hD hS 0 rfl rfl 0 (by decide) (hts (.fieldLink RX5 12 "PowerRails$Run" "history" "LPowerRails$History;") (tbC _ wd106)) (fun _ h9 => h9) rfl hin rfl (by decide +kernel) rfl rfl (Nat.le_of_ble_eq_true rfl) dX5_init_12 (fun H locs hP hD hS => ?_)
  have hPD : xPD D A [(rn, .inr (4, [.ref q1, .null, .null, .null, .null, .null, .int 0, .int 0, .int 0, .int 0, .int 0, .int 0, .int 0, .int 0])), oX2 q1 yaa_3 yba_4 yca_5 0, oAI yaa_3 cI 64 (fun _ => 0), oAI yba_4 cI 64 (fun _ => 0), oAI yca_5 cI 64 (fun _ => 0)] H := ⟨hP, hD⟩
  obtain ⟨hP, hD⟩ := hPD
  refine lv_aload_n hx hb dX5_init_15 rfl (lv_at hl 0 rfl) ?_
  refine lv_bipush (v := 8) hx hb dX5_init_16 (by decide) ?_
  refine va_newa (atype := .int) (ty := .int) (a0 := (8, .inl (fun _ => 0))) (N' := 8) hx hb (hts (.arrayClass .int) (tbC _ wd86)) rfl hK hP hD hS hA (xnewI _) (by decide) (by decide) (by decide) (Nat.le_of_ble_eq_true rfl) (Nat.le_of_ble_eq_true rfl) dX5_init_18 (fun q6 cA7 H hKn hP hD hS => ?_)
  obtain rfl : cI = cA7 := xcls hKn (i := 0) (j := 5) rfl rfl (Or.inl rfl)
  have hPD : xPD D A [(rn, .inr (4, [.ref q1, .null, .null, .null, .null, .null, .int 0, .int 0, .int 0, .int 0, .int 0, .int 0, .int 0, .int 0])), oX2 q1 yaa_3 yba_4 yca_5 0, oAI yaa_3 cI 64 (fun _ => 0), oAI yba_4 cI 64 (fun _ => 0), oAI yca_5 cI 64 (fun _ => 0), oAI q6 cI 8 (fun _ => 0)] H := ⟨hP, hD⟩
  obtain ⟨hP, hD⟩ := hPD
  refine W.widen (k := 5) (n := 204) (by decide) (by decide) ?_
  refine va_putF (D := D) (ci := 4) (v := .ref q6) (ty := (.array .int)) (C := RX5) (T := TX5) (N := 14) hx hb hts (fun w h => tbC w (tbfX5 w h)) tyX5 tyX5_ok nmX5 hown hK hP hD hS 0 rfl rfl 1 (by decide) (hts (.fieldLink RX5 18 "PowerRails$Run" "states" "[I") (tbC _ wd108)) (fun _ h9 => h9) rfl hin rfl (by decide +kernel) rfl rfl (Nat.le_of_ble_eq_true rfl) dX5_init_20 (fun H locs hP hD hS => ?_)
  have hPD : xPD D A [(rn, .inr (4, [.ref q1, .ref q6, .null, .null, .null, .null, .int 0, .int 0, .int 0, .int 0, .int 0, .int 0, .int 0, .int 0])), oX2 q1 yaa_3 yba_4 yca_5 0, oAI yaa_3 cI 64 (fun _ => 0), oAI yba_4 cI 64 (fun _ => 0), oAI yca_5 cI 64 (fun _ => 0), oAI q6 cI 8 (fun _ => 0)] H := ⟨hP, hD⟩
  obtain ⟨hP, hD⟩ := hPD
  refine lv_aload_n hx hb dX5_init_23 rfl (lv_at hl 0 rfl) ?_
  refine lv_bipush (v := 8) hx hb dX5_init_24 (by decide) ?_
  refine va_newa (atype := .int) (ty := .int) (a0 := (8, .inl (fun _ => 0))) (N' := 8) hx hb (hts (.arrayClass .int) (tbC _ wd86)) rfl hK hP hD hS hA (xnewI _) (by decide) (by decide) (by decide) (Nat.le_of_ble_eq_true rfl) (Nat.le_of_ble_eq_true rfl) dX5_init_26 (fun q8 cA9 H hKn hP hD hS => ?_)
  obtain rfl : cI = cA9 := xcls hKn (i := 0) (j := 5) rfl rfl (Or.inl rfl)
  have hPD : xPD D A [(rn, .inr (4, [.ref q1, .ref q6, .null, .null, .null, .null, .int 0, .int 0, .int 0, .int 0, .int 0, .int 0, .int 0, .int 0])), oX2 q1 yaa_3 yba_4 yca_5 0, oAI yaa_3 cI 64 (fun _ => 0), oAI yba_4 cI 64 (fun _ => 0), oAI yca_5 cI 64 (fun _ => 0), oAI q6 cI 8 (fun _ => 0), oAI q8 cI 8 (fun _ => 0)] H := ⟨hP, hD⟩
  obtain ⟨hP, hD⟩ := hPD
  refine W.widen (k := 6) (n := 212) (by decide) (by decide) ?_
  refine va_putF (D := D) (ci := 4) (v := .ref q8) (ty := (.array .int)) (C := RX5) (T := TX5) (N := 14) hx hb hts (fun w h => tbC w (tbfX5 w h)) tyX5 tyX5_ok nmX5 hown hK hP hD hS 0 rfl rfl 2 (by decide) (hts (.fieldLink RX5 22 "PowerRails$Run" "since" "[I") (tbC _ wd110)) (fun _ h9 => h9) rfl hin rfl (by decide +kernel) rfl rfl (Nat.le_of_ble_eq_true rfl) dX5_init_28 (fun H locs hP hD hS => ?_)
  have hPD : xPD D A [(rn, .inr (4, [.ref q1, .ref q6, .ref q8, .null, .null, .null, .int 0, .int 0, .int 0, .int 0, .int 0, .int 0, .int 0, .int 0])), oX2 q1 yaa_3 yba_4 yca_5 0, oAI yaa_3 cI 64 (fun _ => 0), oAI yba_4 cI 64 (fun _ => 0), oAI yca_5 cI 64 (fun _ => 0), oAI q6 cI 8 (fun _ => 0), oAI q8 cI 8 (fun _ => 0)] H := ⟨hP, hD⟩
  obtain ⟨hP, hD⟩ := hPD
  refine lv_aload_n hx hb dX5_init_31 rfl (lv_at hl 0 rfl) ?_
  refine lv_bipush (v := 8) hx hb dX5_init_32 (by decide) ?_
  refine va_newa (atype := .int) (ty := .int) (a0 := (8, .inl (fun _ => 0))) (N' := 8) hx hb (hts (.arrayClass .int) (tbC _ wd86)) rfl hK hP hD hS hA (xnewI _) (by decide) (by decide) (by decide) (Nat.le_of_ble_eq_true rfl) (Nat.le_of_ble_eq_true rfl) dX5_init_34 (fun q10 cA11 H hKn hP hD hS => ?_)
  obtain rfl : cI = cA11 := xcls hKn (i := 0) (j := 5) rfl rfl (Or.inl rfl)
  have hPD : xPD D A [(rn, .inr (4, [.ref q1, .ref q6, .ref q8, .null, .null, .null, .int 0, .int 0, .int 0, .int 0, .int 0, .int 0, .int 0, .int 0])), oX2 q1 yaa_3 yba_4 yca_5 0, oAI yaa_3 cI 64 (fun _ => 0), oAI yba_4 cI 64 (fun _ => 0), oAI yca_5 cI 64 (fun _ => 0), oAI q6 cI 8 (fun _ => 0), oAI q8 cI 8 (fun _ => 0), oAI q10 cI 8 (fun _ => 0)] H := ⟨hP, hD⟩
  obtain ⟨hP, hD⟩ := hPD
  refine W.widen (k := 7) (n := 220) (by decide) (by decide) ?_
  refine va_putF (D := D) (ci := 4) (v := .ref q10) (ty := (.array .int)) (C := RX5) (T := TX5) (N := 14) hx hb hts (fun w h => tbC w (tbfX5 w h)) tyX5 tyX5_ok nmX5 hown hK hP hD hS 0 rfl rfl 3 (by decide) (hts (.fieldLink RX5 25 "PowerRails$Run" "asked" "[I") (tbC _ wd112)) (fun _ h9 => h9) rfl hin rfl (by decide +kernel) rfl rfl (Nat.le_of_ble_eq_true rfl) dX5_init_36 (fun H locs hP hD hS => ?_)
  have hPD : xPD D A [(rn, .inr (4, [.ref q1, .ref q6, .ref q8, .ref q10, .null, .null, .int 0, .int 0, .int 0, .int 0, .int 0, .int 0, .int 0, .int 0])), oX2 q1 yaa_3 yba_4 yca_5 0, oAI yaa_3 cI 64 (fun _ => 0), oAI yba_4 cI 64 (fun _ => 0), oAI yca_5 cI 64 (fun _ => 0), oAI q6 cI 8 (fun _ => 0), oAI q8 cI 8 (fun _ => 0), oAI q10 cI 8 (fun _ => 0)] H := ⟨hP, hD⟩
  obtain ⟨hP, hD⟩ := hPD
  refine lv_aload_n hx hb dX5_init_39 rfl (lv_at hl 0 rfl) ?_
  refine lv_bipush (v := 8) hx hb dX5_init_40 (by decide) ?_
  refine va_newa (atype := .int) (ty := .int) (a0 := (8, .inl (fun _ => 0))) (N' := 8) hx hb (hts (.arrayClass .int) (tbC _ wd86)) rfl hK hP hD hS hA (xnewI _) (by decide) (by decide) (by decide) (Nat.le_of_ble_eq_true rfl) (Nat.le_of_ble_eq_true rfl) dX5_init_42 (fun q12 cA13 H hKn hP hD hS => ?_)
  obtain rfl : cI = cA13 := xcls hKn (i := 0) (j := 5) rfl rfl (Or.inl rfl)
  have hPD : xPD D A [(rn, .inr (4, [.ref q1, .ref q6, .ref q8, .ref q10, .null, .null, .int 0, .int 0, .int 0, .int 0, .int 0, .int 0, .int 0, .int 0])), oX2 q1 yaa_3 yba_4 yca_5 0, oAI yaa_3 cI 64 (fun _ => 0), oAI yba_4 cI 64 (fun _ => 0), oAI yca_5 cI 64 (fun _ => 0), oAI q6 cI 8 (fun _ => 0), oAI q8 cI 8 (fun _ => 0), oAI q10 cI 8 (fun _ => 0), oAI q12 cI 8 (fun _ => 0)] H := ⟨hP, hD⟩
  obtain ⟨hP, hD⟩ := hPD
  refine W.widen (k := 8) (n := 228) (by decide) (by decide) ?_
  refine va_putF (D := D) (ci := 4) (v := .ref q12) (ty := (.array .int)) (C := RX5) (T := TX5) (N := 14) hx hb hts (fun w h => tbC w (tbfX5 w h)) tyX5 tyX5_ok nmX5 hown hK hP hD hS 0 rfl rfl 4 (by decide) (hts (.fieldLink RX5 28 "PowerRails$Run" "takes" "[I") (tbC _ wd113)) (fun _ h9 => h9) rfl hin rfl (by decide +kernel) rfl rfl (Nat.le_of_ble_eq_true rfl) dX5_init_44 (fun H locs hP hD hS => ?_)
  have hPD : xPD D A [(rn, .inr (4, [.ref q1, .ref q6, .ref q8, .ref q10, .ref q12, .null, .int 0, .int 0, .int 0, .int 0, .int 0, .int 0, .int 0, .int 0])), oX2 q1 yaa_3 yba_4 yca_5 0, oAI yaa_3 cI 64 (fun _ => 0), oAI yba_4 cI 64 (fun _ => 0), oAI yca_5 cI 64 (fun _ => 0), oAI q6 cI 8 (fun _ => 0), oAI q8 cI 8 (fun _ => 0), oAI q10 cI 8 (fun _ => 0), oAI q12 cI 8 (fun _ => 0)] H := ⟨hP, hD⟩
  obtain ⟨hP, hD⟩ := hPD
  refine lv_aload_n hx hb dX5_init_47 rfl (lv_at hl 0 rfl) ?_
  refine lv_bipush (v := 8) hx hb dX5_init_48 (by decide) ?_
  refine va_newa (atype := .int) (ty := .int) (a0 := (8, .inl (fun _ => 0))) (N' := 8) hx hb (hts (.arrayClass .int) (tbC _ wd86)) rfl hK hP hD hS hA (xnewI _) (by decide) (by decide) (by decide) (Nat.le_of_ble_eq_true rfl) (Nat.le_of_ble_eq_true rfl) dX5_init_50 (fun q14 cA15 H hKn hP hD hS => ?_)
  obtain rfl : cI = cA15 := xcls hKn (i := 0) (j := 5) rfl rfl (Or.inl rfl)
  have hPD : xPD D A [(rn, .inr (4, [.ref q1, .ref q6, .ref q8, .ref q10, .ref q12, .null, .int 0, .int 0, .int 0, .int 0, .int 0, .int 0, .int 0, .int 0])), oX2 q1 yaa_3 yba_4 yca_5 0, oAI yaa_3 cI 64 (fun _ => 0), oAI yba_4 cI 64 (fun _ => 0), oAI yca_5 cI 64 (fun _ => 0), oAI q6 cI 8 (fun _ => 0), oAI q8 cI 8 (fun _ => 0), oAI q10 cI 8 (fun _ => 0), oAI q12 cI 8 (fun _ => 0), oAI q14 cI 8 (fun _ => 0)] H := ⟨hP, hD⟩
  obtain ⟨hP, hD⟩ := hPD
  refine W.widen (k := 9) (n := 236) (by decide) (by decide) ?_
  refine va_putF (D := D) (ci := 4) (v := .ref q14) (ty := (.array .int)) (C := RX5) (T := TX5) (N := 14) hx hb hts (fun w h => tbC w (tbfX5 w h)) tyX5 tyX5_ok nmX5 hown hK hP hD hS 0 rfl rfl 5 (by decide) (hts (.fieldLink RX5 31 "PowerRails$Run" "timesGood" "[I") (tbC _ wd115)) (fun _ h9 => h9) rfl hin rfl (by decide +kernel) rfl rfl (Nat.le_of_ble_eq_true rfl) dX5_init_52 (fun H locs hP hD hS => ?_)
  obtain ⟨hP, hD⟩ : xPD D A [oX5 rn q1 q6 q8 q10 q12 q14 0 0 0 0 0 0 0 0, oX2 q1 yaa_3 yba_4 yca_5 0, oAI yaa_3 cI 64 (fun _ => 0), oAI yba_4 cI 64 (fun _ => 0), oAI yca_5 cI 64 (fun _ => 0), oAI q6 cI 8 (fun _ => 0), oAI q8 cI 8 (fun _ => 0), oAI q10 cI 8 (fun _ => 0), oAI q12 cI 8 (fun _ => 0), oAI q14 cI 8 (fun _ => 0)] H := ⟨hP, hD⟩
  refine lv_aload_n hx hb dX5_init_55 rfl (lv_at hl 0 rfl) ?_
  refine lv_iconst (v := 0) hx hb dX5_init_56 (by decide) ?_
  refine va_put (D := D) (ci := 4) (v := .int 0) (ty := .int) (C := RX5) (T := TX5) (N := 14) hx hb hts (fun w h => tbC w (tbfX5 w h)) tyX5 tyX5_ok nmX5 hown hK hP hD hS 0 rfl rfl 6 (by decide) (hts (.fieldLink RX5 34 "PowerRails$Run" "dead" "I") (tbC _ wd117)) (fun _ h9 => h9) rfl (by decide +kernel) rfl rfl (Nat.le_of_ble_eq_true rfl) dX5_init_57 (fun H locs hP hD hS => ?_)
  obtain ⟨hP, hD⟩ : xPD D A [oX5 rn q1 q6 q8 q10 q12 q14 0 0 0 0 0 0 0 0, oX2 q1 yaa_3 yba_4 yca_5 0, oAI yaa_3 cI 64 (fun _ => 0), oAI yba_4 cI 64 (fun _ => 0), oAI yca_5 cI 64 (fun _ => 0), oAI q6 cI 8 (fun _ => 0), oAI q8 cI 8 (fun _ => 0), oAI q10 cI 8 (fun _ => 0), oAI q12 cI 8 (fun _ => 0), oAI q14 cI 8 (fun _ => 0)] H := ⟨hP, hD⟩
  refine lv_aload_n hx hb dX5_init_60 rfl (lv_at hl 0 rfl) ?_
  refine lv_iconst (v := 0) hx hb dX5_init_61 (by decide) ?_
  refine va_put (D := D) (ci := 4) (v := .int 0) (ty := .boolean) (C := RX5) (T := TX5) (N := 14) hx hb hts (fun w h => tbC w (tbfX5 w h)) tyX5 tyX5_ok nmX5 hown hK hP hD hS 0 rfl rfl 7 (by decide) (hts (.fieldLink RX5 38 "PowerRails$Run" "key" "Z") (tbC _ wd119)) (fun _ h9 => h9) rfl (by decide +kernel) (by decide) rfl (Nat.le_of_ble_eq_true rfl) dX5_init_62 (fun H locs hP hD hS => ?_)
  obtain ⟨hP, hD⟩ : xPD D A [oX5 rn q1 q6 q8 q10 q12 q14 0 0 0 0 0 0 0 0, oX2 q1 yaa_3 yba_4 yca_5 0, oAI yaa_3 cI 64 (fun _ => 0), oAI yba_4 cI 64 (fun _ => 0), oAI yca_5 cI 64 (fun _ => 0), oAI q6 cI 8 (fun _ => 0), oAI q8 cI 8 (fun _ => 0), oAI q10 cI 8 (fun _ => 0), oAI q12 cI 8 (fun _ => 0), oAI q14 cI 8 (fun _ => 0)] H := ⟨hP, hD⟩
  refine W.widen (k := 9) (n := 236) (by decide) (by decide) ?_
  exact W.vret hx hb hr (fun t ht hW => ⟨⟨(), rfl, trivial, ⟨q1, q6, q8, q10, q12, q14, yaa_3, yba_4, yca_5, xB_of9 ht hW hP hK hD [0, 5, 6, 7, 8, 9, 1, 2, 3, 4] (by decide +kernel) rfl⟩⟩, hS.F ht⟩) hS.2.2 dX5_init_65
abbrev W_n_Course (cI cJ cZ cG cH : ClassId) (co : Nat) : va_W := [(co, .inr (0, [.null, .null, .null, .null, .null, .int 0, .int 0, .int 0, .int 0]))]
abbrev Q_n_Course (D : va_G) (cI cJ cZ cG cH : ClassId) (co : Nat) (A : Nat → Prop) : Array Value → State → Outcome → State → Prop := va_Qv (fun (_ : Unit) => True) (fun _ t => ∃ (fwa : Nat) (fta : Nat) (fra : Nat) (fga : Nat) (cxa : Nat), xB D (tyL cI cJ cZ cG cH) [oX0 co fwa fta fra fga cxa 0 0 0 0, oAI fwa cI 8 (fun _ => 0), oAI fta cI 8 (fun _ => 0), oAI fra cI 8 (fun _ => 0), oAI fga cI 8 (fun _ => 0), oAI cxa cI 145 (fun _ => 0)] A t) A
abbrev rm_n_Course : Room := { frames := 1, cells := 5, slots := 177, locals := 12 }
set_option maxRecDepth 100000 in
set_option maxHeartbeats 40000000 in
theorem c_n_Course (l : Launch) (D : va_G) (cI cJ cZ cG cH : ClassId) (sz : Nat) (co : Nat) : Met l yX0_init (wt yX0_init cX0_init 1 none) rm_n_Course (xPc [.ref co] D (tyL cI cJ cZ cG cH) (W_n_Course cI cJ cZ cG cH co) sz) (Q_n_Course D cI cJ cZ cG cH co (va_A (W_n_Course cI cJ cZ cG cH co) sz)) 5 177 (va_A (W_n_Course cI cJ cZ cG cH co) sz) := by
  refine xMet (cc := cX0_init) (maxL := 1) (ret := none) (Qf := Q_n_Course D cI cJ cZ cG cH co) (by decide) rfl (Nat.le_of_ble_eq_true rfl) ?_
  intro p e s m below meth c ls A hx hb hr hml hts hown hlocks hnm hsz hP hK hD hA hS hl
  have hown : s.vm.findClass RX0 = some m.cls := hown
  have hin : meth.name = "<init>" := hnm
  have hP : va_P D vwCl [(co, .inr (0, [.null, .null, .null, .null, .null, .int 0, .int 0, .int 0, .int 0]))] s.heap := hP
  have hD : va_D A [(co, .inr (0, [.null, .null, .null, .null, .null, .int 0, .int 0, .int 0, .int 0]))] := hD
  have hl : lv_has ls 1 [(0, .ref co)] := hl
  refine lv_aload_n hx hb dX0_init_0 rfl (lv_at hl 0 rfl) ?_
  refine W.objInit hx hb hown (hts (.methodLink RX0 3 objectInit) (tbC _ wd137)) (hts (.instanceMethod objectInit) (tbC _ wd75)) (hts (.code objectInit ⟨#[0xb1]⟩ 1 none) (tbC _ wd949)) rfl (by rw [hml]; exact hl.1) rfl dX0_init_1 (Nat.le_of_ble_eq_true rfl) (Nat.le_of_ble_eq_true rfl) ?_
  refine W.eq (g2 := F0 m 4 ls []) rfl ?_
  refine lv_aload_n hx hb dX0_init_4 rfl (lv_at hl 0 rfl) ?_
  refine lv_bipush (v := 8) hx hb dX0_init_5 (by decide) ?_
  refine va_newa (atype := .int) (ty := .int) (a0 := (8, .inl (fun _ => 0))) (N' := 8) hx hb (hts (.arrayClass .int) (tbC _ wd86)) rfl hK hP hD hS hA (xnewI _) (by decide) (by decide) (by decide) (Nat.le_of_ble_eq_true rfl) (Nat.le_of_ble_eq_true rfl) dX0_init_7 (fun q1 cA2 H hKn hP hD hS => ?_)
  obtain rfl : cI = cA2 := xcls hKn (i := 0) (j := 5) rfl rfl (Or.inl rfl)
  have hPD : xPD D A [(co, .inr (0, [.null, .null, .null, .null, .null, .int 0, .int 0, .int 0, .int 0])), oAI q1 cI 8 (fun _ => 0)] H := ⟨hP, hD⟩
  obtain ⟨hP, hD⟩ := hPD
  refine W.widen (k := 1) (n := 8) (by decide) (by decide) ?_
  refine va_putF (D := D) (ci := 0) (v := .ref q1) (ty := (.array .int)) (C := RX0) (T := TX0) (N := 9) hx hb hts (fun w h => tbC w (tbfX0 w h)) tyX0 tyX0_ok nmX0 hown hK hP hD hS 0 rfl rfl 0 (by decide) (hts (.fieldLink RX0 9 "PowerRails$Course" "waits" "[I") (tbC _ wd138)) (fun _ h9 => h9) rfl hin rfl (by decide +kernel) rfl rfl (Nat.le_of_ble_eq_true rfl) dX0_init_9 (fun H locs hP hD hS => ?_)
  have hPD : xPD D A [(co, .inr (0, [.ref q1, .null, .null, .null, .null, .int 0, .int 0, .int 0, .int 0])), oAI q1 cI 8 (fun _ => 0)] H := ⟨hP, hD⟩
  obtain ⟨hP, hD⟩ := hPD
  refine lv_aload_n hx hb dX0_init_12 rfl (lv_at hl 0 rfl) ?_
  refine lv_bipush (v := 8) hx hb dX0_init_13 (by decide) ?_
  refine va_newa (atype := .int) (ty := .int) (a0 := (8, .inl (fun _ => 0))) (N' := 8) hx hb (hts (.arrayClass .int) (tbC _ wd86)) rfl hK hP hD hS hA (xnewI _) (by decide) (by decide) (by decide) (Nat.le_of_ble_eq_true rfl) (Nat.le_of_ble_eq_true rfl) dX0_init_15 (fun q3 cA4 H hKn hP hD hS => ?_)
  obtain rfl : cI = cA4 := xcls hKn (i := 0) (j := 5) rfl rfl (Or.inl rfl)
  have hPD : xPD D A [(co, .inr (0, [.ref q1, .null, .null, .null, .null, .int 0, .int 0, .int 0, .int 0])), oAI q1 cI 8 (fun _ => 0), oAI q3 cI 8 (fun _ => 0)] H := ⟨hP, hD⟩
  obtain ⟨hP, hD⟩ := hPD
  refine W.widen (k := 2) (n := 16) (by decide) (by decide) ?_
  refine va_putF (D := D) (ci := 0) (v := .ref q3) (ty := (.array .int)) (C := RX0) (T := TX0) (N := 9) hx hb hts (fun w h => tbC w (tbfX0 w h)) tyX0 tyX0_ok nmX0 hown hK hP hD hS 0 rfl rfl 1 (by decide) (hts (.fieldLink RX0 15 "PowerRails$Course" "takes" "[I") (tbC _ wd140)) (fun _ h9 => h9) rfl hin rfl (by decide +kernel) rfl rfl (Nat.le_of_ble_eq_true rfl) dX0_init_17 (fun H locs hP hD hS => ?_)
  have hPD : xPD D A [(co, .inr (0, [.ref q1, .ref q3, .null, .null, .null, .int 0, .int 0, .int 0, .int 0])), oAI q1 cI 8 (fun _ => 0), oAI q3 cI 8 (fun _ => 0)] H := ⟨hP, hD⟩
  obtain ⟨hP, hD⟩ := hPD
  refine lv_aload_n hx hb dX0_init_20 rfl (lv_at hl 0 rfl) ?_
  refine lv_bipush (v := 8) hx hb dX0_init_21 (by decide) ?_
  refine va_newa (atype := .int) (ty := .int) (a0 := (8, .inl (fun _ => 0))) (N' := 8) hx hb (hts (.arrayClass .int) (tbC _ wd86)) rfl hK hP hD hS hA (xnewI _) (by decide) (by decide) (by decide) (Nat.le_of_ble_eq_true rfl) (Nat.le_of_ble_eq_true rfl) dX0_init_23 (fun q5 cA6 H hKn hP hD hS => ?_)
  obtain rfl : cI = cA6 := xcls hKn (i := 0) (j := 5) rfl rfl (Or.inl rfl)
  have hPD : xPD D A [(co, .inr (0, [.ref q1, .ref q3, .null, .null, .null, .int 0, .int 0, .int 0, .int 0])), oAI q1 cI 8 (fun _ => 0), oAI q3 cI 8 (fun _ => 0), oAI q5 cI 8 (fun _ => 0)] H := ⟨hP, hD⟩
  obtain ⟨hP, hD⟩ := hPD
  refine W.widen (k := 3) (n := 24) (by decide) (by decide) ?_
  refine va_putF (D := D) (ci := 0) (v := .ref q5) (ty := (.array .int)) (C := RX0) (T := TX0) (N := 9) hx hb hts (fun w h => tbC w (tbfX0 w h)) tyX0 tyX0_ok nmX0 hown hK hP hD hS 0 rfl rfl 2 (by decide) (hts (.fieldLink RX0 18 "PowerRails$Course" "risesAt" "[I") (tbC _ wd142)) (fun _ h9 => h9) rfl hin rfl (by decide +kernel) rfl rfl (Nat.le_of_ble_eq_true rfl) dX0_init_25 (fun H locs hP hD hS => ?_)
  have hPD : xPD D A [(co, .inr (0, [.ref q1, .ref q3, .ref q5, .null, .null, .int 0, .int 0, .int 0, .int 0])), oAI q1 cI 8 (fun _ => 0), oAI q3 cI 8 (fun _ => 0), oAI q5 cI 8 (fun _ => 0)] H := ⟨hP, hD⟩
  obtain ⟨hP, hD⟩ := hPD
  refine lv_aload_n hx hb dX0_init_28 rfl (lv_at hl 0 rfl) ?_
  refine lv_bipush (v := 8) hx hb dX0_init_29 (by decide) ?_
  refine va_newa (atype := .int) (ty := .int) (a0 := (8, .inl (fun _ => 0))) (N' := 8) hx hb (hts (.arrayClass .int) (tbC _ wd86)) rfl hK hP hD hS hA (xnewI _) (by decide) (by decide) (by decide) (Nat.le_of_ble_eq_true rfl) (Nat.le_of_ble_eq_true rfl) dX0_init_31 (fun q7 cA8 H hKn hP hD hS => ?_)
  obtain rfl : cI = cA8 := xcls hKn (i := 0) (j := 5) rfl rfl (Or.inl rfl)
  have hPD : xPD D A [(co, .inr (0, [.ref q1, .ref q3, .ref q5, .null, .null, .int 0, .int 0, .int 0, .int 0])), oAI q1 cI 8 (fun _ => 0), oAI q3 cI 8 (fun _ => 0), oAI q5 cI 8 (fun _ => 0), oAI q7 cI 8 (fun _ => 0)] H := ⟨hP, hD⟩
  obtain ⟨hP, hD⟩ := hPD
  refine W.widen (k := 4) (n := 32) (by decide) (by decide) ?_
  refine va_putF (D := D) (ci := 0) (v := .ref q7) (ty := (.array .int)) (C := RX0) (T := TX0) (N := 9) hx hb hts (fun w h => tbC w (tbfX0 w h)) tyX0 tyX0_ok nmX0 hown hK hP hD hS 0 rfl rfl 3 (by decide) (hts (.fieldLink RX0 21 "PowerRails$Course" "goodAt" "[I") (tbC _ wd143)) (fun _ h9 => h9) rfl hin rfl (by decide +kernel) rfl rfl (Nat.le_of_ble_eq_true rfl) dX0_init_33 (fun H locs hP hD hS => ?_)
  have hPD : xPD D A [(co, .inr (0, [.ref q1, .ref q3, .ref q5, .ref q7, .null, .int 0, .int 0, .int 0, .int 0])), oAI q1 cI 8 (fun _ => 0), oAI q3 cI 8 (fun _ => 0), oAI q5 cI 8 (fun _ => 0), oAI q7 cI 8 (fun _ => 0)] H := ⟨hP, hD⟩
  obtain ⟨hP, hD⟩ := hPD
  refine lv_aload_n hx hb dX0_init_36 rfl (lv_at hl 0 rfl) ?_
  refine lv_sipush (v := 145) hx hb dX0_init_37 (by decide) ?_
  refine va_newa (atype := .int) (ty := .int) (a0 := (145, .inl (fun _ => 0))) (N' := 145) hx hb (hts (.arrayClass .int) (tbC _ wd86)) rfl hK hP hD hS hA (xnewI _) (by decide) (by decide) (by decide) (Nat.le_of_ble_eq_true rfl) (Nat.le_of_ble_eq_true rfl) dX0_init_40 (fun q9 cA10 H hKn hP hD hS => ?_)
  obtain rfl : cI = cA10 := xcls hKn (i := 0) (j := 5) rfl rfl (Or.inl rfl)
  have hPD : xPD D A [(co, .inr (0, [.ref q1, .ref q3, .ref q5, .ref q7, .null, .int 0, .int 0, .int 0, .int 0])), oAI q1 cI 8 (fun _ => 0), oAI q3 cI 8 (fun _ => 0), oAI q5 cI 8 (fun _ => 0), oAI q7 cI 8 (fun _ => 0), oAI q9 cI 145 (fun _ => 0)] H := ⟨hP, hD⟩
  obtain ⟨hP, hD⟩ := hPD
  refine W.widen (k := 5) (n := 177) (by decide) (by decide) ?_
  refine va_putF (D := D) (ci := 0) (v := .ref q9) (ty := (.array .int)) (C := RX0) (T := TX0) (N := 9) hx hb hts (fun w h => tbC w (tbfX0 w h)) tyX0 tyX0_ok nmX0 hown hK hP hD hS 0 rfl rfl 4 (by decide) (hts (.fieldLink RX0 24 "PowerRails$Course" "changes" "[I") (tbC _ wd146)) (fun _ h9 => h9) rfl hin rfl (by decide +kernel) rfl rfl (Nat.le_of_ble_eq_true rfl) dX0_init_42 (fun H locs hP hD hS => ?_)
  obtain ⟨hP, hD⟩ : xPD D A [oX0 co q1 q3 q5 q7 q9 0 0 0 0, oAI q1 cI 8 (fun _ => 0), oAI q3 cI 8 (fun _ => 0), oAI q5 cI 8 (fun _ => 0), oAI q7 cI 8 (fun _ => 0), oAI q9 cI 145 (fun _ => 0)] H := ⟨hP, hD⟩
  refine W.widen (k := 5) (n := 177) (by decide) (by decide) ?_
  exact W.vret hx hb hr (fun t ht hW => ⟨⟨(), rfl, trivial, ⟨q1, q3, q5, q7, q9, xB_of9 ht hW hP hK hD [0, 1, 2, 3, 4, 5] (by decide +kernel) rfl⟩⟩, hS.F ht⟩) hS.2.2 dX0_init_45
abbrev W_n_Ways (cI cJ cZ cG cH : ClassId) (wy : Nat) (co : Nat) : va_W := [(wy, .inr (8, [.null, .null, .null, .int 0, .int 0, .int 0]))]
abbrev Q_n_Ways (D : va_G) (cI cJ cZ cG cH : ClassId) (wy : Nat) (co : Nat) (A : Nat → Prop) : Array Value → State → Outcome → State → Prop := va_Qv (fun (_ : Unit) => True) (fun _ t => ∃ (wba : Nat) (wka : Nat), xB D (tyL cI cJ cZ cG cH) [oX9 wy co wba wka 0 0 0, oAI wba cI 64 (fun _ => 0), oAI wka cZ 64 (fun _ => 0)] A t) A
abbrev rm_n_Ways : Room := { frames := 1, cells := 2, slots := 128, locals := 12 }
set_option maxRecDepth 100000 in
set_option maxHeartbeats 40000000 in
theorem c_n_Ways (l : Launch) (D : va_G) (cI cJ cZ cG cH : ClassId) (sz : Nat) (wy : Nat) (co : Nat) : Met l yX9_init (wt yX9_init cX9_init 2 none) rm_n_Ways (xPc [.ref wy, .ref co] D (tyL cI cJ cZ cG cH) (W_n_Ways cI cJ cZ cG cH wy co) sz) (Q_n_Ways D cI cJ cZ cG cH wy co (va_A (W_n_Ways cI cJ cZ cG cH wy co) sz)) 2 128 (va_A (W_n_Ways cI cJ cZ cG cH wy co) sz) := by
  refine xMet (cc := cX9_init) (maxL := 2) (ret := none) (Qf := Q_n_Ways D cI cJ cZ cG cH wy co) (by decide) rfl (Nat.le_of_ble_eq_true rfl) ?_
  intro p e s m below meth c ls A hx hb hr hml hts hown hlocks hnm hsz hP hK hD hA hS hl
  have hown : s.vm.findClass RX9 = some m.cls := hown
  have hin : meth.name = "<init>" := hnm
  have hP : va_P D vwCl [(wy, .inr (8, [.null, .null, .null, .int 0, .int 0, .int 0]))] s.heap := hP
  have hD : va_D A [(wy, .inr (8, [.null, .null, .null, .int 0, .int 0, .int 0]))] := hD
  have hl : lv_has ls 2 [(0, .ref wy), (1, .ref co)] := hl
  refine lv_aload_n hx hb dX9_init_0 rfl (lv_at hl 0 rfl) ?_
  refine W.objInit hx hb hown (hts (.methodLink RX9 3 objectInit) (tbC _ wd161)) (hts (.instanceMethod objectInit) (tbC _ wd75)) (hts (.code objectInit ⟨#[0xb1]⟩ 1 none) (tbC _ wd949)) rfl (by rw [hml]; exact hl.1) rfl dX9_init_1 (Nat.le_of_ble_eq_true rfl) (Nat.le_of_ble_eq_true rfl) ?_
  refine W.eq (g2 := F0 m 4 ls []) rfl ?_
  refine lv_aload_n hx hb dX9_init_4 rfl (lv_at hl 0 rfl) ?_
  refine lv_aload_n hx hb dX9_init_5 rfl (lv_at hl 1 rfl) ?_
  refine va_putF (D := D) (ci := 8) (v := .ref co) (ty := (.object "PowerRails$Course")) (C := RX9) (T := TX9) (N := 6) hx hb hts (fun w h => tbC w (tbfX9 w h)) tyX9 tyX9_ok nmX9 hown hK hP hD hS 0 rfl rfl 0 (by decide) (hts (.fieldLink RX9 9 "PowerRails$Ways" "course" "LPowerRails$Course;") (tbC _ wd162)) (fun _ h9 => h9) rfl hin rfl (by decide +kernel) rfl rfl (Nat.le_of_ble_eq_true rfl) dX9_init_6 (fun H locs hP hD hS => ?_)
  have hPD : xPD D A [(wy, .inr (8, [.ref co, .null, .null, .int 0, .int 0, .int 0]))] H := ⟨hP, hD⟩
  obtain ⟨hP, hD⟩ := hPD
  refine lv_aload_n hx hb dX9_init_9 rfl (lv_at hl 0 rfl) ?_
  refine lv_bipush (v := 64) hx hb dX9_init_10 (by decide) ?_
  refine va_newa (atype := .int) (ty := .int) (a0 := (64, .inl (fun _ => 0))) (N' := 64) hx hb (hts (.arrayClass .int) (tbC _ wd86)) rfl hK hP hD hS hA (xnewI _) (by decide) (by decide) (by decide) (Nat.le_of_ble_eq_true rfl) (Nat.le_of_ble_eq_true rfl) dX9_init_12 (fun q1 cA2 H hKn hP hD hS => ?_)
  obtain rfl : cI = cA2 := xcls hKn (i := 0) (j := 5) rfl rfl (Or.inl rfl)
  have hPD : xPD D A [(wy, .inr (8, [.ref co, .null, .null, .int 0, .int 0, .int 0])), oAI q1 cI 64 (fun _ => 0)] H := ⟨hP, hD⟩
  obtain ⟨hP, hD⟩ := hPD
  refine W.widen (k := 1) (n := 64) (by decide) (by decide) ?_
  refine va_putF (D := D) (ci := 8) (v := .ref q1) (ty := (.array .int)) (C := RX9) (T := TX9) (N := 6) hx hb hts (fun w h => tbC w (tbfX9 w h)) tyX9 tyX9_ok nmX9 hown hK hP hD hS 0 rfl rfl 1 (by decide) (hts (.fieldLink RX9 15 "PowerRails$Ways" "behind" "[I") (tbC _ wd163)) (fun _ h9 => h9) rfl hin rfl (by decide +kernel) rfl rfl (Nat.le_of_ble_eq_true rfl) dX9_init_14 (fun H locs hP hD hS => ?_)
  have hPD : xPD D A [(wy, .inr (8, [.ref co, .ref q1, .null, .int 0, .int 0, .int 0])), oAI q1 cI 64 (fun _ => 0)] H := ⟨hP, hD⟩
  obtain ⟨hP, hD⟩ := hPD
  refine lv_aload_n hx hb dX9_init_17 rfl (lv_at hl 0 rfl) ?_
  refine lv_bipush (v := 64) hx hb dX9_init_18 (by decide) ?_
  refine va_newa (atype := .boolean) (ty := .boolean) (a0 := (64, .inl (fun _ => 0))) (N' := 64) hx hb (hts (.arrayClass .boolean) (tbC _ wd170)) rfl hK hP hD hS hA (xnewZ _) (by decide) (by decide) (by decide) (Nat.le_of_ble_eq_true rfl) (Nat.le_of_ble_eq_true rfl) dX9_init_20 (fun q3 cA4 H hKn hP hD hS => ?_)
  obtain rfl : cZ = cA4 := xcls hKn (i := 2) (j := 5) rfl rfl (Or.inl rfl)
  have hPD : xPD D A [(wy, .inr (8, [.ref co, .ref q1, .null, .int 0, .int 0, .int 0])), oAI q1 cI 64 (fun _ => 0), oAI q3 cZ 64 (fun _ => 0)] H := ⟨hP, hD⟩
  obtain ⟨hP, hD⟩ := hPD
  refine W.widen (k := 2) (n := 128) (by decide) (by decide) ?_
  refine va_putF (D := D) (ci := 8) (v := .ref q3) (ty := (.array .boolean)) (C := RX9) (T := TX9) (N := 6) hx hb hts (fun w h => tbC w (tbfX9 w h)) tyX9 tyX9_ok nmX9 hown hK hP hD hS 0 rfl rfl 2 (by decide) (hts (.fieldLink RX9 19 "PowerRails$Ways" "behindKnown" "[Z") (tbC _ wd164)) (fun _ h9 => h9) rfl hin rfl (by decide +kernel) rfl rfl (Nat.le_of_ble_eq_true rfl) dX9_init_22 (fun H locs hP hD hS => ?_)
  obtain ⟨hP, hD⟩ : xPD D A [oX9 wy co q1 q3 0 0 0, oAI q1 cI 64 (fun _ => 0), oAI q3 cZ 64 (fun _ => 0)] H := ⟨hP, hD⟩
  refine lv_aload_n hx hb dX9_init_25 rfl (lv_at hl 0 rfl) ?_
  refine lv_iconst (v := 0) hx hb dX9_init_26 (by decide) ?_
  refine va_put (D := D) (ci := 8) (v := .int 0) (ty := .boolean) (C := RX9) (T := TX9) (N := 6) hx hb hts (fun w h => tbC w (tbfX9 w h)) tyX9 tyX9_ok nmX9 hown hK hP hD hS 0 rfl rfl 3 (by decide) (hts (.fieldLink RX9 23 "PowerRails$Ways" "peaksKnown" "Z") (tbC _ wd165)) (fun _ h9 => h9) rfl (by decide +kernel) (by decide) rfl (Nat.le_of_ble_eq_true rfl) dX9_init_27 (fun H locs hP hD hS => ?_)
  obtain ⟨hP, hD⟩ : xPD D A [oX9 wy co q1 q3 0 0 0, oAI q1 cI 64 (fun _ => 0), oAI q3 cZ 64 (fun _ => 0)] H := ⟨hP, hD⟩
  refine W.widen (k := 2) (n := 128) (by decide) (by decide) ?_
  exact W.vret hx hb hr (fun t ht hW => ⟨⟨(), rfl, trivial, ⟨q1, q3, xB_of9 ht hW hP hK hD [0, 1, 2] (by decide +kernel) rfl⟩⟩, hS.F ht⟩) hS.2.2 dX9_init_30
abbrev W_n_Stagger (cI cJ cZ cG cH : ClassId) (sg : Nat) (co : Nat) : va_W := [(sg, .inr (6, [.null, .null, .int 0, .int 0]))]
abbrev Q_n_Stagger (D : va_G) (cI cJ cZ cG cH : ClassId) (sg : Nat) (co : Nat) (A : Nat → Prop) : Array Value → State → Outcome → State → Prop := va_Qv (fun (_ : Unit) => True) (fun _ t => ∃ (srwa : Nat), xB D (tyL cI cJ cZ cG cH) [oX7 sg co srwa 0 (-4), oAI srwa cI 8 (fun _ => 0)] A t) A
abbrev rm_n_Stagger : Room := { frames := 1, cells := 1, slots := 8, locals := 12 }
set_option maxRecDepth 100000 in
set_option maxHeartbeats 40000000 in
theorem c_n_Stagger (l : Launch) (D : va_G) (cI cJ cZ cG cH : ClassId) (sz : Nat) (sg : Nat) (co : Nat) : Met l yX7_init (wt yX7_init cX7_init 2 none) rm_n_Stagger (xPc [.ref sg, .ref co] D (tyL cI cJ cZ cG cH) (W_n_Stagger cI cJ cZ cG cH sg co) sz) (Q_n_Stagger D cI cJ cZ cG cH sg co (va_A (W_n_Stagger cI cJ cZ cG cH sg co) sz)) 1 8 (va_A (W_n_Stagger cI cJ cZ cG cH sg co) sz) := by
  refine xMet (cc := cX7_init) (maxL := 2) (ret := none) (Qf := Q_n_Stagger D cI cJ cZ cG cH sg co) (by decide) rfl (Nat.le_of_ble_eq_true rfl) ?_
  intro p e s m below meth c ls A hx hb hr hml hts hown hlocks hnm hsz hP hK hD hA hS hl
  have hown : s.vm.findClass RX7 = some m.cls := hown
  have hin : meth.name = "<init>" := hnm
  have hP : va_P D vwCl [(sg, .inr (6, [.null, .null, .int 0, .int 0]))] s.heap := hP
  have hD : va_D A [(sg, .inr (6, [.null, .null, .int 0, .int 0]))] := hD
  have hl : lv_has ls 2 [(0, .ref sg), (1, .ref co)] := hl
  refine lv_aload_n hx hb dX7_init_0 rfl (lv_at hl 0 rfl) ?_
  refine W.objInit hx hb hown (hts (.methodLink RX7 3 objectInit) (tbC _ wd175)) (hts (.instanceMethod objectInit) (tbC _ wd75)) (hts (.code objectInit ⟨#[0xb1]⟩ 1 none) (tbC _ wd949)) rfl (by rw [hml]; exact hl.1) rfl dX7_init_1 (Nat.le_of_ble_eq_true rfl) (Nat.le_of_ble_eq_true rfl) ?_
  refine W.eq (g2 := F0 m 4 ls []) rfl ?_
  refine lv_aload_n hx hb dX7_init_4 rfl (lv_at hl 0 rfl) ?_
  refine lv_aload_n hx hb dX7_init_5 rfl (lv_at hl 1 rfl) ?_
  refine va_putF (D := D) (ci := 6) (v := .ref co) (ty := (.object "PowerRails$Course")) (C := RX7) (T := TX7) (N := 4) hx hb hts (fun w h => tbC w (tbfX7 w h)) tyX7 tyX7_ok nmX7 hown hK hP hD hS 0 rfl rfl 0 (by decide) (hts (.fieldLink RX7 9 "PowerRails$Stagger" "course" "LPowerRails$Course;") (tbC _ wd176)) (fun _ h9 => h9) rfl hin rfl (by decide +kernel) rfl rfl (Nat.le_of_ble_eq_true rfl) dX7_init_6 (fun H locs hP hD hS => ?_)
  have hPD : xPD D A [(sg, .inr (6, [.ref co, .null, .int 0, .int 0]))] H := ⟨hP, hD⟩
  obtain ⟨hP, hD⟩ := hPD
  refine lv_aload_n hx hb dX7_init_9 rfl (lv_at hl 0 rfl) ?_
  refine lv_bipush (v := 8) hx hb dX7_init_10 (by decide) ?_
  refine va_newa (atype := .int) (ty := .int) (a0 := (8, .inl (fun _ => 0))) (N' := 8) hx hb (hts (.arrayClass .int) (tbC _ wd86)) rfl hK hP hD hS hA (xnewI _) (by decide) (by decide) (by decide) (Nat.le_of_ble_eq_true rfl) (Nat.le_of_ble_eq_true rfl) dX7_init_12 (fun q1 cA2 H hKn hP hD hS => ?_)
  obtain rfl : cI = cA2 := xcls hKn (i := 0) (j := 5) rfl rfl (Or.inl rfl)
  have hPD : xPD D A [(sg, .inr (6, [.ref co, .null, .int 0, .int 0])), oAI q1 cI 8 (fun _ => 0)] H := ⟨hP, hD⟩
  obtain ⟨hP, hD⟩ := hPD
  refine W.widen (k := 1) (n := 8) (by decide) (by decide) ?_
  refine va_putF (D := D) (ci := 6) (v := .ref q1) (ty := (.array .int)) (C := RX7) (T := TX7) (N := 4) hx hb hts (fun w h => tbC w (tbfX7 w h)) tyX7 tyX7_ok nmX7 hown hK hP hD hS 0 rfl rfl 1 (by decide) (hts (.fieldLink RX7 15 "PowerRails$Stagger" "row" "[I") (tbC _ wd177)) (fun _ h9 => h9) rfl hin rfl (by decide +kernel) rfl rfl (Nat.le_of_ble_eq_true rfl) dX7_init_14 (fun H locs hP hD hS => ?_)
  obtain ⟨hP, hD⟩ : xPD D A [oX7 sg co q1 0 0, oAI q1 cI 8 (fun _ => 0)] H := ⟨hP, hD⟩
  refine lv_aload_n hx hb dX7_init_17 rfl (lv_at hl 0 rfl) ?_
  refine lv_iconst (v := 0) hx hb dX7_init_18 (by decide) ?_
  refine va_put (D := D) (ci := 6) (v := .int 0) (ty := .boolean) (C := RX7) (T := TX7) (N := 4) hx hb hts (fun w h => tbC w (tbfX7 w h)) tyX7 tyX7_ok nmX7 hown hK hP hD hS 0 rfl rfl 2 (by decide) (hts (.fieldLink RX7 19 "PowerRails$Stagger" "known" "Z") (tbC _ wd179)) (fun _ h9 => h9) rfl (by decide +kernel) (by decide) rfl (Nat.le_of_ble_eq_true rfl) dX7_init_19 (fun H locs hP hD hS => ?_)
  obtain ⟨hP, hD⟩ : xPD D A [oX7 sg co q1 0 0, oAI q1 cI 8 (fun _ => 0)] H := ⟨hP, hD⟩
  refine lv_aload_n hx hb dX7_init_22 rfl (lv_at hl 0 rfl) ?_
  refine lv_bipush (v := (-4)) hx hb dX7_init_23 (by decide) ?_
  refine va_put (D := D) (ci := 6) (v := .int (-4)) (ty := .int) (C := RX7) (T := TX7) (N := 4) hx hb hts (fun w h => tbC w (tbfX7 w h)) tyX7 tyX7_ok nmX7 hown hK hP hD hS 0 rfl rfl 3 (by decide) (hts (.fieldLink RX7 23 "PowerRails$Stagger" "last" "I") (tbC _ wd181)) (fun _ h9 => h9) rfl (by decide +kernel) rfl rfl (Nat.le_of_ble_eq_true rfl) dX7_init_25 (fun H locs hP hD hS => ?_)
  obtain ⟨hP, hD⟩ : xPD D A [oX7 sg co q1 0 (-4), oAI q1 cI 8 (fun _ => 0)] H := ⟨hP, hD⟩
  refine W.widen (k := 1) (n := 8) (by decide) (by decide) ?_
  exact W.vret hx hb hr (fun t ht hW => ⟨⟨(), rfl, trivial, ⟨q1, xB_of9 ht hW hP hK hD [0, 1] (by decide +kernel) rfl⟩⟩, hS.F ht⟩) hS.2.2 dX7_init_28
abbrev W_n_Plan (cI cJ cZ cG cH : ClassId) (pl : Nat) : va_W := [(pl, .inr (2, [.null, .null, .int 0, .int 0, .int 0, .int 0]))]
abbrev Q_n_Plan (D : va_G) (cI cJ cZ cG cH : ClassId) (pl : Nat) (A : Nat → Prop) : Array Value → State → Outcome → State → Prop := va_Qv (fun (_ : Unit) => True) (fun _ t => ∃ (pna : Nat) (pta : Nat), xB D (tyL cI cJ cZ cG cH) [oX3 pl pna pta 0 999 0 5, oAI pna cI 64 (fun _ => 0), oAJ pta cJ 64 (fun _ => 0)] A t) A
abbrev rm_n_Plan : Room := { frames := 1, cells := 2, slots := 128, locals := 12 }
set_option maxRecDepth 100000 in
set_option maxHeartbeats 40000000 in
theorem c_n_Plan (l : Launch) (D : va_G) (cI cJ cZ cG cH : ClassId) (sz : Nat) (pl : Nat) : Met l yX3_init (wt yX3_init cX3_init 1 none) rm_n_Plan (xPc [.ref pl] D (tyL cI cJ cZ cG cH) (W_n_Plan cI cJ cZ cG cH pl) sz) (Q_n_Plan D cI cJ cZ cG cH pl (va_A (W_n_Plan cI cJ cZ cG cH pl) sz)) 2 128 (va_A (W_n_Plan cI cJ cZ cG cH pl) sz) := by
  refine xMet (cc := cX3_init) (maxL := 1) (ret := none) (Qf := Q_n_Plan D cI cJ cZ cG cH pl) (by decide) rfl (Nat.le_of_ble_eq_true rfl) ?_
  intro p e s m below meth c ls A hx hb hr hml hts hown hlocks hnm hsz hP hK hD hA hS hl
  have hown : s.vm.findClass RX3 = some m.cls := hown
  have hin : meth.name = "<init>" := hnm
  have hP : va_P D vwCl [(pl, .inr (2, [.null, .null, .int 0, .int 0, .int 0, .int 0]))] s.heap := hP
  have hD : va_D A [(pl, .inr (2, [.null, .null, .int 0, .int 0, .int 0, .int 0]))] := hD
  have hl : lv_has ls 1 [(0, .ref pl)] := hl
  refine lv_aload_n hx hb dX3_init_0 rfl (lv_at hl 0 rfl) ?_
  refine W.objInit hx hb hown (hts (.methodLink RX3 3 objectInit) (tbC _ wd201)) (hts (.instanceMethod objectInit) (tbC _ wd75)) (hts (.code objectInit ⟨#[0xb1]⟩ 1 none) (tbC _ wd949)) rfl (by rw [hml]; exact hl.1) rfl dX3_init_1 (Nat.le_of_ble_eq_true rfl) (Nat.le_of_ble_eq_true rfl) ?_
  refine W.eq (g2 := F0 m 4 ls []) rfl ?_
  refine lv_aload_n hx hb dX3_init_4 rfl (lv_at hl 0 rfl) ?_
  refine lv_bipush (v := 64) hx hb dX3_init_5 (by decide) ?_
  refine va_newa (atype := .int) (ty := .int) (a0 := (64, .inl (fun _ => 0))) (N' := 64) hx hb (hts (.arrayClass .int) (tbC _ wd86)) rfl hK hP hD hS hA (xnewI _) (by decide) (by decide) (by decide) (Nat.le_of_ble_eq_true rfl) (Nat.le_of_ble_eq_true rfl) dX3_init_7 (fun q1 cA2 H hKn hP hD hS => ?_)
  obtain rfl : cI = cA2 := xcls hKn (i := 0) (j := 5) rfl rfl (Or.inl rfl)
  have hPD : xPD D A [(pl, .inr (2, [.null, .null, .int 0, .int 0, .int 0, .int 0])), oAI q1 cI 64 (fun _ => 0)] H := ⟨hP, hD⟩
  obtain ⟨hP, hD⟩ := hPD
  refine W.widen (k := 1) (n := 64) (by decide) (by decide) ?_
  refine va_putF (D := D) (ci := 2) (v := .ref q1) (ty := (.array .int)) (C := RX3) (T := TX3) (N := 6) hx hb hts (fun w h => tbC w (tbfX3 w h)) tyX3 tyX3_ok nmX3 hown hK hP hD hS 0 rfl rfl 0 (by decide) (hts (.fieldLink RX3 11 "PowerRails$Plan" "numbers" "[I") (tbC _ wd202)) (fun _ h9 => h9) rfl hin rfl (by decide +kernel) rfl rfl (Nat.le_of_ble_eq_true rfl) dX3_init_9 (fun H locs hP hD hS => ?_)
  have hPD : xPD D A [(pl, .inr (2, [.ref q1, .null, .int 0, .int 0, .int 0, .int 0])), oAI q1 cI 64 (fun _ => 0)] H := ⟨hP, hD⟩
  obtain ⟨hP, hD⟩ := hPD
  refine lv_aload_n hx hb dX3_init_12 rfl (lv_at hl 0 rfl) ?_
  refine lv_bipush (v := 64) hx hb dX3_init_13 (by decide) ?_
  refine va_newa (atype := .long) (ty := .long) (a0 := (64, .inr (.inl (fun _ => 0)))) (N' := 64) hx hb (hts (.arrayClass .long) (tbC _ wd225)) rfl hK hP hD hS hA (xnewJ _) (by decide) (by decide) (by decide) (Nat.le_of_ble_eq_true rfl) (Nat.le_of_ble_eq_true rfl) dX3_init_15 (fun q3 cA4 H hKn hP hD hS => ?_)
  obtain rfl : cJ = cA4 := xcls hKn (i := 1) (j := 5) rfl rfl (Or.inl rfl)
  have hPD : xPD D A [(pl, .inr (2, [.ref q1, .null, .int 0, .int 0, .int 0, .int 0])), oAI q1 cI 64 (fun _ => 0), oAJ q3 cJ 64 (fun _ => 0)] H := ⟨hP, hD⟩
  obtain ⟨hP, hD⟩ := hPD
  refine W.widen (k := 2) (n := 128) (by decide) (by decide) ?_
  refine va_putF (D := D) (ci := 2) (v := .ref q3) (ty := (.array .long)) (C := RX3) (T := TX3) (N := 6) hx hb hts (fun w h => tbC w (tbfX3 w h)) tyX3 tyX3_ok nmX3 hown hK hP hD hS 0 rfl rfl 1 (by decide) (hts (.fieldLink RX3 15 "PowerRails$Plan" "tables" "[J") (tbC _ wd203)) (fun _ h9 => h9) rfl hin rfl (by decide +kernel) rfl rfl (Nat.le_of_ble_eq_true rfl) dX3_init_17 (fun H locs hP hD hS => ?_)
  obtain ⟨hP, hD⟩ : xPD D A [oX3 pl q1 q3 0 0 0 0, oAI q1 cI 64 (fun _ => 0), oAJ q3 cJ 64 (fun _ => 0)] H := ⟨hP, hD⟩
  refine lv_aload_n hx hb dX3_init_20 rfl (lv_at hl 0 rfl) ?_
  refine lv_iconst (v := 0) hx hb dX3_init_21 (by decide) ?_
  refine va_put (D := D) (ci := 2) (v := .int 0) (ty := .int) (C := RX3) (T := TX3) (N := 6) hx hb hts (fun w h => tbC w (tbfX3 w h)) tyX3 tyX3_ok nmX3 hown hK hP hD hS 0 rfl rfl 2 (by decide) (hts (.fieldLink RX3 19 "PowerRails$Plan" "rails" "I") (tbC _ wd205)) (fun _ h9 => h9) rfl (by decide +kernel) rfl rfl (Nat.le_of_ble_eq_true rfl) dX3_init_22 (fun H locs hP hD hS => ?_)
  obtain ⟨hP, hD⟩ : xPD D A [oX3 pl q1 q3 0 0 0 0, oAI q1 cI 64 (fun _ => 0), oAJ q3 cJ 64 (fun _ => 0)] H := ⟨hP, hD⟩
  refine lv_aload_n hx hb dX3_init_25 rfl (lv_at hl 0 rfl) ?_
  refine lv_sipush (v := 999) hx hb dX3_init_26 (by decide) ?_
  refine va_put (D := D) (ci := 2) (v := .int 999) (ty := .int) (C := RX3) (T := TX3) (N := 6) hx hb hts (fun w h => tbC w (tbfX3 w h)) tyX3 tyX3_ok nmX3 hown hK hP hD hS 0 rfl rfl 3 (by decide) (hts (.fieldLink RX3 23 "PowerRails$Plan" "limit" "I") (tbC _ wd212)) (fun _ h9 => h9) rfl (by decide +kernel) rfl rfl (Nat.le_of_ble_eq_true rfl) dX3_init_29 (fun H locs hP hD hS => ?_)
  obtain ⟨hP, hD⟩ : xPD D A [oX3 pl q1 q3 0 999 0 0, oAI q1 cI 64 (fun _ => 0), oAJ q3 cJ 64 (fun _ => 0)] H := ⟨hP, hD⟩
  refine lv_aload_n hx hb dX3_init_32 rfl (lv_at hl 0 rfl) ?_
  refine lv_iconst (v := 0) hx hb dX3_init_33 (by decide) ?_
  refine va_put (D := D) (ci := 2) (v := .int 0) (ty := .int) (C := RX3) (T := TX3) (N := 6) hx hb hts (fun w h => tbC w (tbfX3 w h)) tyX3 tyX3_ok nmX3 hown hK hP hD hS 0 rfl rfl 4 (by decide) (hts (.fieldLink RX3 26 "PowerRails$Plan" "retry" "I") (tbC _ wd217)) (fun _ h9 => h9) rfl (by decide +kernel) rfl rfl (Nat.le_of_ble_eq_true rfl) dX3_init_34 (fun H locs hP hD hS => ?_)
  obtain ⟨hP, hD⟩ : xPD D A [oX3 pl q1 q3 0 999 0 0, oAI q1 cI 64 (fun _ => 0), oAJ q3 cJ 64 (fun _ => 0)] H := ⟨hP, hD⟩
  refine lv_aload_n hx hb dX3_init_37 rfl (lv_at hl 0 rfl) ?_
  refine lv_iconst (v := 5) hx hb dX3_init_38 (by decide) ?_
  refine va_put (D := D) (ci := 2) (v := .int 5) (ty := .int) (C := RX3) (T := TX3) (N := 6) hx hb hts (fun w h => tbC w (tbfX3 w h)) tyX3 tyX3_ok nmX3 hown hK hP hD hS 0 rfl rfl 5 (by decide) (hts (.fieldLink RX3 29 "PowerRails$Plan" "behind" "I") (tbC _ wd221)) (fun _ h9 => h9) rfl (by decide +kernel) rfl rfl (Nat.le_of_ble_eq_true rfl) dX3_init_39 (fun H locs hP hD hS => ?_)
  obtain ⟨hP, hD⟩ : xPD D A [oX3 pl q1 q3 0 999 0 5, oAI q1 cI 64 (fun _ => 0), oAJ q3 cJ 64 (fun _ => 0)] H := ⟨hP, hD⟩
  refine W.widen (k := 2) (n := 128) (by decide) (by decide) ?_
  exact W.vret hx hb hr (fun t ht hW => ⟨⟨(), rfl, trivial, ⟨q1, q3, xB_of9 ht hW hP hK hD [0, 1, 2] (by decide +kernel) rfl⟩⟩, hS.F ht⟩) hS.2.2 dX3_init_42
abbrev W_n_Sheets (cI cJ cZ cG cH : ClassId) (sh : Nat) : va_W := [(sh, .inr (5, [.null, .null, .null]))]
abbrev Q_n_Sheets (D : va_G) (cI cJ cZ cG cH : ClassId) (sh : Nat) (A : Nat → Prop) : Array Value → State → Outcome → State → Prop := va_Qv (fun (_ : Unit) => True) (fun _ t => ∃ (sca : Nat) (sla : Nat) (ssa : Nat) (rr : Nat → Nat) (szs : Nat → Int32), (∀ j, j < 4 → szs j = -4) ∧ xB D (tyL cI cJ cZ cG cH) [oX6 sh sca sla ssa, oAM sca cG 4 rr, oAI (rr 0) cI 40 (fun _ => 0), oAI (rr 1) cI 40 (fun _ => 0), oAI (rr 2) cI 40 (fun _ => 0), oAI (rr 3) cI 40 (fun _ => 0), oAI sla cI 4 (fun _ => 0), oAI ssa cI 4 szs] A t) A
abbrev rm_n_Sheets : Room := { frames := 1, cells := 7, slots := 172, locals := 23 }
set_option maxRecDepth 100000 in
set_option maxHeartbeats 40000000 in
theorem c_n_Sheets (l : Launch) (D : va_G) (cI cJ cZ cG cH : ClassId) (sz : Nat) (sh : Nat) : Met l yX6_init (wt yX6_init cX6_init 1 none) rm_n_Sheets (xPcA [.ref sh] D (tyL cI cJ cZ cG cH) (W_n_Sheets cI cJ cZ cG cH sh) sz) (Q_n_Sheets D cI cJ cZ cG cH sh (va_A (W_n_Sheets cI cJ cZ cG cH sh) sz)) 7 172 (va_A (W_n_Sheets cI cJ cZ cG cH sh) sz) := by
  refine xMetA (cc := cX6_init) (maxL := 1) (ret := none) (Qf := Q_n_Sheets D cI cJ cZ cG cH sh) (by decide) rfl (Nat.le_of_ble_eq_true rfl) ?_
  intro p e s m below meth c ls A hx hb hr hml hts hown hlocks hnm hsz hP hK hD hA hS hl hovI hovJ
  have hown : s.vm.findClass RX6 = some m.cls := hown
  have hin : meth.name = "<init>" := hnm
  have hP : va_P D vwCl [(sh, .inr (5, [.null, .null, .null]))] s.heap := hP
  have hD : va_D A [(sh, .inr (5, [.null, .null, .null]))] := hD
  have hl : lv_has ls 1 [(0, .ref sh)] := hl
  refine lv_aload_n hx hb dX6_init_0 rfl (lv_at hl 0 rfl) ?_
  refine W.objInit hx hb hown (hts (.methodLink RX6 3 objectInit) (tbC _ wd187)) (hts (.instanceMethod objectInit) (tbC _ wd75)) (hts (.code objectInit ⟨#[0xb1]⟩ 1 none) (tbC _ wd949)) rfl (by rw [hml]; exact hl.1) rfl dX6_init_1 (Nat.le_of_ble_eq_true rfl) (Nat.le_of_ble_eq_true rfl) ?_
  refine W.eq (g2 := F0 m 4 ls []) rfl ?_
  refine lv_aload_n hx hb dX6_init_4 rfl (lv_at hl 0 rfl) ?_
  refine lv_iconst (v := 4) hx hb dX6_init_5 (by decide) ?_
  refine lv_bipush (v := 40) hx hb dX6_init_6 (by decide) ?_
  refine xmna (ty := .int) (z := (40, .inl (fun _ => 0))) (N' := 4) (K' := 40) (tA := 3) (tE := 0) hx hb hown (by rw [xs_I]; exact (hts (.classLink RX6 11 "[[I") (tbC _ wd188))) hovI (hts (.arrayClass .int) (tbC _ wd86)) hK rfl rfl hP hD hS hA (by decide) (by decide) (by decide) (by decide) (by decide) (by decide) (by decide) (by decide) (by decide) (fun _ h9 => by cases h9) (Nat.le_of_ble_eq_true rfl) (Nat.le_of_ble_eq_true rfl) (xinI _) dX6_init_8 (fun q1 r2 H locs hP hD hS => ?_)
  have hPD : xPD D A [(sh, .inr (5, [.null, .null, .null])), oAM q1 cG 4 r2, oAI (r2 0) cI 40 (fun _ => 0), oAI (r2 1) cI 40 (fun _ => 0), oAI (r2 2) cI 40 (fun _ => 0), oAI (r2 3) cI 40 (fun _ => 0)] H := ⟨hP, hD⟩
  obtain ⟨hP, hD⟩ := hPD
  refine W.widen (k := 5) (n := 164) (by decide) (by decide) ?_
  refine va_putF (D := D) (ci := 5) (v := .ref q1) (ty := (.array (.array .int))) (C := RX6) (T := TX6) (N := 3) hx hb hts (fun w h => tbC w (tbfX6 w h)) tyX6 tyX6_ok nmX6 hown hK hP hD hS 0 rfl rfl 0 (by decide) (hts (.fieldLink RX6 13 "PowerRails$Sheets" "cells" "[[I") (tbC _ wd191)) (fun _ h9 => h9) rfl hin rfl (by decide +kernel) rfl rfl (Nat.le_of_ble_eq_true rfl) dX6_init_12 (fun H locs hP hD hS => ?_)
  have hPD : xPD D A [(sh, .inr (5, [.ref q1, .null, .null])), oAM q1 cG 4 r2, oAI (r2 0) cI 40 (fun _ => 0), oAI (r2 1) cI 40 (fun _ => 0), oAI (r2 2) cI 40 (fun _ => 0), oAI (r2 3) cI 40 (fun _ => 0)] H := ⟨hP, hD⟩
  obtain ⟨hP, hD⟩ := hPD
  refine lv_aload_n hx hb dX6_init_15 rfl (lv_at hl 0 rfl) ?_
  refine lv_iconst (v := 4) hx hb dX6_init_16 (by decide) ?_
  refine va_newa (atype := .int) (ty := .int) (a0 := (4, .inl (fun _ => 0))) (N' := 4) hx hb (hts (.arrayClass .int) (tbC _ wd86)) rfl hK hP hD hS hA (xnewI _) (by decide) (by decide) (by decide) (Nat.le_of_ble_eq_true rfl) (Nat.le_of_ble_eq_true rfl) dX6_init_17 (fun q3 cA4 H hKn hP hD hS => ?_)
  obtain rfl : cI = cA4 := xcls hKn (i := 0) (j := 5) rfl rfl (Or.inl rfl)
  have hPD : xPD D A [(sh, .inr (5, [.ref q1, .null, .null])), oAM q1 cG 4 r2, oAI (r2 0) cI 40 (fun _ => 0), oAI (r2 1) cI 40 (fun _ => 0), oAI (r2 2) cI 40 (fun _ => 0), oAI (r2 3) cI 40 (fun _ => 0), oAI q3 cI 4 (fun _ => 0)] H := ⟨hP, hD⟩
  obtain ⟨hP, hD⟩ := hPD
  refine W.widen (k := 6) (n := 168) (by decide) (by decide) ?_
  refine va_putF (D := D) (ci := 5) (v := .ref q3) (ty := (.array .int)) (C := RX6) (T := TX6) (N := 3) hx hb hts (fun w h => tbC w (tbfX6 w h)) tyX6 tyX6_ok nmX6 hown hK hP hD hS 0 rfl rfl 1 (by decide) (hts (.fieldLink RX6 16 "PowerRails$Sheets" "lanes" "[I") (tbC _ wd193)) (fun _ h9 => h9) rfl hin rfl (by decide +kernel) rfl rfl (Nat.le_of_ble_eq_true rfl) dX6_init_19 (fun H locs hP hD hS => ?_)
  have hPD : xPD D A [(sh, .inr (5, [.ref q1, .ref q3, .null])), oAM q1 cG 4 r2, oAI (r2 0) cI 40 (fun _ => 0), oAI (r2 1) cI 40 (fun _ => 0), oAI (r2 2) cI 40 (fun _ => 0), oAI (r2 3) cI 40 (fun _ => 0), oAI q3 cI 4 (fun _ => 0)] H := ⟨hP, hD⟩
  obtain ⟨hP, hD⟩ := hPD
  refine lv_aload_n hx hb dX6_init_22 rfl (lv_at hl 0 rfl) ?_
  refine lv_iconst (v := 4) hx hb dX6_init_23 (by decide) ?_
  refine va_newa (atype := .int) (ty := .int) (a0 := (4, .inl (fun _ => 0))) (N' := 4) hx hb (hts (.arrayClass .int) (tbC _ wd86)) rfl hK hP hD hS hA (xnewI _) (by decide) (by decide) (by decide) (Nat.le_of_ble_eq_true rfl) (Nat.le_of_ble_eq_true rfl) dX6_init_24 (fun q5 cA6 H hKn hP hD hS => ?_)
  obtain rfl : cI = cA6 := xcls hKn (i := 0) (j := 5) rfl rfl (Or.inl rfl)
  have hPD : xPD D A [(sh, .inr (5, [.ref q1, .ref q3, .null])), oAM q1 cG 4 r2, oAI (r2 0) cI 40 (fun _ => 0), oAI (r2 1) cI 40 (fun _ => 0), oAI (r2 2) cI 40 (fun _ => 0), oAI (r2 3) cI 40 (fun _ => 0), oAI q3 cI 4 (fun _ => 0), oAI q5 cI 4 (fun _ => 0)] H := ⟨hP, hD⟩
  obtain ⟨hP, hD⟩ := hPD
  refine W.widen (k := 7) (n := 172) (by decide) (by decide) ?_
  refine va_putF (D := D) (ci := 5) (v := .ref q5) (ty := (.array .int)) (C := RX6) (T := TX6) (N := 3) hx hb hts (fun w h => tbC w (tbfX6 w h)) tyX6 tyX6_ok nmX6 hown hK hP hD hS 0 rfl rfl 2 (by decide) (hts (.fieldLink RX6 20 "PowerRails$Sheets" "sizes" "[I") (tbC _ wd195)) (fun _ h9 => h9) rfl hin rfl (by decide +kernel) rfl rfl (Nat.le_of_ble_eq_true rfl) dX6_init_26 (fun H locs hP hD hS => ?_)
  obtain ⟨hP, hD⟩ : xPD D A [oX6 sh q1 q3 q5, oAM q1 cG 4 r2, oAI (r2 0) cI 40 (fun _ => 0), oAI (r2 1) cI 40 (fun _ => 0), oAI (r2 2) cI 40 (fun _ => 0), oAI (r2 3) cI 40 (fun _ => 0), oAI q3 cI 4 (fun _ => 0), oAI q5 cI 4 (fun _ => 0)] H := ⟨hP, hD⟩
  refine lv_aload_n hx hb dX6_init_29 rfl (lv_at hl 0 rfl) ?_
  refine va_get (D := D) (ci := 5) (v := .ref q5) (C := RX6) (T := TX6) (N := 3) hx hb hts (fun w h => tbC w (tbfX6 w h)) hown hK hP 0 rfl rfl 2 (by decide) (hts (.fieldLink RX6 20 "PowerRails$Sheets" "sizes" "[I") (tbC _ wd195)) (fun _ h9 => h9) rfl dX6_init_30 ?_
  refine lv_bipush (v := (-4)) hx hb dX6_init_33 (by decide) ?_
  obtain ⟨hPc, hDc, hFc, hC9⟩ := xpk (wc := W_fillI cI cJ cZ cG cH q5 (-4 : Int32) 4 (fun _ => 0)) hP hD hS hA [7] (by decide +kernel) rfl
  refine va_callv (va_runS (As := [.ref q5, .int (-4)]) (rest := []) ⟨hx, hb, hml, hown, hts⟩ (c_fillI l D cI cJ cZ cG cH H.size q5 (-4 : Int32) 4 (fun _ => 0) (by decide)) (va_cwS 2 hts (xGS tbC wd189 wd190 wd58 wd957) rfl rfl rfl (by decide +kernel) ⟨Nat.le_of_ble_eq_true rfl, Nat.le_of_ble_eq_true rfl⟩) ⟨xPc_blind, xPc_pre hPc hK hDc⟩ rfl rfl hl.1 rfl (lv_room (Nat.le_of_ble_eq_true rfl)) dX6_init_35 ⟨Nat.le_of_ble_eq_true rfl, Nat.le_of_ble_eq_true rfl⟩) hS (fun q _ h => hFc q h) hFc (fun u t H1 locs ht hvm hw7 hB hz1 hk1 hS => ?_)
  obtain ⟨g_8, hf8_0, hf8_1, hP1, hK1, hD1⟩ := hB
  rw [ht] at hP1
  obtain ⟨hP, hD⟩ : xPD D A [oX6 sh q1 q3 q5, oAM q1 cG 4 r2, oAI (r2 0) cI 40 (fun _ => 0), oAI (r2 1) cI 40 (fun _ => 0), oAI (r2 2) cI 40 (fun _ => 0), oAI (r2 3) cI 40 (fun _ => 0), oAI q3 cI 4 (fun _ => 0), oAI q5 cI 4 g_8] H1 := xjn 7 hP hD [7] [0, 1, 2, 3, 4, 5, 6] hC9 rfl (by decide +kernel) (by decide +kernel) hk1 hFc hP1 hD1
  generalize H1 = H at hP hS ⊢
  have hf8_0 : ∀ j, j < 4 → g_8 j = (-4 : Int32) := hf8_0
  have hf8_1 : M_fillI 4 (-4 : Int32) (fun _ => 0) = g_8 := hf8_1
  refine W.widen (k := 7) (n := 172) (by decide) (by decide) ?_
  exact W.vret hx hb hr (fun t ht hW => ⟨⟨(), rfl, trivial, ⟨q1, q3, q5, r2, g_8, hf8_0, xB_of9 ht hW hP hK hD [0, 1, 2, 3, 4, 5, 6, 7] (by decide +kernel) rfl⟩⟩, hS.F ht⟩) hS.2.2 dX6_init_38
abbrev W_n_Reader (cI cJ cZ cG cH : ClassId) (rd : Nat) (tp : Nat) (sp : Nat) : va_W := [(rd, .inr (3, [.null, .null, .null, .null, .null, .int 0, .int 0, .int 0, .int 0, .int 0, .int 0, .int 0, .int 0]))]
abbrev Q_n_Reader (D : va_G) (cI cJ cZ cG cH : ClassId) (rd : Nat) (tp : Nat) (sp : Nat) (A : Nat → Prop) : Array Value → State → Outcome → State → Prop := va_Qv (fun (_ : Unit) => True) (fun _ t => ∃ (rfa : Nat) (rya : Nat) (rla : Nat) (ryf : Nat → Nat) (rlf : Nat → Nat), xB D (tyL cI cJ cZ cG cH) [oX4 rd tp rfa rya rla sp 0 0 0 0 0 0 0 0, oAI rfa cI 8 (fun _ => 0), oAM rya cH 7 ryf, oAJ (ryf 0) cJ 8 (fun _ => 0), oAJ (ryf 1) cJ 8 (fun _ => 0), oAJ (ryf 2) cJ 8 (fun _ => 0), oAJ (ryf 3) cJ 8 (fun _ => 0), oAJ (ryf 4) cJ 8 (fun _ => 0), oAJ (ryf 5) cJ 8 (fun _ => 0), oAJ (ryf 6) cJ 8 (fun _ => 0), oAM rla cH 7 rlf, oAJ (rlf 0) cJ 8 (fun _ => 0), oAJ (rlf 1) cJ 8 (fun _ => 0), oAJ (rlf 2) cJ 8 (fun _ => 0), oAJ (rlf 3) cJ 8 (fun _ => 0), oAJ (rlf 4) cJ 8 (fun _ => 0), oAJ (rlf 5) cJ 8 (fun _ => 0), oAJ (rlf 6) cJ 8 (fun _ => 0)] A t) A
abbrev rm_n_Reader : Room := { frames := 1, cells := 17, slots := 134, locals := 12 }
set_option maxRecDepth 100000 in
set_option maxHeartbeats 40000000 in
theorem c_n_Reader (l : Launch) (D : va_G) (cI cJ cZ cG cH : ClassId) (sz : Nat) (rd : Nat) (tp : Nat) (sp : Nat) : Met l yX4_init (wt yX4_init cX4_init 3 none) rm_n_Reader (xPcA [.ref rd, .ref tp, .ref sp] D (tyL cI cJ cZ cG cH) (W_n_Reader cI cJ cZ cG cH rd tp sp) sz) (Q_n_Reader D cI cJ cZ cG cH rd tp sp (va_A (W_n_Reader cI cJ cZ cG cH rd tp sp) sz)) 17 134 (va_A (W_n_Reader cI cJ cZ cG cH rd tp sp) sz) := by
  refine xMetA (cc := cX4_init) (maxL := 3) (ret := none) (Qf := Q_n_Reader D cI cJ cZ cG cH rd tp sp) (by decide) rfl (Nat.le_of_ble_eq_true rfl) ?_
  intro p e s m below meth c ls A hx hb hr hml hts hown hlocks hnm hsz hP hK hD hA hS hl hovI hovJ
  have hown : s.vm.findClass RX4 = some m.cls := hown
  have hin : meth.name = "<init>" := hnm
  have hP : va_P D vwCl [(rd, .inr (3, [.null, .null, .null, .null, .null, .int 0, .int 0, .int 0, .int 0, .int 0, .int 0, .int 0, .int 0]))] s.heap := hP
  have hD : va_D A [(rd, .inr (3, [.null, .null, .null, .null, .null, .int 0, .int 0, .int 0, .int 0, .int 0, .int 0, .int 0, .int 0]))] := hD
  have hl : lv_has ls 3 [(0, .ref rd), (1, .ref tp), (2, .ref sp)] := hl
  refine lv_aload_n hx hb dX4_init_0 rfl (lv_at hl 0 rfl) ?_
  refine W.objInit hx hb hown (hts (.methodLink RX4 3 objectInit) (tbC _ wd230)) (hts (.instanceMethod objectInit) (tbC _ wd75)) (hts (.code objectInit ⟨#[0xb1]⟩ 1 none) (tbC _ wd949)) rfl (by rw [hml]; exact hl.1) rfl dX4_init_1 (Nat.le_of_ble_eq_true rfl) (Nat.le_of_ble_eq_true rfl) ?_
  refine W.eq (g2 := F0 m 4 ls []) rfl ?_
  refine lv_aload_n hx hb dX4_init_4 rfl (lv_at hl 0 rfl) ?_
  refine lv_aload_n hx hb dX4_init_5 rfl (lv_at hl 1 rfl) ?_
  refine va_putF (D := D) (ci := 3) (v := .ref tp) (ty := (.object "PowerRails$Tape")) (C := RX4) (T := TX4) (N := 13) hx hb hts (fun w h => tbC w (tbfX4 w h)) tyX4 tyX4_ok nmX4 hown hK hP hD hS 0 rfl rfl 0 (by decide) (hts (.fieldLink RX4 9 "PowerRails$Reader" "tape" "LPowerRails$Tape;") (tbC _ wd232)) (fun _ h9 => h9) rfl hin rfl (by decide +kernel) rfl rfl (Nat.le_of_ble_eq_true rfl) dX4_init_6 (fun H locs hP hD hS => ?_)
  have hPD : xPD D A [(rd, .inr (3, [.ref tp, .null, .null, .null, .null, .int 0, .int 0, .int 0, .int 0, .int 0, .int 0, .int 0, .int 0]))] H := ⟨hP, hD⟩
  obtain ⟨hP, hD⟩ := hPD
  refine lv_aload_n hx hb dX4_init_9 rfl (lv_at hl 0 rfl) ?_
  refine lv_aload_n hx hb dX4_init_10 rfl (lv_at hl 2 rfl) ?_
  refine va_put (D := D) (ci := 3) (v := .ref sp) (ty := (.object "PowerRails$Plan")) (C := RX4) (T := TX4) (N := 13) hx hb hts (fun w h => tbC w (tbfX4 w h)) tyX4 tyX4_ok nmX4 hown hK hP hD hS 0 rfl rfl 4 (by decide) (hts (.fieldLink RX4 15 "PowerRails$Reader" "plan" "LPowerRails$Plan;") (tbC _ wd236)) (fun _ h9 => h9) rfl (by decide +kernel) rfl rfl (Nat.le_of_ble_eq_true rfl) dX4_init_11 (fun H locs hP hD hS => ?_)
  have hPD : xPD D A [(rd, .inr (3, [.ref tp, .null, .null, .null, .ref sp, .int 0, .int 0, .int 0, .int 0, .int 0, .int 0, .int 0, .int 0]))] H := ⟨hP, hD⟩
  obtain ⟨hP, hD⟩ := hPD
  refine lv_aload_n hx hb dX4_init_14 rfl (lv_at hl 0 rfl) ?_
  refine lv_bipush (v := 8) hx hb dX4_init_15 (by decide) ?_
  refine va_newa (atype := .int) (ty := .int) (a0 := (8, .inl (fun _ => 0))) (N' := 8) hx hb (hts (.arrayClass .int) (tbC _ wd86)) rfl hK hP hD hS hA (xnewI _) (by decide) (by decide) (by decide) (Nat.le_of_ble_eq_true rfl) (Nat.le_of_ble_eq_true rfl) dX4_init_17 (fun q1 cA2 H hKn hP hD hS => ?_)
  obtain rfl : cI = cA2 := xcls hKn (i := 0) (j := 5) rfl rfl (Or.inl rfl)
  have hPD : xPD D A [(rd, .inr (3, [.ref tp, .null, .null, .null, .ref sp, .int 0, .int 0, .int 0, .int 0, .int 0, .int 0, .int 0, .int 0])), oAI q1 cI 8 (fun _ => 0)] H := ⟨hP, hD⟩
  obtain ⟨hP, hD⟩ := hPD
  refine W.widen (k := 1) (n := 8) (by decide) (by decide) ?_
  refine va_putF (D := D) (ci := 3) (v := .ref q1) (ty := (.array .int)) (C := RX4) (T := TX4) (N := 13) hx hb hts (fun w h => tbC w (tbfX4 w h)) tyX4 tyX4_ok nmX4 hown hK hP hD hS 0 rfl rfl 1 (by decide) (hts (.fieldLink RX4 19 "PowerRails$Reader" "firstUse" "[I") (tbC _ wd233)) (fun _ h9 => h9) rfl hin rfl (by decide +kernel) rfl rfl (Nat.le_of_ble_eq_true rfl) dX4_init_19 (fun H locs hP hD hS => ?_)
  have hPD : xPD D A [(rd, .inr (3, [.ref tp, .ref q1, .null, .null, .ref sp, .int 0, .int 0, .int 0, .int 0, .int 0, .int 0, .int 0, .int 0])), oAI q1 cI 8 (fun _ => 0)] H := ⟨hP, hD⟩
  obtain ⟨hP, hD⟩ := hPD
  refine lv_aload_n hx hb dX4_init_22 rfl (lv_at hl 0 rfl) ?_
  refine lv_bipush (v := 7) hx hb dX4_init_23 (by decide) ?_
  refine lv_bipush (v := 8) hx hb dX4_init_25 (by decide) ?_
  refine xmna (ty := .long) (z := (8, .inr (.inl (fun _ => 0)))) (N' := 7) (K' := 8) (tA := 4) (tE := 1) hx hb hown (by rw [xs_J]; exact (hts (.classLink RX4 25 "[[J") (tbC _ wd231))) hovJ (hts (.arrayClass .long) (tbC _ wd225)) hK rfl rfl hP hD hS hA (by decide) (by decide) (by decide) (by decide) (by decide) (by decide) (by decide) (by decide) (by decide) (fun _ h9 => by cases h9) (Nat.le_of_ble_eq_true rfl) (Nat.le_of_ble_eq_true rfl) (xinJ _) dX4_init_27 (fun q3 r4 H locs hP hD hS => ?_)
  have hPD : xPD D A [(rd, .inr (3, [.ref tp, .ref q1, .null, .null, .ref sp, .int 0, .int 0, .int 0, .int 0, .int 0, .int 0, .int 0, .int 0])), oAI q1 cI 8 (fun _ => 0), oAM q3 cH 7 r4, oAJ (r4 0) cJ 8 (fun _ => 0), oAJ (r4 1) cJ 8 (fun _ => 0), oAJ (r4 2) cJ 8 (fun _ => 0), oAJ (r4 3) cJ 8 (fun _ => 0), oAJ (r4 4) cJ 8 (fun _ => 0), oAJ (r4 5) cJ 8 (fun _ => 0), oAJ (r4 6) cJ 8 (fun _ => 0)] H := ⟨hP, hD⟩
  obtain ⟨hP, hD⟩ := hPD
  refine W.widen (k := 9) (n := 71) (by decide) (by decide) ?_
  refine va_putF (D := D) (ci := 3) (v := .ref q3) (ty := (.array (.array .long))) (C := RX4) (T := TX4) (N := 13) hx hb hts (fun w h => tbC w (tbfX4 w h)) tyX4 tyX4_ok nmX4 hown hK hP hD hS 0 rfl rfl 2 (by decide) (hts (.fieldLink RX4 27 "PowerRails$Reader" "any" "[[J") (tbC _ wd234)) (fun _ h9 => h9) rfl hin rfl (by decide +kernel) rfl rfl (Nat.le_of_ble_eq_true rfl) dX4_init_31 (fun H locs hP hD hS => ?_)
  have hPD : xPD D A [(rd, .inr (3, [.ref tp, .ref q1, .ref q3, .null, .ref sp, .int 0, .int 0, .int 0, .int 0, .int 0, .int 0, .int 0, .int 0])), oAI q1 cI 8 (fun _ => 0), oAM q3 cH 7 r4, oAJ (r4 0) cJ 8 (fun _ => 0), oAJ (r4 1) cJ 8 (fun _ => 0), oAJ (r4 2) cJ 8 (fun _ => 0), oAJ (r4 3) cJ 8 (fun _ => 0), oAJ (r4 4) cJ 8 (fun _ => 0), oAJ (r4 5) cJ 8 (fun _ => 0), oAJ (r4 6) cJ 8 (fun _ => 0)] H := ⟨hP, hD⟩
  obtain ⟨hP, hD⟩ := hPD
  refine lv_aload_n hx hb dX4_init_34 rfl (lv_at hl 0 rfl) ?_
  refine lv_bipush (v := 7) hx hb dX4_init_35 (by decide) ?_
  refine lv_bipush (v := 8) hx hb dX4_init_37 (by decide) ?_
  refine xmna (ty := .long) (z := (8, .inr (.inl (fun _ => 0)))) (N' := 7) (K' := 8) (tA := 4) (tE := 1) hx hb hown (by rw [xs_J]; exact (hts (.classLink RX4 25 "[[J") (tbC _ wd231))) hovJ (hts (.arrayClass .long) (tbC _ wd225)) hK rfl rfl hP hD hS hA (by decide) (by decide) (by decide) (by decide) (by decide) (by decide) (by decide) (by decide) (by decide) (fun _ h9 => by cases h9) (Nat.le_of_ble_eq_true rfl) (Nat.le_of_ble_eq_true rfl) (xinJ _) dX4_init_39 (fun q5 r6 H locs hP hD hS => ?_)
  have hPD : xPD D A [(rd, .inr (3, [.ref tp, .ref q1, .ref q3, .null, .ref sp, .int 0, .int 0, .int 0, .int 0, .int 0, .int 0, .int 0, .int 0])), oAI q1 cI 8 (fun _ => 0), oAM q3 cH 7 r4, oAJ (r4 0) cJ 8 (fun _ => 0), oAJ (r4 1) cJ 8 (fun _ => 0), oAJ (r4 2) cJ 8 (fun _ => 0), oAJ (r4 3) cJ 8 (fun _ => 0), oAJ (r4 4) cJ 8 (fun _ => 0), oAJ (r4 5) cJ 8 (fun _ => 0), oAJ (r4 6) cJ 8 (fun _ => 0), oAM q5 cH 7 r6, oAJ (r6 0) cJ 8 (fun _ => 0), oAJ (r6 1) cJ 8 (fun _ => 0), oAJ (r6 2) cJ 8 (fun _ => 0), oAJ (r6 3) cJ 8 (fun _ => 0), oAJ (r6 4) cJ 8 (fun _ => 0), oAJ (r6 5) cJ 8 (fun _ => 0), oAJ (r6 6) cJ 8 (fun _ => 0)] H := ⟨hP, hD⟩
  obtain ⟨hP, hD⟩ := hPD
  refine W.widen (k := 17) (n := 134) (by decide) (by decide) ?_
  refine va_putF (D := D) (ci := 3) (v := .ref q5) (ty := (.array (.array .long))) (C := RX4) (T := TX4) (N := 13) hx hb hts (fun w h => tbC w (tbfX4 w h)) tyX4 tyX4_ok nmX4 hown hK hP hD hS 0 rfl rfl 3 (by decide) (hts (.fieldLink RX4 30 "PowerRails$Reader" "all" "[[J") (tbC _ wd235)) (fun _ h9 => h9) rfl hin rfl (by decide +kernel) rfl rfl (Nat.le_of_ble_eq_true rfl) dX4_init_43 (fun H locs hP hD hS => ?_)
  obtain ⟨hP, hD⟩ : xPD D A [oX4 rd tp q1 q3 q5 sp 0 0 0 0 0 0 0 0, oAI q1 cI 8 (fun _ => 0), oAM q3 cH 7 r4, oAJ (r4 0) cJ 8 (fun _ => 0), oAJ (r4 1) cJ 8 (fun _ => 0), oAJ (r4 2) cJ 8 (fun _ => 0), oAJ (r4 3) cJ 8 (fun _ => 0), oAJ (r4 4) cJ 8 (fun _ => 0), oAJ (r4 5) cJ 8 (fun _ => 0), oAJ (r4 6) cJ 8 (fun _ => 0), oAM q5 cH 7 r6, oAJ (r6 0) cJ 8 (fun _ => 0), oAJ (r6 1) cJ 8 (fun _ => 0), oAJ (r6 2) cJ 8 (fun _ => 0), oAJ (r6 3) cJ 8 (fun _ => 0), oAJ (r6 4) cJ 8 (fun _ => 0), oAJ (r6 5) cJ 8 (fun _ => 0), oAJ (r6 6) cJ 8 (fun _ => 0)] H := ⟨hP, hD⟩
  refine W.widen (k := 17) (n := 134) (by decide) (by decide) ?_
  exact W.vret hx hb hr (fun t ht hW => ⟨⟨(), rfl, trivial, ⟨q1, q3, q5, r4, r6, xB_of9 ht hW hP hK hD [0, 1, 2, 3, 4, 5, 6, 7, 8, 9, 10, 11, 12, 13, 14, 15, 16, 17] (by decide +kernel) rfl⟩⟩, hS.F ht⟩) hS.2.2 dX4_init_46
abbrev W_n_PowerRails (cI cJ cZ cG cH : ClassId) (xo : Nat) : va_W := [(xo, .inr (9, [.null, .null, .null, .null, .null, .null, .null, .null, .null, .int 0]))]
abbrev Q_n_PowerRails (D : va_G) (cI cJ cZ cG cH : ClassId) (xo : Nat) (A : Nat → Prop) : Array Value → State → Outcome → State → Prop := va_Qv (fun (_ : Unit) => True) (fun _ t => ∃ (tp : Nat) (rd : Nat) (rn : Nat) (co : Nat) (wy : Nat) (sg : Nat) (sh : Nat) (pl : Nat) (sp : Nat) (tba : Nat) (hy : Nat) (rsa : Nat) (ria : Nat) (raa : Nat) (rta : Nat) (rga : Nat) (yaa : Nat) (yba : Nat) (yca : Nat) (fwa : Nat) (fta : Nat) (fra : Nat) (fga : Nat) (cxa : Nat) (wba : Nat) (wka : Nat) (srwa : Nat) (sca : Nat) (sla : Nat) (ssa : Nat) (rr : Nat → Nat) (szs : Nat → Int32) (pna : Nat) (pta : Nat) (sna : Nat) (sta : Nat) (rfa : Nat) (rya : Nat) (rla : Nat) (ryf : Nat → Nat) (rlf : Nat → Nat), (∀ j, j < 4 → szs j = -4) ∧ xB D (tyL cI cJ cZ cG cH) [oX10 xo tp rd rn co wy sg sh pl sp 0, oX8 tp tba 0, oAI tba cI 400 (fun _ => 0), oX5 rn hy rsa ria raa rta rga 0 0 0 0 0 0 0 0, oAI rsa cI 8 (fun _ => 0), oAI ria cI 8 (fun _ => 0), oAI raa cI 8 (fun _ => 0), oAI rta cI 8 (fun _ => 0), oAI rga cI 8 (fun _ => 0), oX2 hy yaa yba yca 0, oAI yaa cI 64 (fun _ => 0), oAI yba cI 64 (fun _ => 0), oAI yca cI 64 (fun _ => 0), oX0 co fwa fta fra fga cxa 0 0 0 0, oAI fwa cI 8 (fun _ => 0), oAI fta cI 8 (fun _ => 0), oAI fra cI 8 (fun _ => 0), oAI fga cI 8 (fun _ => 0), oAI cxa cI 145 (fun _ => 0), oX9 wy co wba wka 0 0 0, oAI wba cI 64 (fun _ => 0), oAI wka cZ 64 (fun _ => 0), oX7 sg co srwa 0 (-4), oAI srwa cI 8 (fun _ => 0), oX6 sh sca sla ssa, oAM sca cG 4 rr, oAI (rr 0) cI 40 (fun _ => 0), oAI (rr 1) cI 40 (fun _ => 0), oAI (rr 2) cI 40 (fun _ => 0), oAI (rr 3) cI 40 (fun _ => 0), oAI sla cI 4 (fun _ => 0), oAI ssa cI 4 szs, oX3 pl pna pta 0 999 0 5, oAI pna cI 64 (fun _ => 0), oAJ pta cJ 64 (fun _ => 0), oX3 sp sna sta 0 999 0 5, oAI sna cI 64 (fun _ => 0), oAJ sta cJ 64 (fun _ => 0), oX4 rd tp rfa rya rla sp 0 0 0 0 0 0 0 0, oAI rfa cI 8 (fun _ => 0), oAM rya cH 7 ryf, oAJ (ryf 0) cJ 8 (fun _ => 0), oAJ (ryf 1) cJ 8 (fun _ => 0), oAJ (ryf 2) cJ 8 (fun _ => 0), oAJ (ryf 3) cJ 8 (fun _ => 0), oAJ (ryf 4) cJ 8 (fun _ => 0), oAJ (ryf 5) cJ 8 (fun _ => 0), oAJ (ryf 6) cJ 8 (fun _ => 0), oAM rla cH 7 rlf, oAJ (rlf 0) cJ 8 (fun _ => 0), oAJ (rlf 1) cJ 8 (fun _ => 0), oAJ (rlf 2) cJ 8 (fun _ => 0), oAJ (rlf 3) cJ 8 (fun _ => 0), oAJ (rlf 4) cJ 8 (fun _ => 0), oAJ (rlf 5) cJ 8 (fun _ => 0), oAJ (rlf 6) cJ 8 (fun _ => 0)] A t) A
abbrev rm_n_PowerRails : Room := { frames := 3, cells := 55, slots := 1574, locals := 52 }
set_option maxRecDepth 100000 in
set_option maxHeartbeats 40000000 in
theorem c_n_PowerRails (l : Launch) (D : va_G) (cI cJ cZ cG cH : ClassId) (sz : Nat) (xo : Nat) : Met l yX10_init (wt yX10_init cX10_init 1 none) rm_n_PowerRails (xPcA [.ref xo] D (tyL cI cJ cZ cG cH) (W_n_PowerRails cI cJ cZ cG cH xo) sz) (Q_n_PowerRails D cI cJ cZ cG cH xo (va_A (W_n_PowerRails cI cJ cZ cG cH xo) sz)) 55 1574 (va_A (W_n_PowerRails cI cJ cZ cG cH xo) sz) := by
  refine xMetA (cc := cX10_init) (maxL := 1) (ret := none) (Qf := Q_n_PowerRails D cI cJ cZ cG cH xo) (by decide) rfl (Nat.le_of_ble_eq_true rfl) ?_
  intro p e s m below meth c ls A hx hb hr hml hts hown hlocks hnm hsz hP hK hD hA hS hl hovI hovJ
  have hown : s.vm.findClass RX10 = some m.cls := hown
  have hin : meth.name = "<init>" := hnm
  have hP : va_P D vwCl [(xo, .inr (9, [.null, .null, .null, .null, .null, .null, .null, .null, .null, .int 0]))] s.heap := hP
  have hD : va_D A [(xo, .inr (9, [.null, .null, .null, .null, .null, .null, .null, .null, .null, .int 0]))] := hD
  have hl : lv_has ls 1 [(0, .ref xo)] := hl
  refine lv_aload_n hx hb dX10_init_0 rfl (lv_at hl 0 rfl) ?_
  refine W.objInit hx hb hown (hts (.methodLink RX10 1 objectInit) (tbC _ wd74)) (hts (.instanceMethod objectInit) (tbC _ wd75)) (hts (.code objectInit ⟨#[0xb1]⟩ 1 none) (tbC _ wd949)) rfl (by rw [hml]; exact hl.1) rfl dX10_init_1 (Nat.le_of_ble_eq_true rfl) (Nat.le_of_ble_eq_true rfl) ?_
  refine W.eq (g2 := F0 m 4 ls []) rfl ?_
  refine lv_aload_n hx hb dX10_init_4 rfl (lv_at hl 0 rfl) ?_
  refine va_new (ci := 7) (fs := [.null, .int 0]) (C := RX8) (T := TX8) (N := 2) hx hb hts (fun w h => tbC w (tbfX8 w h)) tyX8 tyX8_ok hown (hts (.classLink RX10 7 RX8) (tbC _ wd76)) (hts (.instantiable RX8 2) (tbC _ wd77)) (hts (.initialized RX8) (tbC _ wd51)) hK hP hD hS hA rfl (xdef_X8) (Nat.le_of_ble_eq_true rfl) (Nat.le_of_ble_eq_true rfl) dX10_init_5 (fun q1 H hP hD hS => ?_)
  have hPD : xPD D A [(xo, .inr (9, [.null, .null, .null, .null, .null, .null, .null, .null, .null, .int 0])), (q1, .inr (7, [.null, .int 0]))] H := ⟨hP, hD⟩
  obtain ⟨hP, hD⟩ := hPD
  refine W.widen (k := 1) (n := 2) (by decide) (by decide) ?_
  refine lv_dup hx hb dX10_init_8 rfl ?_
  obtain ⟨hPc, hDc, hFc, hC9⟩ := xpk (wc := W_n_Tape cI cJ cZ cG cH q1) hP hD hS hA [1] (by decide +kernel) rfl
  refine va_callv (va_runI (As := []) (rest := [.ref q1, .ref xo]) ⟨hx, hb, hml, hown, hts⟩ (c_n_Tape l D cI cJ cZ cG cH H.size q1) (cwI 0 hts (xGW tbC wd950) rfl rfl rfl (hts (.initialized RX8) (tbC _ wd51)) (hts (.methodLink RX10 9 yX8_init) (tbC _ wd78)) (hts (.instanceMethod yX8_init) (tbC _ wd79)) rfl (by decide +kernel) ⟨Nat.le_of_ble_eq_true rfl, Nat.le_of_ble_eq_true rfl⟩) ⟨xPc_blind, xPc_pre hPc hK hDc⟩ rfl rfl hl.1 rfl (lv_room (Nat.le_of_ble_eq_true rfl)) dX10_init_9 ⟨Nat.le_of_ble_eq_true rfl, Nat.le_of_ble_eq_true rfl⟩) hS (fun q _ h => hFc q h) hFc (fun u t H1 locs ht hvm hw2 hB hz1 hk1 hS => ?_)
  obtain ⟨tba_3, hP1, hK1, hD1⟩ := hB
  rw [ht] at hP1
  have hPD : xPD D A [(xo, .inr (9, [.null, .null, .null, .null, .null, .null, .null, .null, .null, .int 0])), oX8 q1 tba_3 0, oAI tba_3 cI 400 (fun _ => 0)] H1 := xjn 1 hP hD [1] [0] hC9 rfl (by decide +kernel) (by decide +kernel) hk1 hFc hP1 hD1
  obtain ⟨hP, hD⟩ := hPD
  generalize H1 = H at hP hS ⊢
  refine W.widen (k := 2) (n := 402) (by decide) (by decide) ?_
  refine va_putF (D := D) (ci := 9) (v := .ref q1) (ty := (.object "PowerRails$Tape")) (C := RX10) (T := TX10) (N := 10) hx hb hts (fun w h => tbC w (tbfX10 w h)) tyX10 tyX10_ok nmX10 hown hK hP hD hS 0 rfl rfl 0 (by decide) (hts (.fieldLink RX10 10 "PowerRails" "tape" "LPowerRails$Tape;") (tbC _ wd247)) (fun _ h9 => h9) rfl hin rfl (by decide +kernel) rfl rfl (Nat.le_of_ble_eq_true rfl) dX10_init_12 (fun H locs hP hD hS => ?_)
  have hPD : xPD D A [(xo, .inr (9, [.ref q1, .null, .null, .null, .null, .null, .null, .null, .null, .int 0])), oX8 q1 tba_3 0, oAI tba_3 cI 400 (fun _ => 0)] H := ⟨hP, hD⟩
  obtain ⟨hP, hD⟩ := hPD
  refine lv_aload_n hx hb dX10_init_15 rfl (lv_at hl 0 rfl) ?_
  refine va_new (ci := 4) (fs := [.null, .null, .null, .null, .null, .null, .int 0, .int 0, .int 0, .int 0, .int 0, .int 0, .int 0, .int 0]) (C := RX5) (T := TX5) (N := 14) hx hb hts (fun w h => tbC w (tbfX5 w h)) tyX5 tyX5_ok hown (hts (.classLink RX10 16 RX5) (tbC _ wd87)) (hts (.instantiable RX5 14) (tbC _ wd88)) (hts (.initialized RX5) (tbC _ wd52)) hK hP hD hS hA rfl (xdef_X5) (Nat.le_of_ble_eq_true rfl) (Nat.le_of_ble_eq_true rfl) dX10_init_16 (fun q4 H hP hD hS => ?_)
  have hPD : xPD D A [(xo, .inr (9, [.ref q1, .null, .null, .null, .null, .null, .null, .null, .null, .int 0])), oX8 q1 tba_3 0, oAI tba_3 cI 400 (fun _ => 0), (q4, .inr (4, [.null, .null, .null, .null, .null, .null, .int 0, .int 0, .int 0, .int 0, .int 0, .int 0, .int 0, .int 0]))] H := ⟨hP, hD⟩
  obtain ⟨hP, hD⟩ := hPD
  refine W.widen (k := 3) (n := 416) (by decide) (by decide) ?_
  refine lv_dup hx hb dX10_init_19 rfl ?_
  obtain ⟨hPc, hDc, hFc, hC9⟩ := xpk (wc := W_n_Run cI cJ cZ cG cH q4) hP hD hS hA [3] (by decide +kernel) rfl
  refine va_callv (va_runI (As := []) (rest := [.ref q4, .ref xo]) ⟨hx, hb, hml, hown, hts⟩ (c_n_Run l D cI cJ cZ cG cH H.size q4) (cwI 0 hts (xGW tbC wd951) rfl rfl rfl (hts (.initialized RX5) (tbC _ wd52)) (hts (.methodLink RX10 18 yX5_init) (tbC _ wd89)) (hts (.instanceMethod yX5_init) (tbC _ wd90)) rfl (by decide +kernel) ⟨Nat.le_of_ble_eq_true rfl, Nat.le_of_ble_eq_true rfl⟩) ⟨xPc_blind, xPc_pre hPc hK hDc⟩ rfl rfl hl.1 rfl (lv_room (Nat.le_of_ble_eq_true rfl)) dX10_init_20 ⟨Nat.le_of_ble_eq_true rfl, Nat.le_of_ble_eq_true rfl⟩) hS (fun q _ h => hFc q h) hFc (fun u t H1 locs ht hvm hw5 hB hz1 hk1 hS => ?_)
  revert hB
  refine xex9r (fun hy_6 rsa_7 ria_8 raa_9 rta_10 rga_11 yaa_12 yba_13 yca_14 => ?_)
  refine xan3r (fun hP1 hK1 hD1 => ?_)
  rw [ht] at hP1
  have hPD : xPD D A [(xo, .inr (9, [.ref q1, .null, .null, .null, .null, .null, .null, .null, .null, .int 0])), oX8 q1 tba_3 0, oAI tba_3 cI 400 (fun _ => 0), oX5 q4 hy_6 rsa_7 ria_8 raa_9 rta_10 rga_11 0 0 0 0 0 0 0 0, oAI rsa_7 cI 8 (fun _ => 0), oAI ria_8 cI 8 (fun _ => 0), oAI raa_9 cI 8 (fun _ => 0), oAI rta_10 cI 8 (fun _ => 0), oAI rga_11 cI 8 (fun _ => 0), oX2 hy_6 yaa_12 yba_13 yca_14 0, oAI yaa_12 cI 64 (fun _ => 0), oAI yba_13 cI 64 (fun _ => 0), oAI yca_14 cI 64 (fun _ => 0)] H1 := xjn 3 hP hD [3] [0, 1, 2] hC9 rfl (by decide +kernel) (by decide +kernel) hk1 hFc hP1 hD1
  obtain ⟨hP, hD⟩ := hPD
  generalize H1 = H at hP hS ⊢
  refine W.widen (k := 12) (n := 652) (by decide) (by decide) ?_
  refine va_putF (D := D) (ci := 9) (v := .ref q4) (ty := (.object "PowerRails$Run")) (C := RX10) (T := TX10) (N := 10) hx hb hts (fun w h => tbC w (tbfX10 w h)) tyX10 tyX10_ok nmX10 hown hK hP hD hS 0 rfl rfl 2 (by decide) (hts (.fieldLink RX10 19 "PowerRails" "run" "LPowerRails$Run;") (tbC _ wd249)) (fun _ h9 => h9) rfl hin rfl (by decide +kernel) rfl rfl (Nat.le_of_ble_eq_true rfl) dX10_init_23 (fun H locs hP hD hS => ?_)
  have hPD : xPD D A [(xo, .inr (9, [.ref q1, .null, .ref q4, .null, .null, .null, .null, .null, .null, .int 0])), oX8 q1 tba_3 0, oAI tba_3 cI 400 (fun _ => 0), oX5 q4 hy_6 rsa_7 ria_8 raa_9 rta_10 rga_11 0 0 0 0 0 0 0 0, oAI rsa_7 cI 8 (fun _ => 0), oAI ria_8 cI 8 (fun _ => 0), oAI raa_9 cI 8 (fun _ => 0), oAI rta_10 cI 8 (fun _ => 0), oAI rga_11 cI 8 (fun _ => 0), oX2 hy_6 yaa_12 yba_13 yca_14 0, oAI yaa_12 cI 64 (fun _ => 0), oAI yba_13 cI 64 (fun _ => 0), oAI yca_14 cI 64 (fun _ => 0)] H := ⟨hP, hD⟩
  obtain ⟨hP, hD⟩ := hPD
  refine lv_aload_n hx hb dX10_init_26 rfl (lv_at hl 0 rfl) ?_
  refine va_new (ci := 0) (fs := [.null, .null, .null, .null, .null, .int 0, .int 0, .int 0, .int 0]) (C := RX0) (T := TX0) (N := 9) hx hb hts (fun w h => tbC w (tbfX0 w h)) tyX0 tyX0_ok hown (hts (.classLink RX10 23 RX0) (tbC _ wd133)) (hts (.instantiable RX0 9) (tbC _ wd134)) (hts (.initialized RX0) (tbC _ wd54)) hK hP hD hS hA rfl (xdef_X0) (Nat.le_of_ble_eq_true rfl) (Nat.le_of_ble_eq_true rfl) dX10_init_27 (fun q15 H hP hD hS => ?_)
  have hPD : xPD D A [(xo, .inr (9, [.ref q1, .null, .ref q4, .null, .null, .null, .null, .null, .null, .int 0])), oX8 q1 tba_3 0, oAI tba_3 cI 400 (fun _ => 0), oX5 q4 hy_6 rsa_7 ria_8 raa_9 rta_10 rga_11 0 0 0 0 0 0 0 0, oAI rsa_7 cI 8 (fun _ => 0), oAI ria_8 cI 8 (fun _ => 0), oAI raa_9 cI 8 (fun _ => 0), oAI rta_10 cI 8 (fun _ => 0), oAI rga_11 cI 8 (fun _ => 0), oX2 hy_6 yaa_12 yba_13 yca_14 0, oAI yaa_12 cI 64 (fun _ => 0), oAI yba_13 cI 64 (fun _ => 0), oAI yca_14 cI 64 (fun _ => 0), (q15, .inr (0, [.null, .null, .null, .null, .null, .int 0, .int 0, .int 0, .int 0]))] H := ⟨hP, hD⟩
  obtain ⟨hP, hD⟩ := hPD
  refine W.widen (k := 13) (n := 661) (by decide) (by decide) ?_
  refine lv_dup hx hb dX10_init_30 rfl ?_
  obtain ⟨hPc, hDc, hFc, hC9⟩ := xpk (wc := W_n_Course cI cJ cZ cG cH q15) hP hD hS hA [13] (by decide +kernel) rfl
  refine va_callv (va_runI (As := []) (rest := [.ref q15, .ref xo]) ⟨hx, hb, hml, hown, hts⟩ (c_n_Course l D cI cJ cZ cG cH H.size q15) (cwI 0 hts (xGW tbC wd953) rfl rfl rfl (hts (.initialized RX0) (tbC _ wd54)) (hts (.methodLink RX10 25 yX0_init) (tbC _ wd135)) (hts (.instanceMethod yX0_init) (tbC _ wd136)) rfl (by decide +kernel) ⟨Nat.le_of_ble_eq_true rfl, Nat.le_of_ble_eq_true rfl⟩) ⟨xPc_blind, xPc_pre hPc hK hDc⟩ rfl rfl hl.1 rfl (lv_room (Nat.le_of_ble_eq_true rfl)) dX10_init_31 ⟨Nat.le_of_ble_eq_true rfl, Nat.le_of_ble_eq_true rfl⟩) hS (fun q _ h => hFc q h) hFc (fun u t H1 locs ht hvm hw16 hB hz1 hk1 hS => ?_)
  obtain ⟨fwa_17, fta_18, fra_19, fga_20, cxa_21, hP1, hK1, hD1⟩ := hB
  rw [ht] at hP1
  have hPD : xPD D A [(xo, .inr (9, [.ref q1, .null, .ref q4, .null, .null, .null, .null, .null, .null, .int 0])), oX8 q1 tba_3 0, oAI tba_3 cI 400 (fun _ => 0), oX5 q4 hy_6 rsa_7 ria_8 raa_9 rta_10 rga_11 0 0 0 0 0 0 0 0, oAI rsa_7 cI 8 (fun _ => 0), oAI ria_8 cI 8 (fun _ => 0), oAI raa_9 cI 8 (fun _ => 0), oAI rta_10 cI 8 (fun _ => 0), oAI rga_11 cI 8 (fun _ => 0), oX2 hy_6 yaa_12 yba_13 yca_14 0, oAI yaa_12 cI 64 (fun _ => 0), oAI yba_13 cI 64 (fun _ => 0), oAI yca_14 cI 64 (fun _ => 0), oX0 q15 fwa_17 fta_18 fra_19 fga_20 cxa_21 0 0 0 0, oAI fwa_17 cI 8 (fun _ => 0), oAI fta_18 cI 8 (fun _ => 0), oAI fra_19 cI 8 (fun _ => 0), oAI fga_20 cI 8 (fun _ => 0), oAI cxa_21 cI 145 (fun _ => 0)] H1 := xjn 13 hP hD [13] [0, 1, 2, 3, 4, 5, 6, 7, 8, 9, 10, 11, 12] hC9 rfl (by decide +kernel) (by decide +kernel) hk1 hFc hP1 hD1
  obtain ⟨hP, hD⟩ := hPD
  generalize H1 = H at hP hS ⊢
  refine W.widen (k := 18) (n := 838) (by decide) (by decide) ?_
  refine va_putF (D := D) (ci := 9) (v := .ref q15) (ty := (.object "PowerRails$Course")) (C := RX10) (T := TX10) (N := 10) hx hb hts (fun w h => tbC w (tbfX10 w h)) tyX10 tyX10_ok nmX10 hown hK hP hD hS 0 rfl rfl 3 (by decide) (hts (.fieldLink RX10 26 "PowerRails" "course" "LPowerRails$Course;") (tbC _ wd250)) (fun _ h9 => h9) rfl hin rfl (by decide +kernel) rfl rfl (Nat.le_of_ble_eq_true rfl) dX10_init_34 (fun H locs hP hD hS => ?_)
  have hPD : xPD D A [(xo, .inr (9, [.ref q1, .null, .ref q4, .ref q15, .null, .null, .null, .null, .null, .int 0])), oX8 q1 tba_3 0, oAI tba_3 cI 400 (fun _ => 0), oX5 q4 hy_6 rsa_7 ria_8 raa_9 rta_10 rga_11 0 0 0 0 0 0 0 0, oAI rsa_7 cI 8 (fun _ => 0), oAI ria_8 cI 8 (fun _ => 0), oAI raa_9 cI 8 (fun _ => 0), oAI rta_10 cI 8 (fun _ => 0), oAI rga_11 cI 8 (fun _ => 0), oX2 hy_6 yaa_12 yba_13 yca_14 0, oAI yaa_12 cI 64 (fun _ => 0), oAI yba_13 cI 64 (fun _ => 0), oAI yca_14 cI 64 (fun _ => 0), oX0 q15 fwa_17 fta_18 fra_19 fga_20 cxa_21 0 0 0 0, oAI fwa_17 cI 8 (fun _ => 0), oAI fta_18 cI 8 (fun _ => 0), oAI fra_19 cI 8 (fun _ => 0), oAI fga_20 cI 8 (fun _ => 0), oAI cxa_21 cI 145 (fun _ => 0)] H := ⟨hP, hD⟩
  obtain ⟨hP, hD⟩ := hPD
  refine lv_aload_n hx hb dX10_init_37 rfl (lv_at hl 0 rfl) ?_
  refine va_new (ci := 8) (fs := [.null, .null, .null, .int 0, .int 0, .int 0]) (C := RX9) (T := TX9) (N := 6) hx hb hts (fun w h => tbC w (tbfX9 w h)) tyX9 tyX9_ok hown (hts (.classLink RX10 30 RX9) (tbC _ wd157)) (hts (.instantiable RX9 6) (tbC _ wd158)) (hts (.initialized RX9) (tbC _ wd55)) hK hP hD hS hA rfl (xdef_X9) (Nat.le_of_ble_eq_true rfl) (Nat.le_of_ble_eq_true rfl) dX10_init_38 (fun q22 H hP hD hS => ?_)
  have hPD : xPD D A [(xo, .inr (9, [.ref q1, .null, .ref q4, .ref q15, .null, .null, .null, .null, .null, .int 0])), oX8 q1 tba_3 0, oAI tba_3 cI 400 (fun _ => 0), oX5 q4 hy_6 rsa_7 ria_8 raa_9 rta_10 rga_11 0 0 0 0 0 0 0 0, oAI rsa_7 cI 8 (fun _ => 0), oAI ria_8 cI 8 (fun _ => 0), oAI raa_9 cI 8 (fun _ => 0), oAI rta_10 cI 8 (fun _ => 0), oAI rga_11 cI 8 (fun _ => 0), oX2 hy_6 yaa_12 yba_13 yca_14 0, oAI yaa_12 cI 64 (fun _ => 0), oAI yba_13 cI 64 (fun _ => 0), oAI yca_14 cI 64 (fun _ => 0), oX0 q15 fwa_17 fta_18 fra_19 fga_20 cxa_21 0 0 0 0, oAI fwa_17 cI 8 (fun _ => 0), oAI fta_18 cI 8 (fun _ => 0), oAI fra_19 cI 8 (fun _ => 0), oAI fga_20 cI 8 (fun _ => 0), oAI cxa_21 cI 145 (fun _ => 0), (q22, .inr (8, [.null, .null, .null, .int 0, .int 0, .int 0]))] H := ⟨hP, hD⟩
  obtain ⟨hP, hD⟩ := hPD
  refine W.widen (k := 19) (n := 844) (by decide) (by decide) ?_
  refine lv_dup hx hb dX10_init_41 rfl ?_
  refine lv_aload_n hx hb dX10_init_42 rfl (lv_at hl 0 rfl) ?_
  refine va_get (D := D) (ci := 9) (v := .ref q15) (C := RX10) (T := TX10) (N := 10) hx hb hts (fun w h => tbC w (tbfX10 w h)) hown hK hP 0 rfl rfl 3 (by decide) (hts (.fieldLink RX10 26 "PowerRails" "course" "LPowerRails$Course;") (tbC _ wd250)) (fun _ h9 => h9) rfl dX10_init_43 ?_
  obtain ⟨hPc, hDc, hFc, hC9⟩ := xpk (wc := W_n_Ways cI cJ cZ cG cH q22 q15) hP hD hS hA [19] (by decide +kernel) rfl
  refine va_callv (va_runI (As := [.ref q15]) (rest := [.ref q22, .ref xo]) ⟨hx, hb, hml, hown, hts⟩ (c_n_Ways l D cI cJ cZ cG cH H.size q22 q15) (cwI 1 hts (xGW tbC wd954) rfl rfl rfl (hts (.initialized RX9) (tbC _ wd55)) (hts (.methodLink RX10 32 yX9_init) (tbC _ wd159)) (hts (.instanceMethod yX9_init) (tbC _ wd160)) rfl (by decide +kernel) ⟨Nat.le_of_ble_eq_true rfl, Nat.le_of_ble_eq_true rfl⟩) ⟨xPc_blind, xPc_pre hPc hK hDc⟩ rfl rfl hl.1 rfl (lv_room (Nat.le_of_ble_eq_true rfl)) dX10_init_46 ⟨Nat.le_of_ble_eq_true rfl, Nat.le_of_ble_eq_true rfl⟩) hS (fun q _ h => hFc q h) hFc (fun u t H1 locs ht hvm hw23 hB hz1 hk1 hS => ?_)
  obtain ⟨wba_24, wka_25, hP1, hK1, hD1⟩ := hB
  rw [ht] at hP1
  have hPD : xPD D A [(xo, .inr (9, [.ref q1, .null, .ref q4, .ref q15, .null, .null, .null, .null, .null, .int 0])), oX8 q1 tba_3 0, oAI tba_3 cI 400 (fun _ => 0), oX5 q4 hy_6 rsa_7 ria_8 raa_9 rta_10 rga_11 0 0 0 0 0 0 0 0, oAI rsa_7 cI 8 (fun _ => 0), oAI ria_8 cI 8 (fun _ => 0), oAI raa_9 cI 8 (fun _ => 0), oAI rta_10 cI 8 (fun _ => 0), oAI rga_11 cI 8 (fun _ => 0), oX2 hy_6 yaa_12 yba_13 yca_14 0, oAI yaa_12 cI 64 (fun _ => 0), oAI yba_13 cI 64 (fun _ => 0), oAI yca_14 cI 64 (fun _ => 0), oX0 q15 fwa_17 fta_18 fra_19 fga_20 cxa_21 0 0 0 0, oAI fwa_17 cI 8 (fun _ => 0), oAI fta_18 cI 8 (fun _ => 0), oAI fra_19 cI 8 (fun _ => 0), oAI fga_20 cI 8 (fun _ => 0), oAI cxa_21 cI 145 (fun _ => 0), oX9 q22 q15 wba_24 wka_25 0 0 0, oAI wba_24 cI 64 (fun _ => 0), oAI wka_25 cZ 64 (fun _ => 0)] H1 := xjn 19 hP hD [19] [0, 1, 2, 3, 4, 5, 6, 7, 8, 9, 10, 11, 12, 13, 14, 15, 16, 17, 18] hC9 rfl (by decide +kernel) (by decide +kernel) hk1 hFc hP1 hD1
  obtain ⟨hP, hD⟩ := hPD
  generalize H1 = H at hP hS ⊢
  refine W.widen (k := 21) (n := 972) (by decide) (by decide) ?_
  refine va_putF (D := D) (ci := 9) (v := .ref q22) (ty := (.object "PowerRails$Ways")) (C := RX10) (T := TX10) (N := 10) hx hb hts (fun w h => tbC w (tbfX10 w h)) tyX10 tyX10_ok nmX10 hown hK hP hD hS 0 rfl rfl 4 (by decide) (hts (.fieldLink RX10 35 "PowerRails" "ways" "LPowerRails$Ways;") (tbC _ wd251)) (fun _ h9 => h9) rfl hin rfl (by decide +kernel) rfl rfl (Nat.le_of_ble_eq_true rfl) dX10_init_49 (fun H locs hP hD hS => ?_)
  have hPD : xPD D A [(xo, .inr (9, [.ref q1, .null, .ref q4, .ref q15, .ref q22, .null, .null, .null, .null, .int 0])), oX8 q1 tba_3 0, oAI tba_3 cI 400 (fun _ => 0), oX5 q4 hy_6 rsa_7 ria_8 raa_9 rta_10 rga_11 0 0 0 0 0 0 0 0, oAI rsa_7 cI 8 (fun _ => 0), oAI ria_8 cI 8 (fun _ => 0), oAI raa_9 cI 8 (fun _ => 0), oAI rta_10 cI 8 (fun _ => 0), oAI rga_11 cI 8 (fun _ => 0), oX2 hy_6 yaa_12 yba_13 yca_14 0, oAI yaa_12 cI 64 (fun _ => 0), oAI yba_13 cI 64 (fun _ => 0), oAI yca_14 cI 64 (fun _ => 0), oX0 q15 fwa_17 fta_18 fra_19 fga_20 cxa_21 0 0 0 0, oAI fwa_17 cI 8 (fun _ => 0), oAI fta_18 cI 8 (fun _ => 0), oAI fra_19 cI 8 (fun _ => 0), oAI fga_20 cI 8 (fun _ => 0), oAI cxa_21 cI 145 (fun _ => 0), oX9 q22 q15 wba_24 wka_25 0 0 0, oAI wba_24 cI 64 (fun _ => 0), oAI wka_25 cZ 64 (fun _ => 0)] H := ⟨hP, hD⟩
  obtain ⟨hP, hD⟩ := hPD
  refine lv_aload_n hx hb dX10_init_52 rfl (lv_at hl 0 rfl) ?_
  refine va_new (ci := 6) (fs := [.null, .null, .int 0, .int 0]) (C := RX7) (T := TX7) (N := 4) hx hb hts (fun w h => tbC w (tbfX7 w h)) tyX7 tyX7_ok hown (hts (.classLink RX10 39 RX7) (tbC _ wd171)) (hts (.instantiable RX7 4) (tbC _ wd172)) (hts (.initialized RX7) (tbC _ wd56)) hK hP hD hS hA rfl (xdef_X7) (Nat.le_of_ble_eq_true rfl) (Nat.le_of_ble_eq_true rfl) dX10_init_53 (fun q26 H hP hD hS => ?_)
  have hPD : xPD D A [(xo, .inr (9, [.ref q1, .null, .ref q4, .ref q15, .ref q22, .null, .null, .null, .null, .int 0])), oX8 q1 tba_3 0, oAI tba_3 cI 400 (fun _ => 0), oX5 q4 hy_6 rsa_7 ria_8 raa_9 rta_10 rga_11 0 0 0 0 0 0 0 0, oAI rsa_7 cI 8 (fun _ => 0), oAI ria_8 cI 8 (fun _ => 0), oAI raa_9 cI 8 (fun _ => 0), oAI rta_10 cI 8 (fun _ => 0), oAI rga_11 cI 8 (fun _ => 0), oX2 hy_6 yaa_12 yba_13 yca_14 0, oAI yaa_12 cI 64 (fun _ => 0), oAI yba_13 cI 64 (fun _ => 0), oAI yca_14 cI 64 (fun _ => 0), oX0 q15 fwa_17 fta_18 fra_19 fga_20 cxa_21 0 0 0 0, oAI fwa_17 cI 8 (fun _ => 0), oAI fta_18 cI 8 (fun _ => 0), oAI fra_19 cI 8 (fun _ => 0), oAI fga_20 cI 8 (fun _ => 0), oAI cxa_21 cI 145 (fun _ => 0), oX9 q22 q15 wba_24 wka_25 0 0 0, oAI wba_24 cI 64 (fun _ => 0), oAI wka_25 cZ 64 (fun _ => 0), (q26, .inr (6, [.null, .null, .int 0, .int 0]))] H := ⟨hP, hD⟩
  obtain ⟨hP, hD⟩ := hPD
  refine W.widen (k := 22) (n := 976) (by decide) (by decide) ?_
  refine lv_dup hx hb dX10_init_56 rfl ?_
  refine lv_aload_n hx hb dX10_init_57 rfl (lv_at hl 0 rfl) ?_
  refine va_get (D := D) (ci := 9) (v := .ref q15) (C := RX10) (T := TX10) (N := 10) hx hb hts (fun w h => tbC w (tbfX10 w h)) hown hK hP 0 rfl rfl 3 (by decide) (hts (.fieldLink RX10 26 "PowerRails" "course" "LPowerRails$Course;") (tbC _ wd250)) (fun _ h9 => h9) rfl dX10_init_58 ?_
  obtain ⟨hPc, hDc, hFc, hC9⟩ := xpk (wc := W_n_Stagger cI cJ cZ cG cH q26 q15) hP hD hS hA [22] (by decide +kernel) rfl
  refine va_callv (va_runI (As := [.ref q15]) (rest := [.ref q26, .ref xo]) ⟨hx, hb, hml, hown, hts⟩ (c_n_Stagger l D cI cJ cZ cG cH H.size q26 q15) (cwI 1 hts (xGW tbC wd955) rfl rfl rfl (hts (.initialized RX7) (tbC _ wd56)) (hts (.methodLink RX10 41 yX7_init) (tbC _ wd173)) (hts (.instanceMethod yX7_init) (tbC _ wd174)) rfl (by decide +kernel) ⟨Nat.le_of_ble_eq_true rfl, Nat.le_of_ble_eq_true rfl⟩) ⟨xPc_blind, xPc_pre hPc hK hDc⟩ rfl rfl hl.1 rfl (lv_room (Nat.le_of_ble_eq_true rfl)) dX10_init_61 ⟨Nat.le_of_ble_eq_true rfl, Nat.le_of_ble_eq_true rfl⟩) hS (fun q _ h => hFc q h) hFc (fun u t H1 locs ht hvm hw27 hB hz1 hk1 hS => ?_)
  obtain ⟨srwa_28, hP1, hK1, hD1⟩ := hB
  rw [ht] at hP1
  have hPD : xPD D A [(xo, .inr (9, [.ref q1, .null, .ref q4, .ref q15, .ref q22, .null, .null, .null, .null, .int 0])), oX8 q1 tba_3 0, oAI tba_3 cI 400 (fun _ => 0), oX5 q4 hy_6 rsa_7 ria_8 raa_9 rta_10 rga_11 0 0 0 0 0 0 0 0, oAI rsa_7 cI 8 (fun _ => 0), oAI ria_8 cI 8 (fun _ => 0), oAI raa_9 cI 8 (fun _ => 0), oAI rta_10 cI 8 (fun _ => 0), oAI rga_11 cI 8 (fun _ => 0), oX2 hy_6 yaa_12 yba_13 yca_14 0, oAI yaa_12 cI 64 (fun _ => 0), oAI yba_13 cI 64 (fun _ => 0), oAI yca_14 cI 64 (fun _ => 0), oX0 q15 fwa_17 fta_18 fra_19 fga_20 cxa_21 0 0 0 0, oAI fwa_17 cI 8 (fun _ => 0), oAI fta_18 cI 8 (fun _ => 0), oAI fra_19 cI 8 (fun _ => 0), oAI fga_20 cI 8 (fun _ => 0), oAI cxa_21 cI 145 (fun _ => 0), oX9 q22 q15 wba_24 wka_25 0 0 0, oAI wba_24 cI 64 (fun _ => 0), oAI wka_25 cZ 64 (fun _ => 0), oX7 q26 q15 srwa_28 0 (-4), oAI srwa_28 cI 8 (fun _ => 0)] H1 := xjn 22 hP hD [22] [0, 1, 2, 3, 4, 5, 6, 7, 8, 9, 10, 11, 12, 13, 14, 15, 16, 17, 18, 19, 20, 21] hC9 rfl (by decide +kernel) (by decide +kernel) hk1 hFc hP1 hD1
  obtain ⟨hP, hD⟩ := hPD
  generalize H1 = H at hP hS ⊢
  refine W.widen (k := 23) (n := 984) (by decide) (by decide) ?_
  refine va_putF (D := D) (ci := 9) (v := .ref q26) (ty := (.object "PowerRails$Stagger")) (C := RX10) (T := TX10) (N := 10) hx hb hts (fun w h => tbC w (tbfX10 w h)) tyX10 tyX10_ok nmX10 hown hK hP hD hS 0 rfl rfl 5 (by decide) (hts (.fieldLink RX10 42 "PowerRails" "staggering" "LPowerRails$Stagger;") (tbC _ wd252)) (fun _ h9 => h9) rfl hin rfl (by decide +kernel) rfl rfl (Nat.le_of_ble_eq_true rfl) dX10_init_64 (fun H locs hP hD hS => ?_)
  have hPD : xPD D A [(xo, .inr (9, [.ref q1, .null, .ref q4, .ref q15, .ref q22, .ref q26, .null, .null, .null, .int 0])), oX8 q1 tba_3 0, oAI tba_3 cI 400 (fun _ => 0), oX5 q4 hy_6 rsa_7 ria_8 raa_9 rta_10 rga_11 0 0 0 0 0 0 0 0, oAI rsa_7 cI 8 (fun _ => 0), oAI ria_8 cI 8 (fun _ => 0), oAI raa_9 cI 8 (fun _ => 0), oAI rta_10 cI 8 (fun _ => 0), oAI rga_11 cI 8 (fun _ => 0), oX2 hy_6 yaa_12 yba_13 yca_14 0, oAI yaa_12 cI 64 (fun _ => 0), oAI yba_13 cI 64 (fun _ => 0), oAI yca_14 cI 64 (fun _ => 0), oX0 q15 fwa_17 fta_18 fra_19 fga_20 cxa_21 0 0 0 0, oAI fwa_17 cI 8 (fun _ => 0), oAI fta_18 cI 8 (fun _ => 0), oAI fra_19 cI 8 (fun _ => 0), oAI fga_20 cI 8 (fun _ => 0), oAI cxa_21 cI 145 (fun _ => 0), oX9 q22 q15 wba_24 wka_25 0 0 0, oAI wba_24 cI 64 (fun _ => 0), oAI wka_25 cZ 64 (fun _ => 0), oX7 q26 q15 srwa_28 0 (-4), oAI srwa_28 cI 8 (fun _ => 0)] H := ⟨hP, hD⟩
  obtain ⟨hP, hD⟩ := hPD
  refine lv_aload_n hx hb dX10_init_67 rfl (lv_at hl 0 rfl) ?_
  refine va_new (ci := 5) (fs := [.null, .null, .null]) (C := RX6) (T := TX6) (N := 3) hx hb hts (fun w h => tbC w (tbfX6 w h)) tyX6 tyX6_ok hown (hts (.classLink RX10 46 RX6) (tbC _ wd183)) (hts (.instantiable RX6 3) (tbC _ wd184)) (hts (.initialized RX6) (tbC _ wd57)) hK hP hD hS hA rfl (xdef_X6) (Nat.le_of_ble_eq_true rfl) (Nat.le_of_ble_eq_true rfl) dX10_init_68 (fun q29 H hP hD hS => ?_)
  have hPD : xPD D A [(xo, .inr (9, [.ref q1, .null, .ref q4, .ref q15, .ref q22, .ref q26, .null, .null, .null, .int 0])), oX8 q1 tba_3 0, oAI tba_3 cI 400 (fun _ => 0), oX5 q4 hy_6 rsa_7 ria_8 raa_9 rta_10 rga_11 0 0 0 0 0 0 0 0, oAI rsa_7 cI 8 (fun _ => 0), oAI ria_8 cI 8 (fun _ => 0), oAI raa_9 cI 8 (fun _ => 0), oAI rta_10 cI 8 (fun _ => 0), oAI rga_11 cI 8 (fun _ => 0), oX2 hy_6 yaa_12 yba_13 yca_14 0, oAI yaa_12 cI 64 (fun _ => 0), oAI yba_13 cI 64 (fun _ => 0), oAI yca_14 cI 64 (fun _ => 0), oX0 q15 fwa_17 fta_18 fra_19 fga_20 cxa_21 0 0 0 0, oAI fwa_17 cI 8 (fun _ => 0), oAI fta_18 cI 8 (fun _ => 0), oAI fra_19 cI 8 (fun _ => 0), oAI fga_20 cI 8 (fun _ => 0), oAI cxa_21 cI 145 (fun _ => 0), oX9 q22 q15 wba_24 wka_25 0 0 0, oAI wba_24 cI 64 (fun _ => 0), oAI wka_25 cZ 64 (fun _ => 0), oX7 q26 q15 srwa_28 0 (-4), oAI srwa_28 cI 8 (fun _ => 0), (q29, .inr (5, [.null, .null, .null]))] H := ⟨hP, hD⟩
  obtain ⟨hP, hD⟩ := hPD
  refine W.widen (k := 24) (n := 987) (by decide) (by decide) ?_
  refine lv_dup hx hb dX10_init_71 rfl ?_
  obtain ⟨hPc, hDc, hFc, hC9⟩ := xpk (wc := W_n_Sheets cI cJ cZ cG cH q29) hP hD hS hA [24] (by decide +kernel) rfl
  refine va_callv (va_runI (As := []) (rest := [.ref q29, .ref xo]) ⟨hx, hb, hml, hown, hts⟩ (c_n_Sheets l D cI cJ cZ cG cH H.size q29) (cwI 0 hts (xGW tbC wd956) rfl rfl rfl (hts (.initialized RX6) (tbC _ wd57)) (hts (.methodLink RX10 48 yX6_init) (tbC _ wd185)) (hts (.instanceMethod yX6_init) (tbC _ wd186)) rfl (by decide +kernel) ⟨Nat.le_of_ble_eq_true rfl, Nat.le_of_ble_eq_true rfl⟩) ⟨xPcA_blind, xPcA_pre hPc hK hDc hovI hovJ⟩ rfl rfl hl.1 rfl (lv_room (Nat.le_of_ble_eq_true rfl)) dX10_init_72 ⟨Nat.le_of_ble_eq_true rfl, Nat.le_of_ble_eq_true rfl⟩) hS (fun q _ h => hFc q h) hFc (fun u t H1 locs ht hvm hw30 hB hz1 hk1 hS => ?_)
  obtain ⟨sca_31, sla_32, ssa_33, rr_34, szs_35, hf35_0, hP1, hK1, hD1⟩ := hB
  rw [ht] at hP1
  have hPD : xPD D A [(xo, .inr (9, [.ref q1, .null, .ref q4, .ref q15, .ref q22, .ref q26, .null, .null, .null, .int 0])), oX8 q1 tba_3 0, oAI tba_3 cI 400 (fun _ => 0), oX5 q4 hy_6 rsa_7 ria_8 raa_9 rta_10 rga_11 0 0 0 0 0 0 0 0, oAI rsa_7 cI 8 (fun _ => 0), oAI ria_8 cI 8 (fun _ => 0), oAI raa_9 cI 8 (fun _ => 0), oAI rta_10 cI 8 (fun _ => 0), oAI rga_11 cI 8 (fun _ => 0), oX2 hy_6 yaa_12 yba_13 yca_14 0, oAI yaa_12 cI 64 (fun _ => 0), oAI yba_13 cI 64 (fun _ => 0), oAI yca_14 cI 64 (fun _ => 0), oX0 q15 fwa_17 fta_18 fra_19 fga_20 cxa_21 0 0 0 0, oAI fwa_17 cI 8 (fun _ => 0), oAI fta_18 cI 8 (fun _ => 0), oAI fra_19 cI 8 (fun _ => 0), oAI fga_20 cI 8 (fun _ => 0), oAI cxa_21 cI 145 (fun _ => 0), oX9 q22 q15 wba_24 wka_25 0 0 0, oAI wba_24 cI 64 (fun _ => 0), oAI wka_25 cZ 64 (fun _ => 0), oX7 q26 q15 srwa_28 0 (-4), oAI srwa_28 cI 8 (fun _ => 0), oX6 q29 sca_31 sla_32 ssa_33, oAM sca_31 cG 4 rr_34, oAI (rr_34 0) cI 40 (fun _ => 0), oAI (rr_34 1) cI 40 (fun _ => 0), oAI (rr_34 2) cI 40 (fun _ => 0), oAI (rr_34 3) cI 40 (fun _ => 0), oAI sla_32 cI 4 (fun _ => 0), oAI ssa_33 cI 4 szs_35] H1 := xjn 24 hP hD [24] [0, 1, 2, 3, 4, 5, 6, 7, 8, 9, 10, 11, 12, 13, 14, 15, 16, 17, 18, 19, 20, 21, 22, 23] hC9 rfl (by decide +kernel) (by decide +kernel) hk1 hFc hP1 hD1
  obtain ⟨hP, hD⟩ := hPD
  generalize H1 = H at hP hS ⊢
  have hf35_0 : ∀ j, j < 4 → szs_35 j = -4 := hf35_0
  refine W.widen (k := 31) (n := 1159) (by decide) (by decide) ?_
  refine va_putF (D := D) (ci := 9) (v := .ref q29) (ty := (.object "PowerRails$Sheets")) (C := RX10) (T := TX10) (N := 10) hx hb hts (fun w h => tbC w (tbfX10 w h)) tyX10 tyX10_ok nmX10 hown hK hP hD hS 0 rfl rfl 6 (by decide) (hts (.fieldLink RX10 49 "PowerRails" "sheets" "LPowerRails$Sheets;") (tbC _ wd253)) (fun _ h9 => h9) rfl hin rfl (by decide +kernel) rfl rfl (Nat.le_of_ble_eq_true rfl) dX10_init_75 (fun H locs hP hD hS => ?_)
  have hPD : xPD D A [(xo, .inr (9, [.ref q1, .null, .ref q4, .ref q15, .ref q22, .ref q26, .ref q29, .null, .null, .int 0])), oX8 q1 tba_3 0, oAI tba_3 cI 400 (fun _ => 0), oX5 q4 hy_6 rsa_7 ria_8 raa_9 rta_10 rga_11 0 0 0 0 0 0 0 0, oAI rsa_7 cI 8 (fun _ => 0), oAI ria_8 cI 8 (fun _ => 0), oAI raa_9 cI 8 (fun _ => 0), oAI rta_10 cI 8 (fun _ => 0), oAI rga_11 cI 8 (fun _ => 0), oX2 hy_6 yaa_12 yba_13 yca_14 0, oAI yaa_12 cI 64 (fun _ => 0), oAI yba_13 cI 64 (fun _ => 0), oAI yca_14 cI 64 (fun _ => 0), oX0 q15 fwa_17 fta_18 fra_19 fga_20 cxa_21 0 0 0 0, oAI fwa_17 cI 8 (fun _ => 0), oAI fta_18 cI 8 (fun _ => 0), oAI fra_19 cI 8 (fun _ => 0), oAI fga_20 cI 8 (fun _ => 0), oAI cxa_21 cI 145 (fun _ => 0), oX9 q22 q15 wba_24 wka_25 0 0 0, oAI wba_24 cI 64 (fun _ => 0), oAI wka_25 cZ 64 (fun _ => 0), oX7 q26 q15 srwa_28 0 (-4), oAI srwa_28 cI 8 (fun _ => 0), oX6 q29 sca_31 sla_32 ssa_33, oAM sca_31 cG 4 rr_34, oAI (rr_34 0) cI 40 (fun _ => 0), oAI (rr_34 1) cI 40 (fun _ => 0), oAI (rr_34 2) cI 40 (fun _ => 0), oAI (rr_34 3) cI 40 (fun _ => 0), oAI sla_32 cI 4 (fun _ => 0), oAI ssa_33 cI 4 szs_35] H := ⟨hP, hD⟩
  obtain ⟨hP, hD⟩ := hPD
  refine lv_aload_n hx hb dX10_init_78 rfl (lv_at hl 0 rfl) ?_
  refine va_new (ci := 2) (fs := [.null, .null, .int 0, .int 0, .int 0, .int 0]) (C := RX3) (T := TX3) (N := 6) hx hb hts (fun w h => tbC w (tbfX3 w h)) tyX3 tyX3_ok hown (hts (.classLink RX10 53 RX3) (tbC _ wd197)) (hts (.instantiable RX3 6) (tbC _ wd198)) (hts (.initialized RX3) (tbC _ wd59)) hK hP hD hS hA rfl (xdef_X3) (Nat.le_of_ble_eq_true rfl) (Nat.le_of_ble_eq_true rfl) dX10_init_79 (fun q36 H hP hD hS => ?_)
  have hPD : xPD D A [(xo, .inr (9, [.ref q1, .null, .ref q4, .ref q15, .ref q22, .ref q26, .ref q29, .null, .null, .int 0])), oX8 q1 tba_3 0, oAI tba_3 cI 400 (fun _ => 0), oX5 q4 hy_6 rsa_7 ria_8 raa_9 rta_10 rga_11 0 0 0 0 0 0 0 0, oAI rsa_7 cI 8 (fun _ => 0), oAI ria_8 cI 8 (fun _ => 0), oAI raa_9 cI 8 (fun _ => 0), oAI rta_10 cI 8 (fun _ => 0), oAI rga_11 cI 8 (fun _ => 0), oX2 hy_6 yaa_12 yba_13 yca_14 0, oAI yaa_12 cI 64 (fun _ => 0), oAI yba_13 cI 64 (fun _ => 0), oAI yca_14 cI 64 (fun _ => 0), oX0 q15 fwa_17 fta_18 fra_19 fga_20 cxa_21 0 0 0 0, oAI fwa_17 cI 8 (fun _ => 0), oAI fta_18 cI 8 (fun _ => 0), oAI fra_19 cI 8 (fun _ => 0), oAI fga_20 cI 8 (fun _ => 0), oAI cxa_21 cI 145 (fun _ => 0), oX9 q22 q15 wba_24 wka_25 0 0 0, oAI wba_24 cI 64 (fun _ => 0), oAI wka_25 cZ 64 (fun _ => 0), oX7 q26 q15 srwa_28 0 (-4), oAI srwa_28 cI 8 (fun _ => 0), oX6 q29 sca_31 sla_32 ssa_33, oAM sca_31 cG 4 rr_34, oAI (rr_34 0) cI 40 (fun _ => 0), oAI (rr_34 1) cI 40 (fun _ => 0), oAI (rr_34 2) cI 40 (fun _ => 0), oAI (rr_34 3) cI 40 (fun _ => 0), oAI sla_32 cI 4 (fun _ => 0), oAI ssa_33 cI 4 szs_35, (q36, .inr (2, [.null, .null, .int 0, .int 0, .int 0, .int 0]))] H := ⟨hP, hD⟩
  obtain ⟨hP, hD⟩ := hPD
  refine W.widen (k := 32) (n := 1165) (by decide) (by decide) ?_
  refine lv_dup hx hb dX10_init_82 rfl ?_
  obtain ⟨hPc, hDc, hFc, hC9⟩ := xpk (wc := W_n_Plan cI cJ cZ cG cH q36) hP hD hS hA [32] (by decide +kernel) rfl
  refine va_callv (va_runI (As := []) (rest := [.ref q36, .ref xo]) ⟨hx, hb, hml, hown, hts⟩ (c_n_Plan l D cI cJ cZ cG cH H.size q36) (cwI 0 hts (xGW tbC wd958) rfl rfl rfl (hts (.initialized RX3) (tbC _ wd59)) (hts (.methodLink RX10 55 yX3_init) (tbC _ wd199)) (hts (.instanceMethod yX3_init) (tbC _ wd200)) rfl (by decide +kernel) ⟨Nat.le_of_ble_eq_true rfl, Nat.le_of_ble_eq_true rfl⟩) ⟨xPc_blind, xPc_pre hPc hK hDc⟩ rfl rfl hl.1 rfl (lv_room (Nat.le_of_ble_eq_true rfl)) dX10_init_83 ⟨Nat.le_of_ble_eq_true rfl, Nat.le_of_ble_eq_true rfl⟩) hS (fun q _ h => hFc q h) hFc (fun u t H1 locs ht hvm hw37 hB hz1 hk1 hS => ?_)
  obtain ⟨pna_38, pta_39, hP1, hK1, hD1⟩ := hB
  rw [ht] at hP1
  have hPD : xPD D A [(xo, .inr (9, [.ref q1, .null, .ref q4, .ref q15, .ref q22, .ref q26, .ref q29, .null, .null, .int 0])), oX8 q1 tba_3 0, oAI tba_3 cI 400 (fun _ => 0), oX5 q4 hy_6 rsa_7 ria_8 raa_9 rta_10 rga_11 0 0 0 0 0 0 0 0, oAI rsa_7 cI 8 (fun _ => 0), oAI ria_8 cI 8 (fun _ => 0), oAI raa_9 cI 8 (fun _ => 0), oAI rta_10 cI 8 (fun _ => 0), oAI rga_11 cI 8 (fun _ => 0), oX2 hy_6 yaa_12 yba_13 yca_14 0, oAI yaa_12 cI 64 (fun _ => 0), oAI yba_13 cI 64 (fun _ => 0), oAI yca_14 cI 64 (fun _ => 0), oX0 q15 fwa_17 fta_18 fra_19 fga_20 cxa_21 0 0 0 0, oAI fwa_17 cI 8 (fun _ => 0), oAI fta_18 cI 8 (fun _ => 0), oAI fra_19 cI 8 (fun _ => 0), oAI fga_20 cI 8 (fun _ => 0), oAI cxa_21 cI 145 (fun _ => 0), oX9 q22 q15 wba_24 wka_25 0 0 0, oAI wba_24 cI 64 (fun _ => 0), oAI wka_25 cZ 64 (fun _ => 0), oX7 q26 q15 srwa_28 0 (-4), oAI srwa_28 cI 8 (fun _ => 0), oX6 q29 sca_31 sla_32 ssa_33, oAM sca_31 cG 4 rr_34, oAI (rr_34 0) cI 40 (fun _ => 0), oAI (rr_34 1) cI 40 (fun _ => 0), oAI (rr_34 2) cI 40 (fun _ => 0), oAI (rr_34 3) cI 40 (fun _ => 0), oAI sla_32 cI 4 (fun _ => 0), oAI ssa_33 cI 4 szs_35, oX3 q36 pna_38 pta_39 0 999 0 5, oAI pna_38 cI 64 (fun _ => 0), oAJ pta_39 cJ 64 (fun _ => 0)] H1 := xjn 32 hP hD [32] [0, 1, 2, 3, 4, 5, 6, 7, 8, 9, 10, 11, 12, 13, 14, 15, 16, 17, 18, 19, 20, 21, 22, 23, 24, 25, 26, 27, 28, 29, 30, 31] hC9 rfl (by decide +kernel) (by decide +kernel) hk1 hFc hP1 hD1
  obtain ⟨hP, hD⟩ := hPD
  generalize H1 = H at hP hS ⊢
  refine W.widen (k := 34) (n := 1293) (by decide) (by decide) ?_
  refine va_put (D := D) (ci := 9) (v := .ref q36) (ty := (.object "PowerRails$Plan")) (C := RX10) (T := TX10) (N := 10) hx hb hts (fun w h => tbC w (tbfX10 w h)) tyX10 tyX10_ok nmX10 hown hK hP hD hS 0 rfl rfl 7 (by decide) (hts (.fieldLink RX10 56 "PowerRails" "plan" "LPowerRails$Plan;") (tbC _ wd254)) (fun _ h9 => h9) rfl (by decide +kernel) rfl rfl (Nat.le_of_ble_eq_true rfl) dX10_init_86 (fun H locs hP hD hS => ?_)
  have hPD : xPD D A [(xo, .inr (9, [.ref q1, .null, .ref q4, .ref q15, .ref q22, .ref q26, .ref q29, .ref q36, .null, .int 0])), oX8 q1 tba_3 0, oAI tba_3 cI 400 (fun _ => 0), oX5 q4 hy_6 rsa_7 ria_8 raa_9 rta_10 rga_11 0 0 0 0 0 0 0 0, oAI rsa_7 cI 8 (fun _ => 0), oAI ria_8 cI 8 (fun _ => 0), oAI raa_9 cI 8 (fun _ => 0), oAI rta_10 cI 8 (fun _ => 0), oAI rga_11 cI 8 (fun _ => 0), oX2 hy_6 yaa_12 yba_13 yca_14 0, oAI yaa_12 cI 64 (fun _ => 0), oAI yba_13 cI 64 (fun _ => 0), oAI yca_14 cI 64 (fun _ => 0), oX0 q15 fwa_17 fta_18 fra_19 fga_20 cxa_21 0 0 0 0, oAI fwa_17 cI 8 (fun _ => 0), oAI fta_18 cI 8 (fun _ => 0), oAI fra_19 cI 8 (fun _ => 0), oAI fga_20 cI 8 (fun _ => 0), oAI cxa_21 cI 145 (fun _ => 0), oX9 q22 q15 wba_24 wka_25 0 0 0, oAI wba_24 cI 64 (fun _ => 0), oAI wka_25 cZ 64 (fun _ => 0), oX7 q26 q15 srwa_28 0 (-4), oAI srwa_28 cI 8 (fun _ => 0), oX6 q29 sca_31 sla_32 ssa_33, oAM sca_31 cG 4 rr_34, oAI (rr_34 0) cI 40 (fun _ => 0), oAI (rr_34 1) cI 40 (fun _ => 0), oAI (rr_34 2) cI 40 (fun _ => 0), oAI (rr_34 3) cI 40 (fun _ => 0), oAI sla_32 cI 4 (fun _ => 0), oAI ssa_33 cI 4 szs_35, oX3 q36 pna_38 pta_39 0 999 0 5, oAI pna_38 cI 64 (fun _ => 0), oAJ pta_39 cJ 64 (fun _ => 0)] H := ⟨hP, hD⟩
  obtain ⟨hP, hD⟩ := hPD
  refine lv_aload_n hx hb dX10_init_89 rfl (lv_at hl 0 rfl) ?_
  refine va_new (ci := 2) (fs := [.null, .null, .int 0, .int 0, .int 0, .int 0]) (C := RX3) (T := TX3) (N := 6) hx hb hts (fun w h => tbC w (tbfX3 w h)) tyX3 tyX3_ok hown (hts (.classLink RX10 53 RX3) (tbC _ wd197)) (hts (.instantiable RX3 6) (tbC _ wd198)) (hts (.initialized RX3) (tbC _ wd59)) hK hP hD hS hA rfl (xdef_X3) (Nat.le_of_ble_eq_true rfl) (Nat.le_of_ble_eq_true rfl) dX10_init_90 (fun q40 H hP hD hS => ?_)
  have hPD : xPD D A [(xo, .inr (9, [.ref q1, .null, .ref q4, .ref q15, .ref q22, .ref q26, .ref q29, .ref q36, .null, .int 0])), oX8 q1 tba_3 0, oAI tba_3 cI 400 (fun _ => 0), oX5 q4 hy_6 rsa_7 ria_8 raa_9 rta_10 rga_11 0 0 0 0 0 0 0 0, oAI rsa_7 cI 8 (fun _ => 0), oAI ria_8 cI 8 (fun _ => 0), oAI raa_9 cI 8 (fun _ => 0), oAI rta_10 cI 8 (fun _ => 0), oAI rga_11 cI 8 (fun _ => 0), oX2 hy_6 yaa_12 yba_13 yca_14 0, oAI yaa_12 cI 64 (fun _ => 0), oAI yba_13 cI 64 (fun _ => 0), oAI yca_14 cI 64 (fun _ => 0), oX0 q15 fwa_17 fta_18 fra_19 fga_20 cxa_21 0 0 0 0, oAI fwa_17 cI 8 (fun _ => 0), oAI fta_18 cI 8 (fun _ => 0), oAI fra_19 cI 8 (fun _ => 0), oAI fga_20 cI 8 (fun _ => 0), oAI cxa_21 cI 145 (fun _ => 0), oX9 q22 q15 wba_24 wka_25 0 0 0, oAI wba_24 cI 64 (fun _ => 0), oAI wka_25 cZ 64 (fun _ => 0), oX7 q26 q15 srwa_28 0 (-4), oAI srwa_28 cI 8 (fun _ => 0), oX6 q29 sca_31 sla_32 ssa_33, oAM sca_31 cG 4 rr_34, oAI (rr_34 0) cI 40 (fun _ => 0), oAI (rr_34 1) cI 40 (fun _ => 0), oAI (rr_34 2) cI 40 (fun _ => 0), oAI (rr_34 3) cI 40 (fun _ => 0), oAI sla_32 cI 4 (fun _ => 0), oAI ssa_33 cI 4 szs_35, oX3 q36 pna_38 pta_39 0 999 0 5, oAI pna_38 cI 64 (fun _ => 0), oAJ pta_39 cJ 64 (fun _ => 0), (q40, .inr (2, [.null, .null, .int 0, .int 0, .int 0, .int 0]))] H := ⟨hP, hD⟩
  obtain ⟨hP, hD⟩ := hPD
  refine W.widen (k := 35) (n := 1299) (by decide) (by decide) ?_
  refine lv_dup hx hb dX10_init_93 rfl ?_
  obtain ⟨hPc, hDc, hFc, hC9⟩ := xpk (wc := W_n_Plan cI cJ cZ cG cH q40) hP hD hS hA [35] (by decide +kernel) rfl
  refine va_callv (va_runI (As := []) (rest := [.ref q40, .ref xo]) ⟨hx, hb, hml, hown, hts⟩ (c_n_Plan l D cI cJ cZ cG cH H.size q40) (cwI 0 hts (xGW tbC wd958) rfl rfl rfl (hts (.initialized RX3) (tbC _ wd59)) (hts (.methodLink RX10 55 yX3_init) (tbC _ wd199)) (hts (.instanceMethod yX3_init) (tbC _ wd200)) rfl (by decide +kernel) ⟨Nat.le_of_ble_eq_true rfl, Nat.le_of_ble_eq_true rfl⟩) ⟨xPc_blind, xPc_pre hPc hK hDc⟩ rfl rfl hl.1 rfl (lv_room (Nat.le_of_ble_eq_true rfl)) dX10_init_94 ⟨Nat.le_of_ble_eq_true rfl, Nat.le_of_ble_eq_true rfl⟩) hS (fun q _ h => hFc q h) hFc (fun u t H1 locs ht hvm hw41 hB hz1 hk1 hS => ?_)
  obtain ⟨pna_42, pta_43, hP1, hK1, hD1⟩ := hB
  rw [ht] at hP1
  have hPD : xPD D A [(xo, .inr (9, [.ref q1, .null, .ref q4, .ref q15, .ref q22, .ref q26, .ref q29, .ref q36, .null, .int 0])), oX8 q1 tba_3 0, oAI tba_3 cI 400 (fun _ => 0), oX5 q4 hy_6 rsa_7 ria_8 raa_9 rta_10 rga_11 0 0 0 0 0 0 0 0, oAI rsa_7 cI 8 (fun _ => 0), oAI ria_8 cI 8 (fun _ => 0), oAI raa_9 cI 8 (fun _ => 0), oAI rta_10 cI 8 (fun _ => 0), oAI rga_11 cI 8 (fun _ => 0), oX2 hy_6 yaa_12 yba_13 yca_14 0, oAI yaa_12 cI 64 (fun _ => 0), oAI yba_13 cI 64 (fun _ => 0), oAI yca_14 cI 64 (fun _ => 0), oX0 q15 fwa_17 fta_18 fra_19 fga_20 cxa_21 0 0 0 0, oAI fwa_17 cI 8 (fun _ => 0), oAI fta_18 cI 8 (fun _ => 0), oAI fra_19 cI 8 (fun _ => 0), oAI fga_20 cI 8 (fun _ => 0), oAI cxa_21 cI 145 (fun _ => 0), oX9 q22 q15 wba_24 wka_25 0 0 0, oAI wba_24 cI 64 (fun _ => 0), oAI wka_25 cZ 64 (fun _ => 0), oX7 q26 q15 srwa_28 0 (-4), oAI srwa_28 cI 8 (fun _ => 0), oX6 q29 sca_31 sla_32 ssa_33, oAM sca_31 cG 4 rr_34, oAI (rr_34 0) cI 40 (fun _ => 0), oAI (rr_34 1) cI 40 (fun _ => 0), oAI (rr_34 2) cI 40 (fun _ => 0), oAI (rr_34 3) cI 40 (fun _ => 0), oAI sla_32 cI 4 (fun _ => 0), oAI ssa_33 cI 4 szs_35, oX3 q36 pna_38 pta_39 0 999 0 5, oAI pna_38 cI 64 (fun _ => 0), oAJ pta_39 cJ 64 (fun _ => 0), oX3 q40 pna_42 pta_43 0 999 0 5, oAI pna_42 cI 64 (fun _ => 0), oAJ pta_43 cJ 64 (fun _ => 0)] H1 := xjn 35 hP hD [35] [0, 1, 2, 3, 4, 5, 6, 7, 8, 9, 10, 11, 12, 13, 14, 15, 16, 17, 18, 19, 20, 21, 22, 23, 24, 25, 26, 27, 28, 29, 30, 31, 32, 33, 34] hC9 rfl (by decide +kernel) (by decide +kernel) hk1 hFc hP1 hD1
  obtain ⟨hP, hD⟩ := hPD
  generalize H1 = H at hP hS ⊢
  refine W.widen (k := 37) (n := 1427) (by decide) (by decide) ?_
  refine va_put (D := D) (ci := 9) (v := .ref q40) (ty := (.object "PowerRails$Plan")) (C := RX10) (T := TX10) (N := 10) hx hb hts (fun w h => tbC w (tbfX10 w h)) tyX10 tyX10_ok nmX10 hown hK hP hD hS 0 rfl rfl 8 (by decide) (hts (.fieldLink RX10 60 "PowerRails" "spare" "LPowerRails$Plan;") (tbC _ wd255)) (fun _ h9 => h9) rfl (by decide +kernel) rfl rfl (Nat.le_of_ble_eq_true rfl) dX10_init_97 (fun H locs hP hD hS => ?_)
  have hPD : xPD D A [(xo, .inr (9, [.ref q1, .null, .ref q4, .ref q15, .ref q22, .ref q26, .ref q29, .ref q36, .ref q40, .int 0])), oX8 q1 tba_3 0, oAI tba_3 cI 400 (fun _ => 0), oX5 q4 hy_6 rsa_7 ria_8 raa_9 rta_10 rga_11 0 0 0 0 0 0 0 0, oAI rsa_7 cI 8 (fun _ => 0), oAI ria_8 cI 8 (fun _ => 0), oAI raa_9 cI 8 (fun _ => 0), oAI rta_10 cI 8 (fun _ => 0), oAI rga_11 cI 8 (fun _ => 0), oX2 hy_6 yaa_12 yba_13 yca_14 0, oAI yaa_12 cI 64 (fun _ => 0), oAI yba_13 cI 64 (fun _ => 0), oAI yca_14 cI 64 (fun _ => 0), oX0 q15 fwa_17 fta_18 fra_19 fga_20 cxa_21 0 0 0 0, oAI fwa_17 cI 8 (fun _ => 0), oAI fta_18 cI 8 (fun _ => 0), oAI fra_19 cI 8 (fun _ => 0), oAI fga_20 cI 8 (fun _ => 0), oAI cxa_21 cI 145 (fun _ => 0), oX9 q22 q15 wba_24 wka_25 0 0 0, oAI wba_24 cI 64 (fun _ => 0), oAI wka_25 cZ 64 (fun _ => 0), oX7 q26 q15 srwa_28 0 (-4), oAI srwa_28 cI 8 (fun _ => 0), oX6 q29 sca_31 sla_32 ssa_33, oAM sca_31 cG 4 rr_34, oAI (rr_34 0) cI 40 (fun _ => 0), oAI (rr_34 1) cI 40 (fun _ => 0), oAI (rr_34 2) cI 40 (fun _ => 0), oAI (rr_34 3) cI 40 (fun _ => 0), oAI sla_32 cI 4 (fun _ => 0), oAI ssa_33 cI 4 szs_35, oX3 q36 pna_38 pta_39 0 999 0 5, oAI pna_38 cI 64 (fun _ => 0), oAJ pta_39 cJ 64 (fun _ => 0), oX3 q40 pna_42 pta_43 0 999 0 5, oAI pna_42 cI 64 (fun _ => 0), oAJ pta_43 cJ 64 (fun _ => 0)] H := ⟨hP, hD⟩
  obtain ⟨hP, hD⟩ := hPD
  refine lv_aload_n hx hb dX10_init_100 rfl (lv_at hl 0 rfl) ?_
  refine va_new (ci := 3) (fs := [.null, .null, .null, .null, .null, .int 0, .int 0, .int 0, .int 0, .int 0, .int 0, .int 0, .int 0]) (C := RX4) (T := TX4) (N := 13) hx hb hts (fun w h => tbC w (tbfX4 w h)) tyX4 tyX4_ok hown (hts (.classLink RX10 63 RX4) (tbC _ wd226)) (hts (.instantiable RX4 13) (tbC _ wd227)) (hts (.initialized RX4) (tbC _ wd60)) hK hP hD hS hA rfl (xdef_X4) (Nat.le_of_ble_eq_true rfl) (Nat.le_of_ble_eq_true rfl) dX10_init_101 (fun q44 H hP hD hS => ?_)
  have hPD : xPD D A [(xo, .inr (9, [.ref q1, .null, .ref q4, .ref q15, .ref q22, .ref q26, .ref q29, .ref q36, .ref q40, .int 0])), oX8 q1 tba_3 0, oAI tba_3 cI 400 (fun _ => 0), oX5 q4 hy_6 rsa_7 ria_8 raa_9 rta_10 rga_11 0 0 0 0 0 0 0 0, oAI rsa_7 cI 8 (fun _ => 0), oAI ria_8 cI 8 (fun _ => 0), oAI raa_9 cI 8 (fun _ => 0), oAI rta_10 cI 8 (fun _ => 0), oAI rga_11 cI 8 (fun _ => 0), oX2 hy_6 yaa_12 yba_13 yca_14 0, oAI yaa_12 cI 64 (fun _ => 0), oAI yba_13 cI 64 (fun _ => 0), oAI yca_14 cI 64 (fun _ => 0), oX0 q15 fwa_17 fta_18 fra_19 fga_20 cxa_21 0 0 0 0, oAI fwa_17 cI 8 (fun _ => 0), oAI fta_18 cI 8 (fun _ => 0), oAI fra_19 cI 8 (fun _ => 0), oAI fga_20 cI 8 (fun _ => 0), oAI cxa_21 cI 145 (fun _ => 0), oX9 q22 q15 wba_24 wka_25 0 0 0, oAI wba_24 cI 64 (fun _ => 0), oAI wka_25 cZ 64 (fun _ => 0), oX7 q26 q15 srwa_28 0 (-4), oAI srwa_28 cI 8 (fun _ => 0), oX6 q29 sca_31 sla_32 ssa_33, oAM sca_31 cG 4 rr_34, oAI (rr_34 0) cI 40 (fun _ => 0), oAI (rr_34 1) cI 40 (fun _ => 0), oAI (rr_34 2) cI 40 (fun _ => 0), oAI (rr_34 3) cI 40 (fun _ => 0), oAI sla_32 cI 4 (fun _ => 0), oAI ssa_33 cI 4 szs_35, oX3 q36 pna_38 pta_39 0 999 0 5, oAI pna_38 cI 64 (fun _ => 0), oAJ pta_39 cJ 64 (fun _ => 0), oX3 q40 pna_42 pta_43 0 999 0 5, oAI pna_42 cI 64 (fun _ => 0), oAJ pta_43 cJ 64 (fun _ => 0), (q44, .inr (3, [.null, .null, .null, .null, .null, .int 0, .int 0, .int 0, .int 0, .int 0, .int 0, .int 0, .int 0]))] H := ⟨hP, hD⟩
  obtain ⟨hP, hD⟩ := hPD
  refine W.widen (k := 38) (n := 1440) (by decide) (by decide) ?_
  refine lv_dup hx hb dX10_init_104 rfl ?_
  refine lv_aload_n hx hb dX10_init_105 rfl (lv_at hl 0 rfl) ?_
  refine va_get (D := D) (ci := 9) (v := .ref q1) (C := RX10) (T := TX10) (N := 10) hx hb hts (fun w h => tbC w (tbfX10 w h)) hown hK hP 0 rfl rfl 0 (by decide) (hts (.fieldLink RX10 10 "PowerRails" "tape" "LPowerRails$Tape;") (tbC _ wd247)) (fun _ h9 => h9) rfl dX10_init_106 ?_
  refine lv_aload_n hx hb dX10_init_109 rfl (lv_at hl 0 rfl) ?_
  refine va_get (D := D) (ci := 9) (v := .ref q40) (C := RX10) (T := TX10) (N := 10) hx hb hts (fun w h => tbC w (tbfX10 w h)) hown hK hP 0 rfl rfl 8 (by decide) (hts (.fieldLink RX10 60 "PowerRails" "spare" "LPowerRails$Plan;") (tbC _ wd255)) (fun _ h9 => h9) rfl dX10_init_110 ?_
  obtain ⟨hPc, hDc, hFc, hC9⟩ := xpk (wc := W_n_Reader cI cJ cZ cG cH q44 q1 q40) hP hD hS hA [38] (by decide +kernel) rfl
  refine va_callv (va_runI (As := [.ref q1, .ref q40]) (rest := [.ref q44, .ref xo]) ⟨hx, hb, hml, hown, hts⟩ (c_n_Reader l D cI cJ cZ cG cH H.size q44 q1 q40) (cwI 2 hts (xGW tbC wd959) rfl rfl rfl (hts (.initialized RX4) (tbC _ wd60)) (hts (.methodLink RX10 65 yX4_init) (tbC _ wd228)) (hts (.instanceMethod yX4_init) (tbC _ wd229)) rfl (by decide +kernel) ⟨Nat.le_of_ble_eq_true rfl, Nat.le_of_ble_eq_true rfl⟩) ⟨xPcA_blind, xPcA_pre hPc hK hDc hovI hovJ⟩ rfl rfl hl.1 rfl (lv_room (Nat.le_of_ble_eq_true rfl)) dX10_init_113 ⟨Nat.le_of_ble_eq_true rfl, Nat.le_of_ble_eq_true rfl⟩) hS (fun q _ h => hFc q h) hFc (fun u t H1 locs ht hvm hw45 hB hz1 hk1 hS => ?_)
  obtain ⟨rfa_46, rya_47, rla_48, ryf_49, rlf_50, hP1, hK1, hD1⟩ := hB
  rw [ht] at hP1
  have hPD : xPD D A [(xo, .inr (9, [.ref q1, .null, .ref q4, .ref q15, .ref q22, .ref q26, .ref q29, .ref q36, .ref q40, .int 0])), oX8 q1 tba_3 0, oAI tba_3 cI 400 (fun _ => 0), oX5 q4 hy_6 rsa_7 ria_8 raa_9 rta_10 rga_11 0 0 0 0 0 0 0 0, oAI rsa_7 cI 8 (fun _ => 0), oAI ria_8 cI 8 (fun _ => 0), oAI raa_9 cI 8 (fun _ => 0), oAI rta_10 cI 8 (fun _ => 0), oAI rga_11 cI 8 (fun _ => 0), oX2 hy_6 yaa_12 yba_13 yca_14 0, oAI yaa_12 cI 64 (fun _ => 0), oAI yba_13 cI 64 (fun _ => 0), oAI yca_14 cI 64 (fun _ => 0), oX0 q15 fwa_17 fta_18 fra_19 fga_20 cxa_21 0 0 0 0, oAI fwa_17 cI 8 (fun _ => 0), oAI fta_18 cI 8 (fun _ => 0), oAI fra_19 cI 8 (fun _ => 0), oAI fga_20 cI 8 (fun _ => 0), oAI cxa_21 cI 145 (fun _ => 0), oX9 q22 q15 wba_24 wka_25 0 0 0, oAI wba_24 cI 64 (fun _ => 0), oAI wka_25 cZ 64 (fun _ => 0), oX7 q26 q15 srwa_28 0 (-4), oAI srwa_28 cI 8 (fun _ => 0), oX6 q29 sca_31 sla_32 ssa_33, oAM sca_31 cG 4 rr_34, oAI (rr_34 0) cI 40 (fun _ => 0), oAI (rr_34 1) cI 40 (fun _ => 0), oAI (rr_34 2) cI 40 (fun _ => 0), oAI (rr_34 3) cI 40 (fun _ => 0), oAI sla_32 cI 4 (fun _ => 0), oAI ssa_33 cI 4 szs_35, oX3 q36 pna_38 pta_39 0 999 0 5, oAI pna_38 cI 64 (fun _ => 0), oAJ pta_39 cJ 64 (fun _ => 0), oX3 q40 pna_42 pta_43 0 999 0 5, oAI pna_42 cI 64 (fun _ => 0), oAJ pta_43 cJ 64 (fun _ => 0), oX4 q44 q1 rfa_46 rya_47 rla_48 q40 0 0 0 0 0 0 0 0, oAI rfa_46 cI 8 (fun _ => 0), oAM rya_47 cH 7 ryf_49, oAJ (ryf_49 0) cJ 8 (fun _ => 0), oAJ (ryf_49 1) cJ 8 (fun _ => 0), oAJ (ryf_49 2) cJ 8 (fun _ => 0), oAJ (ryf_49 3) cJ 8 (fun _ => 0), oAJ (ryf_49 4) cJ 8 (fun _ => 0), oAJ (ryf_49 5) cJ 8 (fun _ => 0), oAJ (ryf_49 6) cJ 8 (fun _ => 0), oAM rla_48 cH 7 rlf_50, oAJ (rlf_50 0) cJ 8 (fun _ => 0), oAJ (rlf_50 1) cJ 8 (fun _ => 0), oAJ (rlf_50 2) cJ 8 (fun _ => 0), oAJ (rlf_50 3) cJ 8 (fun _ => 0), oAJ (rlf_50 4) cJ 8 (fun _ => 0), oAJ (rlf_50 5) cJ 8 (fun _ => 0), oAJ (rlf_50 6) cJ 8 (fun _ => 0)] H1 := xjn 38 hP hD [38] [0, 1, 2, 3, 4, 5, 6, 7, 8, 9, 10, 11, 12, 13, 14, 15, 16, 17, 18, 19, 20, 21, 22, 23, 24, 25, 26, 27, 28, 29, 30, 31, 32, 33, 34, 35, 36, 37] hC9 rfl (by decide +kernel) (by decide +kernel) hk1 hFc hP1 hD1
  obtain ⟨hP, hD⟩ := hPD
  generalize H1 = H at hP hS ⊢
  refine W.widen (k := 55) (n := 1574) (by decide) (by decide) ?_
  refine va_putF (D := D) (ci := 9) (v := .ref q44) (ty := (.object "PowerRails$Reader")) (C := RX10) (T := TX10) (N := 10) hx hb hts (fun w h => tbC w (tbfX10 w h)) tyX10 tyX10_ok nmX10 hown hK hP hD hS 0 rfl rfl 1 (by decide) (hts (.fieldLink RX10 68 "PowerRails" "reader" "LPowerRails$Reader;") (tbC _ wd248)) (fun _ h9 => h9) rfl hin rfl (by decide +kernel) rfl rfl (Nat.le_of_ble_eq_true rfl) dX10_init_116 (fun H locs hP hD hS => ?_)
  obtain ⟨hP, hD⟩ : xPD D A [oX10 xo q1 q44 q4 q15 q22 q26 q29 q36 q40 0, oX8 q1 tba_3 0, oAI tba_3 cI 400 (fun _ => 0), oX5 q4 hy_6 rsa_7 ria_8 raa_9 rta_10 rga_11 0 0 0 0 0 0 0 0, oAI rsa_7 cI 8 (fun _ => 0), oAI ria_8 cI 8 (fun _ => 0), oAI raa_9 cI 8 (fun _ => 0), oAI rta_10 cI 8 (fun _ => 0), oAI rga_11 cI 8 (fun _ => 0), oX2 hy_6 yaa_12 yba_13 yca_14 0, oAI yaa_12 cI 64 (fun _ => 0), oAI yba_13 cI 64 (fun _ => 0), oAI yca_14 cI 64 (fun _ => 0), oX0 q15 fwa_17 fta_18 fra_19 fga_20 cxa_21 0 0 0 0, oAI fwa_17 cI 8 (fun _ => 0), oAI fta_18 cI 8 (fun _ => 0), oAI fra_19 cI 8 (fun _ => 0), oAI fga_20 cI 8 (fun _ => 0), oAI cxa_21 cI 145 (fun _ => 0), oX9 q22 q15 wba_24 wka_25 0 0 0, oAI wba_24 cI 64 (fun _ => 0), oAI wka_25 cZ 64 (fun _ => 0), oX7 q26 q15 srwa_28 0 (-4), oAI srwa_28 cI 8 (fun _ => 0), oX6 q29 sca_31 sla_32 ssa_33, oAM sca_31 cG 4 rr_34, oAI (rr_34 0) cI 40 (fun _ => 0), oAI (rr_34 1) cI 40 (fun _ => 0), oAI (rr_34 2) cI 40 (fun _ => 0), oAI (rr_34 3) cI 40 (fun _ => 0), oAI sla_32 cI 4 (fun _ => 0), oAI ssa_33 cI 4 szs_35, oX3 q36 pna_38 pta_39 0 999 0 5, oAI pna_38 cI 64 (fun _ => 0), oAJ pta_39 cJ 64 (fun _ => 0), oX3 q40 pna_42 pta_43 0 999 0 5, oAI pna_42 cI 64 (fun _ => 0), oAJ pta_43 cJ 64 (fun _ => 0), oX4 q44 q1 rfa_46 rya_47 rla_48 q40 0 0 0 0 0 0 0 0, oAI rfa_46 cI 8 (fun _ => 0), oAM rya_47 cH 7 ryf_49, oAJ (ryf_49 0) cJ 8 (fun _ => 0), oAJ (ryf_49 1) cJ 8 (fun _ => 0), oAJ (ryf_49 2) cJ 8 (fun _ => 0), oAJ (ryf_49 3) cJ 8 (fun _ => 0), oAJ (ryf_49 4) cJ 8 (fun _ => 0), oAJ (ryf_49 5) cJ 8 (fun _ => 0), oAJ (ryf_49 6) cJ 8 (fun _ => 0), oAM rla_48 cH 7 rlf_50, oAJ (rlf_50 0) cJ 8 (fun _ => 0), oAJ (rlf_50 1) cJ 8 (fun _ => 0), oAJ (rlf_50 2) cJ 8 (fun _ => 0), oAJ (rlf_50 3) cJ 8 (fun _ => 0), oAJ (rlf_50 4) cJ 8 (fun _ => 0), oAJ (rlf_50 5) cJ 8 (fun _ => 0), oAJ (rlf_50 6) cJ 8 (fun _ => 0)] H := ⟨hP, hD⟩
  refine lv_aload_n hx hb dX10_init_119 rfl (lv_at hl 0 rfl) ?_
  refine lv_iconst (v := 0) hx hb dX10_init_120 (by decide) ?_
  refine va_put (D := D) (ci := 9) (v := .int 0) (ty := .int) (C := RX10) (T := TX10) (N := 10) hx hb hts (fun w h => tbC w (tbfX10 w h)) tyX10 tyX10_ok nmX10 hown hK hP hD hS 0 rfl rfl 9 (by decide) (hts (.fieldLink RX10 72 "PowerRails" "latestFault" "I") (tbC _ wd256)) (fun _ h9 => h9) rfl (by decide +kernel) rfl rfl (Nat.le_of_ble_eq_true rfl) dX10_init_121 (fun H locs hP hD hS => ?_)
  obtain ⟨hP, hD⟩ : xPD D A [oX10 xo q1 q44 q4 q15 q22 q26 q29 q36 q40 0, oX8 q1 tba_3 0, oAI tba_3 cI 400 (fun _ => 0), oX5 q4 hy_6 rsa_7 ria_8 raa_9 rta_10 rga_11 0 0 0 0 0 0 0 0, oAI rsa_7 cI 8 (fun _ => 0), oAI ria_8 cI 8 (fun _ => 0), oAI raa_9 cI 8 (fun _ => 0), oAI rta_10 cI 8 (fun _ => 0), oAI rga_11 cI 8 (fun _ => 0), oX2 hy_6 yaa_12 yba_13 yca_14 0, oAI yaa_12 cI 64 (fun _ => 0), oAI yba_13 cI 64 (fun _ => 0), oAI yca_14 cI 64 (fun _ => 0), oX0 q15 fwa_17 fta_18 fra_19 fga_20 cxa_21 0 0 0 0, oAI fwa_17 cI 8 (fun _ => 0), oAI fta_18 cI 8 (fun _ => 0), oAI fra_19 cI 8 (fun _ => 0), oAI fga_20 cI 8 (fun _ => 0), oAI cxa_21 cI 145 (fun _ => 0), oX9 q22 q15 wba_24 wka_25 0 0 0, oAI wba_24 cI 64 (fun _ => 0), oAI wka_25 cZ 64 (fun _ => 0), oX7 q26 q15 srwa_28 0 (-4), oAI srwa_28 cI 8 (fun _ => 0), oX6 q29 sca_31 sla_32 ssa_33, oAM sca_31 cG 4 rr_34, oAI (rr_34 0) cI 40 (fun _ => 0), oAI (rr_34 1) cI 40 (fun _ => 0), oAI (rr_34 2) cI 40 (fun _ => 0), oAI (rr_34 3) cI 40 (fun _ => 0), oAI sla_32 cI 4 (fun _ => 0), oAI ssa_33 cI 4 szs_35, oX3 q36 pna_38 pta_39 0 999 0 5, oAI pna_38 cI 64 (fun _ => 0), oAJ pta_39 cJ 64 (fun _ => 0), oX3 q40 pna_42 pta_43 0 999 0 5, oAI pna_42 cI 64 (fun _ => 0), oAJ pta_43 cJ 64 (fun _ => 0), oX4 q44 q1 rfa_46 rya_47 rla_48 q40 0 0 0 0 0 0 0 0, oAI rfa_46 cI 8 (fun _ => 0), oAM rya_47 cH 7 ryf_49, oAJ (ryf_49 0) cJ 8 (fun _ => 0), oAJ (ryf_49 1) cJ 8 (fun _ => 0), oAJ (ryf_49 2) cJ 8 (fun _ => 0), oAJ (ryf_49 3) cJ 8 (fun _ => 0), oAJ (ryf_49 4) cJ 8 (fun _ => 0), oAJ (ryf_49 5) cJ 8 (fun _ => 0), oAJ (ryf_49 6) cJ 8 (fun _ => 0), oAM rla_48 cH 7 rlf_50, oAJ (rlf_50 0) cJ 8 (fun _ => 0), oAJ (rlf_50 1) cJ 8 (fun _ => 0), oAJ (rlf_50 2) cJ 8 (fun _ => 0), oAJ (rlf_50 3) cJ 8 (fun _ => 0), oAJ (rlf_50 4) cJ 8 (fun _ => 0), oAJ (rlf_50 5) cJ 8 (fun _ => 0), oAJ (rlf_50 6) cJ 8 (fun _ => 0)] H := ⟨hP, hD⟩
  refine W.widen (k := 55) (n := 1574) (by decide) (by decide) ?_
  exact W.vret hx hb hr (fun t ht hW => ⟨⟨(), rfl, trivial, ⟨q1, q44, q4, q15, q22, q26, q29, q36, q40, tba_3, hy_6, rsa_7, ria_8, raa_9, rta_10, rga_11, yaa_12, yba_13, yca_14, fwa_17, fta_18, fra_19, fga_20, cxa_21, wba_24, wka_25, srwa_28, sca_31, sla_32, ssa_33, rr_34, szs_35, pna_38, pta_39, pna_42, pta_43, rfa_46, rya_47, rla_48, ryf_49, rlf_50, hf35_0, xB_of9 ht hW hP hK hD [0, 1, 2, 3, 4, 5, 6, 7, 8, 9, 10, 11, 12, 13, 14, 15, 16, 17, 18, 19, 20, 21, 22, 23, 24, 25, 26, 27, 28, 29, 30, 31, 32, 33, 34, 35, 36, 37, 38, 39, 40, 41, 42, 43, 44, 45, 46, 47, 48, 49, 50, 51, 52, 53, 54, 55] (by decide +kernel) rfl⟩⟩, hS.F ht⟩) hS.2.2 dX10_init_124
