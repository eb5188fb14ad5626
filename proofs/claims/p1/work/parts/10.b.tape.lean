theorem in_X8_init_X8 : ∀ w ∈ wsX80, w ∈ wsX8_init := by decide +kernel
abbrev W_Tape_init (cI cJ cZ cG cH : ClassId) (tp : Nat) : va_W := [(tp, .inr (7, [.null, .int 0]))]
abbrev Q_Tape_init (D : va_G) (cI cJ cZ cG cH : ClassId) (tp : Nat) (A : Nat → Prop) : Array Value → State → Outcome → State → Prop := va_Qv (fun (_ : Unit) => True) (fun _ t => ∃ (tb : Nat), xB D (tyL cI cJ cZ cG cH) [(tp, .inr (7, [.ref tb, .int 0])), (tb, .inl (cI, 400, .inl (fun _ => 0)))] A t) A
abbrev rm_Tape_init : Room := { frames := 1, cells := 1, slots := 400, locals := 12 }
set_option maxRecDepth 100000 in
set_option maxHeartbeats 4000000 in
theorem c_Tape_init (l : Launch) (D : va_G) (cI cJ cZ cG cH : ClassId) (sz : Nat) (tp : Nat) : Met l yX8_init wsX8_init rm_Tape_init (xPc [.ref tp] D (tyL cI cJ cZ cG cH) (W_Tape_init cI cJ cZ cG cH tp) sz) (Q_Tape_init D cI cJ cZ cG cH tp (va_A (W_Tape_init cI cJ cZ cG cH tp) sz)) 1 400 (va_A (W_Tape_init cI cJ cZ cG cH tp) sz) := by
  refine xMet (cc := cX8_init) (maxL := 1) (ret := none) (Qf := Q_Tape_init D cI cJ cZ cG cH tp) (by decide) rfl (Nat.le_of_ble_eq_true rfl) ?_
  intro p e s m below meth c ls A hx hb hr hml hts hown hlocks hnm hsz hP hK hD hA hS hl
  have hown : s.vm.findClass RX8 = some m.cls := hown
  have hin : meth.name = "<init>" := hnm
  have hP : va_P D vwCl [(tp, .inr (7, [.null, .int 0]))] s.heap := hP
  have hD : va_D A [(tp, .inr (7, [.null, .int 0]))] := hD
  have hl : lv_has ls 1 [(0, .ref tp)] := hl
  refine lv_aload_n hx hb dX8_init_0 rfl (lv_at hl 0 rfl) ?_
  refine W.objInit hx hb hown (hts (.methodLink RX8 1 objectInit) (by decide +kernel)) (hts (.instanceMethod objectInit) (by decide +kernel)) (hts (.code objectInit ⟨#[0xb1]⟩ 1 none) (by decide +kernel)) rfl (by rw [hml]; exact hl.1) rfl dX8_init_1 (Nat.le_of_ble_eq_true rfl) (Nat.le_of_ble_eq_true rfl) ?_
  refine W.eq (g2 := F0 m 4 ls []) rfl ?_
  refine lv_aload_n hx hb dX8_init_4 rfl (lv_at hl 0 rfl) ?_
  refine lv_sipush (v := 400) hx hb dX8_init_5 (by decide) ?_
  refine va_newa (atype := .int) (ty := .int) (a0 := (400, .inl (fun _ => 0))) (N' := 400) hx hb (hts (.arrayClass .int) (by decide +kernel)) rfl hK hP hD hS hA (xnewI _) (by decide) (by decide) (by decide) (Nat.le_of_ble_eq_true rfl) (Nat.le_of_ble_eq_true rfl) dX8_init_8 (fun q1 cA2 H hKn hP hD hS => ?_)
  obtain rfl : cI = cA2 := xcls hKn (i := 0) (j := 5) rfl rfl (Or.inl rfl)
  have hP : va_P D vwCl [(tp, .inr (7, [.null, .int 0])), (q1, .inl (cI, 400, .inl (fun _ => 0)))] H := hP
  have hD : va_D A [(tp, .inr (7, [.null, .int 0])), (q1, .inl (cI, 400, .inl (fun _ => 0)))] := hD
  refine W.widen (k := 1) (n := 400) (by decide) (by decide) ?_
  refine va_putF (D := D) (ci := 7) (v := .ref q1) (ty := (.array .int)) (C := RX8) (T := TX8) (N := 2) hx hb hts in_X8_init_X8 tyX8 tyX8_ok nmX8 hown hK hP hD hS 0 rfl rfl 0 (by decide) (hts (.fieldLink RX8 9 "PowerRails$Tape" "bytes" "[I") (by decide +kernel)) (fun _ h9 => h9) rfl hin rfl (by decide +kernel) rfl rfl (Nat.le_of_ble_eq_true rfl) dX8_init_10 (fun H locs hP hD hS => ?_)
  have hP : va_P D vwCl [(tp, .inr (7, [.ref q1, .int 0])), (q1, .inl (cI, 400, .inl (fun _ => 0)))] H := hP
  have hD : va_D A [(tp, .inr (7, [.ref q1, .int 0])), (q1, .inl (cI, 400, .inl (fun _ => 0)))] := hD
  refine lv_aload_n hx hb dX8_init_13 rfl (lv_at hl 0 rfl) ?_
  refine lv_iconst (v := 0) hx hb dX8_init_14 (by decide) ?_
  refine va_put (D := D) (ci := 7) (v := .int 0) (ty := .int) (C := RX8) (T := TX8) (N := 2) hx hb hts in_X8_init_X8 tyX8 tyX8_ok nmX8 hown hK hP hD hS 0 rfl rfl 1 (by decide) (hts (.fieldLink RX8 13 "PowerRails$Tape" "length" "I") (by decide +kernel)) (fun _ h9 => h9) rfl (by decide +kernel) rfl rfl (Nat.le_of_ble_eq_true rfl) dX8_init_15 (fun H locs hP hD hS => ?_)
  have hP : va_P D vwCl [(tp, .inr (7, [.ref q1, .int 0])), (q1, .inl (cI, 400, .inl (fun _ => 0)))] H := hP
  have hD : va_D A [(tp, .inr (7, [.ref q1, .int 0])), (q1, .inl (cI, 400, .inl (fun _ => 0)))] := hD
  refine W.widen (k := 1) (n := 400) (by decide) (by decide) ?_
  have hP9 := hP.sub (ws' := [(tp, .inr (7, [.ref q1, .int 0])), (q1, .inl (cI, 400, .inl (fun _ => 0)))]) [0, 1] rfl
  have hD9 := hD.sub (ws' := [(tp, .inr (7, [.ref q1, .int 0])), (q1, .inl (cI, 400, .inl (fun _ => 0)))]) [0, 1] (by decide) rfl
  exact W.vret hx hb hr (fun t ht hW => ⟨⟨(), rfl, trivial, ⟨q1, xB_of ht hW hP9 hK hD9⟩⟩, hS.F ht⟩) hS.2.2 dX8_init_18
theorem in_X2_init_X2 : ∀ w ∈ wsX20, w ∈ wsX2_init := by decide +kernel
abbrev W_History_init (cI cJ cZ cG cH : ClassId) (hy : Nat) : va_W := [(hy, .inr (1, [.null, .null, .null, .int 0]))]
abbrev Q_History_init (D : va_G) (cI cJ cZ cG cH : ClassId) (hy : Nat) (A : Nat → Prop) : Array Value → State → Outcome → State → Prop := va_Qv (fun (_ : Unit) => True) (fun _ t => ∃ (ya : Nat) (yb : Nat) (yc : Nat), xB D (tyL cI cJ cZ cG cH) [(hy, .inr (1, [.ref ya, .ref yb, .ref yc, .int 0])), (ya, .inl (cI, 64, .inl (fun _ => 0))), (yb, .inl (cI, 64, .inl (fun _ => 0))), (yc, .inl (cI, 64, .inl (fun _ => 0)))] A t) A
abbrev rm_History_init : Room := { frames := 1, cells := 3, slots := 192, locals := 12 }
set_option maxRecDepth 100000 in
set_option maxHeartbeats 4000000 in
theorem c_History_init (l : Launch) (D : va_G) (cI cJ cZ cG cH : ClassId) (sz : Nat) (hy : Nat) : Met l yX2_init wsX2_init rm_History_init (xPc [.ref hy] D (tyL cI cJ cZ cG cH) (W_History_init cI cJ cZ cG cH hy) sz) (Q_History_init D cI cJ cZ cG cH hy (va_A (W_History_init cI cJ cZ cG cH hy) sz)) 3 192 (va_A (W_History_init cI cJ cZ cG cH hy) sz) := by
  refine xMet (cc := cX2_init) (maxL := 1) (ret := none) (Qf := Q_History_init D cI cJ cZ cG cH hy) (by decide) rfl (Nat.le_of_ble_eq_true rfl) ?_
  intro p e s m below meth c ls A hx hb hr hml hts hown hlocks hnm hsz hP hK hD hA hS hl
  have hown : s.vm.findClass RX2 = some m.cls := hown
  have hin : meth.name = "<init>" := hnm
  have hP : va_P D vwCl [(hy, .inr (1, [.null, .null, .null, .int 0]))] s.heap := hP
  have hD : va_D A [(hy, .inr (1, [.null, .null, .null, .int 0]))] := hD
  have hl : lv_has ls 1 [(0, .ref hy)] := hl
  refine lv_aload_n hx hb dX2_init_0 rfl (lv_at hl 0 rfl) ?_
  refine W.objInit hx hb hown (hts (.methodLink RX2 1 objectInit) (by decide +kernel)) (hts (.instanceMethod objectInit) (by decide +kernel)) (hts (.code objectInit ⟨#[0xb1]⟩ 1 none) (by decide +kernel)) rfl (by rw [hml]; exact hl.1) rfl dX2_init_1 (Nat.le_of_ble_eq_true rfl) (Nat.le_of_ble_eq_true rfl) ?_
  refine W.eq (g2 := F0 m 4 ls []) rfl ?_
  refine lv_aload_n hx hb dX2_init_4 rfl (lv_at hl 0 rfl) ?_
  refine lv_bipush (v := 64) hx hb dX2_init_5 (by decide) ?_
  refine va_newa (atype := .int) (ty := .int) (a0 := (64, .inl (fun _ => 0))) (N' := 64) hx hb (hts (.arrayClass .int) (by decide +kernel)) rfl hK hP hD hS hA (xnewI _) (by decide) (by decide) (by decide) (Nat.le_of_ble_eq_true rfl) (Nat.le_of_ble_eq_true rfl) dX2_init_7 (fun q1 cA2 H hKn hP hD hS => ?_)
  obtain rfl : cI = cA2 := xcls hKn (i := 0) (j := 5) rfl rfl (Or.inl rfl)
  have hP : va_P D vwCl [(hy, .inr (1, [.null, .null, .null, .int 0])), (q1, .inl (cI, 64, .inl (fun _ => 0)))] H := hP
  have hD : va_D A [(hy, .inr (1, [.null, .null, .null, .int 0])), (q1, .inl (cI, 64, .inl (fun _ => 0)))] := hD
  refine W.widen (k := 1) (n := 64) (by decide) (by decide) ?_
  refine va_putF (D := D) (ci := 1) (v := .ref q1) (ty := (.array .int)) (C := RX2) (T := TX2) (N := 4) hx hb hts in_X2_init_X2 tyX2 tyX2_ok nmX2 hown hK hP hD hS 0 rfl rfl 0 (by decide) (hts (.fieldLink RX2 9 "PowerRails$History" "ticks" "[I") (by decide +kernel)) (fun _ h9 => h9) rfl hin rfl (by decide +kernel) rfl rfl (Nat.le_of_ble_eq_true rfl) dX2_init_9 (fun H locs hP hD hS => ?_)
  have hP : va_P D vwCl [(hy, .inr (1, [.ref q1, .null, .null, .int 0])), (q1, .inl (cI, 64, .inl (fun _ => 0)))] H := hP
  have hD : va_D A [(hy, .inr (1, [.ref q1, .null, .null, .int 0])), (q1, .inl (cI, 64, .inl (fun _ => 0)))] := hD
  refine lv_aload_n hx hb dX2_init_12 rfl (lv_at hl 0 rfl) ?_
  refine lv_bipush (v := 64) hx hb dX2_init_13 (by decide) ?_
  refine va_newa (atype := .int) (ty := .int) (a0 := (64, .inl (fun _ => 0))) (N' := 64) hx hb (hts (.arrayClass .int) (by decide +kernel)) rfl hK hP hD hS hA (xnewI _) (by decide) (by decide) (by decide) (Nat.le_of_ble_eq_true rfl) (Nat.le_of_ble_eq_true rfl) dX2_init_15 (fun q3 cA4 H hKn hP hD hS => ?_)
  obtain rfl : cI = cA4 := xcls hKn (i := 0) (j := 5) rfl rfl (Or.inl rfl)
  have hP : va_P D vwCl [(hy, .inr (1, [.ref q1, .null, .null, .int 0])), (q1, .inl (cI, 64, .inl (fun _ => 0))), (q3, .inl (cI, 64, .inl (fun _ => 0)))] H := hP
  have hD : va_D A [(hy, .inr (1, [.ref q1, .null, .null, .int 0])), (q1, .inl (cI, 64, .inl (fun _ => 0))), (q3, .inl (cI, 64, .inl (fun _ => 0)))] := hD
  refine W.widen (k := 2) (n := 128) (by decide) (by decide) ?_
  refine va_putF (D := D) (ci := 1) (v := .ref q3) (ty := (.array .int)) (C := RX2) (T := TX2) (N := 4) hx hb hts in_X2_init_X2 tyX2 tyX2_ok nmX2 hown hK hP hD hS 0 rfl rfl 1 (by decide) (hts (.fieldLink RX2 13 "PowerRails$History" "who" "[I") (by decide +kernel)) (fun _ h9 => h9) rfl hin rfl (by decide +kernel) rfl rfl (Nat.le_of_ble_eq_true rfl) dX2_init_17 (fun H locs hP hD hS => ?_)
  have hP : va_P D vwCl [(hy, .inr (1, [.ref q1, .ref q3, .null, .int 0])), (q1, .inl (cI, 64, .inl (fun _ => 0))), (q3, .inl (cI, 64, .inl (fun _ => 0)))] H := hP
  have hD : va_D A [(hy, .inr (1, [.ref q1, .ref q3, .null, .int 0])), (q1, .inl (cI, 64, .inl (fun _ => 0))), (q3, .inl (cI, 64, .inl (fun _ => 0)))] := hD
  refine lv_aload_n hx hb dX2_init_20 rfl (lv_at hl 0 rfl) ?_
  refine lv_bipush (v := 64) hx hb dX2_init_21 (by decide) ?_
  refine va_newa (atype := .int) (ty := .int) (a0 := (64, .inl (fun _ => 0))) (N' := 64) hx hb (hts (.arrayClass .int) (by decide +kernel)) rfl hK hP hD hS hA (xnewI _) (by decide) (by decide) (by decide) (Nat.le_of_ble_eq_true rfl) (Nat.le_of_ble_eq_true rfl) dX2_init_23 (fun q5 cA6 H hKn hP hD hS => ?_)
  obtain rfl : cI = cA6 := xcls hKn (i := 0) (j := 5) rfl rfl (Or.inl rfl)
  have hP : va_P D vwCl [(hy, .inr (1, [.ref q1, .ref q3, .null, .int 0])), (q1, .inl (cI, 64, .inl (fun _ => 0))), (q3, .inl (cI, 64, .inl (fun _ => 0))), (q5, .inl (cI, 64, .inl (fun _ => 0)))] H := hP
  have hD : va_D A [(hy, .inr (1, [.ref q1, .ref q3, .null, .int 0])), (q1, .inl (cI, 64, .inl (fun _ => 0))), (q3, .inl (cI, 64, .inl (fun _ => 0))), (q5, .inl (cI, 64, .inl (fun _ => 0)))] := hD
  refine W.widen (k := 3) (n := 192) (by decide) (by decide) ?_
  refine va_putF (D := D) (ci := 1) (v := .ref q5) (ty := (.array .int)) (C := RX2) (T := TX2) (N := 4) hx hb hts in_X2_init_X2 tyX2 tyX2_ok nmX2 hown hK hP hD hS 0 rfl rfl 2 (by decide) (hts (.fieldLink RX2 16 "PowerRails$History" "became" "[I") (by decide +kernel)) (fun _ h9 => h9) rfl hin rfl (by decide +kernel) rfl rfl (Nat.le_of_ble_eq_true rfl) dX2_init_25 (fun H locs hP hD hS => ?_)
  have hP : va_P D vwCl [(hy, .inr (1, [.ref q1, .ref q3, .ref q5, .int 0])), (q1, .inl (cI, 64, .inl (fun _ => 0))), (q3, .inl (cI, 64, .inl (fun _ => 0))), (q5, .inl (cI, 64, .inl (fun _ => 0)))] H := hP
  have hD : va_D A [(hy, .inr (1, [.ref q1, .ref q3, .ref q5, .int 0])), (q1, .inl (cI, 64, .inl (fun _ => 0))), (q3, .inl (cI, 64, .inl (fun _ => 0))), (q5, .inl (cI, 64, .inl (fun _ => 0)))] := hD
  refine lv_aload_n hx hb dX2_init_28 rfl (lv_at hl 0 rfl) ?_
  refine lv_iconst (v := 0) hx hb dX2_init_29 (by decide) ?_
  refine va_put (D := D) (ci := 1) (v := .int 0) (ty := .int) (C := RX2) (T := TX2) (N := 4) hx hb hts in_X2_init_X2 tyX2 tyX2_ok nmX2 hown hK hP hD hS 0 rfl rfl 3 (by decide) (hts (.fieldLink RX2 19 "PowerRails$History" "size" "I") (by decide +kernel)) (fun _ h9 => h9) rfl (by decide +kernel) rfl rfl (Nat.le_of_ble_eq_true rfl) dX2_init_30 (fun H locs hP hD hS => ?_)
  have hP : va_P D vwCl [(hy, .inr (1, [.ref q1, .ref q3, .ref q5, .int 0])), (q1, .inl (cI, 64, .inl (fun _ => 0))), (q3, .inl (cI, 64, .inl (fun _ => 0))), (q5, .inl (cI, 64, .inl (fun _ => 0)))] H := hP
  have hD : va_D A [(hy, .inr (1, [.ref q1, .ref q3, .ref q5, .int 0])), (q1, .inl (cI, 64, .inl (fun _ => 0))), (q3, .inl (cI, 64, .inl (fun _ => 0))), (q5, .inl (cI, 64, .inl (fun _ => 0)))] := hD
  refine W.widen (k := 3) (n := 192) (by decide) (by decide) ?_
  have hP9 := hP.sub (ws' := [(hy, .inr (1, [.ref q1, .ref q3, .ref q5, .int 0])), (q1, .inl (cI, 64, .inl (fun _ => 0))), (q3, .inl (cI, 64, .inl (fun _ => 0))), (q5, .inl (cI, 64, .inl (fun _ => 0)))]) [0, 1, 2, 3] rfl
  have hD9 := hD.sub (ws' := [(hy, .inr (1, [.ref q1, .ref q3, .ref q5, .int 0])), (q1, .inl (cI, 64, .inl (fun _ => 0))), (q3, .inl (cI, 64, .inl (fun _ => 0))), (q5, .inl (cI, 64, .inl (fun _ => 0)))]) [0, 1, 2, 3] (by decide) rfl
  exact W.vret hx hb hr (fun t ht hW => ⟨⟨(), rfl, trivial, ⟨q1, q3, q5, xB_of ht hW hP9 hK hD9⟩⟩, hS.F ht⟩) hS.2.2 dX2_init_33
