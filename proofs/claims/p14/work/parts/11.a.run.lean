def K_rReset_3 (f36 : Nat → Int32) (f37 : Nat → Int32) (f38 : Nat → Int32) (f39 : Nat → Int32) (f40 : Nat → Int32) : (Nat → Int32) × (Nat → Int32) × (Nat → Int32) × (Nat → Int32) × (Nat → Int32) := (f36, f37, f38, f39, f40)
def K_rReset_5 (rec_2 : (Int32) → (Nat → Int32) → (Nat → Int32) → (Nat → Int32) → (Nat → Int32) → (Nat → Int32) → ((Nat → Int32) × (Nat → Int32) × (Nat → Int32) × (Nat → Int32) × (Nat → Int32))) (x35 : Int32) (f43 : Nat → Int32) (f44 : Nat → Int32) (f45 : Nat → Int32) (f39 : Nat → Int32) (r46 : Int32) (f40 : Nat → Int32) : (Nat → Int32) × (Nat → Int32) × (Nat → Int32) × (Nat → Int32) × (Nat → Int32) := (rec_2 (x35 + 1) f43 f44 f45 (upd f39 (x35 : Int32).toNatClampNeg r46) (upd f40 (x35 : Int32).toNatClampNeg (0 : Int32)))
def K_rReset_4 (rec_2 : (Int32) → (Nat → Int32) → (Nat → Int32) → (Nat → Int32) → (Nat → Int32) → (Nat → Int32) → ((Nat → Int32) × (Nat → Int32) × (Nat → Int32) × (Nat → Int32) × (Nat → Int32))) (x35 : Int32) (f36 : Nat → Int32) (f37 : Nat → Int32) (f38 : Nat → Int32) (f39 : Nat → Int32) (f40 : Nat → Int32) (pn : Nat → Int32) : (Nat → Int32) × (Nat → Int32) × (Nat → Int32) × (Nat → Int32) × (Nat → Int32) := ((fun t9 => (K_rReset_5 rec_2 x35 (upd f36 (x35 : Int32).toNatClampNeg (0 : Int32)) (upd f37 (x35 : Int32).toNatClampNeg (0 : Int32)) (upd f38 (x35 : Int32).toNatClampNeg (0 : Int32)) f39 t9 f40)) (M_number pn x35 (0 : Int32)))
def K_rReset_2 (x35 : Int32) (f36 : Nat → Int32) (f37 : Nat → Int32) (f38 : Nat → Int32) (f39 : Nat → Int32) (f40 : Nat → Int32) (rec_2 : (Int32) → (Nat → Int32) → (Nat → Int32) → (Nat → Int32) → (Nat → Int32) → (Nat → Int32) → ((Nat → Int32) × (Nat → Int32) × (Nat → Int32) × (Nat → Int32) × (Nat → Int32))) (pn : Nat → Int32) : (Nat → Int32) × (Nat → Int32) × (Nat → Int32) × (Nat → Int32) × (Nat → Int32) := (if 8 ≤ x35.toInt then (K_rReset_3 f36 f37 f38 f39 f40) else (K_rReset_4 rec_2 x35 f36 f37 f38 f39 f40 pn))
def K_rReset_L2 (pn : Nat → Int32) : Nat → (Int32) → (Nat → Int32) → (Nat → Int32) → (Nat → Int32) → (Nat → Int32) → (Nat → Int32) → (Nat → Int32) × (Nat → Int32) × (Nat → Int32) × (Nat → Int32) × (Nat → Int32)
  | 0, _, _, _, _, _, _ => (fun _ => 0, fun _ => 0, fun _ => 0, fun _ => 0, fun _ => 0)
  | n9 + 1, x35, f36, f37, f38, f39, f40 => (K_rReset_2 x35 f36 f37 f38 f39 f40 (K_rReset_L2 pn n9) pn)
def K_rReset_1 (pn : Nat → Int32) (rs : Nat → Int32) (ri : Nat → Int32) (ra : Nat → Int32) (rt : Nat → Int32) (rg : Nat → Int32) : (Nat → Int32) × (Nat → Int32) × (Nat → Int32) × (Nat → Int32) × (Nat → Int32) := (K_rReset_L2 pn 100000 (0 : Int32) rs ri ra rt rg)
def M_rReset (pn : Nat → Int32) (rs : Nat → Int32) (ri : Nat → Int32) (ra : Nat → Int32) (rt : Nat → Int32) (rg : Nat → Int32) : (Nat → Int32) × (Nat → Int32) × (Nat → Int32) × (Nat → Int32) × (Nat → Int32) := (K_rReset_1 pn rs ri ra rt rg)
abbrev W_rReset (cI cJ cZ cG cH : ClassId) (rn : Nat) (pl : Nat) (hy : Nat) (rsa : Nat) (ria : Nat) (raa : Nat) (rta : Nat) (rga : Nat) (dead : Int32) (key : Int32) (tick : Int32) (held : Int32) (tries : Int32) (trips : Int32) (ldraw : Int32) (gdraw : Int32) (rs : Nat → Int32) (ri : Nat → Int32) (ra : Nat → Int32) (rt : Nat → Int32) (rg : Nat → Int32) (yaa : Nat) (yba : Nat) (yca : Nat) (ysz : Int32) (pna : Nat) (pta : Nat) (rails : Int32) (limit : Int32) (retry : Int32) (behind : Int32) (pn : Nat → Int32) : va_W := [oX5 rn hy rsa ria raa rta rga dead key tick held tries trips ldraw gdraw, oAI rsa cI 8 rs, oAI ria cI 8 ri, oAI raa cI 8 ra, oAI rta cI 8 rt, oAI rga cI 8 rg, oX2 hy yaa yba yca ysz, oX3 pl pna pta rails limit retry behind, oAI pna cI 64 pn]
abbrev Q_rReset (D : va_G) (cI cJ cZ cG cH : ClassId) (rn : Nat) (pl : Nat) (hy : Nat) (rsa : Nat) (ria : Nat) (raa : Nat) (rta : Nat) (rga : Nat) (dead : Int32) (key : Int32) (tick : Int32) (held : Int32) (tries : Int32) (trips : Int32) (ldraw : Int32) (gdraw : Int32) (rs : Nat → Int32) (ri : Nat → Int32) (ra : Nat → Int32) (rt : Nat → Int32) (rg : Nat → Int32) (yaa : Nat) (yba : Nat) (yca : Nat) (ysz : Int32) (pna : Nat) (pta : Nat) (rails : Int32) (limit : Int32) (retry : Int32) (behind : Int32) (pn : Nat → Int32) (A : Nat → Prop) : Array Value → State → Outcome → State → Prop := va_Qv (fun (_ : Unit) => True) (fun _ t => ∃ (rs9 : Nat → Int32) (ri9 : Nat → Int32) (ra9 : Nat → Int32) (rt9 : Nat → Int32) (rg9 : Nat → Int32), (∀ j, j < 8 → 0 ≤ (rt9 j).toInt ∧ (rt9 j).toInt ≤ 511) ∧ (M_rReset pn rs ri ra rt rg = (rs9, ri9, ra9, rt9, rg9)) ∧ xB D (tyL cI cJ cZ cG cH) [oX5 rn hy rsa ria raa rta rga 0 0 0 0 retry 0 0 0, oAI rsa cI 8 rs9, oAI ria cI 8 ri9, oAI raa cI 8 ra9, oAI rta cI 8 rt9, oAI rga cI 8 rg9, oX2 hy yaa yba yca 0, oX3 pl pna pta rails limit retry behind, oAI pna cI 64 pn] A t) A
abbrev rm_rReset : Room := { frames := 1, cells := 0, slots := 0, locals := 22 }
set_option maxRecDepth 100000 in
set_option maxHeartbeats 40000000 in
theorem c_rReset (l : Launch) (D : va_G) (cI cJ cZ cG cH : ClassId) (sz : Nat) (rn : Nat) (pl : Nat) (hy : Nat) (rsa : Nat) (ria : Nat) (raa : Nat) (rta : Nat) (rga : Nat) (dead : Int32) (key : Int32) (tick : Int32) (held : Int32) (tries : Int32) (trips : Int32) (ldraw : Int32) (gdraw : Int32) (rs : Nat → Int32) (ri : Nat → Int32) (ra : Nat → Int32) (rt : Nat → Int32) (rg : Nat → Int32) (yaa : Nat) (yba : Nat) (yca : Nat) (ysz : Int32) (pna : Nat) (pta : Nat) (rails : Int32) (limit : Int32) (retry : Int32) (behind : Int32) (pn : Nat → Int32) (h_key : 0 ≤ key.toInt ∧ key.toInt ≤ 1) (h_rt : ∀ j, j < 8 → 0 ≤ (rt j).toInt ∧ (rt j).toInt ≤ 511) (h_ysz : 0 ≤ ysz.toInt ∧ ysz.toInt ≤ 64) (h_rails : 0 ≤ rails.toInt ∧ rails.toInt ≤ 8) (h_pn : ∀ j, j < 64 → 0 ≤ (pn j).toInt ∧ (pn j).toInt ≤ 511) : Met l yX5_reset (wt yX5_reset cX5_reset 3 none) rm_rReset (xPc [.ref rn, .ref pl] D (tyL cI cJ cZ cG cH) (W_rReset cI cJ cZ cG cH rn pl hy rsa ria raa rta rga dead key tick held tries trips ldraw gdraw rs ri ra rt rg yaa yba yca ysz pna pta rails limit retry behind pn) sz) (Q_rReset D cI cJ cZ cG cH rn pl hy rsa ria raa rta rga dead key tick held tries trips ldraw gdraw rs ri ra rt rg yaa yba yca ysz pna pta rails limit retry behind pn (va_A (W_rReset cI cJ cZ cG cH rn pl hy rsa ria raa rta rga dead key tick held tries trips ldraw gdraw rs ri ra rt rg yaa yba yca ysz pna pta rails limit retry behind pn) sz)) 0 0 (va_A (W_rReset cI cJ cZ cG cH rn pl hy rsa ria raa rta rga dead key tick held tries trips ldraw gdraw rs ri ra rt rg yaa yba yca ysz pna pta rails limit retry behind pn) sz) := by
  refine xMet (cc := cX5_reset) (maxL := 3) (ret := none) (Qf := Q_rReset D cI cJ cZ cG cH rn pl hy rsa ria raa rta rga dead key tick held tries trips ldraw gdraw rs ri ra rt rg yaa yba yca ysz pna pta rails limit retry behind pn) (by decide) rfl (Nat.le_of_ble_eq_true rfl) ?_
  intro p e s m below meth c ls A hx hb hr hml hts hown hlocks hnm hsz hP hK hD hA hS hl
  have hown : s.vm.findClass RX5 = some m.cls := hown
  have hP : va_P D vwCl [oX5 rn hy rsa ria raa rta rga dead key tick held tries trips ldraw gdraw, oAI rsa cI 8 rs, oAI ria cI 8 ri, oAI raa cI 8 ra, oAI rta cI 8 rt, oAI rga cI 8 rg, oX2 hy yaa yba yca ysz, oX3 pl pna pta rails limit retry behind, oAI pna cI 64 pn] s.heap := hP
  have hD : va_D A [oX5 rn hy rsa ria raa rta rga dead key tick held tries trips ldraw gdraw, oAI rsa cI 8 rs, oAI ria cI 8 ri, oAI raa cI 8 ra, oAI rta cI 8 rt, oAI rga cI 8 rg, oX2 hy yaa yba yca ysz, oX3 pl pna pta rails limit retry behind, oAI pna cI 64 pn] := hD
  have hl : lv_has ls 3 [(0, .ref rn), (1, .ref pl)] := hl
  have hM : M_rReset pn rs ri ra rt rg = (K_rReset_1 pn rs ri ra rt rg) := rfl
  refine lv_aload_n hx hb dX5_reset_0 rfl (lv_at hl 0 rfl) ?_
  refine va_get (D := D) (ci := 4) (v := .ref hy) (C := RX5) (T := TX5) (N := 14) hx hb hts (fun w h => tbC w (tbfX5 w h)) hown hK hP 0 rfl rfl 0 (by decide) (hts (.fieldLink RX5 12 "PowerRails$Run" "history" "LPowerRails$History;") (tbC _ wd106)) (fun _ h9 => h9) rfl dX5_reset_1 ?_
  refine lv_iconst (v := 0) hx hb dX5_reset_4 (by decide) ?_
  refine va_put (D := D) (ci := 1) (v := .int 0) (ty := .int) (C := RX2) (T := TX2) (N := 4) hx hb hts (fun w h => tbC w (tbfX2 w h)) tyX2 tyX2_ok nmX2 hown hK hP hD hS 6 rfl rfl 3 (by decide) (hts (.fieldLink RX5 42 "PowerRails$History" "size" "I") (tbC _ wd104)) (fun _ h9 => h9) rfl (by decide +kernel) rfl rfl (Nat.le_of_ble_eq_true rfl) dX5_reset_5 (fun H locs hP hD hS => ?_)
  obtain ⟨hP, hD⟩ : xPD D A [oX5 rn hy rsa ria raa rta rga dead key tick held tries trips ldraw gdraw, oAI rsa cI 8 rs, oAI ria cI 8 ri, oAI raa cI 8 ra, oAI rta cI 8 rt, oAI rga cI 8 rg, oX2 hy yaa yba yca 0, oX3 pl pna pta rails limit retry behind, oAI pna cI 64 pn] H := ⟨hP, hD⟩
  refine lv_iconst (v := 0) hx hb dX5_reset_8 (by decide) ?_
  refine lv_istore_n (lv' := [(2, .int 0), (0, .ref rn), (1, .ref pl)]) hx hb dX5_reset_9 rfl hl (by decide) rfl (fun ls hl => ?_)
  have hl41 : ∀ (nhl41 : Nat) (x35 : Int32) (f36 : Nat → Int32) (f37 : Nat → Int32) (f38 : Nat → Int32) (f39 : Nat → Int32) (f40 : Nat → Int32), ((8 - x35.toInt).toNat < nhl41) → (hx35 : 0 ≤ x35.toInt ∧ x35.toInt ≤ 8) → (hf39 : ∀ j, j < 8 → 0 ≤ (f39 j).toInt ∧ (f39 j).toInt ≤ 511) → (hM : M_rReset pn rs ri ra rt rg = (K_rReset_L2 pn nhl41 x35 f36 f37 f38 f39 f40)) → ∀ (H : Heap) (locs : List Loc), va_P D vwCl [oX5 rn hy rsa ria raa rta rga dead key tick held tries trips ldraw gdraw, oAI rsa cI 8 f36, oAI ria cI 8 f37, oAI raa cI 8 f38, oAI rta cI 8 f39, oAI rga cI 8 f40, oX2 hy yaa yba yca 0, oX3 pl pna pta rails limit retry behind, oAI pna cI 64 pn] H → va_D A [oX5 rn hy rsa ria raa rta rga dead key tick held tries trips ldraw gdraw, oAI rsa cI 8 f36, oAI ria cI 8 f37, oAI raa cI 8 f38, oAI rta cI 8 f39, oAI rga cI 8 f40, oX2 hy yaa yba yca 0, oX3 pl pna pta rails limit retry behind, oAI pna cI 64 pn] → va_S A s.heap H locs → ∀ (ls : Array Slot), lv_has ls 3 [(2, .int x35), (0, .ref rn), (1, .ref pl)] → W p l e rm_rReset s m [Value.ref rn, Value.ref pl].toArray below meth c H locs 0 0 (MQ below ((Q_rReset D cI cJ cZ cG cH rn pl hy rsa ria raa rta rga dead key tick held tries trips ldraw gdraw rs ri ra rt rg yaa yba yca ysz pna pta rails limit retry behind pn) A) [Value.ref rn, Value.ref pl].toArray s 0 0 A) (F0 m 10 ls []) := by
    intro nhl41
    induction nhl41 with
    | zero =>
      intro x35 f36 f37 f38 f39 f40 hmhl41
      exact absurd hmhl41 (Nat.not_lt_zero _)
    | succ nhl41 ihhl41 =>
      intro x35 f36 f37 f38 f39 f40 hmhl41 hx35 hf39 hM H locs hP hD hS ls hl
      have hM : M_rReset pn rs ri ra rt rg = (K_rReset_2 x35 f36 f37 f38 f39 f40 (K_rReset_L2 pn nhl41) pn) := hM
      refine lv_iload_n hx hb dX5_reset_10 rfl (lv_at hl 0 rfl) ?_
      refine lv_bipush (v := 8) hx hb dX5_reset_11 (by decide) ?_
      refine lv_icmp_ge (tgt := 62) hx hb dX5_reset_13 (by decide) (fun c_42 => ?_) (fun c_42 => ?_)
      · skip
        have i_42 : 8 ≤ x35.toInt := (ile (by decide) rfl).mp c_42
        have hM : M_rReset pn rs ri ra rt rg = (K_rReset_3 f36 f37 f38 f39 f40) := (show M_rReset pn rs ri ra rt rg = (if 8 ≤ x35.toInt then (K_rReset_3 f36 f37 f38 f39 f40) else (K_rReset_4 (K_rReset_L2 pn nhl41) x35 f36 f37 f38 f39 f40 pn)) from hM).trans (if_pos i_42)
        refine lv_aload_n hx hb dX5_reset_62 rfl (lv_at hl 1 rfl) ?_
        refine lv_iconst (v := 0) hx hb dX5_reset_63 (by decide) ?_
        refine va_put (D := D) (ci := 4) (v := .int 0) (ty := .int) (C := RX5) (T := TX5) (N := 14) hx hb hts (fun w h => tbC w (tbfX5 w h)) tyX5 tyX5_ok nmX5 hown hK hP hD hS 0 rfl rfl 6 (by decide) (hts (.fieldLink RX5 34 "PowerRails$Run" "dead" "I") (tbC _ wd117)) (fun _ h9 => h9) rfl (by decide +kernel) rfl rfl (Nat.le_of_ble_eq_true rfl) dX5_reset_64 (fun H locs hP hD hS => ?_)
        obtain ⟨hP, hD⟩ : xPD D A [oX5 rn hy rsa ria raa rta rga 0 key tick held tries trips ldraw gdraw, oAI rsa cI 8 f36, oAI ria cI 8 f37, oAI raa cI 8 f38, oAI rta cI 8 f39, oAI rga cI 8 f40, oX2 hy yaa yba yca 0, oX3 pl pna pta rails limit retry behind, oAI pna cI 64 pn] H := ⟨hP, hD⟩
        refine lv_aload_n hx hb dX5_reset_67 rfl (lv_at hl 1 rfl) ?_
        refine lv_iconst (v := 0) hx hb dX5_reset_68 (by decide) ?_
        refine va_put (D := D) (ci := 4) (v := .int 0) (ty := .boolean) (C := RX5) (T := TX5) (N := 14) hx hb hts (fun w h => tbC w (tbfX5 w h)) tyX5 tyX5_ok nmX5 hown hK hP hD hS 0 rfl rfl 7 (by decide) (hts (.fieldLink RX5 38 "PowerRails$Run" "key" "Z") (tbC _ wd119)) (fun _ h9 => h9) rfl (by decide +kernel) (by decide) rfl (Nat.le_of_ble_eq_true rfl) dX5_reset_69 (fun H locs hP hD hS => ?_)
        obtain ⟨hP, hD⟩ : xPD D A [oX5 rn hy rsa ria raa rta rga 0 0 tick held tries trips ldraw gdraw, oAI rsa cI 8 f36, oAI ria cI 8 f37, oAI raa cI 8 f38, oAI rta cI 8 f39, oAI rga cI 8 f40, oX2 hy yaa yba yca 0, oX3 pl pna pta rails limit retry behind, oAI pna cI 64 pn] H := ⟨hP, hD⟩
        refine lv_aload_n hx hb dX5_reset_72 rfl (lv_at hl 1 rfl) ?_
        refine lv_iconst (v := 0) hx hb dX5_reset_73 (by decide) ?_
        refine va_put (D := D) (ci := 4) (v := .int 0) (ty := .int) (C := RX5) (T := TX5) (N := 14) hx hb hts (fun w h => tbC w (tbfX5 w h)) tyX5 tyX5_ok nmX5 hown hK hP hD hS 0 rfl rfl 8 (by decide) (hts (.fieldLink RX5 51 "PowerRails$Run" "tick" "I") (tbC _ wd121)) (fun _ h9 => h9) rfl (by decide +kernel) rfl rfl (Nat.le_of_ble_eq_true rfl) dX5_reset_74 (fun H locs hP hD hS => ?_)
        obtain ⟨hP, hD⟩ : xPD D A [oX5 rn hy rsa ria raa rta rga 0 0 0 held tries trips ldraw gdraw, oAI rsa cI 8 f36, oAI ria cI 8 f37, oAI raa cI 8 f38, oAI rta cI 8 f39, oAI rga cI 8 f40, oX2 hy yaa yba yca 0, oX3 pl pna pta rails limit retry behind, oAI pna cI 64 pn] H := ⟨hP, hD⟩
        refine lv_aload_n hx hb dX5_reset_77 rfl (lv_at hl 1 rfl) ?_
        refine lv_iconst (v := 0) hx hb dX5_reset_78 (by decide) ?_
        refine va_put (D := D) (ci := 4) (v := .int 0) (ty := .int) (C := RX5) (T := TX5) (N := 14) hx hb hts (fun w h => tbC w (tbfX5 w h)) tyX5 tyX5_ok nmX5 hown hK hP hD hS 0 rfl rfl 9 (by decide) (hts (.fieldLink RX5 54 "PowerRails$Run" "held" "I") (tbC _ wd123)) (fun _ h9 => h9) rfl (by decide +kernel) rfl rfl (Nat.le_of_ble_eq_true rfl) dX5_reset_79 (fun H locs hP hD hS => ?_)
        obtain ⟨hP, hD⟩ : xPD D A [oX5 rn hy rsa ria raa rta rga 0 0 0 0 tries trips ldraw gdraw, oAI rsa cI 8 f36, oAI ria cI 8 f37, oAI raa cI 8 f38, oAI rta cI 8 f39, oAI rga cI 8 f40, oX2 hy yaa yba yca 0, oX3 pl pna pta rails limit retry behind, oAI pna cI 64 pn] H := ⟨hP, hD⟩
        refine lv_aload_n hx hb dX5_reset_82 rfl (lv_at hl 1 rfl) ?_
        refine lv_aload_n hx hb dX5_reset_83 rfl (lv_at hl 2 rfl) ?_
        refine va_get (D := D) (ci := 2) (v := .int retry) (C := RX3) (T := TX3) (N := 6) hx hb hts (fun w h => tbC w (tbfX3 w h)) hown hK hP 7 rfl rfl 4 (by decide) (hts (.fieldLink RX5 57 "PowerRails$Plan" "retry" "I") (tbC _ wd218)) (fun _ h9 => h9) rfl dX5_reset_84 ?_
        refine va_put (D := D) (ci := 4) (v := .int retry) (ty := .int) (C := RX5) (T := TX5) (N := 14) hx hb hts (fun w h => tbC w (tbfX5 w h)) tyX5 tyX5_ok nmX5 hown hK hP hD hS 0 rfl rfl 10 (by decide) (hts (.fieldLink RX5 60 "PowerRails$Run" "tries" "I") (tbC _ wd125)) (fun _ h9 => h9) rfl (by decide +kernel) rfl rfl (Nat.le_of_ble_eq_true rfl) dX5_reset_87 (fun H locs hP hD hS => ?_)
        obtain ⟨hP, hD⟩ : xPD D A [oX5 rn hy rsa ria raa rta rga 0 0 0 0 retry trips ldraw gdraw, oAI rsa cI 8 f36, oAI ria cI 8 f37, oAI raa cI 8 f38, oAI rta cI 8 f39, oAI rga cI 8 f40, oX2 hy yaa yba yca 0, oX3 pl pna pta rails limit retry behind, oAI pna cI 64 pn] H := ⟨hP, hD⟩
        refine lv_aload_n hx hb dX5_reset_90 rfl (lv_at hl 1 rfl) ?_
        refine lv_iconst (v := 0) hx hb dX5_reset_91 (by decide) ?_
        refine va_put (D := D) (ci := 4) (v := .int 0) (ty := .int) (C := RX5) (T := TX5) (N := 14) hx hb hts (fun w h => tbC w (tbfX5 w h)) tyX5 tyX5_ok nmX5 hown hK hP hD hS 0 rfl rfl 11 (by decide) (hts (.fieldLink RX5 63 "PowerRails$Run" "trips" "I") (tbC _ wd127)) (fun _ h9 => h9) rfl (by decide +kernel) rfl rfl (Nat.le_of_ble_eq_true rfl) dX5_reset_92 (fun H locs hP hD hS => ?_)
        obtain ⟨hP, hD⟩ : xPD D A [oX5 rn hy rsa ria raa rta rga 0 0 0 0 retry 0 ldraw gdraw, oAI rsa cI 8 f36, oAI ria cI 8 f37, oAI raa cI 8 f38, oAI rta cI 8 f39, oAI rga cI 8 f40, oX2 hy yaa yba yca 0, oX3 pl pna pta rails limit retry behind, oAI pna cI 64 pn] H := ⟨hP, hD⟩
        refine lv_aload_n hx hb dX5_reset_95 rfl (lv_at hl 1 rfl) ?_
        refine lv_iconst (v := 0) hx hb dX5_reset_96 (by decide) ?_
        refine va_put (D := D) (ci := 4) (v := .int 0) (ty := .int) (C := RX5) (T := TX5) (N := 14) hx hb hts (fun w h => tbC w (tbfX5 w h)) tyX5 tyX5_ok nmX5 hown hK hP hD hS 0 rfl rfl 12 (by decide) (hts (.fieldLink RX5 66 "PowerRails$Run" "latestDraw" "I") (tbC _ wd129)) (fun _ h9 => h9) rfl (by decide +kernel) rfl rfl (Nat.le_of_ble_eq_true rfl) dX5_reset_97 (fun H locs hP hD hS => ?_)
        obtain ⟨hP, hD⟩ : xPD D A [oX5 rn hy rsa ria raa rta rga 0 0 0 0 retry 0 0 gdraw, oAI rsa cI 8 f36, oAI ria cI 8 f37, oAI raa cI 8 f38, oAI rta cI 8 f39, oAI rga cI 8 f40, oX2 hy yaa yba yca 0, oX3 pl pna pta rails limit retry behind, oAI pna cI 64 pn] H := ⟨hP, hD⟩
        refine lv_aload_n hx hb dX5_reset_100 rfl (lv_at hl 1 rfl) ?_
        refine lv_iconst (v := 0) hx hb dX5_reset_101 (by decide) ?_
        refine va_put (D := D) (ci := 4) (v := .int 0) (ty := .int) (C := RX5) (T := TX5) (N := 14) hx hb hts (fun w h => tbC w (tbfX5 w h)) tyX5 tyX5_ok nmX5 hown hK hP hD hS 0 rfl rfl 13 (by decide) (hts (.fieldLink RX5 69 "PowerRails$Run" "greatestDraw" "I") (tbC _ wd131)) (fun _ h9 => h9) rfl (by decide +kernel) rfl rfl (Nat.le_of_ble_eq_true rfl) dX5_reset_102 (fun H locs hP hD hS => ?_)
        obtain ⟨hP, hD⟩ : xPD D A [oX5 rn hy rsa ria raa rta rga 0 0 0 0 retry 0 0 0, oAI rsa cI 8 f36, oAI ria cI 8 f37, oAI raa cI 8 f38, oAI rta cI 8 f39, oAI rga cI 8 f40, oX2 hy yaa yba yca 0, oX3 pl pna pta rails limit retry behind, oAI pna cI 64 pn] H := ⟨hP, hD⟩
        refine W.widen (k := 0) (n := 0) (by decide) (by decide) ?_
        exact W.vret hx hb hr (fun t ht hW => ⟨⟨(), rfl, trivial, ⟨f36, f37, f38, f39, f40, (xwk_rng hf39 (by decide) (by decide)), hM, xB_of9 ht hW hP hK hD [0, 1, 2, 3, 4, 5, 6, 7, 8] (by decide +kernel) rfl⟩⟩, hS.F ht⟩) hS.2.2 dX5_reset_105
      · skip
        have i_42 : ¬ (8 ≤ x35.toInt) := fun h9 => c_42 ((ile (by decide) rfl).mpr h9)
        have hM : M_rReset pn rs ri ra rt rg = (K_rReset_4 (K_rReset_L2 pn nhl41) x35 f36 f37 f38 f39 f40 pn) := (show M_rReset pn rs ri ra rt rg = (if 8 ≤ x35.toInt then (K_rReset_3 f36 f37 f38 f39 f40) else (K_rReset_4 (K_rReset_L2 pn nhl41) x35 f36 f37 f38 f39 f40 pn)) from hM).trans (if_neg i_42)
        refine lv_aload_n hx hb dX5_reset_16 rfl (lv_at hl 1 rfl) ?_
        refine va_get (D := D) (ci := 4) (v := .ref rsa) (C := RX5) (T := TX5) (N := 14) hx hb hts (fun w h => tbC w (tbfX5 w h)) hown hK hP 0 rfl rfl 1 (by decide) (hts (.fieldLink RX5 18 "PowerRails$Run" "states" "[I") (tbC _ wd108)) (fun _ h9 => h9) rfl dX5_reset_17 ?_
        refine lv_iload_n hx hb dX5_reset_20 rfl (lv_at hl 0 rfl) ?_
        refine lv_iconst (v := 0) hx hb dX5_reset_21 (by decide) ?_
        refine va_iast hx hb hK hP hD hS 1 0 rfl rfl (vp_in_iff.mpr ⟨by omega, by omega⟩) dX5_reset_22 (fun H locs hP hD hS => ?_)
        obtain ⟨f43, ef43⟩ : ∃ fz9 : Nat → Int32, fz9 = upd f36 (x35 : Int32).toNatClampNeg 0 := ⟨_, rfl⟩
        have hP : va_P D vwCl [oX5 rn hy rsa ria raa rta rga dead key tick held tries trips ldraw gdraw, oAI rsa cI 8 f43, oAI ria cI 8 f37, oAI raa cI 8 f38, oAI rta cI 8 f39, oAI rga cI 8 f40, oX2 hy yaa yba yca 0, oX3 pl pna pta rails limit retry behind, oAI pna cI 64 pn] H := by rw [ef43]; exact hP
        have hD : va_D A [oX5 rn hy rsa ria raa rta rga dead key tick held tries trips ldraw gdraw, oAI rsa cI 8 f43, oAI ria cI 8 f37, oAI raa cI 8 f38, oAI rta cI 8 f39, oAI rga cI 8 f40, oX2 hy yaa yba yca 0, oX3 pl pna pta rails limit retry behind, oAI pna cI 64 pn] := by rw [ef43]; exact hD
        refine lv_aload_n hx hb dX5_reset_23 rfl (lv_at hl 1 rfl) ?_
        refine va_get (D := D) (ci := 4) (v := .ref ria) (C := RX5) (T := TX5) (N := 14) hx hb hts (fun w h => tbC w (tbfX5 w h)) hown hK hP 0 rfl rfl 2 (by decide) (hts (.fieldLink RX5 22 "PowerRails$Run" "since" "[I") (tbC _ wd110)) (fun _ h9 => h9) rfl dX5_reset_24 ?_
        refine lv_iload_n hx hb dX5_reset_27 rfl (lv_at hl 0 rfl) ?_
        refine lv_iconst (v := 0) hx hb dX5_reset_28 (by decide) ?_
        refine va_iast hx hb hK hP hD hS 2 0 rfl rfl (vp_in_iff.mpr ⟨by omega, by omega⟩) dX5_reset_29 (fun H locs hP hD hS => ?_)
        obtain ⟨f44, ef44⟩ : ∃ fz9 : Nat → Int32, fz9 = upd f37 (x35 : Int32).toNatClampNeg 0 := ⟨_, rfl⟩
        have hP : va_P D vwCl [oX5 rn hy rsa ria raa rta rga dead key tick held tries trips ldraw gdraw, oAI rsa cI 8 f43, oAI ria cI 8 f44, oAI raa cI 8 f38, oAI rta cI 8 f39, oAI rga cI 8 f40, oX2 hy yaa yba yca 0, oX3 pl pna pta rails limit retry behind, oAI pna cI 64 pn] H := by rw [ef44]; exact hP
        have hD : va_D A [oX5 rn hy rsa ria raa rta rga dead key tick held tries trips ldraw gdraw, oAI rsa cI 8 f43, oAI ria cI 8 f44, oAI raa cI 8 f38, oAI rta cI 8 f39, oAI rga cI 8 f40, oX2 hy yaa yba yca 0, oX3 pl pna pta rails limit retry behind, oAI pna cI 64 pn] := by rw [ef44]; exact hD
        refine lv_aload_n hx hb dX5_reset_30 rfl (lv_at hl 1 rfl) ?_
        refine va_get (D := D) (ci := 4) (v := .ref raa) (C := RX5) (T := TX5) (N := 14) hx hb hts (fun w h => tbC w (tbfX5 w h)) hown hK hP 0 rfl rfl 3 (by decide) (hts (.fieldLink RX5 25 "PowerRails$Run" "asked" "[I") (tbC _ wd112)) (fun _ h9 => h9) rfl dX5_reset_31 ?_
        refine lv_iload_n hx hb dX5_reset_34 rfl (lv_at hl 0 rfl) ?_
        refine lv_iconst (v := 0) hx hb dX5_reset_35 (by decide) ?_
        refine va_iast hx hb hK hP hD hS 3 0 rfl rfl (vp_in_iff.mpr ⟨by omega, by omega⟩) dX5_reset_36 (fun H locs hP hD hS => ?_)
        obtain ⟨f45, ef45⟩ : ∃ fz9 : Nat → Int32, fz9 = upd f38 (x35 : Int32).toNatClampNeg 0 := ⟨_, rfl⟩
        have hP : va_P D vwCl [oX5 rn hy rsa ria raa rta rga dead key tick held tries trips ldraw gdraw, oAI rsa cI 8 f43, oAI ria cI 8 f44, oAI raa cI 8 f45, oAI rta cI 8 f39, oAI rga cI 8 f40, oX2 hy yaa yba yca 0, oX3 pl pna pta rails limit retry behind, oAI pna cI 64 pn] H := by rw [ef45]; exact hP
        have hD : va_D A [oX5 rn hy rsa ria raa rta rga dead key tick held tries trips ldraw gdraw, oAI rsa cI 8 f43, oAI ria cI 8 f44, oAI raa cI 8 f45, oAI rta cI 8 f39, oAI rga cI 8 f40, oX2 hy yaa yba yca 0, oX3 pl pna pta rails limit retry behind, oAI pna cI 64 pn] := by rw [ef45]; exact hD
        refine lv_aload_n hx hb dX5_reset_37 rfl (lv_at hl 1 rfl) ?_
        refine va_get (D := D) (ci := 4) (v := .ref rta) (C := RX5) (T := TX5) (N := 14) hx hb hts (fun w h => tbC w (tbfX5 w h)) hown hK hP 0 rfl rfl 4 (by decide) (hts (.fieldLink RX5 28 "PowerRails$Run" "takes" "[I") (tbC _ wd113)) (fun _ h9 => h9) rfl dX5_reset_38 ?_
        refine lv_iload_n hx hb dX5_reset_41 rfl (lv_at hl 0 rfl) ?_
        refine lv_aload_n hx hb dX5_reset_42 rfl (lv_at hl 2 rfl) ?_
        refine lv_iload_n hx hb dX5_reset_43 rfl (lv_at hl 0 rfl) ?_
        refine lv_iconst (v := 0) hx hb dX5_reset_44 (by decide) ?_
        obtain ⟨hPc, hDc, hFc, hC9⟩ := xpk (wc := W_number cI cJ cZ cG cH pl x35 (0 : Int32) pna pta rails limit retry behind pn) hP hD hS hA [7, 8] (by decide +kernel) rfl
        refine va_calli (va_runV (As := [.int x35, .int 0]) (rest := [.int x35, .ref rta]) ⟨hx, hb, hml, hown, hts⟩ (c_number l D cI cJ cZ cG cH H.size pl x35 (0 : Int32) pna pta rails limit retry behind pn (xrng rfl (by omega) (by omega)) ⟨by decide, by decide⟩ (xrng rfl (by omega) (by omega)) (xwk_rng h_pn (by decide) (by decide))) (cwV 2 hts (xGV tbC wd397 wd368 wd369 wd59 wd996) rfl rfl rfl (by decide +kernel) ⟨Nat.le_of_ble_eq_true rfl, Nat.le_of_ble_eq_true rfl⟩) ⟨xPc_blind, va_recv hK hPc (ci := 2) (q0 := 0) rfl rfl, xPc_pre hPc hK hDc⟩ rfl rfl hl.1 rfl (lv_room (Nat.le_of_ble_eq_true rfl)) dX5_reset_45 ⟨Nat.le_of_ble_eq_true rfl, Nat.le_of_ble_eq_true rfl⟩) hS (fun q _ h => hFc q h) hFc (fun r46 u t H1 locs ht hvm hw46 hB hz1 hk1 hS => ?_)
        obtain ⟨hru9, hw46⟩ := hw46
        subst hru9
        obtain ⟨hf46_0, hP1, hK1, hD1⟩ := hB
        rw [ht] at hP1
        obtain ⟨hP, hD⟩ : xPD D A [oX5 rn hy rsa ria raa rta rga dead key tick held tries trips ldraw gdraw, oAI rsa cI 8 f43, oAI ria cI 8 f44, oAI raa cI 8 f45, oAI rta cI 8 f39, oAI rga cI 8 f40, oX2 hy yaa yba yca 0, oX3 pl pna pta rails limit retry behind, oAI pna cI 64 pn] H1 := xjn 7 hP hD [7, 8] [0, 1, 2, 3, 4, 5, 6] hC9 rfl (by decide +kernel) (by decide +kernel) hk1 hFc hP1 hD1
        generalize H1 = H at hP hS ⊢
        have hf46_0 : M_number pn x35 (0 : Int32) = (r46) := hf46_0
        have hw46 : 0 ≤ r46.toInt ∧ r46.toInt ≤ 511 := hw46
        have h9M := congrArg (fun t9 => (K_rReset_5 (K_rReset_L2 pn nhl41) x35 f43 f44 f45 f39 t9 f40)) hf46_0
        have hM : M_rReset pn rs ri ra rt rg = (K_rReset_5 (K_rReset_L2 pn nhl41) x35 f43 f44 f45 f39 r46 f40) := (show M_rReset pn rs ri ra rt rg = ((fun t9 => (K_rReset_5 (K_rReset_L2 pn nhl41) x35 f43 f44 f45 f39 t9 f40)) (M_number pn x35 (0 : Int32))) from (by rw [ef45, ef44, ef43]; exact hM)).trans h9M
        refine va_iast hx hb hK hP hD hS 4 0 rfl rfl (vp_in_iff.mpr ⟨by omega, by omega⟩) dX5_reset_48 (fun H locs hP hD hS => ?_)
        obtain ⟨f47, ef47⟩ : ∃ fz9 : Nat → Int32, fz9 = upd f39 (x35 : Int32).toNatClampNeg r46 := ⟨_, rfl⟩
        have hP : va_P D vwCl [oX5 rn hy rsa ria raa rta rga dead key tick held tries trips ldraw gdraw, oAI rsa cI 8 f43, oAI ria cI 8 f44, oAI raa cI 8 f45, oAI rta cI 8 f47, oAI rga cI 8 f40, oX2 hy yaa yba yca 0, oX3 pl pna pta rails limit retry behind, oAI pna cI 64 pn] H := by rw [ef47]; exact hP
        have hD : va_D A [oX5 rn hy rsa ria raa rta rga dead key tick held tries trips ldraw gdraw, oAI rsa cI 8 f43, oAI ria cI 8 f44, oAI raa cI 8 f45, oAI rta cI 8 f47, oAI rga cI 8 f40, oX2 hy yaa yba yca 0, oX3 pl pna pta rails limit retry behind, oAI pna cI 64 pn] := by rw [ef47]; exact hD
        have rf47 : ∀ j, j < 8 → 0 ≤ (f47 j).toInt ∧ (f47 j).toInt ≤ 511 := by rw [ef47]; exact xup_rng (xwk_rng hf39 (by decide) (by decide)) (xrng rfl (by omega) (by omega))
        refine lv_aload_n hx hb dX5_reset_49 rfl (lv_at hl 1 rfl) ?_
        refine va_get (D := D) (ci := 4) (v := .ref rga) (C := RX5) (T := TX5) (N := 14) hx hb hts (fun w h => tbC w (tbfX5 w h)) hown hK hP 0 rfl rfl 5 (by decide) (hts (.fieldLink RX5 31 "PowerRails$Run" "timesGood" "[I") (tbC _ wd115)) (fun _ h9 => h9) rfl dX5_reset_50 ?_
        refine lv_iload_n hx hb dX5_reset_53 rfl (lv_at hl 0 rfl) ?_
        refine lv_iconst (v := 0) hx hb dX5_reset_54 (by decide) ?_
        refine va_iast hx hb hK hP hD hS 5 0 rfl rfl (vp_in_iff.mpr ⟨by omega, by omega⟩) dX5_reset_55 (fun H locs hP hD hS => ?_)
        obtain ⟨f48, ef48⟩ : ∃ fz9 : Nat → Int32, fz9 = upd f40 (x35 : Int32).toNatClampNeg 0 := ⟨_, rfl⟩
        have hP : va_P D vwCl [oX5 rn hy rsa ria raa rta rga dead key tick held tries trips ldraw gdraw, oAI rsa cI 8 f43, oAI ria cI 8 f44, oAI raa cI 8 f45, oAI rta cI 8 f47, oAI rga cI 8 f48, oX2 hy yaa yba yca 0, oX3 pl pna pta rails limit retry behind, oAI pna cI 64 pn] H := by rw [ef48]; exact hP
        have hD : va_D A [oX5 rn hy rsa ria raa rta rga dead key tick held tries trips ldraw gdraw, oAI rsa cI 8 f43, oAI ria cI 8 f44, oAI raa cI 8 f45, oAI rta cI 8 f47, oAI rga cI 8 f48, oX2 hy yaa yba yca 0, oX3 pl pna pta rails limit retry behind, oAI pna cI 64 pn] := by rw [ef48]; exact hD
        obtain ⟨x49, ex49⟩ : ∃ y : Int32, y = x35 + 1 := ⟨_, rfl⟩
        have tx49 : x49.toInt = (x35.toInt + 1) := (congrArg Int32.toInt ex49).trans (xadd rfl (by decide) (by omega) (by omega))
        refine lv_iinc (v := x49) (lv' := [(2, .int x49), (0, .ref rn), (1, .ref pl)]) hx hb dX5_reset_56 hl (k := 0) rfl (by rw [ex49]; rfl) (by decide) rfl (fun ls hl => ?_)
        refine lv_goto (tgt := 10) hx hb dX5_reset_59 (by decide) ?_
        exact ihhl41 x49 f43 f44 f45 f47 f48 (by omega) (xrng tx49 (by omega) (by omega)) (xwk_rng rf47 (by decide) (by decide)) (by rw [ex49, ef48, ef47]; exact hM) _ _ hP hD hS ls (lv_sub hl [0, 1, 2] rfl)
  exact hl41 100000 0 rs ri ra rt rg (by have z9_0 : (0 : Int32).toInt = 0 := (by decide); omega) ⟨by decide, by decide⟩ (xwk_rng h_rt (by decide) (by decide)) hM _ _ hP hD hS ls (lv_sub hl [0, 1, 2] rfl)
def K_turnKey_5 (retry : Int32) : (Int32) × (Int32) := ((0 : Int32), retry)
def K_turnKey_4 (held : Int32) (retry : Int32) : (Int32) × (Int32) := (held, retry)
def K_turnKey_3 (held : Int32) (retry : Int32) : (Int32) × (Int32) := (if held.toInt = (-4) then (K_turnKey_5 retry) else (K_turnKey_4 held retry))
def K_turnKey_2 (held : Int32) (tries : Int32) : (Int32) × (Int32) := (held, tries)
def K_turnKey_1 (on : Int32) (held : Int32) (retry : Int32) (tries : Int32) : (Int32) × (Int32) := (if on.toInt = 0 then (K_turnKey_3 held retry) else (K_turnKey_2 held tries))
def M_turnKey (on : Int32) (held : Int32) (retry : Int32) (tries : Int32) : (Int32) × (Int32) := (K_turnKey_1 on held retry tries)
abbrev W_turnKey (cI cJ cZ cG cH : ClassId) (rn : Nat) (pl : Nat) (on : Int32) (hy : Nat) (rsa : Nat) (ria : Nat) (raa : Nat) (rta : Nat) (rga : Nat) (dead : Int32) (key : Int32) (tick : Int32) (held : Int32) (tries : Int32) (trips : Int32) (ldraw : Int32) (gdraw : Int32) (pna : Nat) (pta : Nat) (rails : Int32) (limit : Int32) (retry : Int32) (behind : Int32) : va_W := [oX5 rn hy rsa ria raa rta rga dead key tick held tries trips ldraw gdraw, oX3 pl pna pta rails limit retry behind]
abbrev Q_turnKey (D : va_G) (cI cJ cZ cG cH : ClassId) (rn : Nat) (pl : Nat) (on : Int32) (hy : Nat) (rsa : Nat) (ria : Nat) (raa : Nat) (rta : Nat) (rga : Nat) (dead : Int32) (key : Int32) (tick : Int32) (held : Int32) (tries : Int32) (trips : Int32) (ldraw : Int32) (gdraw : Int32) (pna : Nat) (pta : Nat) (rails : Int32) (limit : Int32) (retry : Int32) (behind : Int32) (A : Nat → Prop) : Array Value → State → Outcome → State → Prop := va_Qv (fun (_ : Unit) => True) (fun _ t => ∃ (held9 : Int32) (tries9 : Int32), (M_turnKey on held retry tries = (held9, tries9)) ∧ xB D (tyL cI cJ cZ cG cH) [oX5 rn hy rsa ria raa rta rga dead on tick held9 tries9 trips ldraw gdraw, oX3 pl pna pta rails limit retry behind] A t) A
abbrev rm_turnKey : Room := { frames := 0, cells := 0, slots := 0, locals := 0 }
set_option maxRecDepth 100000 in
set_option maxHeartbeats 40000000 in
theorem c_turnKey (l : Launch) (D : va_G) (cI cJ cZ cG cH : ClassId) (sz : Nat) (rn : Nat) (pl : Nat) (on : Int32) (hy : Nat) (rsa : Nat) (ria : Nat) (raa : Nat) (rta : Nat) (rga : Nat) (dead : Int32) (key : Int32) (tick : Int32) (held : Int32) (tries : Int32) (trips : Int32) (ldraw : Int32) (gdraw : Int32) (pna : Nat) (pta : Nat) (rails : Int32) (limit : Int32) (retry : Int32) (behind : Int32) (h_on : 0 ≤ on.toInt ∧ on.toInt ≤ 1) (h_key : 0 ≤ key.toInt ∧ key.toInt ≤ 1) (h_rails : 0 ≤ rails.toInt ∧ rails.toInt ≤ 8) : Met l yX5_turnKey (wt yX5_turnKey cX5_turnKey 3 none) rm_turnKey (xPc [.ref rn, .ref pl, .int on] D (tyL cI cJ cZ cG cH) (W_turnKey cI cJ cZ cG cH rn pl on hy rsa ria raa rta rga dead key tick held tries trips ldraw gdraw pna pta rails limit retry behind) sz) (Q_turnKey D cI cJ cZ cG cH rn pl on hy rsa ria raa rta rga dead key tick held tries trips ldraw gdraw pna pta rails limit retry behind (va_A (W_turnKey cI cJ cZ cG cH rn pl on hy rsa ria raa rta rga dead key tick held tries trips ldraw gdraw pna pta rails limit retry behind) sz)) 0 0 (va_A (W_turnKey cI cJ cZ cG cH rn pl on hy rsa ria raa rta rga dead key tick held tries trips ldraw gdraw pna pta rails limit retry behind) sz) := by
  refine xMet (cc := cX5_turnKey) (maxL := 3) (ret := none) (Qf := Q_turnKey D cI cJ cZ cG cH rn pl on hy rsa ria raa rta rga dead key tick held tries trips ldraw gdraw pna pta rails limit retry behind) (by decide) rfl (Nat.le_of_ble_eq_true rfl) ?_
  intro p e s m below meth c ls A hx hb hr hml hts hown hlocks hnm hsz hP hK hD hA hS hl
  have hown : s.vm.findClass RX5 = some m.cls := hown
  have hP : va_P D vwCl [oX5 rn hy rsa ria raa rta rga dead key tick held tries trips ldraw gdraw, oX3 pl pna pta rails limit retry behind] s.heap := hP
  have hD : va_D A [oX5 rn hy rsa ria raa rta rga dead key tick held tries trips ldraw gdraw, oX3 pl pna pta rails limit retry behind] := hD
  have hl : lv_has ls 3 [(0, .ref rn), (1, .ref pl), (2, .int on)] := hl
  have hM : M_turnKey on held retry tries = (K_turnKey_1 on held retry tries) := rfl
  refine lv_aload_n hx hb dX5_turnKey_0 rfl (lv_at hl 0 rfl) ?_
  refine lv_iload_n hx hb dX5_turnKey_1 rfl (lv_at hl 2 rfl) ?_
  refine va_put (D := D) (ci := 4) (v := .int on) (ty := .boolean) (C := RX5) (T := TX5) (N := 14) hx hb hts (fun w h => tbC w (tbfX5 w h)) tyX5 tyX5_ok nmX5 hown hK hP hD hS 0 rfl rfl 7 (by decide) (hts (.fieldLink RX5 38 "PowerRails$Run" "key" "Z") (tbC _ wd119)) (fun _ h9 => h9) rfl (by decide +kernel) (xnb (xrng rfl (by omega) (by omega))).1 (xnb (xrng rfl (by omega) (by omega))).2.1 (Nat.le_of_ble_eq_true rfl) dX5_turnKey_2 (fun H locs hP hD hS => ?_)
  obtain ⟨hP, hD⟩ : xPD D A [oX5 rn hy rsa ria raa rta rga dead on tick held tries trips ldraw gdraw, oX3 pl pna pta rails limit retry behind] H := ⟨hP, hD⟩
  refine lv_iload_n hx hb dX5_turnKey_5 rfl (lv_at hl 2 rfl) ?_
  refine lv_if_ne (tgt := 31) hx hb dX5_turnKey_6 (by decide) (fun c_1 => ?_) (fun c_1 => ?_)
  · skip
    have i_1 : ¬ (on.toInt = 0) := fun h9 => c_1 ((ieq rfl (by decide)).mpr h9)
    have hM : M_turnKey on held retry tries = (K_turnKey_2 held tries) := (show M_turnKey on held retry tries = (if on.toInt = 0 then (K_turnKey_3 held retry) else (K_turnKey_2 held tries)) from hM).trans (if_neg i_1)
    refine W.widen (k := 0) (n := 0) (by decide) (by decide) ?_
    exact W.vret hx hb hr (fun t ht hW => ⟨⟨(), rfl, trivial, ⟨held, tries, hM, xB_of9 ht hW hP hK hD [0, 1] (by decide +kernel) rfl⟩⟩, hS.F ht⟩) hS.2.2 dX5_turnKey_31
  · skip
    have i_1 : on.toInt = 0 := (ieq rfl (by decide)).mp c_1
    have hM : M_turnKey on held retry tries = (K_turnKey_3 held retry) := (show M_turnKey on held retry tries = (if on.toInt = 0 then (K_turnKey_3 held retry) else (K_turnKey_2 held tries)) from hM).trans (if_pos i_1)
    refine lv_aload_n hx hb dX5_turnKey_9 rfl (lv_at hl 0 rfl) ?_
    refine lv_aload_n hx hb dX5_turnKey_10 rfl (lv_at hl 1 rfl) ?_
    refine va_get (D := D) (ci := 2) (v := .int retry) (C := RX3) (T := TX3) (N := 6) hx hb hts (fun w h => tbC w (tbfX3 w h)) hown hK hP 1 rfl rfl 4 (by decide) (hts (.fieldLink RX5 57 "PowerRails$Plan" "retry" "I") (tbC _ wd218)) (fun _ h9 => h9) rfl dX5_turnKey_11 ?_
    refine va_put (D := D) (ci := 4) (v := .int retry) (ty := .int) (C := RX5) (T := TX5) (N := 14) hx hb hts (fun w h => tbC w (tbfX5 w h)) tyX5 tyX5_ok nmX5 hown hK hP hD hS 0 rfl rfl 10 (by decide) (hts (.fieldLink RX5 60 "PowerRails$Run" "tries" "I") (tbC _ wd125)) (fun _ h9 => h9) rfl (by decide +kernel) rfl rfl (Nat.le_of_ble_eq_true rfl) dX5_turnKey_14 (fun H locs hP hD hS => ?_)
    obtain ⟨hP, hD⟩ : xPD D A [oX5 rn hy rsa ria raa rta rga dead on tick held retry trips ldraw gdraw, oX3 pl pna pta rails limit retry behind] H := ⟨hP, hD⟩
    refine lv_aload_n hx hb dX5_turnKey_17 rfl (lv_at hl 0 rfl) ?_
    refine va_get (D := D) (ci := 4) (v := .int held) (C := RX5) (T := TX5) (N := 14) hx hb hts (fun w h => tbC w (tbfX5 w h)) hown hK hP 0 rfl rfl 9 (by decide) (hts (.fieldLink RX5 54 "PowerRails$Run" "held" "I") (tbC _ wd123)) (fun _ h9 => h9) rfl dX5_turnKey_18 ?_
    refine lv_bipush (v := (-4)) hx hb dX5_turnKey_21 (by decide) ?_
    refine lv_icmp_ne (tgt := 31) hx hb dX5_turnKey_23 (by decide) (fun c_2 => ?_) (fun c_2 => ?_)
    · skip
      have i_2 : ¬ (held.toInt = (-4)) := fun h9 => c_2 ((ieq rfl (by decide)).mpr h9)
      have hM : M_turnKey on held retry tries = (K_turnKey_4 held retry) := (show M_turnKey on held retry tries = (if held.toInt = (-4) then (K_turnKey_5 retry) else (K_turnKey_4 held retry)) from hM).trans (if_neg i_2)
      refine W.widen (k := 0) (n := 0) (by decide) (by decide) ?_
      exact W.vret hx hb hr (fun t ht hW => ⟨⟨(), rfl, trivial, ⟨held, retry, hM, xB_of9 ht hW hP hK hD [0, 1] (by decide +kernel) rfl⟩⟩, hS.F ht⟩) hS.2.2 dX5_turnKey_31
    · skip
      have i_2 : held.toInt = (-4) := (ieq rfl (by decide)).mp c_2
      have hM : M_turnKey on held retry tries = (K_turnKey_5 retry) := (show M_turnKey on held retry tries = (if held.toInt = (-4) then (K_turnKey_5 retry) else (K_turnKey_4 held retry)) from hM).trans (if_pos i_2)
      refine lv_aload_n hx hb dX5_turnKey_26 rfl (lv_at hl 0 rfl) ?_
      refine lv_iconst (v := 0) hx hb dX5_turnKey_27 (by decide) ?_
      refine va_put (D := D) (ci := 4) (v := .int 0) (ty := .int) (C := RX5) (T := TX5) (N := 14) hx hb hts (fun w h => tbC w (tbfX5 w h)) tyX5 tyX5_ok nmX5 hown hK hP hD hS 0 rfl rfl 9 (by decide) (hts (.fieldLink RX5 54 "PowerRails$Run" "held" "I") (tbC _ wd123)) (fun _ h9 => h9) rfl (by decide +kernel) rfl rfl (Nat.le_of_ble_eq_true rfl) dX5_turnKey_28 (fun H locs hP hD hS => ?_)
      obtain ⟨hP, hD⟩ : xPD D A [oX5 rn hy rsa ria raa rta rga dead on tick 0 retry trips ldraw gdraw, oX3 pl pna pta rails limit retry behind] H := ⟨hP, hD⟩
      refine W.widen (k := 0) (n := 0) (by decide) (by decide) ?_
      exact W.vret hx hb hr (fun t ht hW => ⟨⟨(), rfl, trivial, ⟨0, retry, hM, xB_of9 ht hW hP hK hD [0, 1] (by decide +kernel) rfl⟩⟩, hS.F ht⟩) hS.2.2 dX5_turnKey_31
def K_railsThatAre_3 (x24 : Int32) : (Int32) := (x24)
def K_railsThatAre_6 (rec_2 : (Int32) → (Int32) → ((Int32))) (x23 : Int32) (x24 : Int32) : (Int32) := (rec_2 (x23 + 1) (x24 ||| ((1 : Int32) <<< (x23 &&& 31))))
def K_railsThatAre_5 (rec_2 : (Int32) → (Int32) → ((Int32))) (x23 : Int32) (x24 : Int32) : (Int32) := (rec_2 (x23 + 1) x24)
def K_railsThatAre_4 (rs : Nat → Int32) (x23 : Int32) (s0 : Int32) (rec_2 : (Int32) → (Int32) → ((Int32))) (x24 : Int32) : (Int32) := (if (rs x23.toNatClampNeg).toInt = s0.toInt then (K_railsThatAre_6 rec_2 x23 x24) else (K_railsThatAre_5 rec_2 x23 x24))
def K_railsThatAre_2 (x23 : Int32) (x24 : Int32) (rs : Nat → Int32) (s0 : Int32) (rec_2 : (Int32) → (Int32) → ((Int32))) : (Int32) := (if 8 ≤ x23.toInt then (K_railsThatAre_3 x24) else (K_railsThatAre_4 rs x23 s0 rec_2 x24))
def K_railsThatAre_L2 (rs : Nat → Int32) (s0 : Int32) : Nat → (Int32) → (Int32) → (Int32)
  | 0, _, _ => (0)
  | n9 + 1, x23, x24 => (K_railsThatAre_2 x23 x24 rs s0 (K_railsThatAre_L2 rs s0 n9))
def K_railsThatAre_1 (rs : Nat → Int32) (s0 : Int32) : (Int32) := (K_railsThatAre_L2 rs s0 100000 (0 : Int32) (0 : Int32))
def M_railsThatAre (rs : Nat → Int32) (s0 : Int32) : (Int32) := (K_railsThatAre_1 rs s0)
abbrev W_railsThatAre (cI cJ cZ cG cH : ClassId) (rn : Nat) (s0 : Int32) (hy : Nat) (rsa : Nat) (ria : Nat) (raa : Nat) (rta : Nat) (rga : Nat) (dead : Int32) (key : Int32) (tick : Int32) (held : Int32) (tries : Int32) (trips : Int32) (ldraw : Int32) (gdraw : Int32) (rs : Nat → Int32) : va_W := [oX5 rn hy rsa ria raa rta rga dead key tick held tries trips ldraw gdraw, oAI rsa cI 8 rs]
abbrev Q_railsThatAre (D : va_G) (cI cJ cZ cG cH : ClassId) (rn : Nat) (s0 : Int32) (hy : Nat) (rsa : Nat) (ria : Nat) (raa : Nat) (rta : Nat) (rga : Nat) (dead : Int32) (key : Int32) (tick : Int32) (held : Int32) (tries : Int32) (trips : Int32) (ldraw : Int32) (gdraw : Int32) (rs : Nat → Int32) (A : Nat → Prop) : Array Value → State → Outcome → State → Prop := va_Qi (fun (r : Int32) (u9 : Int32) => r = u9 ∧ (0 ≤ r.toInt ∧ r.toInt ≤ 255)) (fun u9 t => (M_railsThatAre rs s0 = (u9)) ∧ xB D (tyL cI cJ cZ cG cH) [oX5 rn hy rsa ria raa rta rga dead key tick held tries trips ldraw gdraw, oAI rsa cI 8 rs] A t) A
abbrev rm_railsThatAre : Room := { frames := 0, cells := 0, slots := 0, locals := 0 }
set_option maxRecDepth 100000 in
set_option maxHeartbeats 40000000 in
theorem c_railsThatAre (l : Launch) (D : va_G) (cI cJ cZ cG cH : ClassId) (sz : Nat) (rn : Nat) (s0 : Int32) (hy : Nat) (rsa : Nat) (ria : Nat) (raa : Nat) (rta : Nat) (rga : Nat) (dead : Int32) (key : Int32) (tick : Int32) (held : Int32) (tries : Int32) (trips : Int32) (ldraw : Int32) (gdraw : Int32) (rs : Nat → Int32) (h_key : 0 ≤ key.toInt ∧ key.toInt ≤ 1) : Met l yX5_railsThatAre (wt yX5_railsThatAre cX5_railsThatAre 4 (some .int)) rm_railsThatAre (xPc [.ref rn, .int s0] D (tyL cI cJ cZ cG cH) (W_railsThatAre cI cJ cZ cG cH rn s0 hy rsa ria raa rta rga dead key tick held tries trips ldraw gdraw rs) sz) (Q_railsThatAre D cI cJ cZ cG cH rn s0 hy rsa ria raa rta rga dead key tick held tries trips ldraw gdraw rs (va_A (W_railsThatAre cI cJ cZ cG cH rn s0 hy rsa ria raa rta rga dead key tick held tries trips ldraw gdraw rs) sz)) 0 0 (va_A (W_railsThatAre cI cJ cZ cG cH rn s0 hy rsa ria raa rta rga dead key tick held tries trips ldraw gdraw rs) sz) := by
  refine xMet (cc := cX5_railsThatAre) (maxL := 4) (ret := (some .int)) (Qf := Q_railsThatAre D cI cJ cZ cG cH rn s0 hy rsa ria raa rta rga dead key tick held tries trips ldraw gdraw rs) (by decide) rfl (Nat.le_of_ble_eq_true rfl) ?_
  intro p e s m below meth c ls A hx hb hr hml hts hown hlocks hnm hsz hP hK hD hA hS hl
  have hown : s.vm.findClass RX5 = some m.cls := hown
  have hP : va_P D vwCl [oX5 rn hy rsa ria raa rta rga dead key tick held tries trips ldraw gdraw, oAI rsa cI 8 rs] s.heap := hP
  have hD : va_D A [oX5 rn hy rsa ria raa rta rga dead key tick held tries trips ldraw gdraw, oAI rsa cI 8 rs] := hD
  have hl : lv_has ls 4 [(0, .ref rn), (1, .int s0)] := hl
  have hM : M_railsThatAre rs s0 = (K_railsThatAre_1 rs s0) := rfl
  refine lv_iconst (v := 0) hx hb dX5_railsThatAre_0 (by decide) ?_
  refine lv_istore_n (lv' := [(2, .int 0), (0, .ref rn), (1, .int s0)]) hx hb dX5_railsThatAre_1 rfl hl (by decide) rfl (fun ls hl => ?_)
  refine lv_iconst (v := 0) hx hb dX5_railsThatAre_2 (by decide) ?_
  refine lv_istore_n (lv' := [(3, .int 0), (2, .int 0), (0, .ref rn), (1, .int s0)]) hx hb dX5_railsThatAre_3 rfl hl (by decide) rfl (fun ls hl => ?_)
  have hl25 : ∀ (nhl25 : Nat) (x23 : Int32) (x24 : Int32), ((8 - x23.toInt).toNat < nhl25) → (hx23 : 0 ≤ x23.toInt ∧ x23.toInt ≤ 8) → (hx24 : 0 ≤ x24.toInt ∧ x24.toInt ≤ 255) → (hM : M_railsThatAre rs s0 = (K_railsThatAre_L2 rs s0 nhl25 x23 x24)) → ∀ (H : Heap) (locs : List Loc), va_P D vwCl [oX5 rn hy rsa ria raa rta rga dead key tick held tries trips ldraw gdraw, oAI rsa cI 8 rs] H → va_D A [oX5 rn hy rsa ria raa rta rga dead key tick held tries trips ldraw gdraw, oAI rsa cI 8 rs] → va_S A s.heap H locs → ∀ (ls : Array Slot), lv_has ls 4 [(3, .int x23), (2, .int x24), (0, .ref rn), (1, .int s0)] → W p l e rm_railsThatAre s m [Value.ref rn, Value.int s0].toArray below meth c H locs 0 0 (MQ below ((Q_railsThatAre D cI cJ cZ cG cH rn s0 hy rsa ria raa rta rga dead key tick held tries trips ldraw gdraw rs) A) [Value.ref rn, Value.int s0].toArray s 0 0 A) (F0 m 4 ls []) := by
    intro nhl25
    induction nhl25 with
    | zero =>
      intro x23 x24 hmhl25
      exact absurd hmhl25 (Nat.not_lt_zero _)
    | succ nhl25 ihhl25 =>
      intro x23 x24 hmhl25 hx23 hx24 hM H locs hP hD hS ls hl
      have hM : M_railsThatAre rs s0 = (K_railsThatAre_2 x23 x24 rs s0 (K_railsThatAre_L2 rs s0 nhl25)) := hM
      refine lv_iload_n hx hb dX5_railsThatAre_4 rfl (lv_at hl 0 rfl) ?_
      refine lv_bipush (v := 8) hx hb dX5_railsThatAre_5 (by decide) ?_
      refine lv_icmp_ge (tgt := 32) hx hb dX5_railsThatAre_7 (by decide) (fun c_26 => ?_) (fun c_26 => ?_)
      · skip
        have i_26 : 8 ≤ x23.toInt := (ile (by decide) rfl).mp c_26
        have hM : M_railsThatAre rs s0 = (K_railsThatAre_3 x24) := (show M_railsThatAre rs s0 = (if 8 ≤ x23.toInt then (K_railsThatAre_3 x24) else (K_railsThatAre_4 rs x23 s0 (K_railsThatAre_L2 rs s0 nhl25) x24)) from hM).trans (if_pos i_26)
        refine lv_iload_n hx hb dX5_railsThatAre_32 rfl (lv_at hl 1 rfl) ?_
        refine W.widen (k := 0) (n := 0) (by decide) (by decide) ?_
        exact W.iret (v := x24) hx hb hr (fun t ht hW => ⟨⟨x24, x24, rfl, ⟨rfl, (xrng rfl (by omega) (by omega))⟩, ⟨hM, xB_of9 ht hW hP hK hD [0, 1] (by decide +kernel) rfl⟩⟩, hS.F ht⟩) hS.2.2 dX5_railsThatAre_33
      · skip
        have i_26 : ¬ (8 ≤ x23.toInt) := fun h9 => c_26 ((ile (by decide) rfl).mpr h9)
        have hM : M_railsThatAre rs s0 = (K_railsThatAre_4 rs x23 s0 (K_railsThatAre_L2 rs s0 nhl25) x24) := (show M_railsThatAre rs s0 = (if 8 ≤ x23.toInt then (K_railsThatAre_3 x24) else (K_railsThatAre_4 rs x23 s0 (K_railsThatAre_L2 rs s0 nhl25) x24)) from hM).trans (if_neg i_26)
        refine lv_aload_n hx hb dX5_railsThatAre_10 rfl (lv_at hl 2 rfl) ?_
        refine va_get (D := D) (ci := 4) (v := .ref rsa) (C := RX5) (T := TX5) (N := 14) hx hb hts (fun w h => tbC w (tbfX5 w h)) hown hK hP 0 rfl rfl 1 (by decide) (hts (.fieldLink RX5 18 "PowerRails$Run" "states" "[I") (tbC _ wd108)) (fun _ h9 => h9) rfl dX5_railsThatAre_11 ?_
        refine lv_iload_n hx hb dX5_railsThatAre_14 rfl (lv_at hl 0 rfl) ?_
        refine va_iald hx hb hK hP 1 0 rfl rfl (vp_in_iff.mpr ⟨by omega, by omega⟩) dX5_railsThatAre_15 ?_
        refine lv_topi (fun v27 ev27 => ?_)
        refine lv_iload_n hx hb dX5_railsThatAre_16 rfl (lv_at hl 3 rfl) ?_
        refine lv_icmp_ne (tgt := 26) hx hb dX5_railsThatAre_17 (by decide) (fun c_28 => ?_) (fun c_28 => ?_)
        · skip
          have i_28 : ¬ (v27.toInt = s0.toInt) := fun h9 => c_28 ((ieq rfl rfl).mpr h9)
          have hM : M_railsThatAre rs s0 = (K_railsThatAre_5 (K_railsThatAre_L2 rs s0 nhl25) x23 x24) := (show M_railsThatAre rs s0 = (if v27.toInt = s0.toInt then (K_railsThatAre_6 (K_railsThatAre_L2 rs s0 nhl25) x23 x24) else (K_railsThatAre_5 (K_railsThatAre_L2 rs s0 nhl25) x23 x24)) from (by rw [ev27]; exact hM)).trans (if_neg i_28)
          obtain ⟨x29, ex29⟩ : ∃ y : Int32, y = x23 + 1 := ⟨_, rfl⟩
          have tx29 : x29.toInt = (x23.toInt + 1) := (congrArg Int32.toInt ex29).trans (xadd rfl (by decide) (by omega) (by omega))
          refine lv_iinc (v := x29) (lv' := [(3, .int x29), (2, .int x24), (0, .ref rn), (1, .int s0)]) hx hb dX5_railsThatAre_26 hl (k := 0) rfl (by rw [ex29]; rfl) (by decide) rfl (fun ls hl => ?_)
          refine lv_goto (tgt := 4) hx hb dX5_railsThatAre_29 (by decide) ?_
          exact ihhl25 x29 x24 (by omega) (xrng tx29 (by omega) (by omega)) (xrng rfl (by omega) (by omega)) (by rw [ex29]; exact hM) _ _ hP hD hS ls (lv_sub hl [0, 1, 2, 3] rfl)
        · skip
          have i_28 : v27.toInt = s0.toInt := (ieq rfl rfl).mp c_28
          have hM : M_railsThatAre rs s0 = (K_railsThatAre_6 (K_railsThatAre_L2 rs s0 nhl25) x23 x24) := (show M_railsThatAre rs s0 = (if v27.toInt = s0.toInt then (K_railsThatAre_6 (K_railsThatAre_L2 rs s0 nhl25) x23 x24) else (K_railsThatAre_5 (K_railsThatAre_L2 rs s0 nhl25) x23 x24)) from (by rw [ev27]; exact hM)).trans (if_pos i_28)
          refine lv_iload_n hx hb dX5_railsThatAre_20 rfl (lv_at hl 1 rfl) ?_
          refine lv_iconst (v := 1) hx hb dX5_railsThatAre_21 (by decide) ?_
          refine lv_iload_n hx hb dX5_railsThatAre_22 rfl (lv_at hl 0 rfl) ?_
          refine lv_ishl hx hb dX5_railsThatAre_23 ?_
          refine lv_topi (fun v30 ev30 => ?_)
          have rv30 : 1 ≤ v30.toInt ∧ v30.toInt ≤ 128 := xshl1 7 ev30 (show (x23 : Int32).toInt = x23.toInt from rfl) (by omega) (by omega) (by decide)
          refine lv_ior hx hb dX5_railsThatAre_24 ?_
          refine lv_topi (fun v31 ev31 => ?_)
          have rv31 : 0 ≤ v31.toInt ∧ v31.toInt ≤ 255 := xorL 8 ev31 (show (x24 : Int32).toInt = x24.toInt from rfl) (show (v30 : Int32).toInt = v30.toInt from rfl) (by decide) (by decide) (by omega) (by omega) (by omega) (by omega)
          refine lv_istore_n (lv' := [(2, .int v31), (3, .int x23), (0, .ref rn), (1, .int s0)]) hx hb dX5_railsThatAre_25 rfl hl (by decide) rfl (fun ls hl => ?_)
          obtain ⟨x32, ex32⟩ : ∃ y : Int32, y = x23 + 1 := ⟨_, rfl⟩
          have tx32 : x32.toInt = (x23.toInt + 1) := (congrArg Int32.toInt ex32).trans (xadd rfl (by decide) (by omega) (by omega))
          refine lv_iinc (v := x32) (lv' := [(3, .int x32), (2, .int v31), (0, .ref rn), (1, .int s0)]) hx hb dX5_railsThatAre_26 hl (k := 1) rfl (by rw [ex32]; rfl) (by decide) rfl (fun ls hl => ?_)
          refine lv_goto (tgt := 4) hx hb dX5_railsThatAre_29 (by decide) ?_
          exact ihhl25 x32 v31 (by omega) (xrng tx32 (by omega) (by omega)) (xrng rfl (by omega) (by omega)) (by rw [ex32, ev31, ev30]; exact hM) _ _ hP hD hS ls (lv_sub hl [0, 1, 2, 3] rfl)
  exact hl25 100000 0 0 (by have z9_0 : (0 : Int32).toInt = 0 := (by decide); omega) ⟨by decide, by decide⟩ ⟨by decide, by decide⟩ hM _ _ hP hD hS ls (lv_sub hl [0, 1, 2, 3] rfl)
def K_railsThatMay_8 (x29 : Int32) : (Int32) := (x29)
def K_railsThatMay_11 (rec_7 : (Int32) → (Int32) → ((Int32))) (x28 : Int32) (x29 : Int32) : (Int32) := (rec_7 (x28 + 1) x29)
def K_railsThatMay_12 (rec_7 : (Int32) → (Int32) → ((Int32))) (x28 : Int32) (x29 : Int32) : (Int32) := (rec_7 (x28 + 1) (x29 ||| ((1 : Int32) <<< (x28 &&& 31))))
def K_railsThatMay_10 (r32 : Int32) (rec_7 : (Int32) → (Int32) → ((Int32))) (x28 : Int32) (x29 : Int32) : (Int32) := (if r32.toInt = 0 then (K_railsThatMay_11 rec_7 x28 x29) else (K_railsThatMay_12 rec_7 x28 x29))
def K_railsThatMay_9 (rec_7 : (Int32) → (Int32) → ((Int32))) (x28 : Int32) (x29 : Int32) (pt : Nat → Int64) (v4 : Int32) : (Int32) := ((fun t9 => (K_railsThatMay_10 t9 rec_7 x28 x29)) (M_holdsWith pt x28 v4))
def K_railsThatMay_7 (rails : Int32) (x28 : Int32) (x29 : Int32) (rec_7 : (Int32) → (Int32) → ((Int32))) (pt : Nat → Int64) (v4 : Int32) : (Int32) := (if rails.toInt ≤ x28.toInt then (K_railsThatMay_8 x29) else (K_railsThatMay_9 rec_7 x28 x29 pt v4))
def K_railsThatMay_L7 (rails : Int32) (pt : Nat → Int64) (v4 : Int32) : Nat → (Int32) → (Int32) → (Int32)
  | 0, _, _ => (0)
  | n9 + 1, x28, x29 => (K_railsThatMay_7 rails x28 x29 (K_railsThatMay_L7 rails pt v4 n9) pt v4)
def K_railsThatMay_5 (rails : Int32) (pt : Nat → Int64) (r2 : Int32) : (Int32) := (K_railsThatMay_L7 rails pt (r2 ||| (0 : Int32)) 100000 (0 : Int32) (0 : Int32))
def K_railsThatMay_14 (x63 : Int32) : (Int32) := (x63)
def K_railsThatMay_17 (rec_13 : (Int32) → (Int32) → ((Int32))) (x62 : Int32) (x63 : Int32) : (Int32) := (rec_13 (x62 + 1) x63)
def K_railsThatMay_18 (rec_13 : (Int32) → (Int32) → ((Int32))) (x62 : Int32) (x63 : Int32) : (Int32) := (rec_13 (x62 + 1) (x63 ||| ((1 : Int32) <<< (x62 &&& 31))))
def K_railsThatMay_16 (r66 : Int32) (rec_13 : (Int32) → (Int32) → ((Int32))) (x62 : Int32) (x63 : Int32) : (Int32) := (if r66.toInt = 0 then (K_railsThatMay_17 rec_13 x62 x63) else (K_railsThatMay_18 rec_13 x62 x63))
def K_railsThatMay_15 (rec_13 : (Int32) → (Int32) → ((Int32))) (x62 : Int32) (x63 : Int32) (pt : Nat → Int64) (v38 : Int32) : (Int32) := ((fun t9 => (K_railsThatMay_16 t9 rec_13 x62 x63)) (M_holdsWith pt x62 v38))
def K_railsThatMay_13 (rails : Int32) (x62 : Int32) (x63 : Int32) (rec_13 : (Int32) → (Int32) → ((Int32))) (pt : Nat → Int64) (v38 : Int32) : (Int32) := (if rails.toInt ≤ x62.toInt then (K_railsThatMay_14 x63) else (K_railsThatMay_15 rec_13 x62 x63 pt v38))
def K_railsThatMay_L13 (rails : Int32) (pt : Nat → Int64) (v38 : Int32) : Nat → (Int32) → (Int32) → (Int32)
  | 0, _, _ => (0)
  | n9 + 1, x62, x63 => (K_railsThatMay_13 rails x62 x63 (K_railsThatMay_L13 rails pt v38 n9) pt v38)
def K_railsThatMay_6 (rails : Int32) (pt : Nat → Int64) (r2 : Int32) : (Int32) := (K_railsThatMay_L13 rails pt (r2 ||| (256 : Int32)) 100000 (0 : Int32) (0 : Int32))
def K_railsThatMay_4 (key : Int32) (rails : Int32) (pt : Nat → Int64) (r2 : Int32) : (Int32) := (if key.toInt = 0 then (K_railsThatMay_5 rails pt r2) else (K_railsThatMay_6 rails pt r2))
def K_railsThatMay_2 (key : Int32) (rails : Int32) (pt : Nat → Int64) (rs : Nat → Int32) : (Int32) := ((fun t9 => (K_railsThatMay_4 key rails pt t9)) (M_railsThatAre rs (3 : Int32)))
def K_railsThatMay_3  : (Int32) := ((0 : Int32))
def K_railsThatMay_1 (held : Int32) (key : Int32) (rails : Int32) (pt : Nat → Int64) (rs : Nat → Int32) : (Int32) := (if held.toInt = 0 then (K_railsThatMay_2 key rails pt rs) else (K_railsThatMay_3))
def M_railsThatMay (held : Int32) (key : Int32) (rails : Int32) (pt : Nat → Int64) (rs : Nat → Int32) : (Int32) := (K_railsThatMay_1 held key rails pt rs)
abbrev W_railsThatMay (cI cJ cZ cG cH : ClassId) (rn : Nat) (pl : Nat) (hy : Nat) (rsa : Nat) (ria : Nat) (raa : Nat) (rta : Nat) (rga : Nat) (dead : Int32) (key : Int32) (tick : Int32) (held : Int32) (tries : Int32) (trips : Int32) (ldraw : Int32) (gdraw : Int32) (rs : Nat → Int32) (pna : Nat) (pta : Nat) (rails : Int32) (limit : Int32) (retry : Int32) (behind : Int32) (pt : Nat → Int64) : va_W := [oX5 rn hy rsa ria raa rta rga dead key tick held tries trips ldraw gdraw, oAI rsa cI 8 rs, oX3 pl pna pta rails limit retry behind, oAJ pta cJ 64 pt]
abbrev Q_railsThatMay (D : va_G) (cI cJ cZ cG cH : ClassId) (rn : Nat) (pl : Nat) (hy : Nat) (rsa : Nat) (ria : Nat) (raa : Nat) (rta : Nat) (rga : Nat) (dead : Int32) (key : Int32) (tick : Int32) (held : Int32) (tries : Int32) (trips : Int32) (ldraw : Int32) (gdraw : Int32) (rs : Nat → Int32) (pna : Nat) (pta : Nat) (rails : Int32) (limit : Int32) (retry : Int32) (behind : Int32) (pt : Nat → Int64) (A : Nat → Prop) : Array Value → State → Outcome → State → Prop := va_Qi (fun (r : Int32) (u9 : Int32) => r = u9 ∧ (0 ≤ r.toInt ∧ r.toInt ≤ 255)) (fun u9 t => (M_railsThatMay held key rails pt rs = (u9)) ∧ xB D (tyL cI cJ cZ cG cH) [oX5 rn hy rsa ria raa rta rga dead key tick held tries trips ldraw gdraw, oAI rsa cI 8 rs, oX3 pl pna pta rails limit retry behind, oAJ pta cJ 64 pt] A t) A
abbrev rm_railsThatMay : Room := { frames := 1, cells := 0, slots := 0, locals := 23 }
set_option maxRecDepth 100000 in
set_option maxHeartbeats 40000000 in
theorem c_railsThatMay (l : Launch) (D : va_G) (cI cJ cZ cG cH : ClassId) (sz : Nat) (rn : Nat) (pl : Nat) (hy : Nat) (rsa : Nat) (ria : Nat) (raa : Nat) (rta : Nat) (rga : Nat) (dead : Int32) (key : Int32) (tick : Int32) (held : Int32) (tries : Int32) (trips : Int32) (ldraw : Int32) (gdraw : Int32) (rs : Nat → Int32) (pna : Nat) (pta : Nat) (rails : Int32) (limit : Int32) (retry : Int32) (behind : Int32) (pt : Nat → Int64) (h_key : 0 ≤ key.toInt ∧ key.toInt ≤ 1) (h_rails : 0 ≤ rails.toInt ∧ rails.toInt ≤ 8) : Met l yX5_railsThatMay (wt yX5_railsThatMay cX5_railsThatMay 5 (some .int)) rm_railsThatMay (xPc [.ref rn, .ref pl] D (tyL cI cJ cZ cG cH) (W_railsThatMay cI cJ cZ cG cH rn pl hy rsa ria raa rta rga dead key tick held tries trips ldraw gdraw rs pna pta rails limit retry behind pt) sz) (Q_railsThatMay D cI cJ cZ cG cH rn pl hy rsa ria raa rta rga dead key tick held tries trips ldraw gdraw rs pna pta rails limit retry behind pt (va_A (W_railsThatMay cI cJ cZ cG cH rn pl hy rsa ria raa rta rga dead key tick held tries trips ldraw gdraw rs pna pta rails limit retry behind pt) sz)) 0 0 (va_A (W_railsThatMay cI cJ cZ cG cH rn pl hy rsa ria raa rta rga dead key tick held tries trips ldraw gdraw rs pna pta rails limit retry behind pt) sz) := by
  refine xMet (cc := cX5_railsThatMay) (maxL := 5) (ret := (some .int)) (Qf := Q_railsThatMay D cI cJ cZ cG cH rn pl hy rsa ria raa rta rga dead key tick held tries trips ldraw gdraw rs pna pta rails limit retry behind pt) (by decide) rfl (Nat.le_of_ble_eq_true rfl) ?_
  intro p e s m below meth c ls A hx hb hr hml hts hown hlocks hnm hsz hP hK hD hA hS hl
  have hown : s.vm.findClass RX5 = some m.cls := hown
  have hP : va_P D vwCl [oX5 rn hy rsa ria raa rta rga dead key tick held tries trips ldraw gdraw, oAI rsa cI 8 rs, oX3 pl pna pta rails limit retry behind, oAJ pta cJ 64 pt] s.heap := hP
  have hD : va_D A [oX5 rn hy rsa ria raa rta rga dead key tick held tries trips ldraw gdraw, oAI rsa cI 8 rs, oX3 pl pna pta rails limit retry behind, oAJ pta cJ 64 pt] := hD
  have hl : lv_has ls 5 [(0, .ref rn), (1, .ref pl)] := hl
  have hM : M_railsThatMay held key rails pt rs = (K_railsThatMay_1 held key rails pt rs) := rfl
  refine lv_aload_n hx hb dX5_railsThatMay_0 rfl (lv_at hl 0 rfl) ?_
  refine va_get (D := D) (ci := 4) (v := .int held) (C := RX5) (T := TX5) (N := 14) hx hb hts (fun w h => tbC w (tbfX5 w h)) hown hK hP 0 rfl rfl 9 (by decide) (hts (.fieldLink RX5 54 "PowerRails$Run" "held" "I") (tbC _ wd123)) (fun _ h9 => h9) rfl dX5_railsThatMay_1 ?_
  refine lv_if_eq (tgt := 9) hx hb dX5_railsThatMay_4 (by decide) (fun c_1 => ?_) (fun c_1 => ?_)
  · skip
    have i_1 : held.toInt = 0 := (ieq rfl (by decide)).mp c_1
    have hM : M_railsThatMay held key rails pt rs = (K_railsThatMay_2 key rails pt rs) := (show M_railsThatMay held key rails pt rs = (if held.toInt = 0 then (K_railsThatMay_2 key rails pt rs) else (K_railsThatMay_3)) from hM).trans (if_pos i_1)
    refine lv_aload_n hx hb dX5_railsThatMay_9 rfl (lv_at hl 0 rfl) ?_
    refine lv_iconst (v := 3) hx hb dX5_railsThatMay_10 (by decide) ?_
    obtain ⟨hPc, hDc, hFc, hC9⟩ := xpk (wc := W_railsThatAre cI cJ cZ cG cH rn (3 : Int32) hy rsa ria raa rta rga dead key tick held tries trips ldraw gdraw rs) hP hD hS hA [0, 1] (by decide +kernel) rfl
    refine va_calli (va_runV (As := [.int 3]) (rest := []) ⟨hx, hb, hml, hown, hts⟩ (c_railsThatAre l D cI cJ cZ cG cH s.heap.size rn (3 : Int32) hy rsa ria raa rta rga dead key tick held tries trips ldraw gdraw rs (xrng rfl (by omega) (by omega))) (cwV 1 hts (xGV tbC wd464 wd465 wd466 wd52 wd1027) rfl rfl rfl (by decide +kernel) ⟨Nat.le_of_ble_eq_true rfl, Nat.le_of_ble_eq_true rfl⟩) ⟨xPc_blind, va_recv hK hPc (ci := 4) (q0 := 0) rfl rfl, xPc_pre hPc hK hDc⟩ rfl rfl hl.1 rfl (lv_room (Nat.le_of_ble_eq_true rfl)) dX5_railsThatMay_11 ⟨Nat.le_of_ble_eq_true rfl, Nat.le_of_ble_eq_true rfl⟩) hS (fun q _ h => hFc q h) hFc (fun r2 u t H1 locs ht hvm hw2 hB hz1 hk1 hS => ?_)
    obtain ⟨hru9, hw2⟩ := hw2
    subst hru9
    obtain ⟨hf2_0, hP1, hK1, hD1⟩ := hB
    rw [ht] at hP1
    obtain ⟨hP, hD⟩ : xPD D A [oX3 pl pna pta rails limit retry behind, oAJ pta cJ 64 pt, oX5 rn hy rsa ria raa rta rga dead key tick held tries trips ldraw gdraw, oAI rsa cI 8 rs] H1 := xjn 2 hP hD [0, 1] [2, 3] hC9 rfl (by decide +kernel) (by decide +kernel) hk1 hFc hP1 hD1
    generalize H1 = H at hP hS ⊢
    have hf2_0 : M_railsThatAre rs (3 : Int32) = (r2) := hf2_0
    have hw2 : 0 ≤ r2.toInt ∧ r2.toInt ≤ 255 := hw2
    have h9M := congrArg (fun t9 => (K_railsThatMay_4 key rails pt t9)) hf2_0
    have hM : M_railsThatMay held key rails pt rs = (K_railsThatMay_4 key rails pt r2) := (show M_railsThatMay held key rails pt rs = ((fun t9 => (K_railsThatMay_4 key rails pt t9)) (M_railsThatAre rs (3 : Int32))) from hM).trans h9M
    refine lv_aload_n hx hb dX5_railsThatMay_14 rfl (lv_at hl 0 rfl) ?_
    refine va_get (D := D) (ci := 4) (v := .int key) (C := RX5) (T := TX5) (N := 14) hx hb hts (fun w h => tbC w (tbfX5 w h)) hown hK hP 2 rfl rfl 7 (by decide) (hts (.fieldLink RX5 38 "PowerRails$Run" "key" "Z") (tbC _ wd119)) (fun _ h9 => h9) rfl dX5_railsThatMay_15 ?_
    refine lv_if_eq (tgt := 27) hx hb dX5_railsThatMay_18 (by decide) (fun c_3 => ?_) (fun c_3 => ?_)
    · skip
      have i_3 : key.toInt = 0 := (ieq rfl (by decide)).mp c_3
      have hM : M_railsThatMay held key rails pt rs = (K_railsThatMay_5 rails pt r2) := (show M_railsThatMay held key rails pt rs = (if key.toInt = 0 then (K_railsThatMay_5 rails pt r2) else (K_railsThatMay_6 rails pt r2)) from hM).trans (if_pos i_3)
      refine lv_iconst (v := 0) hx hb dX5_railsThatMay_27 (by decide) ?_
      refine lv_ior hx hb dX5_railsThatMay_28 ?_
      refine lv_topi (fun v4 ev4 => ?_)
      have rv4 : 0 ≤ v4.toInt ∧ v4.toInt ≤ 255 := xorL 8 ev4 (show (r2 : Int32).toInt = r2.toInt from rfl) (show (0 : Int32).toInt = 0 from (by decide)) (by decide) (by decide) (by omega) (by omega) (by omega) (by omega)
      refine lv_istore_n (lv' := [(2, .int v4), (0, .ref rn), (1, .ref pl)]) hx hb dX5_railsThatMay_29 rfl hl (by decide) rfl (fun ls hl => ?_)
      refine lv_iconst (v := 0) hx hb dX5_railsThatMay_30 (by decide) ?_
      refine lv_istore_n (lv' := [(3, .int 0), (2, .int v4), (0, .ref rn), (1, .ref pl)]) hx hb dX5_railsThatMay_31 rfl hl (by decide) rfl (fun ls hl => ?_)
      refine lv_iconst (v := 0) hx hb dX5_railsThatMay_32 (by decide) ?_
      refine lv_istore (lv' := [(4, .int 0), (3, .int 0), (2, .int v4), (0, .ref rn), (1, .ref pl)]) hx hb dX5_railsThatMay_33 hl (by decide) rfl (fun ls hl => ?_)
      have hl30 : ∀ (nhl30 : Nat) (x28 : Int32) (x29 : Int32), ((8 - x28.toInt).toNat < nhl30) → (hx28 : 0 ≤ x28.toInt ∧ x28.toInt ≤ 8) → (hx29 : 0 ≤ x29.toInt ∧ x29.toInt ≤ 255) → (hM : M_railsThatMay held key rails pt rs = (K_railsThatMay_L7 rails pt v4 nhl30 x28 x29)) → ∀ (H : Heap) (locs : List Loc), va_P D vwCl [oX3 pl pna pta rails limit retry behind, oAJ pta cJ 64 pt, oX5 rn hy rsa ria raa rta rga dead key tick held tries trips ldraw gdraw, oAI rsa cI 8 rs] H → va_D A [oX3 pl pna pta rails limit retry behind, oAJ pta cJ 64 pt, oX5 rn hy rsa ria raa rta rga dead key tick held tries trips ldraw gdraw, oAI rsa cI 8 rs] → va_S A s.heap H locs → ∀ (ls : Array Slot), lv_has ls 5 [(4, .int x28), (3, .int x29), (2, .int v4), (0, .ref rn), (1, .ref pl)] → W p l e rm_railsThatMay s m [Value.ref rn, Value.ref pl].toArray below meth c H locs 0 0 (MQ below ((Q_railsThatMay D cI cJ cZ cG cH rn pl hy rsa ria raa rta rga dead key tick held tries trips ldraw gdraw rs pna pta rails limit retry behind pt) A) [Value.ref rn, Value.ref pl].toArray s 0 0 A) (F0 m 35 ls []) := by
        intro nhl30
        induction nhl30 with
        | zero =>
          intro x28 x29 hmhl30
          exact absurd hmhl30 (Nat.not_lt_zero _)
        | succ nhl30 ihhl30 =>
          intro x28 x29 hmhl30 hx28 hx29 hM H locs hP hD hS ls hl
          have hM : M_railsThatMay held key rails pt rs = (K_railsThatMay_7 rails x28 x29 (K_railsThatMay_L7 rails pt v4 nhl30) pt v4) := hM
          refine lv_iload hx hb dX5_railsThatMay_35 (lv_at hl 0 rfl) ?_
          refine lv_aload_n hx hb dX5_railsThatMay_37 rfl (lv_at hl 4 rfl) ?_
          refine va_get (D := D) (ci := 2) (v := .int rails) (C := RX3) (T := TX3) (N := 6) hx hb hts (fun w h => tbC w (tbfX3 w h)) hown hK hP 0 rfl rfl 2 (by decide) (hts (.fieldLink RX5 106 "PowerRails$Plan" "rails" "I") (tbC _ wd209)) (fun _ h9 => h9) rfl dX5_railsThatMay_38 ?_
          refine lv_icmp_ge (tgt := 67) hx hb dX5_railsThatMay_41 (by decide) (fun c_31 => ?_) (fun c_31 => ?_)
          · skip
            have i_31 : rails.toInt ≤ x28.toInt := (ile rfl rfl).mp c_31
            have hM : M_railsThatMay held key rails pt rs = (K_railsThatMay_8 x29) := (show M_railsThatMay held key rails pt rs = (if rails.toInt ≤ x28.toInt then (K_railsThatMay_8 x29) else (K_railsThatMay_9 (K_railsThatMay_L7 rails pt v4 nhl30) x28 x29 pt v4)) from hM).trans (if_pos i_31)
            refine lv_iload_n hx hb dX5_railsThatMay_67 rfl (lv_at hl 1 rfl) ?_
            refine W.widen (k := 0) (n := 0) (by decide) (by decide) ?_
            exact W.iret (v := x29) hx hb hr (fun t ht hW => ⟨⟨x29, x29, rfl, ⟨rfl, (xrng rfl (by omega) (by omega))⟩, ⟨hM, xB_of9 ht hW hP hK hD [2, 3, 0, 1] (by decide +kernel) rfl⟩⟩, hS.F ht⟩) hS.2.2 dX5_railsThatMay_68
          · skip
            have i_31 : ¬ (rails.toInt ≤ x28.toInt) := fun h9 => c_31 ((ile rfl rfl).mpr h9)
            have hM : M_railsThatMay held key rails pt rs = (K_railsThatMay_9 (K_railsThatMay_L7 rails pt v4 nhl30) x28 x29 pt v4) := (show M_railsThatMay held key rails pt rs = (if rails.toInt ≤ x28.toInt then (K_railsThatMay_8 x29) else (K_railsThatMay_9 (K_railsThatMay_L7 rails pt v4 nhl30) x28 x29 pt v4)) from hM).trans (if_neg i_31)
            refine lv_aload_n hx hb dX5_railsThatMay_44 rfl (lv_at hl 4 rfl) ?_
            refine lv_iload hx hb dX5_railsThatMay_45 (lv_at hl 0 rfl) ?_
            refine lv_iload_n hx hb dX5_railsThatMay_47 rfl (lv_at hl 2 rfl) ?_
            obtain ⟨hPc, hDc, hFc, hC9⟩ := xpk (wc := W_holdsWith cI cJ cZ cG cH pl x28 v4 pna pta rails limit retry behind pt) hP hD hS hA [0, 1] (by decide +kernel) rfl
            refine va_calli (va_runV (As := [.int x28, .int v4]) (rest := []) ⟨hx, hb, hml, hown, hts⟩ (c_holdsWith l D cI cJ cZ cG cH H.size pl x28 v4 pna pta rails limit retry behind pt (xrng rfl (by omega) (by omega)) (xrng rfl (by omega) (by omega))) (cwV 2 hts (xGV tbC wd467 wd423 wd424 wd59 wd1013) rfl rfl rfl (by decide +kernel) ⟨Nat.le_of_ble_eq_true rfl, Nat.le_of_ble_eq_true rfl⟩) ⟨xPc_blind, va_recv hK hPc (ci := 2) (q0 := 0) rfl rfl, xPc_pre hPc hK hDc⟩ rfl rfl hl.1 rfl (lv_room (Nat.le_of_ble_eq_true rfl)) dX5_railsThatMay_48 ⟨Nat.le_of_ble_eq_true rfl, Nat.le_of_ble_eq_true rfl⟩) hS (fun q _ h => hFc q h) hFc (fun r32 u t H1 locs ht hvm hw32 hB hz1 hk1 hS => ?_)
            obtain ⟨hru9, hw32⟩ := hw32
            subst hru9
            obtain ⟨hf32_0, hP1, hK1, hD1⟩ := hB
            rw [ht] at hP1
            obtain ⟨hP, hD⟩ : xPD D A [oX5 rn hy rsa ria raa rta rga dead key tick held tries trips ldraw gdraw, oAI rsa cI 8 rs, oX3 pl pna pta rails limit retry behind, oAJ pta cJ 64 pt] H1 := xjn 2 hP hD [0, 1] [2, 3] hC9 rfl (by decide +kernel) (by decide +kernel) hk1 hFc hP1 hD1
            generalize H1 = H at hP hS ⊢
            have hf32_0 : M_holdsWith pt x28 v4 = (r32) := hf32_0
            have hw32 : 0 ≤ r32.toInt ∧ r32.toInt ≤ 1 := hw32
            have h9M := congrArg (fun t9 => (K_railsThatMay_10 t9 (K_railsThatMay_L7 rails pt v4 nhl30) x28 x29)) hf32_0
            have hM : M_railsThatMay held key rails pt rs = (K_railsThatMay_10 r32 (K_railsThatMay_L7 rails pt v4 nhl30) x28 x29) := (show M_railsThatMay held key rails pt rs = ((fun t9 => (K_railsThatMay_10 t9 (K_railsThatMay_L7 rails pt v4 nhl30) x28 x29)) (M_holdsWith pt x28 v4)) from hM).trans h9M
            refine lv_if_eq (tgt := 61) hx hb dX5_railsThatMay_51 (by decide) (fun c_33 => ?_) (fun c_33 => ?_)
            · skip
              have i_33 : r32.toInt = 0 := (ieq rfl (by decide)).mp c_33
              have hM : M_railsThatMay held key rails pt rs = (K_railsThatMay_11 (K_railsThatMay_L7 rails pt v4 nhl30) x28 x29) := (show M_railsThatMay held key rails pt rs = (if r32.toInt = 0 then (K_railsThatMay_11 (K_railsThatMay_L7 rails pt v4 nhl30) x28 x29) else (K_railsThatMay_12 (K_railsThatMay_L7 rails pt v4 nhl30) x28 x29)) from hM).trans (if_pos i_33)
              obtain ⟨x34, ex34⟩ : ∃ y : Int32, y = x28 + 1 := ⟨_, rfl⟩
              have tx34 : x34.toInt = (x28.toInt + 1) := (congrArg Int32.toInt ex34).trans (xadd rfl (by decide) (by omega) (by omega))
              refine lv_iinc (v := x34) (lv' := [(4, .int x34), (3, .int x29), (2, .int v4), (0, .ref rn), (1, .ref pl)]) hx hb dX5_railsThatMay_61 hl (k := 0) rfl (by rw [ex34]; rfl) (by decide) rfl (fun ls hl => ?_)
              refine lv_goto (tgt := 35) hx hb dX5_railsThatMay_64 (by decide) ?_
              obtain ⟨hP, hD⟩ := xsb (ws' := [oX3 pl pna pta rails limit retry behind, oAJ pta cJ 64 pt, oX5 rn hy rsa ria raa rta rga dead key tick held tries trips ldraw gdraw, oAI rsa cI 8 rs]) hP hD [2, 3, 0, 1] (by decide +kernel) rfl
              exact ihhl30 x34 x29 (by omega) (xrng tx34 (by omega) (by omega)) (xrng rfl (by omega) (by omega)) (by rw [ex34]; exact hM) _ _ hP hD hS ls (lv_sub hl [0, 1, 2, 3, 4] rfl)
            · skip
              have i_33 : ¬ (r32.toInt = 0) := fun h9 => c_33 ((ieq rfl (by decide)).mpr h9)
              have hM : M_railsThatMay held key rails pt rs = (K_railsThatMay_12 (K_railsThatMay_L7 rails pt v4 nhl30) x28 x29) := (show M_railsThatMay held key rails pt rs = (if r32.toInt = 0 then (K_railsThatMay_11 (K_railsThatMay_L7 rails pt v4 nhl30) x28 x29) else (K_railsThatMay_12 (K_railsThatMay_L7 rails pt v4 nhl30) x28 x29)) from hM).trans (if_neg i_33)
              refine lv_iload_n hx hb dX5_railsThatMay_54 rfl (lv_at hl 1 rfl) ?_
              refine lv_iconst (v := 1) hx hb dX5_railsThatMay_55 (by decide) ?_
              refine lv_iload hx hb dX5_railsThatMay_56 (lv_at hl 0 rfl) ?_
              refine lv_ishl hx hb dX5_railsThatMay_58 ?_
              refine lv_topi (fun v35 ev35 => ?_)
              have rv35 : 1 ≤ v35.toInt ∧ v35.toInt ≤ 128 := xshl1 7 ev35 (show (x28 : Int32).toInt = x28.toInt from rfl) (by omega) (by omega) (by decide)
              refine lv_ior hx hb dX5_railsThatMay_59 ?_
              refine lv_topi (fun v36 ev36 => ?_)
              have rv36 : 0 ≤ v36.toInt ∧ v36.toInt ≤ 255 := xorL 8 ev36 (show (x29 : Int32).toInt = x29.toInt from rfl) (show (v35 : Int32).toInt = v35.toInt from rfl) (by decide) (by decide) (by omega) (by omega) (by omega) (by omega)
              refine lv_istore_n (lv' := [(3, .int v36), (4, .int x28), (2, .int v4), (0, .ref rn), (1, .ref pl)]) hx hb dX5_railsThatMay_60 rfl hl (by decide) rfl (fun ls hl => ?_)
              obtain ⟨x37, ex37⟩ : ∃ y : Int32, y = x28 + 1 := ⟨_, rfl⟩
              have tx37 : x37.toInt = (x28.toInt + 1) := (congrArg Int32.toInt ex37).trans (xadd rfl (by decide) (by omega) (by omega))
              refine lv_iinc (v := x37) (lv' := [(4, .int x37), (3, .int v36), (2, .int v4), (0, .ref rn), (1, .ref pl)]) hx hb dX5_railsThatMay_61 hl (k := 1) rfl (by rw [ex37]; rfl) (by decide) rfl (fun ls hl => ?_)
              refine lv_goto (tgt := 35) hx hb dX5_railsThatMay_64 (by decide) ?_
              obtain ⟨hP, hD⟩ := xsb (ws' := [oX3 pl pna pta rails limit retry behind, oAJ pta cJ 64 pt, oX5 rn hy rsa ria raa rta rga dead key tick held tries trips ldraw gdraw, oAI rsa cI 8 rs]) hP hD [2, 3, 0, 1] (by decide +kernel) rfl
              exact ihhl30 x37 v36 (by omega) (xrng tx37 (by omega) (by omega)) (xrng rfl (by omega) (by omega)) (by rw [ex37, ev36, ev35]; exact hM) _ _ hP hD hS ls (lv_sub hl [0, 1, 2, 3, 4] rfl)
      exact hl30 100000 0 0 (by have z9_0 : (0 : Int32).toInt = 0 := (by decide); omega) ⟨by decide, by decide⟩ ⟨by decide, by decide⟩ (by rw [ev4]; exact hM) _ _ hP hD hS ls (lv_sub hl [0, 1, 2, 3, 4] rfl)
    · skip
      have i_3 : ¬ (key.toInt = 0) := fun h9 => c_3 ((ieq rfl (by decide)).mpr h9)
      have hM : M_railsThatMay held key rails pt rs = (K_railsThatMay_6 rails pt r2) := (show M_railsThatMay held key rails pt rs = (if key.toInt = 0 then (K_railsThatMay_5 rails pt r2) else (K_railsThatMay_6 rails pt r2)) from hM).trans (if_neg i_3)
      refine lv_sipush (v := 256) hx hb dX5_railsThatMay_21 (by decide) ?_
      refine lv_goto (tgt := 28) hx hb dX5_railsThatMay_24 (by decide) ?_
      refine lv_ior hx hb dX5_railsThatMay_28 ?_
      refine lv_topi (fun v38 ev38 => ?_)
      have rv38 : 0 ≤ v38.toInt ∧ v38.toInt ≤ 511 := xorL 9 ev38 (show (r2 : Int32).toInt = r2.toInt from rfl) (show (256 : Int32).toInt = 256 from (by decide)) (by decide) (by decide) (by omega) (by omega) (by omega) (by omega)
      refine lv_istore_n (lv' := [(2, .int v38), (0, .ref rn), (1, .ref pl)]) hx hb dX5_railsThatMay_29 rfl hl (by decide) rfl (fun ls hl => ?_)
      refine lv_iconst (v := 0) hx hb dX5_railsThatMay_30 (by decide) ?_
      refine lv_istore_n (lv' := [(3, .int 0), (2, .int v38), (0, .ref rn), (1, .ref pl)]) hx hb dX5_railsThatMay_31 rfl hl (by decide) rfl (fun ls hl => ?_)
      refine lv_iconst (v := 0) hx hb dX5_railsThatMay_32 (by decide) ?_
      refine lv_istore (lv' := [(4, .int 0), (3, .int 0), (2, .int v38), (0, .ref rn), (1, .ref pl)]) hx hb dX5_railsThatMay_33 hl (by decide) rfl (fun ls hl => ?_)
      have hl64 : ∀ (nhl64 : Nat) (x62 : Int32) (x63 : Int32), ((8 - x62.toInt).toNat < nhl64) → (hx62 : 0 ≤ x62.toInt ∧ x62.toInt ≤ 8) → (hx63 : 0 ≤ x63.toInt ∧ x63.toInt ≤ 255) → (hM : M_railsThatMay held key rails pt rs = (K_railsThatMay_L13 rails pt v38 nhl64 x62 x63)) → ∀ (H : Heap) (locs : List Loc), va_P D vwCl [oX3 pl pna pta rails limit retry behind, oAJ pta cJ 64 pt, oX5 rn hy rsa ria raa rta rga dead key tick held tries trips ldraw gdraw, oAI rsa cI 8 rs] H → va_D A [oX3 pl pna pta rails limit retry behind, oAJ pta cJ 64 pt, oX5 rn hy rsa ria raa rta rga dead key tick held tries trips ldraw gdraw, oAI rsa cI 8 rs] → va_S A s.heap H locs → ∀ (ls : Array Slot), lv_has ls 5 [(4, .int x62), (3, .int x63), (2, .int v38), (0, .ref rn), (1, .ref pl)] → W p l e rm_railsThatMay s m [Value.ref rn, Value.ref pl].toArray below meth c H locs 0 0 (MQ below ((Q_railsThatMay D cI cJ cZ cG cH rn pl hy rsa ria raa rta rga dead key tick held tries trips ldraw gdraw rs pna pta rails limit retry behind pt) A) [Value.ref rn, Value.ref pl].toArray s 0 0 A) (F0 m 35 ls []) := by
        intro nhl64
        induction nhl64 with
        | zero =>
          intro x62 x63 hmhl64
          exact absurd hmhl64 (Nat.not_lt_zero _)
        | succ nhl64 ihhl64 =>
          intro x62 x63 hmhl64 hx62 hx63 hM H locs hP hD hS ls hl
          have hM : M_railsThatMay held key rails pt rs = (K_railsThatMay_13 rails x62 x63 (K_railsThatMay_L13 rails pt v38 nhl64) pt v38) := hM
          refine lv_iload hx hb dX5_railsThatMay_35 (lv_at hl 0 rfl) ?_
          refine lv_aload_n hx hb dX5_railsThatMay_37 rfl (lv_at hl 4 rfl) ?_
          refine va_get (D := D) (ci := 2) (v := .int rails) (C := RX3) (T := TX3) (N := 6) hx hb hts (fun w h => tbC w (tbfX3 w h)) hown hK hP 0 rfl rfl 2 (by decide) (hts (.fieldLink RX5 106 "PowerRails$Plan" "rails" "I") (tbC _ wd209)) (fun _ h9 => h9) rfl dX5_railsThatMay_38 ?_
          refine lv_icmp_ge (tgt := 67) hx hb dX5_railsThatMay_41 (by decide) (fun c_65 => ?_) (fun c_65 => ?_)
          · skip
            have i_65 : rails.toInt ≤ x62.toInt := (ile rfl rfl).mp c_65
            have hM : M_railsThatMay held key rails pt rs = (K_railsThatMay_14 x63) := (show M_railsThatMay held key rails pt rs = (if rails.toInt ≤ x62.toInt then (K_railsThatMay_14 x63) else (K_railsThatMay_15 (K_railsThatMay_L13 rails pt v38 nhl64) x62 x63 pt v38)) from hM).trans (if_pos i_65)
            refine lv_iload_n hx hb dX5_railsThatMay_67 rfl (lv_at hl 1 rfl) ?_
            refine W.widen (k := 0) (n := 0) (by decide) (by decide) ?_
            exact W.iret (v := x63) hx hb hr (fun t ht hW => ⟨⟨x63, x63, rfl, ⟨rfl, (xrng rfl (by omega) (by omega))⟩, ⟨hM, xB_of9 ht hW hP hK hD [2, 3, 0, 1] (by decide +kernel) rfl⟩⟩, hS.F ht⟩) hS.2.2 dX5_railsThatMay_68
          · skip
            have i_65 : ¬ (rails.toInt ≤ x62.toInt) := fun h9 => c_65 ((ile rfl rfl).mpr h9)
            have hM : M_railsThatMay held key rails pt rs = (K_railsThatMay_15 (K_railsThatMay_L13 rails pt v38 nhl64) x62 x63 pt v38) := (show M_railsThatMay held key rails pt rs = (if rails.toInt ≤ x62.toInt then (K_railsThatMay_14 x63) else (K_railsThatMay_15 (K_railsThatMay_L13 rails pt v38 nhl64) x62 x63 pt v38)) from hM).trans (if_neg i_65)
            refine lv_aload_n hx hb dX5_railsThatMay_44 rfl (lv_at hl 4 rfl) ?_
            refine lv_iload hx hb dX5_railsThatMay_45 (lv_at hl 0 rfl) ?_
            refine lv_iload_n hx hb dX5_railsThatMay_47 rfl (lv_at hl 2 rfl) ?_
            obtain ⟨hPc, hDc, hFc, hC9⟩ := xpk (wc := W_holdsWith cI cJ cZ cG cH pl x62 v38 pna pta rails limit retry behind pt) hP hD hS hA [0, 1] (by decide +kernel) rfl
            refine va_calli (va_runV (As := [.int x62, .int v38]) (rest := []) ⟨hx, hb, hml, hown, hts⟩ (c_holdsWith l D cI cJ cZ cG cH H.size pl x62 v38 pna pta rails limit retry behind pt (xrng rfl (by omega) (by omega)) (xrng rfl (by omega) (by omega))) (cwV 2 hts (xGV tbC wd467 wd423 wd424 wd59 wd1013) rfl rfl rfl (by decide +kernel) ⟨Nat.le_of_ble_eq_true rfl, Nat.le_of_ble_eq_true rfl⟩) ⟨xPc_blind, va_recv hK hPc (ci := 2) (q0 := 0) rfl rfl, xPc_pre hPc hK hDc⟩ rfl rfl hl.1 rfl (lv_room (Nat.le_of_ble_eq_true rfl)) dX5_railsThatMay_48 ⟨Nat.le_of_ble_eq_true rfl, Nat.le_of_ble_eq_true rfl⟩) hS (fun q _ h => hFc q h) hFc (fun r66 u t H1 locs ht hvm hw66 hB hz1 hk1 hS => ?_)
            obtain ⟨hru9, hw66⟩ := hw66
            subst hru9
            obtain ⟨hf66_0, hP1, hK1, hD1⟩ := hB
            rw [ht] at hP1
            obtain ⟨hP, hD⟩ : xPD D A [oX5 rn hy rsa ria raa rta rga dead key tick held tries trips ldraw gdraw, oAI rsa cI 8 rs, oX3 pl pna pta rails limit retry behind, oAJ pta cJ 64 pt] H1 := xjn 2 hP hD [0, 1] [2, 3] hC9 rfl (by decide +kernel) (by decide +kernel) hk1 hFc hP1 hD1
            generalize H1 = H at hP hS ⊢
            have hf66_0 : M_holdsWith pt x62 v38 = (r66) := hf66_0
            have hw66 : 0 ≤ r66.toInt ∧ r66.toInt ≤ 1 := hw66
            have h9M := congrArg (fun t9 => (K_railsThatMay_16 t9 (K_railsThatMay_L13 rails pt v38 nhl64) x62 x63)) hf66_0
            have hM : M_railsThatMay held key rails pt rs = (K_railsThatMay_16 r66 (K_railsThatMay_L13 rails pt v38 nhl64) x62 x63) := (show M_railsThatMay held key rails pt rs = ((fun t9 => (K_railsThatMay_16 t9 (K_railsThatMay_L13 rails pt v38 nhl64) x62 x63)) (M_holdsWith pt x62 v38)) from hM).trans h9M
            refine lv_if_eq (tgt := 61) hx hb dX5_railsThatMay_51 (by decide) (fun c_67 => ?_) (fun c_67 => ?_)
            · skip
              have i_67 : r66.toInt = 0 := (ieq rfl (by decide)).mp c_67
              have hM : M_railsThatMay held key rails pt rs = (K_railsThatMay_17 (K_railsThatMay_L13 rails pt v38 nhl64) x62 x63) := (show M_railsThatMay held key rails pt rs = (if r66.toInt = 0 then (K_railsThatMay_17 (K_railsThatMay_L13 rails pt v38 nhl64) x62 x63) else (K_railsThatMay_18 (K_railsThatMay_L13 rails pt v38 nhl64) x62 x63)) from hM).trans (if_pos i_67)
              obtain ⟨x68, ex68⟩ : ∃ y : Int32, y = x62 + 1 := ⟨_, rfl⟩
              have tx68 : x68.toInt = (x62.toInt + 1) := (congrArg Int32.toInt ex68).trans (xadd rfl (by decide) (by omega) (by omega))
              refine lv_iinc (v := x68) (lv' := [(4, .int x68), (3, .int x63), (2, .int v38), (0, .ref rn), (1, .ref pl)]) hx hb dX5_railsThatMay_61 hl (k := 0) rfl (by rw [ex68]; rfl) (by decide) rfl (fun ls hl => ?_)
              refine lv_goto (tgt := 35) hx hb dX5_railsThatMay_64 (by decide) ?_
              obtain ⟨hP, hD⟩ := xsb (ws' := [oX3 pl pna pta rails limit retry behind, oAJ pta cJ 64 pt, oX5 rn hy rsa ria raa rta rga dead key tick held tries trips ldraw gdraw, oAI rsa cI 8 rs]) hP hD [2, 3, 0, 1] (by decide +kernel) rfl
              exact ihhl64 x68 x63 (by omega) (xrng tx68 (by omega) (by omega)) (xrng rfl (by omega) (by omega)) (by rw [ex68]; exact hM) _ _ hP hD hS ls (lv_sub hl [0, 1, 2, 3, 4] rfl)
            · skip
              have i_67 : ¬ (r66.toInt = 0) := fun h9 => c_67 ((ieq rfl (by decide)).mpr h9)
              have hM : M_railsThatMay held key rails pt rs = (K_railsThatMay_18 (K_railsThatMay_L13 rails pt v38 nhl64) x62 x63) := (show M_railsThatMay held key rails pt rs = (if r66.toInt = 0 then (K_railsThatMay_17 (K_railsThatMay_L13 rails pt v38 nhl64) x62 x63) else (K_railsThatMay_18 (K_railsThatMay_L13 rails pt v38 nhl64) x62 x63)) from hM).trans (if_neg i_67)
              refine lv_iload_n hx hb dX5_railsThatMay_54 rfl (lv_at hl 1 rfl) ?_
              refine lv_iconst (v := 1) hx hb dX5_railsThatMay_55 (by decide) ?_
              refine lv_iload hx hb dX5_railsThatMay_56 (lv_at hl 0 rfl) ?_
              refine lv_ishl hx hb dX5_railsThatMay_58 ?_
              refine lv_topi (fun v69 ev69 => ?_)
              have rv69 : 1 ≤ v69.toInt ∧ v69.toInt ≤ 128 := xshl1 7 ev69 (show (x62 : Int32).toInt = x62.toInt from rfl) (by omega) (by omega) (by decide)
              refine lv_ior hx hb dX5_railsThatMay_59 ?_
              refine lv_topi (fun v70 ev70 => ?_)
              have rv70 : 0 ≤ v70.toInt ∧ v70.toInt ≤ 255 := xorL 8 ev70 (show (x63 : Int32).toInt = x63.toInt from rfl) (show (v69 : Int32).toInt = v69.toInt from rfl) (by decide) (by decide) (by omega) (by omega) (by omega) (by omega)
              refine lv_istore_n (lv' := [(3, .int v70), (4, .int x62), (2, .int v38), (0, .ref rn), (1, .ref pl)]) hx hb dX5_railsThatMay_60 rfl hl (by decide) rfl (fun ls hl => ?_)
              obtain ⟨x71, ex71⟩ : ∃ y : Int32, y = x62 + 1 := ⟨_, rfl⟩
              have tx71 : x71.toInt = (x62.toInt + 1) := (congrArg Int32.toInt ex71).trans (xadd rfl (by decide) (by omega) (by omega))
              refine lv_iinc (v := x71) (lv' := [(4, .int x71), (3, .int v70), (2, .int v38), (0, .ref rn), (1, .ref pl)]) hx hb dX5_railsThatMay_61 hl (k := 1) rfl (by rw [ex71]; rfl) (by decide) rfl (fun ls hl => ?_)
              refine lv_goto (tgt := 35) hx hb dX5_railsThatMay_64 (by decide) ?_
              obtain ⟨hP, hD⟩ := xsb (ws' := [oX3 pl pna pta rails limit retry behind, oAJ pta cJ 64 pt, oX5 rn hy rsa ria raa rta rga dead key tick held tries trips ldraw gdraw, oAI rsa cI 8 rs]) hP hD [2, 3, 0, 1] (by decide +kernel) rfl
              exact ihhl64 x71 v70 (by omega) (xrng tx71 (by omega) (by omega)) (xrng rfl (by omega) (by omega)) (by rw [ex71, ev70, ev69]; exact hM) _ _ hP hD hS ls (lv_sub hl [0, 1, 2, 3, 4] rfl)
      exact hl64 100000 0 0 (by have z9_0 : (0 : Int32).toInt = 0 := (by decide); omega) ⟨by decide, by decide⟩ ⟨by decide, by decide⟩ (by rw [ev38]; exact hM) _ _ hP hD hS ls (lv_sub hl [0, 1, 2, 3, 4] rfl)
  · skip
    have i_1 : ¬ (held.toInt = 0) := fun h9 => c_1 ((ieq rfl (by decide)).mpr h9)
    have hM : M_railsThatMay held key rails pt rs = (K_railsThatMay_3) := (show M_railsThatMay held key rails pt rs = (if held.toInt = 0 then (K_railsThatMay_2 key rails pt rs) else (K_railsThatMay_3)) from hM).trans (if_neg i_1)
    refine lv_iconst (v := 0) hx hb dX5_railsThatMay_7 (by decide) ?_
    refine W.widen (k := 0) (n := 0) (by decide) (by decide) ?_
    exact W.iret (v := 0) hx hb hr (fun t ht hW => ⟨⟨0, 0, rfl, ⟨rfl, ⟨by decide, by decide⟩⟩, ⟨hM, xB_of9 ht hW hP hK hD [0, 1, 2, 3] (by decide +kernel) rfl⟩⟩, hS.F ht⟩) hS.2.2 dX5_railsThatMay_8
def K_nextState_28  : (Int32) := ((0 : Int32))
def K_nextState_29  : (Int32) := ((1 : Int32))
def K_nextState_26 (may : Int32) : (Int32) := (if may.toInt = 0 then (K_nextState_28) else (K_nextState_29))
def K_nextState_33  : (Int32) := ((0 : Int32))
def K_nextState_35  : (Int32) := ((1 : Int32))
def K_nextState_36  : (Int32) := ((2 : Int32))
def K_nextState_34 (v20 : Int32) (r21 : Int32) : (Int32) := (if v20.toInt < r21.toInt then (K_nextState_35) else (K_nextState_36))
def K_nextState_32 (ri : Nat → Int32) (r0 : Int32) (pn : Nat → Int32) : (Int32) := ((fun t9 => (K_nextState_34 (ri r0.toNatClampNeg) t9)) (M_number pn r0 (5 : Int32)))
def K_nextState_30 (may : Int32) (ri : Nat → Int32) (r0 : Int32) (pn : Nat → Int32) : (Int32) := (if may.toInt = 0 then (K_nextState_33) else (K_nextState_32 ri r0 pn))
def K_nextState_40  : (Int32) := ((4 : Int32))
def K_nextState_41  : (Int32) := ((2 : Int32))
def K_nextState_42  : (Int32) := ((3 : Int32))
def K_nextState_39 (ri : Nat → Int32) (r0 : Int32) (rt : Nat → Int32) : (Int32) := (if (ri r0.toNatClampNeg).toInt < (rt r0.toNatClampNeg).toInt then (K_nextState_41) else (K_nextState_42))
def K_nextState_37 (may : Int32) (ri : Nat → Int32) (r0 : Int32) (rt : Nat → Int32) : (Int32) := (if may.toInt = 0 then (K_nextState_40) else (K_nextState_39 ri r0 rt))
def K_nextState_45  : (Int32) := ((4 : Int32))
def K_nextState_46  : (Int32) := ((3 : Int32))
def K_nextState_43 (may : Int32) : (Int32) := (if may.toInt = 0 then (K_nextState_45) else (K_nextState_46))
def K_nextState_48  : (Int32) := ((4 : Int32))
def K_nextState_49  : (Int32) := ((0 : Int32))
def K_nextState_47 (v28 : Int32) (r29 : Int32) : (Int32) := (if v28.toInt < r29.toInt then (K_nextState_48) else (K_nextState_49))
def K_nextState_44 (ri : Nat → Int32) (r0 : Int32) (pn : Nat → Int32) : (Int32) := ((fun t9 => (K_nextState_47 (ri r0.toNatClampNeg) t9)) (M_number pn r0 (2 : Int32)))
def K_nextState_38 (v16 : Int32) (may : Int32) (ri : Nat → Int32) (r0 : Int32) (pn : Nat → Int32) : (Int32) := (if (v16 : Int32).toInt = 3 then (K_nextState_43 may) else (K_nextState_44 ri r0 pn))
def K_nextState_31 (v16 : Int32) (may : Int32) (ri : Nat → Int32) (r0 : Int32) (rt : Nat → Int32) (pn : Nat → Int32) : (Int32) := (if (v16 : Int32).toInt = 2 then (K_nextState_37 may ri r0 rt) else (K_nextState_38 v16 may ri r0 pn))
def K_nextState_27 (v16 : Int32) (may : Int32) (ri : Nat → Int32) (r0 : Int32) (pn : Nat → Int32) (rt : Nat → Int32) : (Int32) := (if (v16 : Int32).toInt = 1 then (K_nextState_30 may ri r0 pn) else (K_nextState_31 v16 may ri r0 rt pn))
def K_nextState_3 (rs : Nat → Int32) (r0 : Int32) (may : Int32) (ri : Nat → Int32) (pn : Nat → Int32) (rt : Nat → Int32) : (Int32) := (if ((rs r0.toNatClampNeg) : Int32).toInt = 0 then (K_nextState_26 may) else (K_nextState_27 (rs r0.toNatClampNeg) may ri r0 pn rt))
def K_nextState_6  : (Int32) := ((0 : Int32))
def K_nextState_7  : (Int32) := ((1 : Int32))
def K_nextState_4 (may : Int32) : (Int32) := (if may.toInt = 0 then (K_nextState_6) else (K_nextState_7))
def K_nextState_11  : (Int32) := ((0 : Int32))
def K_nextState_13  : (Int32) := ((1 : Int32))
def K_nextState_14  : (Int32) := ((2 : Int32))
def K_nextState_12 (v8 : Int32) (r9 : Int32) : (Int32) := (if v8.toInt < r9.toInt then (K_nextState_13) else (K_nextState_14))
def K_nextState_10 (ri : Nat → Int32) (r0 : Int32) (pn : Nat → Int32) : (Int32) := ((fun t9 => (K_nextState_12 (ri r0.toNatClampNeg) t9)) (M_number pn r0 (5 : Int32)))
def K_nextState_8 (may : Int32) (ri : Nat → Int32) (r0 : Int32) (pn : Nat → Int32) : (Int32) := (if may.toInt = 0 then (K_nextState_11) else (K_nextState_10 ri r0 pn))
def K_nextState_18  : (Int32) := ((4 : Int32))
def K_nextState_17  : (Int32) := ((2 : Int32))
def K_nextState_15 (may : Int32) : (Int32) := (if may.toInt = 0 then (K_nextState_18) else (K_nextState_17))
def K_nextState_21  : (Int32) := ((4 : Int32))
def K_nextState_22  : (Int32) := ((4 : Int32))
def K_nextState_19 (may : Int32) : (Int32) := (if may.toInt = 0 then (K_nextState_21) else (K_nextState_22))
def K_nextState_24  : (Int32) := ((4 : Int32))
def K_nextState_25  : (Int32) := ((0 : Int32))
def K_nextState_23 (v13 : Int32) (r14 : Int32) : (Int32) := (if v13.toInt < r14.toInt then (K_nextState_24) else (K_nextState_25))
def K_nextState_20 (ri : Nat → Int32) (r0 : Int32) (pn : Nat → Int32) : (Int32) := ((fun t9 => (K_nextState_23 (ri r0.toNatClampNeg) t9)) (M_number pn r0 (2 : Int32)))
def K_nextState_16 (v4 : Int32) (may : Int32) (ri : Nat → Int32) (r0 : Int32) (pn : Nat → Int32) : (Int32) := (if (v4 : Int32).toInt = 3 then (K_nextState_19 may) else (K_nextState_20 ri r0 pn))
def K_nextState_9 (v4 : Int32) (may : Int32) (ri : Nat → Int32) (r0 : Int32) (pn : Nat → Int32) : (Int32) := (if (v4 : Int32).toInt = 2 then (K_nextState_15 may) else (K_nextState_16 v4 may ri r0 pn))
def K_nextState_5 (v4 : Int32) (may : Int32) (ri : Nat → Int32) (r0 : Int32) (pn : Nat → Int32) : (Int32) := (if (v4 : Int32).toInt = 1 then (K_nextState_8 may ri r0 pn) else (K_nextState_9 v4 may ri r0 pn))
def K_nextState_2 (rs : Nat → Int32) (r0 : Int32) (may : Int32) (ri : Nat → Int32) (pn : Nat → Int32) : (Int32) := (if ((rs r0.toNatClampNeg) : Int32).toInt = 0 then (K_nextState_4 may) else (K_nextState_5 (rs r0.toNatClampNeg) may ri r0 pn))
def K_nextState_1 (dead : Int32) (r0 : Int32) (rs : Nat → Int32) (may : Int32) (ri : Nat → Int32) (pn : Nat → Int32) (rt : Nat → Int32) : (Int32) := (if ((dead >>> (r0 &&& 31)) &&& (1 : Int32)).toInt = 0 then (K_nextState_3 rs r0 may ri pn rt) else (K_nextState_2 rs r0 may ri pn))
def M_nextState (dead : Int32) (r0 : Int32) (rs : Nat → Int32) (may : Int32) (ri : Nat → Int32) (pn : Nat → Int32) (rt : Nat → Int32) : (Int32) := (K_nextState_1 dead r0 rs may ri pn rt)
abbrev W_nextState (cI cJ cZ cG cH : ClassId) (rn : Nat) (pl : Nat) (r0 : Int32) (may : Int32) (hy : Nat) (rsa : Nat) (ria : Nat) (raa : Nat) (rta : Nat) (rga : Nat) (dead : Int32) (key : Int32) (tick : Int32) (held : Int32) (tries : Int32) (trips : Int32) (ldraw : Int32) (gdraw : Int32) (rs : Nat → Int32) (ri : Nat → Int32) (rt : Nat → Int32) (pna : Nat) (pta : Nat) (rails : Int32) (limit : Int32) (retry : Int32) (behind : Int32) (pn : Nat → Int32) : va_W := [oX5 rn hy rsa ria raa rta rga dead key tick held tries trips ldraw gdraw, oAI rsa cI 8 rs, oAI ria cI 8 ri, oAI rta cI 8 rt, oX3 pl pna pta rails limit retry behind, oAI pna cI 64 pn]
abbrev Q_nextState (D : va_G) (cI cJ cZ cG cH : ClassId) (rn : Nat) (pl : Nat) (r0 : Int32) (may : Int32) (hy : Nat) (rsa : Nat) (ria : Nat) (raa : Nat) (rta : Nat) (rga : Nat) (dead : Int32) (key : Int32) (tick : Int32) (held : Int32) (tries : Int32) (trips : Int32) (ldraw : Int32) (gdraw : Int32) (rs : Nat → Int32) (ri : Nat → Int32) (rt : Nat → Int32) (pna : Nat) (pta : Nat) (rails : Int32) (limit : Int32) (retry : Int32) (behind : Int32) (pn : Nat → Int32) (A : Nat → Prop) : Array Value → State → Outcome → State → Prop := va_Qi (fun (r : Int32) (u9 : Int32) => r = u9 ∧ (0 ≤ r.toInt ∧ r.toInt ≤ 4)) (fun u9 t => (M_nextState dead r0 rs may ri pn rt = (u9)) ∧ xB D (tyL cI cJ cZ cG cH) [oX5 rn hy rsa ria raa rta rga dead key tick held tries trips ldraw gdraw, oAI rsa cI 8 rs, oAI ria cI 8 ri, oAI rta cI 8 rt, oX3 pl pna pta rails limit retry behind, oAI pna cI 64 pn] A t) A
abbrev rm_nextState : Room := { frames := 1, cells := 0, slots := 0, locals := 22 }
set_option maxRecDepth 100000 in
set_option maxHeartbeats 40000000 in
theorem c_nextState (l : Launch) (D : va_G) (cI cJ cZ cG cH : ClassId) (sz : Nat) (rn : Nat) (pl : Nat) (r0 : Int32) (may : Int32) (hy : Nat) (rsa : Nat) (ria : Nat) (raa : Nat) (rta : Nat) (rga : Nat) (dead : Int32) (key : Int32) (tick : Int32) (held : Int32) (tries : Int32) (trips : Int32) (ldraw : Int32) (gdraw : Int32) (rs : Nat → Int32) (ri : Nat → Int32) (rt : Nat → Int32) (pna : Nat) (pta : Nat) (rails : Int32) (limit : Int32) (retry : Int32) (behind : Int32) (pn : Nat → Int32) (h_r0 : 0 ≤ r0.toInt ∧ r0.toInt ≤ 7) (h_key : 0 ≤ key.toInt ∧ key.toInt ≤ 1) (h_rt : ∀ j, j < 8 → 0 ≤ (rt j).toInt ∧ (rt j).toInt ≤ 511) (h_rails : 0 ≤ rails.toInt ∧ rails.toInt ≤ 8) (h_pn : ∀ j, j < 64 → 0 ≤ (pn j).toInt ∧ (pn j).toInt ≤ 511) : Met l yX5_nextState (wt yX5_nextState cX5_nextState 5 (some .int)) rm_nextState (xPc [.ref rn, .ref pl, .int r0, .int may] D (tyL cI cJ cZ cG cH) (W_nextState cI cJ cZ cG cH rn pl r0 may hy rsa ria raa rta rga dead key tick held tries trips ldraw gdraw rs ri rt pna pta rails limit retry behind pn) sz) (Q_nextState D cI cJ cZ cG cH rn pl r0 may hy rsa ria raa rta rga dead key tick held tries trips ldraw gdraw rs ri rt pna pta rails limit retry behind pn (va_A (W_nextState cI cJ cZ cG cH rn pl r0 may hy rsa ria raa rta rga dead key tick held tries trips ldraw gdraw rs ri rt pna pta rails limit retry behind pn) sz)) 0 0 (va_A (W_nextState cI cJ cZ cG cH rn pl r0 may hy rsa ria raa rta rga dead key tick held tries trips ldraw gdraw rs ri rt pna pta rails limit retry behind pn) sz) := by
  refine xMet (cc := cX5_nextState) (maxL := 5) (ret := (some .int)) (Qf := Q_nextState D cI cJ cZ cG cH rn pl r0 may hy rsa ria raa rta rga dead key tick held tries trips ldraw gdraw rs ri rt pna pta rails limit retry behind pn) (by decide) rfl (Nat.le_of_ble_eq_true rfl) ?_
  intro p e s m below meth c ls A hx hb hr hml hts hown hlocks hnm hsz hP hK hD hA hS hl
  have hown : s.vm.findClass RX5 = some m.cls := hown
  have hP : va_P D vwCl [oX5 rn hy rsa ria raa rta rga dead key tick held tries trips ldraw gdraw, oAI rsa cI 8 rs, oAI ria cI 8 ri, oAI rta cI 8 rt, oX3 pl pna pta rails limit retry behind, oAI pna cI 64 pn] s.heap := hP
  have hD : va_D A [oX5 rn hy rsa ria raa rta rga dead key tick held tries trips ldraw gdraw, oAI rsa cI 8 rs, oAI ria cI 8 ri, oAI rta cI 8 rt, oX3 pl pna pta rails limit retry behind, oAI pna cI 64 pn] := hD
  have hl : lv_has ls 5 [(0, .ref rn), (1, .ref pl), (2, .int r0), (3, .int may)] := hl
  have hM : M_nextState dead r0 rs may ri pn rt = (K_nextState_1 dead r0 rs may ri pn rt) := rfl
  refine lv_aload_n hx hb dX5_nextState_0 rfl (lv_at hl 0 rfl) ?_
  refine va_get (D := D) (ci := 4) (v := .int dead) (C := RX5) (T := TX5) (N := 14) hx hb hts (fun w h => tbC w (tbfX5 w h)) hown hK hP 0 rfl rfl 6 (by decide) (hts (.fieldLink RX5 34 "PowerRails$Run" "dead" "I") (tbC _ wd117)) (fun _ h9 => h9) rfl dX5_nextState_1 ?_
  refine lv_iload_n hx hb dX5_nextState_4 rfl (lv_at hl 2 rfl) ?_
  refine lv_ishr hx hb dX5_nextState_5 ?_
  refine lv_topi (fun v1 ev1 => ?_)
  refine lv_iconst (v := 1) hx hb dX5_nextState_6 (by decide) ?_
  refine lv_iand hx hb dX5_nextState_7 ?_
  refine lv_topi (fun v2 ev2 => ?_)
  have rv2 : 0 ≤ v2.toInt ∧ v2.toInt ≤ 1 := xandL ev2 (show (1 : Int32).toInt = 1 from (by decide)) (by omega)
  refine lv_if_ne (tgt := 15) hx hb dX5_nextState_8 (by decide) (fun c_3 => ?_) (fun c_3 => ?_)
  · skip
    have i_3 : ¬ (v2.toInt = 0) := fun h9 => c_3 ((ieq rfl (by decide)).mpr h9)
    have hM : M_nextState dead r0 rs may ri pn rt = (K_nextState_2 rs r0 may ri pn) := (show M_nextState dead r0 rs may ri pn rt = (if v2.toInt = 0 then (K_nextState_3 rs r0 may ri pn rt) else (K_nextState_2 rs r0 may ri pn)) from (by rw [ev2, ev1]; exact hM)).trans (if_neg i_3)
    refine lv_iconst (v := 0) hx hb dX5_nextState_15 (by decide) ?_
    refine lv_istore (lv' := [(4, .int 0), (0, .ref rn), (1, .ref pl), (2, .int r0), (3, .int may)]) hx hb dX5_nextState_16 hl (by decide) rfl (fun ls hl => ?_)
    refine lv_aload_n hx hb dX5_nextState_18 rfl (lv_at hl 1 rfl) ?_
    refine va_get (D := D) (ci := 4) (v := .ref rsa) (C := RX5) (T := TX5) (N := 14) hx hb hts (fun w h => tbC w (tbfX5 w h)) hown hK hP 0 rfl rfl 1 (by decide) (hts (.fieldLink RX5 18 "PowerRails$Run" "states" "[I") (tbC _ wd108)) (fun _ h9 => h9) rfl dX5_nextState_19 ?_
    refine lv_iload_n hx hb dX5_nextState_22 rfl (lv_at hl 3 rfl) ?_
    refine va_iald hx hb hK hP 1 0 rfl rfl (vp_in_iff.mpr ⟨by omega, by omega⟩) dX5_nextState_23 ?_
    refine lv_topi (fun v4 ev4 => ?_)
    have i_5_e : (v4 : Int32).toInt = v4.toInt := rfl
    by_cases i_5_0 : (v4 : Int32).toInt = 0
    · skip
      have hM : M_nextState dead r0 rs may ri pn rt = (K_nextState_4 may) := (show M_nextState dead r0 rs may ri pn rt = (if (v4 : Int32).toInt = 0 then (K_nextState_4 may) else (K_nextState_5 v4 may ri r0 pn)) from (by rw [ev4]; exact hM)).trans (if_pos i_5_0)
      refine lv_tableIn (off := 32) (tgt := 56) hx hb dX5_nextState_24 (by omega) (by omega) (by rw [i_5_0]; rfl) (by decide) ?_
      refine lv_iload_n hx hb dX5_nextState_56 rfl (lv_at hl 4 rfl) ?_
      refine lv_if_eq (tgt := 64) hx hb dX5_nextState_57 (by decide) (fun c_6 => ?_) (fun c_6 => ?_)
      · skip
        have i_6 : may.toInt = 0 := (ieq rfl (by decide)).mp c_6
        have hM : M_nextState dead r0 rs may ri pn rt = (K_nextState_6) := (show M_nextState dead r0 rs may ri pn rt = (if may.toInt = 0 then (K_nextState_6) else (K_nextState_7)) from hM).trans (if_pos i_6)
        refine lv_iconst (v := 0) hx hb dX5_nextState_64 (by decide) ?_
        refine W.widen (k := 0) (n := 0) (by decide) (by decide) ?_
        exact W.iret (v := 0) hx hb hr (fun t ht hW => ⟨⟨0, 0, rfl, ⟨rfl, ⟨by decide, by decide⟩⟩, ⟨hM, xB_of9 ht hW hP hK hD [0, 1, 2, 3, 4, 5] (by decide +kernel) rfl⟩⟩, hS.F ht⟩) hS.2.2 dX5_nextState_65
      · skip
        have i_6 : ¬ (may.toInt = 0) := fun h9 => c_6 ((ieq rfl (by decide)).mpr h9)
        have hM : M_nextState dead r0 rs may ri pn rt = (K_nextState_7) := (show M_nextState dead r0 rs may ri pn rt = (if may.toInt = 0 then (K_nextState_6) else (K_nextState_7)) from hM).trans (if_neg i_6)
        refine lv_iconst (v := 1) hx hb dX5_nextState_60 (by decide) ?_
        refine lv_goto (tgt := 65) hx hb dX5_nextState_61 (by decide) ?_
        refine W.widen (k := 0) (n := 0) (by decide) (by decide) ?_
        exact W.iret (v := 1) hx hb hr (fun t ht hW => ⟨⟨1, 1, rfl, ⟨rfl, ⟨by decide, by decide⟩⟩, ⟨hM, xB_of9 ht hW hP hK hD [0, 1, 2, 3, 4, 5] (by decide +kernel) rfl⟩⟩, hS.F ht⟩) hS.2.2 dX5_nextState_65
    have hM : M_nextState dead r0 rs may ri pn rt = (K_nextState_5 v4 may ri r0 pn) := (show M_nextState dead r0 rs may ri pn rt = (if (v4 : Int32).toInt = 0 then (K_nextState_4 may) else (K_nextState_5 v4 may ri r0 pn)) from (by rw [ev4]; exact hM)).trans (if_neg i_5_0)
    by_cases i_5_1 : (v4 : Int32).toInt = 1
    · skip
      have hM : M_nextState dead r0 rs may ri pn rt = (K_nextState_8 may ri r0 pn) := (show M_nextState dead r0 rs may ri pn rt = (if (v4 : Int32).toInt = 1 then (K_nextState_8 may ri r0 pn) else (K_nextState_9 v4 may ri r0 pn)) from hM).trans (if_pos i_5_1)
      refine lv_tableIn (off := 42) (tgt := 66) hx hb dX5_nextState_24 (by omega) (by omega) (by rw [i_5_1]; rfl) (by decide) ?_
      refine lv_iload_n hx hb dX5_nextState_66 rfl (lv_at hl 4 rfl) ?_
      refine lv_if_ne (tgt := 72) hx hb dX5_nextState_67 (by decide) (fun c_7 => ?_) (fun c_7 => ?_)
      · skip
        have i_7 : ¬ (may.toInt = 0) := fun h9 => c_7 ((ieq rfl (by decide)).mpr h9)
        have hM : M_nextState dead r0 rs may ri pn rt = (K_nextState_10 ri r0 pn) := (show M_nextState dead r0 rs may ri pn rt = (if may.toInt = 0 then (K_nextState_11) else (K_nextState_10 ri r0 pn)) from hM).trans (if_neg i_7)
        refine lv_aload_n hx hb dX5_nextState_72 rfl (lv_at hl 1 rfl) ?_
        refine va_get (D := D) (ci := 4) (v := .ref ria) (C := RX5) (T := TX5) (N := 14) hx hb hts (fun w h => tbC w (tbfX5 w h)) hown hK hP 0 rfl rfl 2 (by decide) (hts (.fieldLink RX5 22 "PowerRails$Run" "since" "[I") (tbC _ wd110)) (fun _ h9 => h9) rfl dX5_nextState_73 ?_
        refine lv_iload_n hx hb dX5_nextState_76 rfl (lv_at hl 3 rfl) ?_
        refine va_iald hx hb hK hP 2 0 rfl rfl (vp_in_iff.mpr ⟨by omega, by omega⟩) dX5_nextState_77 ?_
        refine lv_topi (fun v8 ev8 => ?_)
        refine lv_aload_n hx hb dX5_nextState_78 rfl (lv_at hl 2 rfl) ?_
        refine lv_iload_n hx hb dX5_nextState_79 rfl (lv_at hl 3 rfl) ?_
        refine lv_iconst (v := 5) hx hb dX5_nextState_80 (by decide) ?_
        obtain ⟨hPc, hDc, hFc, hC9⟩ := xpk (wc := W_number cI cJ cZ cG cH pl r0 (5 : Int32) pna pta rails limit retry behind pn) hP hD hS hA [4, 5] (by decide +kernel) rfl
        refine va_calli (va_runV (As := [.int r0, .int 5]) (rest := [.int v8]) ⟨hx, hb, hml, hown, hts⟩ (c_number l D cI cJ cZ cG cH s.heap.size pl r0 (5 : Int32) pna pta rails limit retry behind pn (xrng rfl (by omega) (by omega)) ⟨by decide, by decide⟩ (xrng rfl (by omega) (by omega)) (xwk_rng h_pn (by decide) (by decide))) (cwV 2 hts (xGV tbC wd397 wd368 wd369 wd59 wd996) rfl rfl rfl (by decide +kernel) ⟨Nat.le_of_ble_eq_true rfl, Nat.le_of_ble_eq_true rfl⟩) ⟨xPc_blind, va_recv hK hPc (ci := 2) (q0 := 0) rfl rfl, xPc_pre hPc hK hDc⟩ rfl rfl hl.1 rfl (lv_room (Nat.le_of_ble_eq_true rfl)) dX5_nextState_81 ⟨Nat.le_of_ble_eq_true rfl, Nat.le_of_ble_eq_true rfl⟩) hS (fun q _ h => hFc q h) hFc (fun r9 u t H1 locs ht hvm hw9 hB hz1 hk1 hS => ?_)
        obtain ⟨hru9, hw9⟩ := hw9
        subst hru9
        obtain ⟨hf9_0, hP1, hK1, hD1⟩ := hB
        rw [ht] at hP1
        obtain ⟨hP, hD⟩ : xPD D A [oX5 rn hy rsa ria raa rta rga dead key tick held tries trips ldraw gdraw, oAI rsa cI 8 rs, oAI ria cI 8 ri, oAI rta cI 8 rt, oX3 pl pna pta rails limit retry behind, oAI pna cI 64 pn] H1 := xjn 4 hP hD [4, 5] [0, 1, 2, 3] hC9 rfl (by decide +kernel) (by decide +kernel) hk1 hFc hP1 hD1
        generalize H1 = H at hP hS ⊢
        have hf9_0 : M_number pn r0 (5 : Int32) = (r9) := hf9_0
        have hw9 : 0 ≤ r9.toInt ∧ r9.toInt ≤ 511 := hw9
        have h9M := congrArg (fun t9 => (K_nextState_12 v8 t9)) hf9_0
        have hM : M_nextState dead r0 rs may ri pn rt = (K_nextState_12 v8 r9) := (show M_nextState dead r0 rs may ri pn rt = ((fun t9 => (K_nextState_12 v8 t9)) (M_number pn r0 (5 : Int32))) from (by rw [ev8]; exact hM)).trans h9M
        refine lv_icmp_lt (tgt := 91) hx hb dX5_nextState_84 (by decide) (fun c_10 => ?_) (fun c_10 => ?_)
        · skip
          have i_10 : v8.toInt < r9.toInt := (ilt rfl rfl).mp c_10
          have hM : M_nextState dead r0 rs may ri pn rt = (K_nextState_13) := (show M_nextState dead r0 rs may ri pn rt = (if v8.toInt < r9.toInt then (K_nextState_13) else (K_nextState_14)) from hM).trans (if_pos i_10)
          refine lv_iconst (v := 1) hx hb dX5_nextState_91 (by decide) ?_
          refine W.widen (k := 0) (n := 0) (by decide) (by decide) ?_
          exact W.iret (v := 1) hx hb hr (fun t ht hW => ⟨⟨1, 1, rfl, ⟨rfl, ⟨by decide, by decide⟩⟩, ⟨hM, xB_of9 ht hW hP hK hD [0, 1, 2, 3, 4, 5] (by decide +kernel) rfl⟩⟩, hS.F ht⟩) hS.2.2 dX5_nextState_92
        · skip
          have i_10 : ¬ (v8.toInt < r9.toInt) := fun h9 => c_10 ((ilt rfl rfl).mpr h9)
          have hM : M_nextState dead r0 rs may ri pn rt = (K_nextState_14) := (show M_nextState dead r0 rs may ri pn rt = (if v8.toInt < r9.toInt then (K_nextState_13) else (K_nextState_14)) from hM).trans (if_neg i_10)
          refine lv_iconst (v := 2) hx hb dX5_nextState_87 (by decide) ?_
          refine lv_goto (tgt := 92) hx hb dX5_nextState_88 (by decide) ?_
          refine W.widen (k := 0) (n := 0) (by decide) (by decide) ?_
          exact W.iret (v := 2) hx hb hr (fun t ht hW => ⟨⟨2, 2, rfl, ⟨rfl, ⟨by decide, by decide⟩⟩, ⟨hM, xB_of9 ht hW hP hK hD [0, 1, 2, 3, 4, 5] (by decide +kernel) rfl⟩⟩, hS.F ht⟩) hS.2.2 dX5_nextState_92
      · skip
        have i_7 : may.toInt = 0 := (ieq rfl (by decide)).mp c_7
        have hM : M_nextState dead r0 rs may ri pn rt = (K_nextState_11) := (show M_nextState dead r0 rs may ri pn rt = (if may.toInt = 0 then (K_nextState_11) else (K_nextState_10 ri r0 pn)) from hM).trans (if_pos i_7)
        refine lv_iconst (v := 0) hx hb dX5_nextState_70 (by decide) ?_
        refine W.widen (k := 0) (n := 0) (by decide) (by decide) ?_
        exact W.iret (v := 0) hx hb hr (fun t ht hW => ⟨⟨0, 0, rfl, ⟨rfl, ⟨by decide, by decide⟩⟩, ⟨hM, xB_of9 ht hW hP hK hD [0, 1, 2, 3, 4, 5] (by decide +kernel) rfl⟩⟩, hS.F ht⟩) hS.2.2 dX5_nextState_71
    have hM : M_nextState dead r0 rs may ri pn rt = (K_nextState_9 v4 may ri r0 pn) := (show M_nextState dead r0 rs may ri pn rt = (if (v4 : Int32).toInt = 1 then (K_nextState_8 may ri r0 pn) else (K_nextState_9 v4 may ri r0 pn)) from hM).trans (if_neg i_5_1)
    by_cases i_5_2 : (v4 : Int32).toInt = 2
    · skip
      have hM : M_nextState dead r0 rs may ri pn rt = (K_nextState_15 may) := (show M_nextState dead r0 rs may ri pn rt = (if (v4 : Int32).toInt = 2 then (K_nextState_15 may) else (K_nextState_16 v4 may ri r0 pn)) from hM).trans (if_pos i_5_2)
      refine lv_tableIn (off := 69) (tgt := 93) hx hb dX5_nextState_24 (by omega) (by omega) (by rw [i_5_2]; rfl) (by decide) ?_
      refine lv_iload_n hx hb dX5_nextState_93 rfl (lv_at hl 4 rfl) ?_
      refine lv_if_ne (tgt := 99) hx hb dX5_nextState_94 (by decide) (fun c_11 => ?_) (fun c_11 => ?_)
      · skip
        have i_11 : ¬ (may.toInt = 0) := fun h9 => c_11 ((ieq rfl (by decide)).mpr h9)
        have hM : M_nextState dead r0 rs may ri pn rt = (K_nextState_17) := (show M_nextState dead r0 rs may ri pn rt = (if may.toInt = 0 then (K_nextState_18) else (K_nextState_17)) from hM).trans (if_neg i_11)
        refine lv_iload hx hb dX5_nextState_99 (lv_at hl 0 rfl) ?_
        refine lv_if_eq (tgt := 123) hx hb dX5_nextState_101 (by decide) (fun _ => ?_) (fun c9 => absurd c9 (by decide))
        refine lv_iconst (v := 2) hx hb dX5_nextState_123 (by decide) ?_
        refine W.widen (k := 0) (n := 0) (by decide) (by decide) ?_
        exact W.iret (v := 2) hx hb hr (fun t ht hW => ⟨⟨2, 2, rfl, ⟨rfl, ⟨by decide, by decide⟩⟩, ⟨hM, xB_of9 ht hW hP hK hD [0, 1, 2, 3, 4, 5] (by decide +kernel) rfl⟩⟩, hS.F ht⟩) hS.2.2 dX5_nextState_124
      · skip
        have i_11 : may.toInt = 0 := (ieq rfl (by decide)).mp c_11
        have hM : M_nextState dead r0 rs may ri pn rt = (K_nextState_18) := (show M_nextState dead r0 rs may ri pn rt = (if may.toInt = 0 then (K_nextState_18) else (K_nextState_17)) from hM).trans (if_pos i_11)
        refine lv_iconst (v := 4) hx hb dX5_nextState_97 (by decide) ?_
        refine W.widen (k := 0) (n := 0) (by decide) (by decide) ?_
        exact W.iret (v := 4) hx hb hr (fun t ht hW => ⟨⟨4, 4, rfl, ⟨rfl, ⟨by decide, by decide⟩⟩, ⟨hM, xB_of9 ht hW hP hK hD [0, 1, 2, 3, 4, 5] (by decide +kernel) rfl⟩⟩, hS.F ht⟩) hS.2.2 dX5_nextState_98
    have hM : M_nextState dead r0 rs may ri pn rt = (K_nextState_16 v4 may ri r0 pn) := (show M_nextState dead r0 rs may ri pn rt = (if (v4 : Int32).toInt = 2 then (K_nextState_15 may) else (K_nextState_16 v4 may ri r0 pn)) from hM).trans (if_neg i_5_2)
    by_cases i_5_3 : (v4 : Int32).toInt = 3
    · skip
      have hM : M_nextState dead r0 rs may ri pn rt = (K_nextState_19 may) := (show M_nextState dead r0 rs may ri pn rt = (if (v4 : Int32).toInt = 3 then (K_nextState_19 may) else (K_nextState_20 ri r0 pn)) from hM).trans (if_pos i_5_3)
      refine lv_tableIn (off := 101) (tgt := 125) hx hb dX5_nextState_24 (by omega) (by omega) (by rw [i_5_3]; rfl) (by decide) ?_
      refine lv_iload_n hx hb dX5_nextState_125 rfl (lv_at hl 4 rfl) ?_
      refine lv_if_eq (tgt := 138) hx hb dX5_nextState_126 (by decide) (fun c_12 => ?_) (fun c_12 => ?_)
      · skip
        have i_12 : may.toInt = 0 := (ieq rfl (by decide)).mp c_12
        have hM : M_nextState dead r0 rs may ri pn rt = (K_nextState_21) := (show M_nextState dead r0 rs may ri pn rt = (if may.toInt = 0 then (K_nextState_21) else (K_nextState_22)) from hM).trans (if_pos i_12)
        refine lv_iconst (v := 4) hx hb dX5_nextState_138 (by decide) ?_
        refine W.widen (k := 0) (n := 0) (by decide) (by decide) ?_
        exact W.iret (v := 4) hx hb hr (fun t ht hW => ⟨⟨4, 4, rfl, ⟨rfl, ⟨by decide, by decide⟩⟩, ⟨hM, xB_of9 ht hW hP hK hD [0, 1, 2, 3, 4, 5] (by decide +kernel) rfl⟩⟩, hS.F ht⟩) hS.2.2 dX5_nextState_139
      · skip
        have i_12 : ¬ (may.toInt = 0) := fun h9 => c_12 ((ieq rfl (by decide)).mpr h9)
        have hM : M_nextState dead r0 rs may ri pn rt = (K_nextState_22) := (show M_nextState dead r0 rs may ri pn rt = (if may.toInt = 0 then (K_nextState_21) else (K_nextState_22)) from hM).trans (if_neg i_12)
        refine lv_iload hx hb dX5_nextState_129 (lv_at hl 0 rfl) ?_
        refine lv_if_eq (tgt := 138) hx hb dX5_nextState_131 (by decide) (fun _ => ?_) (fun c9 => absurd c9 (by decide))
        refine lv_iconst (v := 4) hx hb dX5_nextState_138 (by decide) ?_
        refine W.widen (k := 0) (n := 0) (by decide) (by decide) ?_
        exact W.iret (v := 4) hx hb hr (fun t ht hW => ⟨⟨4, 4, rfl, ⟨rfl, ⟨by decide, by decide⟩⟩, ⟨hM, xB_of9 ht hW hP hK hD [0, 1, 2, 3, 4, 5] (by decide +kernel) rfl⟩⟩, hS.F ht⟩) hS.2.2 dX5_nextState_139
    have hM : M_nextState dead r0 rs may ri pn rt = (K_nextState_20 ri r0 pn) := (show M_nextState dead r0 rs may ri pn rt = (if (v4 : Int32).toInt = 3 then (K_nextState_19 may) else (K_nextState_20 ri r0 pn)) from hM).trans (if_neg i_5_3)
    refine lv_tableOut (tgt := 140) hx hb dX5_nextState_24 (by omega) (by decide) ?_
    refine lv_aload_n hx hb dX5_nextState_140 rfl (lv_at hl 1 rfl) ?_
    refine va_get (D := D) (ci := 4) (v := .ref ria) (C := RX5) (T := TX5) (N := 14) hx hb hts (fun w h => tbC w (tbfX5 w h)) hown hK hP 0 rfl rfl 2 (by decide) (hts (.fieldLink RX5 22 "PowerRails$Run" "since" "[I") (tbC _ wd110)) (fun _ h9 => h9) rfl dX5_nextState_141 ?_
    refine lv_iload_n hx hb dX5_nextState_144 rfl (lv_at hl 3 rfl) ?_
    refine va_iald hx hb hK hP 2 0 rfl rfl (vp_in_iff.mpr ⟨by omega, by omega⟩) dX5_nextState_145 ?_
    refine lv_topi (fun v13 ev13 => ?_)
    refine lv_aload_n hx hb dX5_nextState_146 rfl (lv_at hl 2 rfl) ?_
    refine lv_iload_n hx hb dX5_nextState_147 rfl (lv_at hl 3 rfl) ?_
    refine lv_iconst (v := 2) hx hb dX5_nextState_148 (by decide) ?_
    obtain ⟨hPc, hDc, hFc, hC9⟩ := xpk (wc := W_number cI cJ cZ cG cH pl r0 (2 : Int32) pna pta rails limit retry behind pn) hP hD hS hA [4, 5] (by decide +kernel) rfl
    refine va_calli (va_runV (As := [.int r0, .int 2]) (rest := [.int v13]) ⟨hx, hb, hml, hown, hts⟩ (c_number l D cI cJ cZ cG cH s.heap.size pl r0 (2 : Int32) pna pta rails limit retry behind pn (xrng rfl (by omega) (by omega)) ⟨by decide, by decide⟩ (xrng rfl (by omega) (by omega)) (xwk_rng h_pn (by decide) (by decide))) (cwV 2 hts (xGV tbC wd397 wd368 wd369 wd59 wd996) rfl rfl rfl (by decide +kernel) ⟨Nat.le_of_ble_eq_true rfl, Nat.le_of_ble_eq_true rfl⟩) ⟨xPc_blind, va_recv hK hPc (ci := 2) (q0 := 0) rfl rfl, xPc_pre hPc hK hDc⟩ rfl rfl hl.1 rfl (lv_room (Nat.le_of_ble_eq_true rfl)) dX5_nextState_149 ⟨Nat.le_of_ble_eq_true rfl, Nat.le_of_ble_eq_true rfl⟩) hS (fun q _ h => hFc q h) hFc (fun r14 u t H1 locs ht hvm hw14 hB hz1 hk1 hS => ?_)
    obtain ⟨hru9, hw14⟩ := hw14
    subst hru9
    obtain ⟨hf14_0, hP1, hK1, hD1⟩ := hB
    rw [ht] at hP1
    obtain ⟨hP, hD⟩ : xPD D A [oX5 rn hy rsa ria raa rta rga dead key tick held tries trips ldraw gdraw, oAI rsa cI 8 rs, oAI ria cI 8 ri, oAI rta cI 8 rt, oX3 pl pna pta rails limit retry behind, oAI pna cI 64 pn] H1 := xjn 4 hP hD [4, 5] [0, 1, 2, 3] hC9 rfl (by decide +kernel) (by decide +kernel) hk1 hFc hP1 hD1
    generalize H1 = H at hP hS ⊢
    have hf14_0 : M_number pn r0 (2 : Int32) = (r14) := hf14_0
    have hw14 : 0 ≤ r14.toInt ∧ r14.toInt ≤ 511 := hw14
    have h9M := congrArg (fun t9 => (K_nextState_23 v13 t9)) hf14_0
    have hM : M_nextState dead r0 rs may ri pn rt = (K_nextState_23 v13 r14) := (show M_nextState dead r0 rs may ri pn rt = ((fun t9 => (K_nextState_23 v13 t9)) (M_number pn r0 (2 : Int32))) from (by rw [ev13]; exact hM)).trans h9M
    refine lv_icmp_lt (tgt := 159) hx hb dX5_nextState_152 (by decide) (fun c_15 => ?_) (fun c_15 => ?_)
    · skip
      have i_15 : v13.toInt < r14.toInt := (ilt rfl rfl).mp c_15
      have hM : M_nextState dead r0 rs may ri pn rt = (K_nextState_24) := (show M_nextState dead r0 rs may ri pn rt = (if v13.toInt < r14.toInt then (K_nextState_24) else (K_nextState_25)) from hM).trans (if_pos i_15)
      refine lv_iconst (v := 4) hx hb dX5_nextState_159 (by decide) ?_
      refine W.widen (k := 0) (n := 0) (by decide) (by decide) ?_
      exact W.iret (v := 4) hx hb hr (fun t ht hW => ⟨⟨4, 4, rfl, ⟨rfl, ⟨by decide, by decide⟩⟩, ⟨hM, xB_of9 ht hW hP hK hD [0, 1, 2, 3, 4, 5] (by decide +kernel) rfl⟩⟩, hS.F ht⟩) hS.2.2 dX5_nextState_160
    · skip
      have i_15 : ¬ (v13.toInt < r14.toInt) := fun h9 => c_15 ((ilt rfl rfl).mpr h9)
      have hM : M_nextState dead r0 rs may ri pn rt = (K_nextState_25) := (show M_nextState dead r0 rs may ri pn rt = (if v13.toInt < r14.toInt then (K_nextState_24) else (K_nextState_25)) from hM).trans (if_neg i_15)
      refine lv_iconst (v := 0) hx hb dX5_nextState_155 (by decide) ?_
      refine lv_goto (tgt := 160) hx hb dX5_nextState_156 (by decide) ?_
      refine W.widen (k := 0) (n := 0) (by decide) (by decide) ?_
      exact W.iret (v := 0) hx hb hr (fun t ht hW => ⟨⟨0, 0, rfl, ⟨rfl, ⟨by decide, by decide⟩⟩, ⟨hM, xB_of9 ht hW hP hK hD [0, 1, 2, 3, 4, 5] (by decide +kernel) rfl⟩⟩, hS.F ht⟩) hS.2.2 dX5_nextState_160
  · skip
    have i_3 : v2.toInt = 0 := (ieq rfl (by decide)).mp c_3
    have hM : M_nextState dead r0 rs may ri pn rt = (K_nextState_3 rs r0 may ri pn rt) := (show M_nextState dead r0 rs may ri pn rt = (if v2.toInt = 0 then (K_nextState_3 rs r0 may ri pn rt) else (K_nextState_2 rs r0 may ri pn)) from (by rw [ev2, ev1]; exact hM)).trans (if_pos i_3)
    refine lv_iconst (v := 1) hx hb dX5_nextState_11 (by decide) ?_
    refine lv_goto (tgt := 16) hx hb dX5_nextState_12 (by decide) ?_
    refine lv_istore (lv' := [(4, .int 1), (0, .ref rn), (1, .ref pl), (2, .int r0), (3, .int may)]) hx hb dX5_nextState_16 hl (by decide) rfl (fun ls hl => ?_)
    refine lv_aload_n hx hb dX5_nextState_18 rfl (lv_at hl 1 rfl) ?_
    refine va_get (D := D) (ci := 4) (v := .ref rsa) (C := RX5) (T := TX5) (N := 14) hx hb hts (fun w h => tbC w (tbfX5 w h)) hown hK hP 0 rfl rfl 1 (by decide) (hts (.fieldLink RX5 18 "PowerRails$Run" "states" "[I") (tbC _ wd108)) (fun _ h9 => h9) rfl dX5_nextState_19 ?_
    refine lv_iload_n hx hb dX5_nextState_22 rfl (lv_at hl 3 rfl) ?_
    refine va_iald hx hb hK hP 1 0 rfl rfl (vp_in_iff.mpr ⟨by omega, by omega⟩) dX5_nextState_23 ?_
    refine lv_topi (fun v16 ev16 => ?_)
    have i_17_e : (v16 : Int32).toInt = v16.toInt := rfl
    by_cases i_17_0 : (v16 : Int32).toInt = 0
    · skip
      have hM : M_nextState dead r0 rs may ri pn rt = (K_nextState_26 may) := (show M_nextState dead r0 rs may ri pn rt = (if (v16 : Int32).toInt = 0 then (K_nextState_26 may) else (K_nextState_27 v16 may ri r0 pn rt)) from (by rw [ev16]; exact hM)).trans (if_pos i_17_0)
      refine lv_tableIn (off := 32) (tgt := 56) hx hb dX5_nextState_24 (by omega) (by omega) (by rw [i_17_0]; rfl) (by decide) ?_
      refine lv_iload_n hx hb dX5_nextState_56 rfl (lv_at hl 4 rfl) ?_
      refine lv_if_eq (tgt := 64) hx hb dX5_nextState_57 (by decide) (fun c_18 => ?_) (fun c_18 => ?_)
      · skip
        have i_18 : may.toInt = 0 := (ieq rfl (by decide)).mp c_18
        have hM : M_nextState dead r0 rs may ri pn rt = (K_nextState_28) := (show M_nextState dead r0 rs may ri pn rt = (if may.toInt = 0 then (K_nextState_28) else (K_nextState_29)) from hM).trans (if_pos i_18)
        refine lv_iconst (v := 0) hx hb dX5_nextState_64 (by decide) ?_
        refine W.widen (k := 0) (n := 0) (by decide) (by decide) ?_
        exact W.iret (v := 0) hx hb hr (fun t ht hW => ⟨⟨0, 0, rfl, ⟨rfl, ⟨by decide, by decide⟩⟩, ⟨hM, xB_of9 ht hW hP hK hD [0, 1, 2, 3, 4, 5] (by decide +kernel) rfl⟩⟩, hS.F ht⟩) hS.2.2 dX5_nextState_65
      · skip
        have i_18 : ¬ (may.toInt = 0) := fun h9 => c_18 ((ieq rfl (by decide)).mpr h9)
        have hM : M_nextState dead r0 rs may ri pn rt = (K_nextState_29) := (show M_nextState dead r0 rs may ri pn rt = (if may.toInt = 0 then (K_nextState_28) else (K_nextState_29)) from hM).trans (if_neg i_18)
        refine lv_iconst (v := 1) hx hb dX5_nextState_60 (by decide) ?_
        refine lv_goto (tgt := 65) hx hb dX5_nextState_61 (by decide) ?_
        refine W.widen (k := 0) (n := 0) (by decide) (by decide) ?_
        exact W.iret (v := 1) hx hb hr (fun t ht hW => ⟨⟨1, 1, rfl, ⟨rfl, ⟨by decide, by decide⟩⟩, ⟨hM, xB_of9 ht hW hP hK hD [0, 1, 2, 3, 4, 5] (by decide +kernel) rfl⟩⟩, hS.F ht⟩) hS.2.2 dX5_nextState_65
    have hM : M_nextState dead r0 rs may ri pn rt = (K_nextState_27 v16 may ri r0 pn rt) := (show M_nextState dead r0 rs may ri pn rt = (if (v16 : Int32).toInt = 0 then (K_nextState_26 may) else (K_nextState_27 v16 may ri r0 pn rt)) from (by rw [ev16]; exact hM)).trans (if_neg i_17_0)
    by_cases i_17_1 : (v16 : Int32).toInt = 1
    · skip
      have hM : M_nextState dead r0 rs may ri pn rt = (K_nextState_30 may ri r0 pn) := (show M_nextState dead r0 rs may ri pn rt = (if (v16 : Int32).toInt = 1 then (K_nextState_30 may ri r0 pn) else (K_nextState_31 v16 may ri r0 rt pn)) from hM).trans (if_pos i_17_1)
      refine lv_tableIn (off := 42) (tgt := 66) hx hb dX5_nextState_24 (by omega) (by omega) (by rw [i_17_1]; rfl) (by decide) ?_
      refine lv_iload_n hx hb dX5_nextState_66 rfl (lv_at hl 4 rfl) ?_
      refine lv_if_ne (tgt := 72) hx hb dX5_nextState_67 (by decide) (fun c_19 => ?_) (fun c_19 => ?_)
      · skip
        have i_19 : ¬ (may.toInt = 0) := fun h9 => c_19 ((ieq rfl (by decide)).mpr h9)
        have hM : M_nextState dead r0 rs may ri pn rt = (K_nextState_32 ri r0 pn) := (show M_nextState dead r0 rs may ri pn rt = (if may.toInt = 0 then (K_nextState_33) else (K_nextState_32 ri r0 pn)) from hM).trans (if_neg i_19)
        refine lv_aload_n hx hb dX5_nextState_72 rfl (lv_at hl 1 rfl) ?_
        refine va_get (D := D) (ci := 4) (v := .ref ria) (C := RX5) (T := TX5) (N := 14) hx hb hts (fun w h => tbC w (tbfX5 w h)) hown hK hP 0 rfl rfl 2 (by decide) (hts (.fieldLink RX5 22 "PowerRails$Run" "since" "[I") (tbC _ wd110)) (fun _ h9 => h9) rfl dX5_nextState_73 ?_
        refine lv_iload_n hx hb dX5_nextState_76 rfl (lv_at hl 3 rfl) ?_
        refine va_iald hx hb hK hP 2 0 rfl rfl (vp_in_iff.mpr ⟨by omega, by omega⟩) dX5_nextState_77 ?_
        refine lv_topi (fun v20 ev20 => ?_)
        refine lv_aload_n hx hb dX5_nextState_78 rfl (lv_at hl 2 rfl) ?_
        refine lv_iload_n hx hb dX5_nextState_79 rfl (lv_at hl 3 rfl) ?_
        refine lv_iconst (v := 5) hx hb dX5_nextState_80 (by decide) ?_
        obtain ⟨hPc, hDc, hFc, hC9⟩ := xpk (wc := W_number cI cJ cZ cG cH pl r0 (5 : Int32) pna pta rails limit retry behind pn) hP hD hS hA [4, 5] (by decide +kernel) rfl
        refine va_calli (va_runV (As := [.int r0, .int 5]) (rest := [.int v20]) ⟨hx, hb, hml, hown, hts⟩ (c_number l D cI cJ cZ cG cH s.heap.size pl r0 (5 : Int32) pna pta rails limit retry behind pn (xrng rfl (by omega) (by omega)) ⟨by decide, by decide⟩ (xrng rfl (by omega) (by omega)) (xwk_rng h_pn (by decide) (by decide))) (cwV 2 hts (xGV tbC wd397 wd368 wd369 wd59 wd996) rfl rfl rfl (by decide +kernel) ⟨Nat.le_of_ble_eq_true rfl, Nat.le_of_ble_eq_true rfl⟩) ⟨xPc_blind, va_recv hK hPc (ci := 2) (q0 := 0) rfl rfl, xPc_pre hPc hK hDc⟩ rfl rfl hl.1 rfl (lv_room (Nat.le_of_ble_eq_true rfl)) dX5_nextState_81 ⟨Nat.le_of_ble_eq_true rfl, Nat.le_of_ble_eq_true rfl⟩) hS (fun q _ h => hFc q h) hFc (fun r21 u t H1 locs ht hvm hw21 hB hz1 hk1 hS => ?_)
        obtain ⟨hru9, hw21⟩ := hw21
        subst hru9
        obtain ⟨hf21_0, hP1, hK1, hD1⟩ := hB
        rw [ht] at hP1
        obtain ⟨hP, hD⟩ : xPD D A [oX5 rn hy rsa ria raa rta rga dead key tick held tries trips ldraw gdraw, oAI rsa cI 8 rs, oAI ria cI 8 ri, oAI rta cI 8 rt, oX3 pl pna pta rails limit retry behind, oAI pna cI 64 pn] H1 := xjn 4 hP hD [4, 5] [0, 1, 2, 3] hC9 rfl (by decide +kernel) (by decide +kernel) hk1 hFc hP1 hD1
        generalize H1 = H at hP hS ⊢
        have hf21_0 : M_number pn r0 (5 : Int32) = (r21) := hf21_0
        have hw21 : 0 ≤ r21.toInt ∧ r21.toInt ≤ 511 := hw21
        have h9M := congrArg (fun t9 => (K_nextState_34 v20 t9)) hf21_0
        have hM : M_nextState dead r0 rs may ri pn rt = (K_nextState_34 v20 r21) := (show M_nextState dead r0 rs may ri pn rt = ((fun t9 => (K_nextState_34 v20 t9)) (M_number pn r0 (5 : Int32))) from (by rw [ev20]; exact hM)).trans h9M
        refine lv_icmp_lt (tgt := 91) hx hb dX5_nextState_84 (by decide) (fun c_22 => ?_) (fun c_22 => ?_)
        · skip
          have i_22 : v20.toInt < r21.toInt := (ilt rfl rfl).mp c_22
          have hM : M_nextState dead r0 rs may ri pn rt = (K_nextState_35) := (show M_nextState dead r0 rs may ri pn rt = (if v20.toInt < r21.toInt then (K_nextState_35) else (K_nextState_36)) from hM).trans (if_pos i_22)
          refine lv_iconst (v := 1) hx hb dX5_nextState_91 (by decide) ?_
          refine W.widen (k := 0) (n := 0) (by decide) (by decide) ?_
          exact W.iret (v := 1) hx hb hr (fun t ht hW => ⟨⟨1, 1, rfl, ⟨rfl, ⟨by decide, by decide⟩⟩, ⟨hM, xB_of9 ht hW hP hK hD [0, 1, 2, 3, 4, 5] (by decide +kernel) rfl⟩⟩, hS.F ht⟩) hS.2.2 dX5_nextState_92
        · skip
          have i_22 : ¬ (v20.toInt < r21.toInt) := fun h9 => c_22 ((ilt rfl rfl).mpr h9)
          have hM : M_nextState dead r0 rs may ri pn rt = (K_nextState_36) := (show M_nextState dead r0 rs may ri pn rt = (if v20.toInt < r21.toInt then (K_nextState_35) else (K_nextState_36)) from hM).trans (if_neg i_22)
          refine lv_iconst (v := 2) hx hb dX5_nextState_87 (by decide) ?_
          refine lv_goto (tgt := 92) hx hb dX5_nextState_88 (by decide) ?_
          refine W.widen (k := 0) (n := 0) (by decide) (by decide) ?_
          exact W.iret (v := 2) hx hb hr (fun t ht hW => ⟨⟨2, 2, rfl, ⟨rfl, ⟨by decide, by decide⟩⟩, ⟨hM, xB_of9 ht hW hP hK hD [0, 1, 2, 3, 4, 5] (by decide +kernel) rfl⟩⟩, hS.F ht⟩) hS.2.2 dX5_nextState_92
      · skip
        have i_19 : may.toInt = 0 := (ieq rfl (by decide)).mp c_19
        have hM : M_nextState dead r0 rs may ri pn rt = (K_nextState_33) := (show M_nextState dead r0 rs may ri pn rt = (if may.toInt = 0 then (K_nextState_33) else (K_nextState_32 ri r0 pn)) from hM).trans (if_pos i_19)
        refine lv_iconst (v := 0) hx hb dX5_nextState_70 (by decide) ?_
        refine W.widen (k := 0) (n := 0) (by decide) (by decide) ?_
        exact W.iret (v := 0) hx hb hr (fun t ht hW => ⟨⟨0, 0, rfl, ⟨rfl, ⟨by decide, by decide⟩⟩, ⟨hM, xB_of9 ht hW hP hK hD [0, 1, 2, 3, 4, 5] (by decide +kernel) rfl⟩⟩, hS.F ht⟩) hS.2.2 dX5_nextState_71
    have hM : M_nextState dead r0 rs may ri pn rt = (K_nextState_31 v16 may ri r0 rt pn) := (show M_nextState dead r0 rs may ri pn rt = (if (v16 : Int32).toInt = 1 then (K_nextState_30 may ri r0 pn) else (K_nextState_31 v16 may ri r0 rt pn)) from hM).trans (if_neg i_17_1)
    by_cases i_17_2 : (v16 : Int32).toInt = 2
    · skip
      have hM : M_nextState dead r0 rs may ri pn rt = (K_nextState_37 may ri r0 rt) := (show M_nextState dead r0 rs may ri pn rt = (if (v16 : Int32).toInt = 2 then (K_nextState_37 may ri r0 rt) else (K_nextState_38 v16 may ri r0 pn)) from hM).trans (if_pos i_17_2)
      refine lv_tableIn (off := 69) (tgt := 93) hx hb dX5_nextState_24 (by omega) (by omega) (by rw [i_17_2]; rfl) (by decide) ?_
      refine lv_iload_n hx hb dX5_nextState_93 rfl (lv_at hl 4 rfl) ?_
      refine lv_if_ne (tgt := 99) hx hb dX5_nextState_94 (by decide) (fun c_23 => ?_) (fun c_23 => ?_)
      · skip
        have i_23 : ¬ (may.toInt = 0) := fun h9 => c_23 ((ieq rfl (by decide)).mpr h9)
        have hM : M_nextState dead r0 rs may ri pn rt = (K_nextState_39 ri r0 rt) := (show M_nextState dead r0 rs may ri pn rt = (if may.toInt = 0 then (K_nextState_40) else (K_nextState_39 ri r0 rt)) from hM).trans (if_neg i_23)
        refine lv_iload hx hb dX5_nextState_99 (lv_at hl 0 rfl) ?_
        refine lv_if_eq (tgt := 123) hx hb dX5_nextState_101 (by decide) (fun c9 => absurd c9 (by decide)) (fun _ => ?_)
        refine lv_aload_n hx hb dX5_nextState_104 rfl (lv_at hl 1 rfl) ?_
        refine va_get (D := D) (ci := 4) (v := .ref ria) (C := RX5) (T := TX5) (N := 14) hx hb hts (fun w h => tbC w (tbfX5 w h)) hown hK hP 0 rfl rfl 2 (by decide) (hts (.fieldLink RX5 22 "PowerRails$Run" "since" "[I") (tbC _ wd110)) (fun _ h9 => h9) rfl dX5_nextState_105 ?_
        refine lv_iload_n hx hb dX5_nextState_108 rfl (lv_at hl 3 rfl) ?_
        refine va_iald hx hb hK hP 2 0 rfl rfl (vp_in_iff.mpr ⟨by omega, by omega⟩) dX5_nextState_109 ?_
        refine lv_topi (fun v24 ev24 => ?_)
        refine lv_aload_n hx hb dX5_nextState_110 rfl (lv_at hl 1 rfl) ?_
        refine va_get (D := D) (ci := 4) (v := .ref rta) (C := RX5) (T := TX5) (N := 14) hx hb hts (fun w h => tbC w (tbfX5 w h)) hown hK hP 0 rfl rfl 4 (by decide) (hts (.fieldLink RX5 28 "PowerRails$Run" "takes" "[I") (tbC _ wd113)) (fun _ h9 => h9) rfl dX5_nextState_111 ?_
        refine lv_iload_n hx hb dX5_nextState_114 rfl (lv_at hl 3 rfl) ?_
        refine va_iald hx hb hK hP 3 0 rfl rfl (vp_in_iff.mpr ⟨by omega, by omega⟩) dX5_nextState_115 ?_
        refine lv_topi (fun v25 ev25 => ?_)
        have rv25 : 0 ≤ v25.toInt ∧ v25.toInt ≤ 511 := xrd ev25 h_rt (xinK (vp_in_iff.mpr ⟨by omega, by omega⟩))
        refine lv_icmp_lt (tgt := 123) hx hb dX5_nextState_116 (by decide) (fun c_26 => ?_) (fun c_26 => ?_)
        · skip
          have i_26 : v24.toInt < v25.toInt := (ilt rfl rfl).mp c_26
          have hM : M_nextState dead r0 rs may ri pn rt = (K_nextState_41) := (show M_nextState dead r0 rs may ri pn rt = (if v24.toInt < v25.toInt then (K_nextState_41) else (K_nextState_42)) from (by rw [ev25, ev24]; exact hM)).trans (if_pos i_26)
          refine lv_iconst (v := 2) hx hb dX5_nextState_123 (by decide) ?_
          refine W.widen (k := 0) (n := 0) (by decide) (by decide) ?_
          exact W.iret (v := 2) hx hb hr (fun t ht hW => ⟨⟨2, 2, rfl, ⟨rfl, ⟨by decide, by decide⟩⟩, ⟨hM, xB_of9 ht hW hP hK hD [0, 1, 2, 3, 4, 5] (by decide +kernel) rfl⟩⟩, hS.F ht⟩) hS.2.2 dX5_nextState_124
        · skip
          have i_26 : ¬ (v24.toInt < v25.toInt) := fun h9 => c_26 ((ilt rfl rfl).mpr h9)
          have hM : M_nextState dead r0 rs may ri pn rt = (K_nextState_42) := (show M_nextState dead r0 rs may ri pn rt = (if v24.toInt < v25.toInt then (K_nextState_41) else (K_nextState_42)) from (by rw [ev25, ev24]; exact hM)).trans (if_neg i_26)
          refine lv_iconst (v := 3) hx hb dX5_nextState_119 (by decide) ?_
          refine lv_goto (tgt := 124) hx hb dX5_nextState_120 (by decide) ?_
          refine W.widen (k := 0) (n := 0) (by decide) (by decide) ?_
          exact W.iret (v := 3) hx hb hr (fun t ht hW => ⟨⟨3, 3, rfl, ⟨rfl, ⟨by decide, by decide⟩⟩, ⟨hM, xB_of9 ht hW hP hK hD [0, 1, 2, 3, 4, 5] (by decide +kernel) rfl⟩⟩, hS.F ht⟩) hS.2.2 dX5_nextState_124
      · skip
        have i_23 : may.toInt = 0 := (ieq rfl (by decide)).mp c_23
        have hM : M_nextState dead r0 rs may ri pn rt = (K_nextState_40) := (show M_nextState dead r0 rs may ri pn rt = (if may.toInt = 0 then (K_nextState_40) else (K_nextState_39 ri r0 rt)) from hM).trans (if_pos i_23)
        refine lv_iconst (v := 4) hx hb dX5_nextState_97 (by decide) ?_
        refine W.widen (k := 0) (n := 0) (by decide) (by decide) ?_
        exact W.iret (v := 4) hx hb hr (fun t ht hW => ⟨⟨4, 4, rfl, ⟨rfl, ⟨by decide, by decide⟩⟩, ⟨hM, xB_of9 ht hW hP hK hD [0, 1, 2, 3, 4, 5] (by decide +kernel) rfl⟩⟩, hS.F ht⟩) hS.2.2 dX5_nextState_98
    have hM : M_nextState dead r0 rs may ri pn rt = (K_nextState_38 v16 may ri r0 pn) := (show M_nextState dead r0 rs may ri pn rt = (if (v16 : Int32).toInt = 2 then (K_nextState_37 may ri r0 rt) else (K_nextState_38 v16 may ri r0 pn)) from hM).trans (if_neg i_17_2)
    by_cases i_17_3 : (v16 : Int32).toInt = 3
    · skip
      have hM : M_nextState dead r0 rs may ri pn rt = (K_nextState_43 may) := (show M_nextState dead r0 rs may ri pn rt = (if (v16 : Int32).toInt = 3 then (K_nextState_43 may) else (K_nextState_44 ri r0 pn)) from hM).trans (if_pos i_17_3)
      refine lv_tableIn (off := 101) (tgt := 125) hx hb dX5_nextState_24 (by omega) (by omega) (by rw [i_17_3]; rfl) (by decide) ?_
      refine lv_iload_n hx hb dX5_nextState_125 rfl (lv_at hl 4 rfl) ?_
      refine lv_if_eq (tgt := 138) hx hb dX5_nextState_126 (by decide) (fun c_27 => ?_) (fun c_27 => ?_)
      · skip
        have i_27 : may.toInt = 0 := (ieq rfl (by decide)).mp c_27
        have hM : M_nextState dead r0 rs may ri pn rt = (K_nextState_45) := (show M_nextState dead r0 rs may ri pn rt = (if may.toInt = 0 then (K_nextState_45) else (K_nextState_46)) from hM).trans (if_pos i_27)
        refine lv_iconst (v := 4) hx hb dX5_nextState_138 (by decide) ?_
        refine W.widen (k := 0) (n := 0) (by decide) (by decide) ?_
        exact W.iret (v := 4) hx hb hr (fun t ht hW => ⟨⟨4, 4, rfl, ⟨rfl, ⟨by decide, by decide⟩⟩, ⟨hM, xB_of9 ht hW hP hK hD [0, 1, 2, 3, 4, 5] (by decide +kernel) rfl⟩⟩, hS.F ht⟩) hS.2.2 dX5_nextState_139
      · skip
        have i_27 : ¬ (may.toInt = 0) := fun h9 => c_27 ((ieq rfl (by decide)).mpr h9)
        have hM : M_nextState dead r0 rs may ri pn rt = (K_nextState_46) := (show M_nextState dead r0 rs may ri pn rt = (if may.toInt = 0 then (K_nextState_45) else (K_nextState_46)) from hM).trans (if_neg i_27)
        refine lv_iload hx hb dX5_nextState_129 (lv_at hl 0 rfl) ?_
        refine lv_if_eq (tgt := 138) hx hb dX5_nextState_131 (by decide) (fun c9 => absurd c9 (by decide)) (fun _ => ?_)
        refine lv_iconst (v := 3) hx hb dX5_nextState_134 (by decide) ?_
        refine lv_goto (tgt := 139) hx hb dX5_nextState_135 (by decide) ?_
        refine W.widen (k := 0) (n := 0) (by decide) (by decide) ?_
        exact W.iret (v := 3) hx hb hr (fun t ht hW => ⟨⟨3, 3, rfl, ⟨rfl, ⟨by decide, by decide⟩⟩, ⟨hM, xB_of9 ht hW hP hK hD [0, 1, 2, 3, 4, 5] (by decide +kernel) rfl⟩⟩, hS.F ht⟩) hS.2.2 dX5_nextState_139
    have hM : M_nextState dead r0 rs may ri pn rt = (K_nextState_44 ri r0 pn) := (show M_nextState dead r0 rs may ri pn rt = (if (v16 : Int32).toInt = 3 then (K_nextState_43 may) else (K_nextState_44 ri r0 pn)) from hM).trans (if_neg i_17_3)
    refine lv_tableOut (tgt := 140) hx hb dX5_nextState_24 (by omega) (by decide) ?_
    refine lv_aload_n hx hb dX5_nextState_140 rfl (lv_at hl 1 rfl) ?_
    refine va_get (D := D) (ci := 4) (v := .ref ria) (C := RX5) (T := TX5) (N := 14) hx hb hts (fun w h => tbC w (tbfX5 w h)) hown hK hP 0 rfl rfl 2 (by decide) (hts (.fieldLink RX5 22 "PowerRails$Run" "since" "[I") (tbC _ wd110)) (fun _ h9 => h9) rfl dX5_nextState_141 ?_
    refine lv_iload_n hx hb dX5_nextState_144 rfl (lv_at hl 3 rfl) ?_
    refine va_iald hx hb hK hP 2 0 rfl rfl (vp_in_iff.mpr ⟨by omega, by omega⟩) dX5_nextState_145 ?_
    refine lv_topi (fun v28 ev28 => ?_)
    refine lv_aload_n hx hb dX5_nextState_146 rfl (lv_at hl 2 rfl) ?_
    refine lv_iload_n hx hb dX5_nextState_147 rfl (lv_at hl 3 rfl) ?_
    refine lv_iconst (v := 2) hx hb dX5_nextState_148 (by decide) ?_
    obtain ⟨hPc, hDc, hFc, hC9⟩ := xpk (wc := W_number cI cJ cZ cG cH pl r0 (2 : Int32) pna pta rails limit retry behind pn) hP hD hS hA [4, 5] (by decide +kernel) rfl
    refine va_calli (va_runV (As := [.int r0, .int 2]) (rest := [.int v28]) ⟨hx, hb, hml, hown, hts⟩ (c_number l D cI cJ cZ cG cH s.heap.size pl r0 (2 : Int32) pna pta rails limit retry behind pn (xrng rfl (by omega) (by omega)) ⟨by decide, by decide⟩ (xrng rfl (by omega) (by omega)) (xwk_rng h_pn (by decide) (by decide))) (cwV 2 hts (xGV tbC wd397 wd368 wd369 wd59 wd996) rfl rfl rfl (by decide +kernel) ⟨Nat.le_of_ble_eq_true rfl, Nat.le_of_ble_eq_true rfl⟩) ⟨xPc_blind, va_recv hK hPc (ci := 2) (q0 := 0) rfl rfl, xPc_pre hPc hK hDc⟩ rfl rfl hl.1 rfl (lv_room (Nat.le_of_ble_eq_true rfl)) dX5_nextState_149 ⟨Nat.le_of_ble_eq_true rfl, Nat.le_of_ble_eq_true rfl⟩) hS (fun q _ h => hFc q h) hFc (fun r29 u t H1 locs ht hvm hw29 hB hz1 hk1 hS => ?_)
    obtain ⟨hru9, hw29⟩ := hw29
    subst hru9
    obtain ⟨hf29_0, hP1, hK1, hD1⟩ := hB
    rw [ht] at hP1
    obtain ⟨hP, hD⟩ : xPD D A [oX5 rn hy rsa ria raa rta rga dead key tick held tries trips ldraw gdraw, oAI rsa cI 8 rs, oAI ria cI 8 ri, oAI rta cI 8 rt, oX3 pl pna pta rails limit retry behind, oAI pna cI 64 pn] H1 := xjn 4 hP hD [4, 5] [0, 1, 2, 3] hC9 rfl (by decide +kernel) (by decide +kernel) hk1 hFc hP1 hD1
    generalize H1 = H at hP hS ⊢
    have hf29_0 : M_number pn r0 (2 : Int32) = (r29) := hf29_0
    have hw29 : 0 ≤ r29.toInt ∧ r29.toInt ≤ 511 := hw29
    have h9M := congrArg (fun t9 => (K_nextState_47 v28 t9)) hf29_0
    have hM : M_nextState dead r0 rs may ri pn rt = (K_nextState_47 v28 r29) := (show M_nextState dead r0 rs may ri pn rt = ((fun t9 => (K_nextState_47 v28 t9)) (M_number pn r0 (2 : Int32))) from (by rw [ev28]; exact hM)).trans h9M
    refine lv_icmp_lt (tgt := 159) hx hb dX5_nextState_152 (by decide) (fun c_30 => ?_) (fun c_30 => ?_)
    · skip
      have i_30 : v28.toInt < r29.toInt := (ilt rfl rfl).mp c_30
      have hM : M_nextState dead r0 rs may ri pn rt = (K_nextState_48) := (show M_nextState dead r0 rs may ri pn rt = (if v28.toInt < r29.toInt then (K_nextState_48) else (K_nextState_49)) from hM).trans (if_pos i_30)
      refine lv_iconst (v := 4) hx hb dX5_nextState_159 (by decide) ?_
      refine W.widen (k := 0) (n := 0) (by decide) (by decide) ?_
      exact W.iret (v := 4) hx hb hr (fun t ht hW => ⟨⟨4, 4, rfl, ⟨rfl, ⟨by decide, by decide⟩⟩, ⟨hM, xB_of9 ht hW hP hK hD [0, 1, 2, 3, 4, 5] (by decide +kernel) rfl⟩⟩, hS.F ht⟩) hS.2.2 dX5_nextState_160
    · skip
      have i_30 : ¬ (v28.toInt < r29.toInt) := fun h9 => c_30 ((ilt rfl rfl).mpr h9)
      have hM : M_nextState dead r0 rs may ri pn rt = (K_nextState_49) := (show M_nextState dead r0 rs may ri pn rt = (if v28.toInt < r29.toInt then (K_nextState_48) else (K_nextState_49)) from hM).trans (if_neg i_30)
      refine lv_iconst (v := 0) hx hb dX5_nextState_155 (by decide) ?_
      refine lv_goto (tgt := 160) hx hb dX5_nextState_156 (by decide) ?_
      refine W.widen (k := 0) (n := 0) (by decide) (by decide) ?_
      exact W.iret (v := 0) hx hb hr (fun t ht hW => ⟨⟨0, 0, rfl, ⟨rfl, ⟨by decide, by decide⟩⟩, ⟨hM, xB_of9 ht hW hP hK hD [0, 1, 2, 3, 4, 5] (by decide +kernel) rfl⟩⟩, hS.F ht⟩) hS.2.2 dX5_nextState_160
def K_become_8 (f1 : Nat → Int32) (f2 : Nat → Int32) (f18 : Nat → Int32) (rg : Nat → Int32) (ysz_21 : Int32) (ya_22 : Nat → Int32) (yb_23 : Nat → Int32) (yc_24 : Nat → Int32) : (Nat → Int32) × (Nat → Int32) × (Nat → Int32) × (Nat → Int32) × (Int32) × (Nat → Int32) × (Nat → Int32) × (Nat → Int32) := (f1, f2, f18, rg, ysz_21, ya_22, yb_23, yc_24)
def K_become_3 (f1 : Nat → Int32) (f2 : Nat → Int32) (ra : Nat → Int32) (r0 : Int32) (rg : Nat → Int32) (ysz : Int32) (ya : Nat → Int32) (tick : Int32) (yb : Nat → Int32) (yc : Nat → Int32) (n0 : Int32) : (Nat → Int32) × (Nat → Int32) × (Nat → Int32) × (Nat → Int32) × (Int32) × (Nat → Int32) × (Nat → Int32) × (Nat → Int32) := ((fun t9 => (K_become_8 f1 f2 (upd ra (r0 : Int32).toNatClampNeg (0 : Int32)) rg t9.1 t9.2.1 t9.2.2.1 t9.2.2.2)) (M_note ysz ya tick yb r0 yc n0))
def K_become_7 (f1 : Nat → Int32) (f2 : Nat → Int32) (ra : Nat → Int32) (f12 : Nat → Int32) (ysz_14 : Int32) (ya_15 : Nat → Int32) (yb_16 : Nat → Int32) (yc_17 : Nat → Int32) : (Nat → Int32) × (Nat → Int32) × (Nat → Int32) × (Nat → Int32) × (Int32) × (Nat → Int32) × (Nat → Int32) × (Nat → Int32) := (f1, f2, ra, f12, ysz_14, ya_15, yb_16, yc_17)
def K_become_5 (f1 : Nat → Int32) (f2 : Nat → Int32) (ra : Nat → Int32) (rg : Nat → Int32) (r0 : Int32) (ysz : Int32) (ya : Nat → Int32) (tick : Int32) (yb : Nat → Int32) (yc : Nat → Int32) (n0 : Int32) : (Nat → Int32) × (Nat → Int32) × (Nat → Int32) × (Nat → Int32) × (Int32) × (Nat → Int32) × (Nat → Int32) × (Nat → Int32) := ((fun t9 => (K_become_7 f1 f2 ra (upd rg (r0 : Int32).toNatClampNeg ((rg r0.toNatClampNeg) + (1 : Int32))) t9.1 t9.2.1 t9.2.2.1 t9.2.2.2)) (M_note ysz ya tick yb r0 yc n0))
def K_become_6 (f1 : Nat → Int32) (f2 : Nat → Int32) (ra : Nat → Int32) (rg : Nat → Int32) (ysz_6 : Int32) (ya_7 : Nat → Int32) (yb_8 : Nat → Int32) (yc_9 : Nat → Int32) : (Nat → Int32) × (Nat → Int32) × (Nat → Int32) × (Nat → Int32) × (Int32) × (Nat → Int32) × (Nat → Int32) × (Nat → Int32) := (f1, f2, ra, rg, ysz_6, ya_7, yb_8, yc_9)
def K_become_4 (f1 : Nat → Int32) (f2 : Nat → Int32) (ra : Nat → Int32) (rg : Nat → Int32) (ysz : Int32) (ya : Nat → Int32) (tick : Int32) (yb : Nat → Int32) (r0 : Int32) (yc : Nat → Int32) (n0 : Int32) : (Nat → Int32) × (Nat → Int32) × (Nat → Int32) × (Nat → Int32) × (Int32) × (Nat → Int32) × (Nat → Int32) × (Nat → Int32) := ((fun t9 => (K_become_6 f1 f2 ra rg t9.1 t9.2.1 t9.2.2.1 t9.2.2.2)) (M_note ysz ya tick yb r0 yc n0))
def K_become_2 (n0 : Int32) (f1 : Nat → Int32) (f2 : Nat → Int32) (ra : Nat → Int32) (rg : Nat → Int32) (r0 : Int32) (ysz : Int32) (ya : Nat → Int32) (tick : Int32) (yb : Nat → Int32) (yc : Nat → Int32) : (Nat → Int32) × (Nat → Int32) × (Nat → Int32) × (Nat → Int32) × (Int32) × (Nat → Int32) × (Nat → Int32) × (Nat → Int32) := (if n0.toInt = 3 then (K_become_5 f1 f2 ra rg r0 ysz ya tick yb yc n0) else (K_become_4 f1 f2 ra rg ysz ya tick yb r0 yc n0))
def K_become_1 (n0 : Int32) (rs : Nat → Int32) (r0 : Int32) (ri : Nat → Int32) (ra : Nat → Int32) (rg : Nat → Int32) (ysz : Int32) (ya : Nat → Int32) (tick : Int32) (yb : Nat → Int32) (yc : Nat → Int32) : (Nat → Int32) × (Nat → Int32) × (Nat → Int32) × (Nat → Int32) × (Int32) × (Nat → Int32) × (Nat → Int32) × (Nat → Int32) := (if n0.toInt = 1 then (K_become_3 (upd rs (r0 : Int32).toNatClampNeg n0) (upd ri (r0 : Int32).toNatClampNeg (0 : Int32)) ra r0 rg ysz ya tick yb yc n0) else (K_become_2 n0 (upd rs (r0 : Int32).toNatClampNeg n0) (upd ri (r0 : Int32).toNatClampNeg (0 : Int32)) ra rg r0 ysz ya tick yb yc))
def M_become (n0 : Int32) (rs : Nat → Int32) (r0 : Int32) (ri : Nat → Int32) (ra : Nat → Int32) (rg : Nat → Int32) (ysz : Int32) (ya : Nat → Int32) (tick : Int32) (yb : Nat → Int32) (yc : Nat → Int32) : (Nat → Int32) × (Nat → Int32) × (Nat → Int32) × (Nat → Int32) × (Int32) × (Nat → Int32) × (Nat → Int32) × (Nat → Int32) := (K_become_1 n0 rs r0 ri ra rg ysz ya tick yb yc)
abbrev W_become (cI cJ cZ cG cH : ClassId) (rn : Nat) (r0 : Int32) (n0 : Int32) (hy : Nat) (rsa : Nat) (ria : Nat) (raa : Nat) (rta : Nat) (rga : Nat) (dead : Int32) (key : Int32) (tick : Int32) (held : Int32) (tries : Int32) (trips : Int32) (ldraw : Int32) (gdraw : Int32) (rs : Nat → Int32) (ri : Nat → Int32) (ra : Nat → Int32) (rg : Nat → Int32) (yaa : Nat) (yba : Nat) (yca : Nat) (ysz : Int32) (ya : Nat → Int32) (yb : Nat → Int32) (yc : Nat → Int32) : va_W := [oX5 rn hy rsa ria raa rta rga dead key tick held tries trips ldraw gdraw, oAI rsa cI 8 rs, oAI ria cI 8 ri, oAI raa cI 8 ra, oAI rga cI 8 rg, oX2 hy yaa yba yca ysz, oAI yaa cI 64 ya, oAI yba cI 64 yb, oAI yca cI 64 yc]
abbrev Q_become (D : va_G) (cI cJ cZ cG cH : ClassId) (rn : Nat) (r0 : Int32) (n0 : Int32) (hy : Nat) (rsa : Nat) (ria : Nat) (raa : Nat) (rta : Nat) (rga : Nat) (dead : Int32) (key : Int32) (tick : Int32) (held : Int32) (tries : Int32) (trips : Int32) (ldraw : Int32) (gdraw : Int32) (rs : Nat → Int32) (ri : Nat → Int32) (ra : Nat → Int32) (rg : Nat → Int32) (yaa : Nat) (yba : Nat) (yca : Nat) (ysz : Int32) (ya : Nat → Int32) (yb : Nat → Int32) (yc : Nat → Int32) (A : Nat → Prop) : Array Value → State → Outcome → State → Prop := va_Qv (fun (_ : Unit) => True) (fun _ t => ∃ (rs9 : Nat → Int32) (ri9 : Nat → Int32) (ra9 : Nat → Int32) (rg9 : Nat → Int32) (ysz9 : Int32) (ya9 : Nat → Int32) (yb9 : Nat → Int32) (yc9 : Nat → Int32), (0 ≤ ysz9.toInt ∧ ysz9.toInt ≤ 64) ∧ (M_become n0 rs r0 ri ra rg ysz ya tick yb yc = (rs9, ri9, ra9, rg9, ysz9, ya9, yb9, yc9)) ∧ xB D (tyL cI cJ cZ cG cH) [oX5 rn hy rsa ria raa rta rga dead key tick held tries trips ldraw gdraw, oAI rsa cI 8 rs9, oAI ria cI 8 ri9, oAI raa cI 8 ra9, oAI rga cI 8 rg9, oX2 hy yaa yba yca ysz9, oAI yaa cI 64 ya9, oAI yba cI 64 yb9, oAI yca cI 64 yc9] A t) A
abbrev rm_become : Room := { frames := 1, cells := 0, slots := 0, locals := 23 }
set_option maxRecDepth 100000 in
set_option maxHeartbeats 40000000 in
theorem c_become (l : Launch) (D : va_G) (cI cJ cZ cG cH : ClassId) (sz : Nat) (rn : Nat) (r0 : Int32) (n0 : Int32) (hy : Nat) (rsa : Nat) (ria : Nat) (raa : Nat) (rta : Nat) (rga : Nat) (dead : Int32) (key : Int32) (tick : Int32) (held : Int32) (tries : Int32) (trips : Int32) (ldraw : Int32) (gdraw : Int32) (rs : Nat → Int32) (ri : Nat → Int32) (ra : Nat → Int32) (rg : Nat → Int32) (yaa : Nat) (yba : Nat) (yca : Nat) (ysz : Int32) (ya : Nat → Int32) (yb : Nat → Int32) (yc : Nat → Int32) (h_r0 : 0 ≤ r0.toInt ∧ r0.toInt ≤ 7) (h_key : 0 ≤ key.toInt ∧ key.toInt ≤ 1) (h_ysz : 0 ≤ ysz.toInt ∧ ysz.toInt ≤ 64) : Met l yX5_become (wt yX5_become cX5_become 3 none) rm_become (xPc [.ref rn, .int r0, .int n0] D (tyL cI cJ cZ cG cH) (W_become cI cJ cZ cG cH rn r0 n0 hy rsa ria raa rta rga dead key tick held tries trips ldraw gdraw rs ri ra rg yaa yba yca ysz ya yb yc) sz) (Q_become D cI cJ cZ cG cH rn r0 n0 hy rsa ria raa rta rga dead key tick held tries trips ldraw gdraw rs ri ra rg yaa yba yca ysz ya yb yc (va_A (W_become cI cJ cZ cG cH rn r0 n0 hy rsa ria raa rta rga dead key tick held tries trips ldraw gdraw rs ri ra rg yaa yba yca ysz ya yb yc) sz)) 0 0 (va_A (W_become cI cJ cZ cG cH rn r0 n0 hy rsa ria raa rta rga dead key tick held tries trips ldraw gdraw rs ri ra rg yaa yba yca ysz ya yb yc) sz) := by
  refine xMet (cc := cX5_become) (maxL := 3) (ret := none) (Qf := Q_become D cI cJ cZ cG cH rn r0 n0 hy rsa ria raa rta rga dead key tick held tries trips ldraw gdraw rs ri ra rg yaa yba yca ysz ya yb yc) (by decide) rfl (Nat.le_of_ble_eq_true rfl) ?_
  intro p e s m below meth c ls A hx hb hr hml hts hown hlocks hnm hsz hP hK hD hA hS hl
  have hown : s.vm.findClass RX5 = some m.cls := hown
  have hP : va_P D vwCl [oX5 rn hy rsa ria raa rta rga dead key tick held tries trips ldraw gdraw, oAI rsa cI 8 rs, oAI ria cI 8 ri, oAI raa cI 8 ra, oAI rga cI 8 rg, oX2 hy yaa yba yca ysz, oAI yaa cI 64 ya, oAI yba cI 64 yb, oAI yca cI 64 yc] s.heap := hP
  have hD : va_D A [oX5 rn hy rsa ria raa rta rga dead key tick held tries trips ldraw gdraw, oAI rsa cI 8 rs, oAI ria cI 8 ri, oAI raa cI 8 ra, oAI rga cI 8 rg, oX2 hy yaa yba yca ysz, oAI yaa cI 64 ya, oAI yba cI 64 yb, oAI yca cI 64 yc] := hD
  have hl : lv_has ls 3 [(0, .ref rn), (1, .int r0), (2, .int n0)] := hl
  have hM : M_become n0 rs r0 ri ra rg ysz ya tick yb yc = (K_become_1 n0 rs r0 ri ra rg ysz ya tick yb yc) := rfl
  refine lv_aload_n hx hb dX5_become_0 rfl (lv_at hl 0 rfl) ?_
  refine va_get (D := D) (ci := 4) (v := .ref rsa) (C := RX5) (T := TX5) (N := 14) hx hb hts (fun w h => tbC w (tbfX5 w h)) hown hK hP 0 rfl rfl 1 (by decide) (hts (.fieldLink RX5 18 "PowerRails$Run" "states" "[I") (tbC _ wd108)) (fun _ h9 => h9) rfl dX5_become_1 ?_
  refine lv_iload_n hx hb dX5_become_4 rfl (lv_at hl 1 rfl) ?_
  refine lv_iload_n hx hb dX5_become_5 rfl (lv_at hl 2 rfl) ?_
  refine va_iast hx hb hK hP hD hS 1 0 rfl rfl (vp_in_iff.mpr ⟨by omega, by omega⟩) dX5_become_6 (fun H locs hP hD hS => ?_)
  obtain ⟨f1, ef1⟩ : ∃ fz9 : Nat → Int32, fz9 = upd rs (r0 : Int32).toNatClampNeg n0 := ⟨_, rfl⟩
  have hP : va_P D vwCl [oX5 rn hy rsa ria raa rta rga dead key tick held tries trips ldraw gdraw, oAI rsa cI 8 f1, oAI ria cI 8 ri, oAI raa cI 8 ra, oAI rga cI 8 rg, oX2 hy yaa yba yca ysz, oAI yaa cI 64 ya, oAI yba cI 64 yb, oAI yca cI 64 yc] H := by rw [ef1]; exact hP
  have hD : va_D A [oX5 rn hy rsa ria raa rta rga dead key tick held tries trips ldraw gdraw, oAI rsa cI 8 f1, oAI ria cI 8 ri, oAI raa cI 8 ra, oAI rga cI 8 rg, oX2 hy yaa yba yca ysz, oAI yaa cI 64 ya, oAI yba cI 64 yb, oAI yca cI 64 yc] := by rw [ef1]; exact hD
  refine lv_aload_n hx hb dX5_become_7 rfl (lv_at hl 0 rfl) ?_
  refine va_get (D := D) (ci := 4) (v := .ref ria) (C := RX5) (T := TX5) (N := 14) hx hb hts (fun w h => tbC w (tbfX5 w h)) hown hK hP 0 rfl rfl 2 (by decide) (hts (.fieldLink RX5 22 "PowerRails$Run" "since" "[I") (tbC _ wd110)) (fun _ h9 => h9) rfl dX5_become_8 ?_
  refine lv_iload_n hx hb dX5_become_11 rfl (lv_at hl 1 rfl) ?_
  refine lv_iconst (v := 0) hx hb dX5_become_12 (by decide) ?_
  refine va_iast hx hb hK hP hD hS 2 0 rfl rfl (vp_in_iff.mpr ⟨by omega, by omega⟩) dX5_become_13 (fun H locs hP hD hS => ?_)
  obtain ⟨f2, ef2⟩ : ∃ fz9 : Nat → Int32, fz9 = upd ri (r0 : Int32).toNatClampNeg 0 := ⟨_, rfl⟩
  have hP : va_P D vwCl [oX5 rn hy rsa ria raa rta rga dead key tick held tries trips ldraw gdraw, oAI rsa cI 8 f1, oAI ria cI 8 f2, oAI raa cI 8 ra, oAI rga cI 8 rg, oX2 hy yaa yba yca ysz, oAI yaa cI 64 ya, oAI yba cI 64 yb, oAI yca cI 64 yc] H := by rw [ef2]; exact hP
  have hD : va_D A [oX5 rn hy rsa ria raa rta rga dead key tick held tries trips ldraw gdraw, oAI rsa cI 8 f1, oAI ria cI 8 f2, oAI raa cI 8 ra, oAI rga cI 8 rg, oX2 hy yaa yba yca ysz, oAI yaa cI 64 ya, oAI yba cI 64 yb, oAI yca cI 64 yc] := by rw [ef2]; exact hD
  refine lv_iload_n hx hb dX5_become_14 rfl (lv_at hl 2 rfl) ?_
  refine lv_iconst (v := 1) hx hb dX5_become_15 (by decide) ?_
  refine lv_icmp_ne (tgt := 26) hx hb dX5_become_16 (by decide) (fun c_3 => ?_) (fun c_3 => ?_)
  · skip
    have i_3 : ¬ (n0.toInt = 1) := fun h9 => c_3 ((ieq rfl (by decide)).mpr h9)
    have hM : M_become n0 rs r0 ri ra rg ysz ya tick yb yc = (K_become_2 n0 f1 f2 ra rg r0 ysz ya tick yb yc) := (show M_become n0 rs r0 ri ra rg ysz ya tick yb yc = (if n0.toInt = 1 then (K_become_3 f1 f2 ra r0 rg ysz ya tick yb yc n0) else (K_become_2 n0 f1 f2 ra rg r0 ysz ya tick yb yc)) from (by rw [ef2, ef1]; exact hM)).trans (if_neg i_3)
    refine lv_iload_n hx hb dX5_become_26 rfl (lv_at hl 2 rfl) ?_
    refine lv_iconst (v := 3) hx hb dX5_become_27 (by decide) ?_
    refine lv_icmp_ne (tgt := 41) hx hb dX5_become_28 (by decide) (fun c_4 => ?_) (fun c_4 => ?_)
    · skip
      have i_4 : ¬ (n0.toInt = 3) := fun h9 => c_4 ((ieq rfl (by decide)).mpr h9)
      have hM : M_become n0 rs r0 ri ra rg ysz ya tick yb yc = (K_become_4 f1 f2 ra rg ysz ya tick yb r0 yc n0) := (show M_become n0 rs r0 ri ra rg ysz ya tick yb yc = (if n0.toInt = 3 then (K_become_5 f1 f2 ra rg r0 ysz ya tick yb yc n0) else (K_become_4 f1 f2 ra rg ysz ya tick yb r0 yc n0)) from hM).trans (if_neg i_4)
      refine lv_aload_n hx hb dX5_become_41 rfl (lv_at hl 0 rfl) ?_
      refine va_get (D := D) (ci := 4) (v := .ref hy) (C := RX5) (T := TX5) (N := 14) hx hb hts (fun w h => tbC w (tbfX5 w h)) hown hK hP 0 rfl rfl 0 (by decide) (hts (.fieldLink RX5 12 "PowerRails$Run" "history" "LPowerRails$History;") (tbC _ wd106)) (fun _ h9 => h9) rfl dX5_become_42 ?_
      refine lv_aload_n hx hb dX5_become_45 rfl (lv_at hl 0 rfl) ?_
      refine va_get (D := D) (ci := 4) (v := .int tick) (C := RX5) (T := TX5) (N := 14) hx hb hts (fun w h => tbC w (tbfX5 w h)) hown hK hP 0 rfl rfl 8 (by decide) (hts (.fieldLink RX5 51 "PowerRails$Run" "tick" "I") (tbC _ wd121)) (fun _ h9 => h9) rfl dX5_become_46 ?_
      refine lv_iload_n hx hb dX5_become_49 rfl (lv_at hl 1 rfl) ?_
      refine lv_iload_n hx hb dX5_become_50 rfl (lv_at hl 2 rfl) ?_
      obtain ⟨hPc, hDc, hFc, hC9⟩ := xpk (wc := W_note cI cJ cZ cG cH hy tick r0 n0 yaa yba yca ysz ya yb yc) hP hD hS hA [5, 6, 7, 8] (by decide +kernel) rfl
      refine va_callv (va_runV (As := [.int tick, .int r0, .int n0]) (rest := []) ⟨hx, hb, hml, hown, hts⟩ (c_note l D cI cJ cZ cG cH H.size hy tick r0 n0 yaa yba yca ysz ya yb yc (xrng rfl (by omega) (by omega))) (cwV 3 hts (xGV tbC wd477 wd478 wd479 wd53 wd1031) rfl rfl rfl (by decide +kernel) ⟨Nat.le_of_ble_eq_true rfl, Nat.le_of_ble_eq_true rfl⟩) ⟨xPc_blind, va_recv hK hPc (ci := 1) (q0 := 0) rfl rfl, xPc_pre hPc hK hDc⟩ rfl rfl hl.1 rfl (lv_room (Nat.le_of_ble_eq_true rfl)) dX5_become_51 ⟨Nat.le_of_ble_eq_true rfl, Nat.le_of_ble_eq_true rfl⟩) hS (fun q _ h => hFc q h) hFc (fun u t H1 locs ht hvm hw5 hB hz1 hk1 hS => ?_)
      obtain ⟨ysz_6, ya_7, yb_8, yc_9, hf9_0, hf9_1, hP1, hK1, hD1⟩ := hB
      rw [ht] at hP1
      obtain ⟨hP, hD⟩ : xPD D A [oX5 rn hy rsa ria raa rta rga dead key tick held tries trips ldraw gdraw, oAI rsa cI 8 f1, oAI ria cI 8 f2, oAI raa cI 8 ra, oAI rga cI 8 rg, oX2 hy yaa yba yca ysz_6, oAI yaa cI 64 ya_7, oAI yba cI 64 yb_8, oAI yca cI 64 yc_9] H1 := xjn 5 hP hD [5, 6, 7, 8] [0, 1, 2, 3, 4] hC9 rfl (by decide +kernel) (by decide +kernel) hk1 hFc hP1 hD1
      generalize H1 = H at hP hS ⊢
      have hf9_0 : 0 ≤ ysz_6.toInt ∧ ysz_6.toInt ≤ 64 := hf9_0
      have hf9_1 : M_note ysz ya tick yb r0 yc n0 = (ysz_6, ya_7, yb_8, yc_9) := hf9_1
      have h9M := congrArg (fun t9 => (K_become_6 f1 f2 ra rg t9.1 t9.2.1 t9.2.2.1 t9.2.2.2)) hf9_1
      have hM : M_become n0 rs r0 ri ra rg ysz ya tick yb yc = (K_become_6 f1 f2 ra rg ysz_6 ya_7 yb_8 yc_9) := (show M_become n0 rs r0 ri ra rg ysz ya tick yb yc = ((fun t9 => (K_become_6 f1 f2 ra rg t9.1 t9.2.1 t9.2.2.1 t9.2.2.2)) (M_note ysz ya tick yb r0 yc n0)) from hM).trans h9M
      refine W.widen (k := 0) (n := 0) (by decide) (by decide) ?_
      exact W.vret hx hb hr (fun t ht hW => ⟨⟨(), rfl, trivial, ⟨f1, f2, ra, rg, ysz_6, ya_7, yb_8, yc_9, (xrng rfl (by omega) (by omega)), hM, xB_of9 ht hW hP hK hD [0, 1, 2, 3, 4, 5, 6, 7, 8] (by decide +kernel) rfl⟩⟩, hS.F ht⟩) hS.2.2 dX5_become_54
    · skip
      have i_4 : n0.toInt = 3 := (ieq rfl (by decide)).mp c_4
      have hM : M_become n0 rs r0 ri ra rg ysz ya tick yb yc = (K_become_5 f1 f2 ra rg r0 ysz ya tick yb yc n0) := (show M_become n0 rs r0 ri ra rg ysz ya tick yb yc = (if n0.toInt = 3 then (K_become_5 f1 f2 ra rg r0 ysz ya tick yb yc n0) else (K_become_4 f1 f2 ra rg ysz ya tick yb r0 yc n0)) from hM).trans (if_pos i_4)
      refine lv_aload_n hx hb dX5_become_31 rfl (lv_at hl 0 rfl) ?_
      refine va_get (D := D) (ci := 4) (v := .ref rga) (C := RX5) (T := TX5) (N := 14) hx hb hts (fun w h => tbC w (tbfX5 w h)) hown hK hP 0 rfl rfl 5 (by decide) (hts (.fieldLink RX5 31 "PowerRails$Run" "timesGood" "[I") (tbC _ wd115)) (fun _ h9 => h9) rfl dX5_become_32 ?_
      refine lv_iload_n hx hb dX5_become_35 rfl (lv_at hl 1 rfl) ?_
      refine lv_dup2_11 hx hb dX5_become_36 rfl rfl ?_
      refine va_iald hx hb hK hP 4 0 rfl rfl (vp_in_iff.mpr ⟨by omega, by omega⟩) dX5_become_37 ?_
      refine lv_topi (fun v10 ev10 => ?_)
      refine lv_iconst (v := 1) hx hb dX5_become_38 (by decide) ?_
      refine lv_iadd hx hb dX5_become_39 ?_
      refine lv_topi (fun v11 ev11 => ?_)
      refine va_iast hx hb hK hP hD hS 4 0 rfl rfl (vp_in_iff.mpr ⟨by omega, by omega⟩) dX5_become_40 (fun H locs hP hD hS => ?_)
      obtain ⟨f12, ef12⟩ : ∃ fz9 : Nat → Int32, fz9 = upd rg (r0 : Int32).toNatClampNeg v11 := ⟨_, rfl⟩
      have hP : va_P D vwCl [oX5 rn hy rsa ria raa rta rga dead key tick held tries trips ldraw gdraw, oAI rsa cI 8 f1, oAI ria cI 8 f2, oAI raa cI 8 ra, oAI rga cI 8 f12, oX2 hy yaa yba yca ysz, oAI yaa cI 64 ya, oAI yba cI 64 yb, oAI yca cI 64 yc] H := by rw [ef12]; exact hP
      have hD : va_D A [oX5 rn hy rsa ria raa rta rga dead key tick held tries trips ldraw gdraw, oAI rsa cI 8 f1, oAI ria cI 8 f2, oAI raa cI 8 ra, oAI rga cI 8 f12, oX2 hy yaa yba yca ysz, oAI yaa cI 64 ya, oAI yba cI 64 yb, oAI yca cI 64 yc] := by rw [ef12]; exact hD
      refine lv_aload_n hx hb dX5_become_41 rfl (lv_at hl 0 rfl) ?_
      refine va_get (D := D) (ci := 4) (v := .ref hy) (C := RX5) (T := TX5) (N := 14) hx hb hts (fun w h => tbC w (tbfX5 w h)) hown hK hP 0 rfl rfl 0 (by decide) (hts (.fieldLink RX5 12 "PowerRails$Run" "history" "LPowerRails$History;") (tbC _ wd106)) (fun _ h9 => h9) rfl dX5_become_42 ?_
      refine lv_aload_n hx hb dX5_become_45 rfl (lv_at hl 0 rfl) ?_
      refine va_get (D := D) (ci := 4) (v := .int tick) (C := RX5) (T := TX5) (N := 14) hx hb hts (fun w h => tbC w (tbfX5 w h)) hown hK hP 0 rfl rfl 8 (by decide) (hts (.fieldLink RX5 51 "PowerRails$Run" "tick" "I") (tbC _ wd121)) (fun _ h9 => h9) rfl dX5_become_46 ?_
      refine lv_iload_n hx hb dX5_become_49 rfl (lv_at hl 1 rfl) ?_
      refine lv_iload_n hx hb dX5_become_50 rfl (lv_at hl 2 rfl) ?_
      obtain ⟨hPc, hDc, hFc, hC9⟩ := xpk (wc := W_note cI cJ cZ cG cH hy tick r0 n0 yaa yba yca ysz ya yb yc) hP hD hS hA [5, 6, 7, 8] (by decide +kernel) rfl
      refine va_callv (va_runV (As := [.int tick, .int r0, .int n0]) (rest := []) ⟨hx, hb, hml, hown, hts⟩ (c_note l D cI cJ cZ cG cH H.size hy tick r0 n0 yaa yba yca ysz ya yb yc (xrng rfl (by omega) (by omega))) (cwV 3 hts (xGV tbC wd477 wd478 wd479 wd53 wd1031) rfl rfl rfl (by decide +kernel) ⟨Nat.le_of_ble_eq_true rfl, Nat.le_of_ble_eq_true rfl⟩) ⟨xPc_blind, va_recv hK hPc (ci := 1) (q0 := 0) rfl rfl, xPc_pre hPc hK hDc⟩ rfl rfl hl.1 rfl (lv_room (Nat.le_of_ble_eq_true rfl)) dX5_become_51 ⟨Nat.le_of_ble_eq_true rfl, Nat.le_of_ble_eq_true rfl⟩) hS (fun q _ h => hFc q h) hFc (fun u t H1 locs ht hvm hw13 hB hz1 hk1 hS => ?_)
      obtain ⟨ysz_14, ya_15, yb_16, yc_17, hf17_0, hf17_1, hP1, hK1, hD1⟩ := hB
      rw [ht] at hP1
      obtain ⟨hP, hD⟩ : xPD D A [oX5 rn hy rsa ria raa rta rga dead key tick held tries trips ldraw gdraw, oAI rsa cI 8 f1, oAI ria cI 8 f2, oAI raa cI 8 ra, oAI rga cI 8 f12, oX2 hy yaa yba yca ysz_14, oAI yaa cI 64 ya_15, oAI yba cI 64 yb_16, oAI yca cI 64 yc_17] H1 := xjn 5 hP hD [5, 6, 7, 8] [0, 1, 2, 3, 4] hC9 rfl (by decide +kernel) (by decide +kernel) hk1 hFc hP1 hD1
      generalize H1 = H at hP hS ⊢
      have hf17_0 : 0 ≤ ysz_14.toInt ∧ ysz_14.toInt ≤ 64 := hf17_0
      have hf17_1 : M_note ysz ya tick yb r0 yc n0 = (ysz_14, ya_15, yb_16, yc_17) := hf17_1
      have h9M := congrArg (fun t9 => (K_become_7 f1 f2 ra f12 t9.1 t9.2.1 t9.2.2.1 t9.2.2.2)) hf17_1
      have hM : M_become n0 rs r0 ri ra rg ysz ya tick yb yc = (K_become_7 f1 f2 ra f12 ysz_14 ya_15 yb_16 yc_17) := (show M_become n0 rs r0 ri ra rg ysz ya tick yb yc = ((fun t9 => (K_become_7 f1 f2 ra f12 t9.1 t9.2.1 t9.2.2.1 t9.2.2.2)) (M_note ysz ya tick yb r0 yc n0)) from (by rw [ef12, ev11, ev10]; exact hM)).trans h9M
      refine W.widen (k := 0) (n := 0) (by decide) (by decide) ?_
      exact W.vret hx hb hr (fun t ht hW => ⟨⟨(), rfl, trivial, ⟨f1, f2, ra, f12, ysz_14, ya_15, yb_16, yc_17, (xrng rfl (by omega) (by omega)), hM, xB_of9 ht hW hP hK hD [0, 1, 2, 3, 4, 5, 6, 7, 8] (by decide +kernel) rfl⟩⟩, hS.F ht⟩) hS.2.2 dX5_become_54
  · skip
    have i_3 : n0.toInt = 1 := (ieq rfl (by decide)).mp c_3
    have hM : M_become n0 rs r0 ri ra rg ysz ya tick yb yc = (K_become_3 f1 f2 ra r0 rg ysz ya tick yb yc n0) := (show M_become n0 rs r0 ri ra rg ysz ya tick yb yc = (if n0.toInt = 1 then (K_become_3 f1 f2 ra r0 rg ysz ya tick yb yc n0) else (K_become_2 n0 f1 f2 ra rg r0 ysz ya tick yb yc)) from (by rw [ef2, ef1]; exact hM)).trans (if_pos i_3)
    refine lv_aload_n hx hb dX5_become_19 rfl (lv_at hl 0 rfl) ?_
    refine va_get (D := D) (ci := 4) (v := .ref raa) (C := RX5) (T := TX5) (N := 14) hx hb hts (fun w h => tbC w (tbfX5 w h)) hown hK hP 0 rfl rfl 3 (by decide) (hts (.fieldLink RX5 25 "PowerRails$Run" "asked" "[I") (tbC _ wd112)) (fun _ h9 => h9) rfl dX5_become_20 ?_
    refine lv_iload_n hx hb dX5_become_23 rfl (lv_at hl 1 rfl) ?_
    refine lv_iconst (v := 0) hx hb dX5_become_24 (by decide) ?_
    refine va_iast hx hb hK hP hD hS 3 0 rfl rfl (vp_in_iff.mpr ⟨by omega, by omega⟩) dX5_become_25 (fun H locs hP hD hS => ?_)
    obtain ⟨f18, ef18⟩ : ∃ fz9 : Nat → Int32, fz9 = upd ra (r0 : Int32).toNatClampNeg 0 := ⟨_, rfl⟩
    have hP : va_P D vwCl [oX5 rn hy rsa ria raa rta rga dead key tick held tries trips ldraw gdraw, oAI rsa cI 8 f1, oAI ria cI 8 f2, oAI raa cI 8 f18, oAI rga cI 8 rg, oX2 hy yaa yba yca ysz, oAI yaa cI 64 ya, oAI yba cI 64 yb, oAI yca cI 64 yc] H := by rw [ef18]; exact hP
    have hD : va_D A [oX5 rn hy rsa ria raa rta rga dead key tick held tries trips ldraw gdraw, oAI rsa cI 8 f1, oAI ria cI 8 f2, oAI raa cI 8 f18, oAI rga cI 8 rg, oX2 hy yaa yba yca ysz, oAI yaa cI 64 ya, oAI yba cI 64 yb, oAI yca cI 64 yc] := by rw [ef18]; exact hD
    refine lv_iload_n hx hb dX5_become_26 rfl (lv_at hl 2 rfl) ?_
    refine lv_iconst (v := 3) hx hb dX5_become_27 (by decide) ?_
    refine lv_icmp_ne (tgt := 41) hx hb dX5_become_28 (by decide) (fun c_19 => ?_) (fun c_19 => ?_)
    · skip
      have i_19 : ¬ (n0.toInt = 3) := fun h9 => c_19 ((ieq rfl (by decide)).mpr h9)
      refine lv_aload_n hx hb dX5_become_41 rfl (lv_at hl 0 rfl) ?_
      refine va_get (D := D) (ci := 4) (v := .ref hy) (C := RX5) (T := TX5) (N := 14) hx hb hts (fun w h => tbC w (tbfX5 w h)) hown hK hP 0 rfl rfl 0 (by decide) (hts (.fieldLink RX5 12 "PowerRails$Run" "history" "LPowerRails$History;") (tbC _ wd106)) (fun _ h9 => h9) rfl dX5_become_42 ?_
      refine lv_aload_n hx hb dX5_become_45 rfl (lv_at hl 0 rfl) ?_
      refine va_get (D := D) (ci := 4) (v := .int tick) (C := RX5) (T := TX5) (N := 14) hx hb hts (fun w h => tbC w (tbfX5 w h)) hown hK hP 0 rfl rfl 8 (by decide) (hts (.fieldLink RX5 51 "PowerRails$Run" "tick" "I") (tbC _ wd121)) (fun _ h9 => h9) rfl dX5_become_46 ?_
      refine lv_iload_n hx hb dX5_become_49 rfl (lv_at hl 1 rfl) ?_
      refine lv_iload_n hx hb dX5_become_50 rfl (lv_at hl 2 rfl) ?_
      obtain ⟨hPc, hDc, hFc, hC9⟩ := xpk (wc := W_note cI cJ cZ cG cH hy tick r0 n0 yaa yba yca ysz ya yb yc) hP hD hS hA [5, 6, 7, 8] (by decide +kernel) rfl
      refine va_callv (va_runV (As := [.int tick, .int r0, .int n0]) (rest := []) ⟨hx, hb, hml, hown, hts⟩ (c_note l D cI cJ cZ cG cH H.size hy tick r0 n0 yaa yba yca ysz ya yb yc (xrng rfl (by omega) (by omega))) (cwV 3 hts (xGV tbC wd477 wd478 wd479 wd53 wd1031) rfl rfl rfl (by decide +kernel) ⟨Nat.le_of_ble_eq_true rfl, Nat.le_of_ble_eq_true rfl⟩) ⟨xPc_blind, va_recv hK hPc (ci := 1) (q0 := 0) rfl rfl, xPc_pre hPc hK hDc⟩ rfl rfl hl.1 rfl (lv_room (Nat.le_of_ble_eq_true rfl)) dX5_become_51 ⟨Nat.le_of_ble_eq_true rfl, Nat.le_of_ble_eq_true rfl⟩) hS (fun q _ h => hFc q h) hFc (fun u t H1 locs ht hvm hw20 hB hz1 hk1 hS => ?_)
      obtain ⟨ysz_21, ya_22, yb_23, yc_24, hf24_0, hf24_1, hP1, hK1, hD1⟩ := hB
      rw [ht] at hP1
      obtain ⟨hP, hD⟩ : xPD D A [oX5 rn hy rsa ria raa rta rga dead key tick held tries trips ldraw gdraw, oAI rsa cI 8 f1, oAI ria cI 8 f2, oAI raa cI 8 f18, oAI rga cI 8 rg, oX2 hy yaa yba yca ysz_21, oAI yaa cI 64 ya_22, oAI yba cI 64 yb_23, oAI yca cI 64 yc_24] H1 := xjn 5 hP hD [5, 6, 7, 8] [0, 1, 2, 3, 4] hC9 rfl (by decide +kernel) (by decide +kernel) hk1 hFc hP1 hD1
      generalize H1 = H at hP hS ⊢
      have hf24_0 : 0 ≤ ysz_21.toInt ∧ ysz_21.toInt ≤ 64 := hf24_0
      have hf24_1 : M_note ysz ya tick yb r0 yc n0 = (ysz_21, ya_22, yb_23, yc_24) := hf24_1
      have h9M := congrArg (fun t9 => (K_become_8 f1 f2 f18 rg t9.1 t9.2.1 t9.2.2.1 t9.2.2.2)) hf24_1
      have hM : M_become n0 rs r0 ri ra rg ysz ya tick yb yc = (K_become_8 f1 f2 f18 rg ysz_21 ya_22 yb_23 yc_24) := (show M_become n0 rs r0 ri ra rg ysz ya tick yb yc = ((fun t9 => (K_become_8 f1 f2 f18 rg t9.1 t9.2.1 t9.2.2.1 t9.2.2.2)) (M_note ysz ya tick yb r0 yc n0)) from (by rw [ef18]; exact hM)).trans h9M
      refine W.widen (k := 0) (n := 0) (by decide) (by decide) ?_
      exact W.vret hx hb hr (fun t ht hW => ⟨⟨(), rfl, trivial, ⟨f1, f2, f18, rg, ysz_21, ya_22, yb_23, yc_24, (xrng rfl (by omega) (by omega)), hM, xB_of9 ht hW hP hK hD [0, 1, 2, 3, 4, 5, 6, 7, 8] (by decide +kernel) rfl⟩⟩, hS.F ht⟩) hS.2.2 dX5_become_54
    · skip
      have i_19 : n0.toInt = 3 := (ieq rfl (by decide)).mp c_19
      exfalso
      omega
def K_changeRails_3 (x114 : Int32) (f115 : Nat → Int32) (f116 : Nat → Int32) (f117 : Nat → Int32) (f118 : Nat → Int32) (x119 : Int32) (f120 : Nat → Int32) (f121 : Nat → Int32) (f122 : Nat → Int32) : (Int32) × (Nat → Int32) × (Nat → Int32) × (Nat → Int32) × (Nat → Int32) × (Int32) × (Nat → Int32) × (Nat → Int32) × (Nat → Int32) := (x114, f115, f116, f117, f118, x119, f120, f121, f122)
def K_changeRails_12 (rec_2 : (Int32) → (Int32) → (Nat → Int32) → (Nat → Int32) → (Nat → Int32) → (Nat → Int32) → (Int32) → (Nat → Int32) → (Nat → Int32) → (Nat → Int32) → ((Int32) × (Nat → Int32) × (Nat → Int32) × (Nat → Int32) × (Nat → Int32) × (Int32) × (Nat → Int32) × (Nat → Int32) × (Nat → Int32))) (x113 : Int32) (x114 : Int32) (f115 : Nat → Int32) (f116 : Nat → Int32) (f117 : Nat → Int32) (f118 : Nat → Int32) (x119 : Int32) (f120 : Nat → Int32) (f121 : Nat → Int32) (f122 : Nat → Int32) : (Int32) × (Nat → Int32) × (Nat → Int32) × (Nat → Int32) × (Nat → Int32) × (Int32) × (Nat → Int32) × (Nat → Int32) × (Nat → Int32) := (rec_2 (x113 + 1) x114 f115 f116 f117 f118 x119 f120 f121 f122)
def K_changeRails_14 (rec_2 : (Int32) → (Int32) → (Nat → Int32) → (Nat → Int32) → (Nat → Int32) → (Nat → Int32) → (Int32) → (Nat → Int32) → (Nat → Int32) → (Nat → Int32) → ((Int32) × (Nat → Int32) × (Nat → Int32) × (Nat → Int32) × (Nat → Int32) × (Int32) × (Nat → Int32) × (Nat → Int32) × (Nat → Int32))) (x113 : Int32) (rs_147 : Nat → Int32) (ri_148 : Nat → Int32) (ra_149 : Nat → Int32) (rg_150 : Nat → Int32) (ysz_151 : Int32) (ya_152 : Nat → Int32) (yb_153 : Nat → Int32) (yc_154 : Nat → Int32) : (Int32) × (Nat → Int32) × (Nat → Int32) × (Nat → Int32) × (Nat → Int32) × (Int32) × (Nat → Int32) × (Nat → Int32) × (Nat → Int32) := (rec_2 (x113 + 1) (1 : Int32) rs_147 ri_148 ra_149 rg_150 ysz_151 ya_152 yb_153 yc_154)
def K_changeRails_13 (rec_2 : (Int32) → (Int32) → (Nat → Int32) → (Nat → Int32) → (Nat → Int32) → (Nat → Int32) → (Int32) → (Nat → Int32) → (Nat → Int32) → (Nat → Int32) → ((Int32) × (Nat → Int32) × (Nat → Int32) × (Nat → Int32) × (Nat → Int32) × (Int32) × (Nat → Int32) × (Nat → Int32) × (Nat → Int32))) (x113 : Int32) (r142 : Int32) (f115 : Nat → Int32) (f116 : Nat → Int32) (f117 : Nat → Int32) (f118 : Nat → Int32) (x119 : Int32) (f120 : Nat → Int32) (tick : Int32) (f121 : Nat → Int32) (f122 : Nat → Int32) : (Int32) × (Nat → Int32) × (Nat → Int32) × (Nat → Int32) × (Nat → Int32) × (Int32) × (Nat → Int32) × (Nat → Int32) × (Nat → Int32) := ((fun t9 => (K_changeRails_14 rec_2 x113 t9.1 t9.2.1 t9.2.2.1 t9.2.2.2.1 t9.2.2.2.2.1 t9.2.2.2.2.2.1 t9.2.2.2.2.2.2.1 t9.2.2.2.2.2.2.2)) (M_become r142 f115 x113 f116 f117 f118 x119 f120 tick f121 f122))
def K_changeRails_11 (r142 : Int32) (f115 : Nat → Int32) (x113 : Int32) (rec_2 : (Int32) → (Int32) → (Nat → Int32) → (Nat → Int32) → (Nat → Int32) → (Nat → Int32) → (Int32) → (Nat → Int32) → (Nat → Int32) → (Nat → Int32) → ((Int32) × (Nat → Int32) × (Nat → Int32) × (Nat → Int32) × (Nat → Int32) × (Int32) × (Nat → Int32) × (Nat → Int32) × (Nat → Int32))) (x114 : Int32) (f116 : Nat → Int32) (f117 : Nat → Int32) (f118 : Nat → Int32) (x119 : Int32) (f120 : Nat → Int32) (f121 : Nat → Int32) (f122 : Nat → Int32) (tick : Int32) : (Int32) × (Nat → Int32) × (Nat → Int32) × (Nat → Int32) × (Nat → Int32) × (Int32) × (Nat → Int32) × (Nat → Int32) × (Nat → Int32) := (if r142.toInt = (f115 x113.toNatClampNeg).toInt then (K_changeRails_12 rec_2 x113 x114 f115 f116 f117 f118 x119 f120 f121 f122) else (K_changeRails_13 rec_2 x113 r142 f115 f116 f117 f118 x119 f120 tick f121 f122))
def K_changeRails_6 (f115 : Nat → Int32) (x113 : Int32) (rec_2 : (Int32) → (Int32) → (Nat → Int32) → (Nat → Int32) → (Nat → Int32) → (Nat → Int32) → (Int32) → (Nat → Int32) → (Nat → Int32) → (Nat → Int32) → ((Int32) × (Nat → Int32) × (Nat → Int32) × (Nat → Int32) × (Nat → Int32) × (Int32) × (Nat → Int32) × (Nat → Int32) × (Nat → Int32))) (x114 : Int32) (f116 : Nat → Int32) (f117 : Nat → Int32) (f118 : Nat → Int32) (x119 : Int32) (f120 : Nat → Int32) (f121 : Nat → Int32) (f122 : Nat → Int32) (tick : Int32) (dead : Int32) (pn : Nat → Int32) (rt : Nat → Int32) : (Int32) × (Nat → Int32) × (Nat → Int32) × (Nat → Int32) × (Nat → Int32) × (Int32) × (Nat → Int32) × (Nat → Int32) × (Nat → Int32) := ((fun t9 => (K_changeRails_11 t9 f115 x113 rec_2 x114 f116 f117 f118 x119 f120 f121 f122 tick)) (M_nextState dead x113 f115 (1 : Int32) f116 pn rt))
def K_changeRails_8 (rec_2 : (Int32) → (Int32) → (Nat → Int32) → (Nat → Int32) → (Nat → Int32) → (Nat → Int32) → (Int32) → (Nat → Int32) → (Nat → Int32) → (Nat → Int32) → ((Int32) × (Nat → Int32) × (Nat → Int32) × (Nat → Int32) × (Nat → Int32) × (Int32) × (Nat → Int32) × (Nat → Int32) × (Nat → Int32))) (x113 : Int32) (x114 : Int32) (f115 : Nat → Int32) (f116 : Nat → Int32) (f117 : Nat → Int32) (f118 : Nat → Int32) (x119 : Int32) (f120 : Nat → Int32) (f121 : Nat → Int32) (f122 : Nat → Int32) : (Int32) × (Nat → Int32) × (Nat → Int32) × (Nat → Int32) × (Nat → Int32) × (Int32) × (Nat → Int32) × (Nat → Int32) × (Nat → Int32) := (rec_2 (x113 + 1) x114 f115 f116 f117 f118 x119 f120 f121 f122)
def K_changeRails_10 (rec_2 : (Int32) → (Int32) → (Nat → Int32) → (Nat → Int32) → (Nat → Int32) → (Nat → Int32) → (Int32) → (Nat → Int32) → (Nat → Int32) → (Nat → Int32) → ((Int32) × (Nat → Int32) × (Nat → Int32) × (Nat → Int32) × (Nat → Int32) × (Int32) × (Nat → Int32) × (Nat → Int32) × (Nat → Int32))) (x113 : Int32) (rs_133 : Nat → Int32) (ri_134 : Nat → Int32) (ra_135 : Nat → Int32) (rg_136 : Nat → Int32) (ysz_137 : Int32) (ya_138 : Nat → Int32) (yb_139 : Nat → Int32) (yc_140 : Nat → Int32) : (Int32) × (Nat → Int32) × (Nat → Int32) × (Nat → Int32) × (Nat → Int32) × (Int32) × (Nat → Int32) × (Nat → Int32) × (Nat → Int32) := (rec_2 (x113 + 1) (1 : Int32) rs_133 ri_134 ra_135 rg_136 ysz_137 ya_138 yb_139 yc_140)
def K_changeRails_9 (rec_2 : (Int32) → (Int32) → (Nat → Int32) → (Nat → Int32) → (Nat → Int32) → (Nat → Int32) → (Int32) → (Nat → Int32) → (Nat → Int32) → (Nat → Int32) → ((Int32) × (Nat → Int32) × (Nat → Int32) × (Nat → Int32) × (Nat → Int32) × (Int32) × (Nat → Int32) × (Nat → Int32) × (Nat → Int32))) (x113 : Int32) (r128 : Int32) (f115 : Nat → Int32) (f116 : Nat → Int32) (f117 : Nat → Int32) (f118 : Nat → Int32) (x119 : Int32) (f120 : Nat → Int32) (tick : Int32) (f121 : Nat → Int32) (f122 : Nat → Int32) : (Int32) × (Nat → Int32) × (Nat → Int32) × (Nat → Int32) × (Nat → Int32) × (Int32) × (Nat → Int32) × (Nat → Int32) × (Nat → Int32) := ((fun t9 => (K_changeRails_10 rec_2 x113 t9.1 t9.2.1 t9.2.2.1 t9.2.2.2.1 t9.2.2.2.2.1 t9.2.2.2.2.2.1 t9.2.2.2.2.2.2.1 t9.2.2.2.2.2.2.2)) (M_become r128 f115 x113 f116 f117 f118 x119 f120 tick f121 f122))
def K_changeRails_7 (r128 : Int32) (f115 : Nat → Int32) (x113 : Int32) (rec_2 : (Int32) → (Int32) → (Nat → Int32) → (Nat → Int32) → (Nat → Int32) → (Nat → Int32) → (Int32) → (Nat → Int32) → (Nat → Int32) → (Nat → Int32) → ((Int32) × (Nat → Int32) × (Nat → Int32) × (Nat → Int32) × (Nat → Int32) × (Int32) × (Nat → Int32) × (Nat → Int32) × (Nat → Int32))) (x114 : Int32) (f116 : Nat → Int32) (f117 : Nat → Int32) (f118 : Nat → Int32) (x119 : Int32) (f120 : Nat → Int32) (f121 : Nat → Int32) (f122 : Nat → Int32) (tick : Int32) : (Int32) × (Nat → Int32) × (Nat → Int32) × (Nat → Int32) × (Nat → Int32) × (Int32) × (Nat → Int32) × (Nat → Int32) × (Nat → Int32) := (if r128.toInt = (f115 x113.toNatClampNeg).toInt then (K_changeRails_8 rec_2 x113 x114 f115 f116 f117 f118 x119 f120 f121 f122) else (K_changeRails_9 rec_2 x113 r128 f115 f116 f117 f118 x119 f120 tick f121 f122))
def K_changeRails_5 (f115 : Nat → Int32) (x113 : Int32) (rec_2 : (Int32) → (Int32) → (Nat → Int32) → (Nat → Int32) → (Nat → Int32) → (Nat → Int32) → (Int32) → (Nat → Int32) → (Nat → Int32) → (Nat → Int32) → ((Int32) × (Nat → Int32) × (Nat → Int32) × (Nat → Int32) × (Nat → Int32) × (Int32) × (Nat → Int32) × (Nat → Int32) × (Nat → Int32))) (x114 : Int32) (f116 : Nat → Int32) (f117 : Nat → Int32) (f118 : Nat → Int32) (x119 : Int32) (f120 : Nat → Int32) (f121 : Nat → Int32) (f122 : Nat → Int32) (tick : Int32) (dead : Int32) (pn : Nat → Int32) (rt : Nat → Int32) : (Int32) × (Nat → Int32) × (Nat → Int32) × (Nat → Int32) × (Nat → Int32) × (Int32) × (Nat → Int32) × (Nat → Int32) × (Nat → Int32) := ((fun t9 => (K_changeRails_7 t9 f115 x113 rec_2 x114 f116 f117 f118 x119 f120 f121 f122 tick)) (M_nextState dead x113 f115 (0 : Int32) f116 pn rt))
def K_changeRails_4 (may : Int32) (x113 : Int32) (f115 : Nat → Int32) (rec_2 : (Int32) → (Int32) → (Nat → Int32) → (Nat → Int32) → (Nat → Int32) → (Nat → Int32) → (Int32) → (Nat → Int32) → (Nat → Int32) → (Nat → Int32) → ((Int32) × (Nat → Int32) × (Nat → Int32) × (Nat → Int32) × (Nat → Int32) × (Int32) × (Nat → Int32) × (Nat → Int32) × (Nat → Int32))) (x114 : Int32) (f116 : Nat → Int32) (f117 : Nat → Int32) (f118 : Nat → Int32) (x119 : Int32) (f120 : Nat → Int32) (f121 : Nat → Int32) (f122 : Nat → Int32) (tick : Int32) (dead : Int32) (pn : Nat → Int32) (rt : Nat → Int32) : (Int32) × (Nat → Int32) × (Nat → Int32) × (Nat → Int32) × (Nat → Int32) × (Int32) × (Nat → Int32) × (Nat → Int32) × (Nat → Int32) := (if ((may >>> (x113 &&& 31)) &&& (1 : Int32)).toInt = 1 then (K_changeRails_6 f115 x113 rec_2 x114 f116 f117 f118 x119 f120 f121 f122 tick dead pn rt) else (K_changeRails_5 f115 x113 rec_2 x114 f116 f117 f118 x119 f120 f121 f122 tick dead pn rt))
def K_changeRails_2 (rails : Int32) (x113 : Int32) (x114 : Int32) (f115 : Nat → Int32) (f116 : Nat → Int32) (f117 : Nat → Int32) (f118 : Nat → Int32) (x119 : Int32) (f120 : Nat → Int32) (f121 : Nat → Int32) (f122 : Nat → Int32) (may : Int32) (rec_2 : (Int32) → (Int32) → (Nat → Int32) → (Nat → Int32) → (Nat → Int32) → (Nat → Int32) → (Int32) → (Nat → Int32) → (Nat → Int32) → (Nat → Int32) → ((Int32) × (Nat → Int32) × (Nat → Int32) × (Nat → Int32) × (Nat → Int32) × (Int32) × (Nat → Int32) × (Nat → Int32) × (Nat → Int32))) (tick : Int32) (dead : Int32) (pn : Nat → Int32) (rt : Nat → Int32) : (Int32) × (Nat → Int32) × (Nat → Int32) × (Nat → Int32) × (Nat → Int32) × (Int32) × (Nat → Int32) × (Nat → Int32) × (Nat → Int32) := (if rails.toInt ≤ x113.toInt then (K_changeRails_3 x114 f115 f116 f117 f118 x119 f120 f121 f122) else (K_changeRails_4 may x113 f115 rec_2 x114 f116 f117 f118 x119 f120 f121 f122 tick dead pn rt))
def K_changeRails_L2 (rails : Int32) (may : Int32) (tick : Int32) (dead : Int32) (pn : Nat → Int32) (rt : Nat → Int32) : Nat → (Int32) → (Int32) → (Nat → Int32) → (Nat → Int32) → (Nat → Int32) → (Nat → Int32) → (Int32) → (Nat → Int32) → (Nat → Int32) → (Nat → Int32) → (Int32) × (Nat → Int32) × (Nat → Int32) × (Nat → Int32) × (Nat → Int32) × (Int32) × (Nat → Int32) × (Nat → Int32) × (Nat → Int32)
  | 0, _, _, _, _, _, _, _, _, _, _ => (0, fun _ => 0, fun _ => 0, fun _ => 0, fun _ => 0, 0, fun _ => 0, fun _ => 0, fun _ => 0)
  | n9 + 1, x113, x114, f115, f116, f117, f118, x119, f120, f121, f122 => (K_changeRails_2 rails x113 x114 f115 f116 f117 f118 x119 f120 f121 f122 may (K_changeRails_L2 rails may tick dead pn rt n9) tick dead pn rt)
def K_changeRails_1 (rails : Int32) (may : Int32) (tick : Int32) (dead : Int32) (pn : Nat → Int32) (rt : Nat → Int32) (rs : Nat → Int32) (ri : Nat → Int32) (ra : Nat → Int32) (rg : Nat → Int32) (ysz : Int32) (ya : Nat → Int32) (yb : Nat → Int32) (yc : Nat → Int32) : (Int32) × (Nat → Int32) × (Nat → Int32) × (Nat → Int32) × (Nat → Int32) × (Int32) × (Nat → Int32) × (Nat → Int32) × (Nat → Int32) := (K_changeRails_L2 rails may tick dead pn rt 100000 (0 : Int32) (0 : Int32) rs ri ra rg ysz ya yb yc)
def M_changeRails (rails : Int32) (may : Int32) (tick : Int32) (dead : Int32) (pn : Nat → Int32) (rt : Nat → Int32) (rs : Nat → Int32) (ri : Nat → Int32) (ra : Nat → Int32) (rg : Nat → Int32) (ysz : Int32) (ya : Nat → Int32) (yb : Nat → Int32) (yc : Nat → Int32) : (Int32) × (Nat → Int32) × (Nat → Int32) × (Nat → Int32) × (Nat → Int32) × (Int32) × (Nat → Int32) × (Nat → Int32) × (Nat → Int32) := (K_changeRails_1 rails may tick dead pn rt rs ri ra rg ysz ya yb yc)
abbrev W_changeRails (cI cJ cZ cG cH : ClassId) (rn : Nat) (pl : Nat) (may : Int32) (hy : Nat) (rsa : Nat) (ria : Nat) (raa : Nat) (rta : Nat) (rga : Nat) (dead : Int32) (key : Int32) (tick : Int32) (held : Int32) (tries : Int32) (trips : Int32) (ldraw : Int32) (gdraw : Int32) (rs : Nat → Int32) (ri : Nat → Int32) (ra : Nat → Int32) (rt : Nat → Int32) (rg : Nat → Int32) (yaa : Nat) (yba : Nat) (yca : Nat) (ysz : Int32) (ya : Nat → Int32) (yb : Nat → Int32) (yc : Nat → Int32) (pna : Nat) (pta : Nat) (rails : Int32) (limit : Int32) (retry : Int32) (behind : Int32) (pn : Nat → Int32) : va_W := [oX5 rn hy rsa ria raa rta rga dead key tick held tries trips ldraw gdraw, oAI rsa cI 8 rs, oAI ria cI 8 ri, oAI raa cI 8 ra, oAI rta cI 8 rt, oAI rga cI 8 rg, oX2 hy yaa yba yca ysz, oAI yaa cI 64 ya, oAI yba cI 64 yb, oAI yca cI 64 yc, oX3 pl pna pta rails limit retry behind, oAI pna cI 64 pn]
abbrev Q_changeRails (D : va_G) (cI cJ cZ cG cH : ClassId) (rn : Nat) (pl : Nat) (may : Int32) (hy : Nat) (rsa : Nat) (ria : Nat) (raa : Nat) (rta : Nat) (rga : Nat) (dead : Int32) (key : Int32) (tick : Int32) (held : Int32) (tries : Int32) (trips : Int32) (ldraw : Int32) (gdraw : Int32) (rs : Nat → Int32) (ri : Nat → Int32) (ra : Nat → Int32) (rt : Nat → Int32) (rg : Nat → Int32) (yaa : Nat) (yba : Nat) (yca : Nat) (ysz : Int32) (ya : Nat → Int32) (yb : Nat → Int32) (yc : Nat → Int32) (pna : Nat) (pta : Nat) (rails : Int32) (limit : Int32) (retry : Int32) (behind : Int32) (pn : Nat → Int32) (A : Nat → Prop) : Array Value → State → Outcome → State → Prop := va_Qi (fun (r : Int32) (u9 : Int32) => r = u9 ∧ (0 ≤ r.toInt ∧ r.toInt ≤ 1)) (fun u9 t => ∃ (rs9 : Nat → Int32) (ri9 : Nat → Int32) (ra9 : Nat → Int32) (rg9 : Nat → Int32) (ysz9 : Int32) (ya9 : Nat → Int32) (yb9 : Nat → Int32) (yc9 : Nat → Int32), (0 ≤ ysz9.toInt ∧ ysz9.toInt ≤ 64) ∧ (M_changeRails rails may tick dead pn rt rs ri ra rg ysz ya yb yc = (u9, rs9, ri9, ra9, rg9, ysz9, ya9, yb9, yc9)) ∧ xB D (tyL cI cJ cZ cG cH) [oX5 rn hy rsa ria raa rta rga dead key tick held tries trips ldraw gdraw, oAI rsa cI 8 rs9, oAI ria cI 8 ri9, oAI raa cI 8 ra9, oAI rta cI 8 rt, oAI rga cI 8 rg9, oX2 hy yaa yba yca ysz9, oAI yaa cI 64 ya9, oAI yba cI 64 yb9, oAI yca cI 64 yc9, oX3 pl pna pta rails limit retry behind, oAI pna cI 64 pn] A t) A
abbrev rm_changeRails : Room := { frames := 2, cells := 0, slots := 0, locals := 46 }
set_option maxRecDepth 100000 in
set_option maxHeartbeats 40000000 in
theorem c_changeRails (l : Launch) (D : va_G) (cI cJ cZ cG cH : ClassId) (sz : Nat) (rn : Nat) (pl : Nat) (may : Int32) (hy : Nat) (rsa : Nat) (ria : Nat) (raa : Nat) (rta : Nat) (rga : Nat) (dead : Int32) (key : Int32) (tick : Int32) (held : Int32) (tries : Int32) (trips : Int32) (ldraw : Int32) (gdraw : Int32) (rs : Nat → Int32) (ri : Nat → Int32) (ra : Nat → Int32) (rt : Nat → Int32) (rg : Nat → Int32) (yaa : Nat) (yba : Nat) (yca : Nat) (ysz : Int32) (ya : Nat → Int32) (yb : Nat → Int32) (yc : Nat → Int32) (pna : Nat) (pta : Nat) (rails : Int32) (limit : Int32) (retry : Int32) (behind : Int32) (pn : Nat → Int32) (h_key : 0 ≤ key.toInt ∧ key.toInt ≤ 1) (h_rt : ∀ j, j < 8 → 0 ≤ (rt j).toInt ∧ (rt j).toInt ≤ 511) (h_ysz : 0 ≤ ysz.toInt ∧ ysz.toInt ≤ 64) (h_rails : 0 ≤ rails.toInt ∧ rails.toInt ≤ 8) (h_pn : ∀ j, j < 64 → 0 ≤ (pn j).toInt ∧ (pn j).toInt ≤ 511) : Met l yX5_changeRails (wt yX5_changeRails cX5_changeRails 6 (some .boolean)) rm_changeRails (xPc [.ref rn, .ref pl, .int may] D (tyL cI cJ cZ cG cH) (W_changeRails cI cJ cZ cG cH rn pl may hy rsa ria raa rta rga dead key tick held tries trips ldraw gdraw rs ri ra rt rg yaa yba yca ysz ya yb yc pna pta rails limit retry behind pn) sz) (Q_changeRails D cI cJ cZ cG cH rn pl may hy rsa ria raa rta rga dead key tick held tries trips ldraw gdraw rs ri ra rt rg yaa yba yca ysz ya yb yc pna pta rails limit retry behind pn (va_A (W_changeRails cI cJ cZ cG cH rn pl may hy rsa ria raa rta rga dead key tick held tries trips ldraw gdraw rs ri ra rt rg yaa yba yca ysz ya yb yc pna pta rails limit retry behind pn) sz)) 0 0 (va_A (W_changeRails cI cJ cZ cG cH rn pl may hy rsa ria raa rta rga dead key tick held tries trips ldraw gdraw rs ri ra rt rg yaa yba yca ysz ya yb yc pna pta rails limit retry behind pn) sz) := by
  refine xMet (cc := cX5_changeRails) (maxL := 6) (ret := (some .boolean)) (Qf := Q_changeRails D cI cJ cZ cG cH rn pl may hy rsa ria raa rta rga dead key tick held tries trips ldraw gdraw rs ri ra rt rg yaa yba yca ysz ya yb yc pna pta rails limit retry behind pn) (by decide) rfl (Nat.le_of_ble_eq_true rfl) ?_
  intro p e s m below meth c ls A hx hb hr hml hts hown hlocks hnm hsz hP hK hD hA hS hl
  have hown : s.vm.findClass RX5 = some m.cls := hown
  have hP : va_P D vwCl [oX5 rn hy rsa ria raa rta rga dead key tick held tries trips ldraw gdraw, oAI rsa cI 8 rs, oAI ria cI 8 ri, oAI raa cI 8 ra, oAI rta cI 8 rt, oAI rga cI 8 rg, oX2 hy yaa yba yca ysz, oAI yaa cI 64 ya, oAI yba cI 64 yb, oAI yca cI 64 yc, oX3 pl pna pta rails limit retry behind, oAI pna cI 64 pn] s.heap := hP
  have hD : va_D A [oX5 rn hy rsa ria raa rta rga dead key tick held tries trips ldraw gdraw, oAI rsa cI 8 rs, oAI ria cI 8 ri, oAI raa cI 8 ra, oAI rta cI 8 rt, oAI rga cI 8 rg, oX2 hy yaa yba yca ysz, oAI yaa cI 64 ya, oAI yba cI 64 yb, oAI yca cI 64 yc, oX3 pl pna pta rails limit retry behind, oAI pna cI 64 pn] := hD
  have hl : lv_has ls 6 [(0, .ref rn), (1, .ref pl), (2, .int may)] := hl
  have hM : M_changeRails rails may tick dead pn rt rs ri ra rg ysz ya yb yc = (K_changeRails_1 rails may tick dead pn rt rs ri ra rg ysz ya yb yc) := rfl
  refine lv_iconst (v := 0) hx hb dX5_changeRails_0 (by decide) ?_
  refine lv_istore_n (lv' := [(3, .int 0), (0, .ref rn), (1, .ref pl), (2, .int may)]) hx hb dX5_changeRails_1 rfl hl (by decide) rfl (fun ls hl => ?_)
  refine lv_iconst (v := 0) hx hb dX5_changeRails_2 (by decide) ?_
  refine lv_istore (lv' := [(4, .int 0), (3, .int 0), (0, .ref rn), (1, .ref pl), (2, .int may)]) hx hb dX5_changeRails_3 hl (by decide) rfl (fun ls hl => ?_)
  have hl123 : ∀ (nhl123 : Nat) (x113 : Int32) (x114 : Int32) (f115 : Nat → Int32) (f116 : Nat → Int32) (f117 : Nat → Int32) (f118 : Nat → Int32) (x119 : Int32) (f120 : Nat → Int32) (f121 : Nat → Int32) (f122 : Nat → Int32), ((8 - x113.toInt).toNat < nhl123) → (hx113 : 0 ≤ x113.toInt ∧ x113.toInt ≤ 8) → (hx114 : 0 ≤ x114.toInt ∧ x114.toInt ≤ 1) → (hx119 : 0 ≤ x119.toInt ∧ x119.toInt ≤ 64) → (hM : M_changeRails rails may tick dead pn rt rs ri ra rg ysz ya yb yc = (K_changeRails_L2 rails may tick dead pn rt nhl123 x113 x114 f115 f116 f117 f118 x119 f120 f121 f122)) → ∀ (H : Heap) (locs : List Loc), va_P D vwCl [oX5 rn hy rsa ria raa rta rga dead key tick held tries trips ldraw gdraw, oAI rsa cI 8 f115, oAI ria cI 8 f116, oAI raa cI 8 f117, oAI rta cI 8 rt, oAI rga cI 8 f118, oX2 hy yaa yba yca x119, oAI yaa cI 64 f120, oAI yba cI 64 f121, oAI yca cI 64 f122, oX3 pl pna pta rails limit retry behind, oAI pna cI 64 pn] H → va_D A [oX5 rn hy rsa ria raa rta rga dead key tick held tries trips ldraw gdraw, oAI rsa cI 8 f115, oAI ria cI 8 f116, oAI raa cI 8 f117, oAI rta cI 8 rt, oAI rga cI 8 f118, oX2 hy yaa yba yca x119, oAI yaa cI 64 f120, oAI yba cI 64 f121, oAI yca cI 64 f122, oX3 pl pna pta rails limit retry behind, oAI pna cI 64 pn] → va_S A s.heap H locs → ∀ (ls : Array Slot), lv_has ls 6 [(4, .int x113), (3, .int x114), (0, .ref rn), (1, .ref pl), (2, .int may)] → W p l e rm_changeRails s m [Value.ref rn, Value.ref pl, Value.int may].toArray below meth c H locs 0 0 (MQ below ((Q_changeRails D cI cJ cZ cG cH rn pl may hy rsa ria raa rta rga dead key tick held tries trips ldraw gdraw rs ri ra rt rg yaa yba yca ysz ya yb yc pna pta rails limit retry behind pn) A) [Value.ref rn, Value.ref pl, Value.int may].toArray s 0 0 A) (F0 m 5 ls []) := by
    intro nhl123
    induction nhl123 with
    | zero =>
      intro x113 x114 f115 f116 f117 f118 x119 f120 f121 f122 hmhl123
      exact absurd hmhl123 (Nat.not_lt_zero _)
    | succ nhl123 ihhl123 =>
      intro x113 x114 f115 f116 f117 f118 x119 f120 f121 f122 hmhl123 hx113 hx114 hx119 hM H locs hP hD hS ls hl
      have hM : M_changeRails rails may tick dead pn rt rs ri ra rg ysz ya yb yc = (K_changeRails_2 rails x113 x114 f115 f116 f117 f118 x119 f120 f121 f122 may (K_changeRails_L2 rails may tick dead pn rt nhl123) tick dead pn rt) := hM
      refine lv_iload hx hb dX5_changeRails_5 (lv_at hl 0 rfl) ?_
      refine lv_aload_n hx hb dX5_changeRails_7 rfl (lv_at hl 3 rfl) ?_
      refine va_get (D := D) (ci := 2) (v := .int rails) (C := RX3) (T := TX3) (N := 6) hx hb hts (fun w h => tbC w (tbfX3 w h)) hown hK hP 10 rfl rfl 2 (by decide) (hts (.fieldLink RX5 106 "PowerRails$Plan" "rails" "I") (tbC _ wd209)) (fun _ h9 => h9) rfl dX5_changeRails_8 ?_
      refine lv_icmp_ge (tgt := 66) hx hb dX5_changeRails_11 (by decide) (fun c_124 => ?_) (fun c_124 => ?_)
      · skip
        have i_124 : rails.toInt ≤ x113.toInt := (ile rfl rfl).mp c_124
        have hM : M_changeRails rails may tick dead pn rt rs ri ra rg ysz ya yb yc = (K_changeRails_3 x114 f115 f116 f117 f118 x119 f120 f121 f122) := (show M_changeRails rails may tick dead pn rt rs ri ra rg ysz ya yb yc = (if rails.toInt ≤ x113.toInt then (K_changeRails_3 x114 f115 f116 f117 f118 x119 f120 f121 f122) else (K_changeRails_4 may x113 f115 (K_changeRails_L2 rails may tick dead pn rt nhl123) x114 f116 f117 f118 x119 f120 f121 f122 tick dead pn rt)) from hM).trans (if_pos i_124)
        refine lv_iload_n hx hb dX5_changeRails_66 rfl (lv_at hl 1 rfl) ?_
        refine W.widen (k := 0) (n := 0) (by decide) (by decide) ?_
        exact W.zret (v := x114) hx hb hr (xnb (xrng rfl (by omega) (by omega))).1 (fun t ht hW => ⟨⟨x114, x114, rfl, ⟨rfl, (xrng rfl (by omega) (by omega))⟩, ⟨f115, f116, f117, f118, x119, f120, f121, f122, (xrng rfl (by omega) (by omega)), hM, xB_of9 ht hW hP hK hD [0, 1, 2, 3, 4, 5, 6, 7, 8, 9, 10, 11] (by decide +kernel) rfl⟩⟩, hS.F ht⟩) hS.2.2 dX5_changeRails_67
      · skip
        have i_124 : ¬ (rails.toInt ≤ x113.toInt) := fun h9 => c_124 ((ile rfl rfl).mpr h9)
        have hM : M_changeRails rails may tick dead pn rt rs ri ra rg ysz ya yb yc = (K_changeRails_4 may x113 f115 (K_changeRails_L2 rails may tick dead pn rt nhl123) x114 f116 f117 f118 x119 f120 f121 f122 tick dead pn rt) := (show M_changeRails rails may tick dead pn rt rs ri ra rg ysz ya yb yc = (if rails.toInt ≤ x113.toInt then (K_changeRails_3 x114 f115 f116 f117 f118 x119 f120 f121 f122) else (K_changeRails_4 may x113 f115 (K_changeRails_L2 rails may tick dead pn rt nhl123) x114 f116 f117 f118 x119 f120 f121 f122 tick dead pn rt)) from hM).trans (if_neg i_124)
        refine lv_aload_n hx hb dX5_changeRails_14 rfl (lv_at hl 2 rfl) ?_
        refine lv_aload_n hx hb dX5_changeRails_15 rfl (lv_at hl 3 rfl) ?_
        refine lv_iload hx hb dX5_changeRails_16 (lv_at hl 0 rfl) ?_
        refine lv_iload_n hx hb dX5_changeRails_18 rfl (lv_at hl 4 rfl) ?_
        refine lv_iload hx hb dX5_changeRails_19 (lv_at hl 0 rfl) ?_
        refine lv_ishr hx hb dX5_changeRails_21 ?_
        refine lv_topi (fun v125 ev125 => ?_)
        refine lv_iconst (v := 1) hx hb dX5_changeRails_22 (by decide) ?_
        refine lv_iand hx hb dX5_changeRails_23 ?_
        refine lv_topi (fun v126 ev126 => ?_)
        have rv126 : 0 ≤ v126.toInt ∧ v126.toInt ≤ 1 := xandL ev126 (show (1 : Int32).toInt = 1 from (by decide)) (by omega)
        refine lv_iconst (v := 1) hx hb dX5_changeRails_24 (by decide) ?_
        refine lv_icmp_ne (tgt := 32) hx hb dX5_changeRails_25 (by decide) (fun c_127 => ?_) (fun c_127 => ?_)
        · skip
          have i_127 : ¬ (v126.toInt = 1) := fun h9 => c_127 ((ieq rfl (by decide)).mpr h9)
          have hM : M_changeRails rails may tick dead pn rt rs ri ra rg ysz ya yb yc = (K_changeRails_5 f115 x113 (K_changeRails_L2 rails may tick dead pn rt nhl123) x114 f116 f117 f118 x119 f120 f121 f122 tick dead pn rt) := (show M_changeRails rails may tick dead pn rt rs ri ra rg ysz ya yb yc = (if v126.toInt = 1 then (K_changeRails_6 f115 x113 (K_changeRails_L2 rails may tick dead pn rt nhl123) x114 f116 f117 f118 x119 f120 f121 f122 tick dead pn rt) else (K_changeRails_5 f115 x113 (K_changeRails_L2 rails may tick dead pn rt nhl123) x114 f116 f117 f118 x119 f120 f121 f122 tick dead pn rt)) from (by rw [ev126, ev125]; exact hM)).trans (if_neg i_127)
          refine lv_iconst (v := 0) hx hb dX5_changeRails_32 (by decide) ?_
          obtain ⟨hPc, hDc, hFc, hC9⟩ := xpk (wc := W_nextState cI cJ cZ cG cH rn pl x113 (0 : Int32) hy rsa ria raa rta rga dead key tick held tries trips ldraw gdraw f115 f116 rt pna pta rails limit retry behind pn) hP hD hS hA [0, 1, 2, 4, 10, 11] (by decide +kernel) rfl
          refine va_calli (va_runV (As := [.ref pl, .int x113, .int 0]) (rest := []) ⟨hx, hb, hml, hown, hts⟩ (c_nextState l D cI cJ cZ cG cH H.size rn pl x113 (0 : Int32) hy rsa ria raa rta rga dead key tick held tries trips ldraw gdraw f115 f116 rt pna pta rails limit retry behind pn (xrng rfl (by omega) (by omega)) (xrng rfl (by omega) (by omega)) (xwk_rng h_rt (by decide) (by decide)) (xrng rfl (by omega) (by omega)) (xwk_rng h_pn (by decide) (by decide))) (cwV 3 hts (xGV tbC wd471 wd472 wd473 wd52 wd1029) rfl rfl rfl (by decide +kernel) ⟨Nat.le_of_ble_eq_true rfl, Nat.le_of_ble_eq_true rfl⟩) ⟨xPc_blind, va_recv hK hPc (ci := 4) (q0 := 0) rfl rfl, xPc_pre hPc hK hDc⟩ rfl rfl hl.1 rfl (lv_room (Nat.le_of_ble_eq_true rfl)) dX5_changeRails_33 ⟨Nat.le_of_ble_eq_true rfl, Nat.le_of_ble_eq_true rfl⟩) hS (fun q _ h => hFc q h) hFc (fun r128 u t H1 locs ht hvm hw128 hB hz1 hk1 hS => ?_)
          obtain ⟨hru9, hw128⟩ := hw128
          subst hru9
          obtain ⟨hf128_0, hP1, hK1, hD1⟩ := hB
          rw [ht] at hP1
          obtain ⟨hP, hD⟩ : xPD D A [oAI raa cI 8 f117, oAI rga cI 8 f118, oX2 hy yaa yba yca x119, oAI yaa cI 64 f120, oAI yba cI 64 f121, oAI yca cI 64 f122, oX5 rn hy rsa ria raa rta rga dead key tick held tries trips ldraw gdraw, oAI rsa cI 8 f115, oAI ria cI 8 f116, oAI rta cI 8 rt, oX3 pl pna pta rails limit retry behind, oAI pna cI 64 pn] H1 := xjn 6 hP hD [0, 1, 2, 4, 10, 11] [3, 5, 6, 7, 8, 9] hC9 rfl (by decide +kernel) (by decide +kernel) hk1 hFc hP1 hD1
          generalize H1 = H at hP hS ⊢
          have hf128_0 : M_nextState dead x113 f115 (0 : Int32) f116 pn rt = (r128) := hf128_0
          have hw128 : 0 ≤ r128.toInt ∧ r128.toInt ≤ 4 := hw128
          have h9M := congrArg (fun t9 => (K_changeRails_7 t9 f115 x113 (K_changeRails_L2 rails may tick dead pn rt nhl123) x114 f116 f117 f118 x119 f120 f121 f122 tick)) hf128_0
          have hM : M_changeRails rails may tick dead pn rt rs ri ra rg ysz ya yb yc = (K_changeRails_7 r128 f115 x113 (K_changeRails_L2 rails may tick dead pn rt nhl123) x114 f116 f117 f118 x119 f120 f121 f122 tick) := (show M_changeRails rails may tick dead pn rt rs ri ra rg ysz ya yb yc = ((fun t9 => (K_changeRails_7 t9 f115 x113 (K_changeRails_L2 rails may tick dead pn rt nhl123) x114 f116 f117 f118 x119 f120 f121 f122 tick)) (M_nextState dead x113 f115 (0 : Int32) f116 pn rt)) from hM).trans h9M
          refine lv_istore (lv' := [(5, .int r128), (4, .int x113), (3, .int x114), (0, .ref rn), (1, .ref pl), (2, .int may)]) hx hb dX5_changeRails_36 hl (by decide) rfl (fun ls hl => ?_)
          refine lv_iload hx hb dX5_changeRails_38 (lv_at hl 0 rfl) ?_
          refine lv_aload_n hx hb dX5_changeRails_40 rfl (lv_at hl 3 rfl) ?_
          refine va_get (D := D) (ci := 4) (v := .ref rsa) (C := RX5) (T := TX5) (N := 14) hx hb hts (fun w h => tbC w (tbfX5 w h)) hown hK hP 6 rfl rfl 1 (by decide) (hts (.fieldLink RX5 18 "PowerRails$Run" "states" "[I") (tbC _ wd108)) (fun _ h9 => h9) rfl dX5_changeRails_41 ?_
          refine lv_iload hx hb dX5_changeRails_44 (lv_at hl 1 rfl) ?_
          refine va_iald hx hb hK hP 7 0 rfl rfl (vp_in_iff.mpr ⟨by omega, by omega⟩) dX5_changeRails_46 ?_
          refine lv_topi (fun v129 ev129 => ?_)
          refine lv_icmp_eq (tgt := 60) hx hb dX5_changeRails_47 (by decide) (fun c_130 => ?_) (fun c_130 => ?_)
          · skip
            have i_130 : r128.toInt = v129.toInt := (ieq rfl rfl).mp c_130
            have hM : M_changeRails rails may tick dead pn rt rs ri ra rg ysz ya yb yc = (K_changeRails_8 (K_changeRails_L2 rails may tick dead pn rt nhl123) x113 x114 f115 f116 f117 f118 x119 f120 f121 f122) := (show M_changeRails rails may tick dead pn rt rs ri ra rg ysz ya yb yc = (if r128.toInt = v129.toInt then (K_changeRails_8 (K_changeRails_L2 rails may tick dead pn rt nhl123) x113 x114 f115 f116 f117 f118 x119 f120 f121 f122) else (K_changeRails_9 (K_changeRails_L2 rails may tick dead pn rt nhl123) x113 r128 f115 f116 f117 f118 x119 f120 tick f121 f122)) from (by rw [ev129]; exact hM)).trans (if_pos i_130)
            obtain ⟨x131, ex131⟩ : ∃ y : Int32, y = x113 + 1 := ⟨_, rfl⟩
            have tx131 : x131.toInt = (x113.toInt + 1) := (congrArg Int32.toInt ex131).trans (xadd rfl (by decide) (by omega) (by omega))
            refine lv_iinc (v := x131) (lv' := [(4, .int x131), (5, .int r128), (3, .int x114), (0, .ref rn), (1, .ref pl), (2, .int may)]) hx hb dX5_changeRails_60 hl (k := 1) rfl (by rw [ex131]; rfl) (by decide) rfl (fun ls hl => ?_)
            refine lv_goto (tgt := 5) hx hb dX5_changeRails_63 (by decide) ?_
            obtain ⟨hP, hD⟩ := xsb (ws' := [oX5 rn hy rsa ria raa rta rga dead key tick held tries trips ldraw gdraw, oAI rsa cI 8 f115, oAI ria cI 8 f116, oAI raa cI 8 f117, oAI rta cI 8 rt, oAI rga cI 8 f118, oX2 hy yaa yba yca x119, oAI yaa cI 64 f120, oAI yba cI 64 f121, oAI yca cI 64 f122, oX3 pl pna pta rails limit retry behind, oAI pna cI 64 pn]) hP hD [6, 7, 8, 0, 9, 1, 2, 3, 4, 5, 10, 11] (by decide +kernel) rfl
            exact ihhl123 x131 x114 f115 f116 f117 f118 x119 f120 f121 f122 (by omega) (xrng tx131 (by omega) (by omega)) (xrng rfl (by omega) (by omega)) (xrng rfl (by omega) (by omega)) (by rw [ex131]; exact hM) _ _ hP hD hS ls (lv_sub hl [0, 2, 3, 4, 5] rfl)
          · skip
            have i_130 : ¬ (r128.toInt = v129.toInt) := fun h9 => c_130 ((ieq rfl rfl).mpr h9)
            have hM : M_changeRails rails may tick dead pn rt rs ri ra rg ysz ya yb yc = (K_changeRails_9 (K_changeRails_L2 rails may tick dead pn rt nhl123) x113 r128 f115 f116 f117 f118 x119 f120 tick f121 f122) := (show M_changeRails rails may tick dead pn rt rs ri ra rg ysz ya yb yc = (if r128.toInt = v129.toInt then (K_changeRails_8 (K_changeRails_L2 rails may tick dead pn rt nhl123) x113 x114 f115 f116 f117 f118 x119 f120 f121 f122) else (K_changeRails_9 (K_changeRails_L2 rails may tick dead pn rt nhl123) x113 r128 f115 f116 f117 f118 x119 f120 tick f121 f122)) from (by rw [ev129]; exact hM)).trans (if_neg i_130)
            refine lv_aload_n hx hb dX5_changeRails_50 rfl (lv_at hl 3 rfl) ?_
            refine lv_iload hx hb dX5_changeRails_51 (lv_at hl 1 rfl) ?_
            refine lv_iload hx hb dX5_changeRails_53 (lv_at hl 0 rfl) ?_
            obtain ⟨hPc, hDc, hFc, hC9⟩ := xpk (wc := W_become cI cJ cZ cG cH rn x113 r128 hy rsa ria raa rta rga dead key tick held tries trips ldraw gdraw f115 f116 f117 f118 yaa yba yca x119 f120 f121 f122) hP hD hS hA [6, 7, 8, 0, 1, 2, 3, 4, 5] (by decide +kernel) rfl
            refine va_callv (va_runV (As := [.int x113, .int r128]) (rest := []) ⟨hx, hb, hml, hown, hts⟩ (c_become l D cI cJ cZ cG cH H.size rn x113 r128 hy rsa ria raa rta rga dead key tick held tries trips ldraw gdraw f115 f116 f117 f118 yaa yba yca x119 f120 f121 f122 (xrng rfl (by omega) (by omega)) (xrng rfl (by omega) (by omega)) (xrng rfl (by omega) (by omega))) (cwV 2 hts (xGV tbC wd474 wd475 wd476 wd52 wd1030) rfl rfl rfl (by decide +kernel) ⟨Nat.le_of_ble_eq_true rfl, Nat.le_of_ble_eq_true rfl⟩) ⟨xPc_blind, va_recv hK hPc (ci := 4) (q0 := 0) rfl rfl, xPc_pre hPc hK hDc⟩ rfl rfl hl.1 rfl (lv_room (Nat.le_of_ble_eq_true rfl)) dX5_changeRails_55 ⟨Nat.le_of_ble_eq_true rfl, Nat.le_of_ble_eq_true rfl⟩) hS (fun q _ h => hFc q h) hFc (fun u t H1 locs ht hvm hw132 hB hz1 hk1 hS => ?_)
            revert hB
            refine xex8r (fun rs_133 ri_134 ra_135 rg_136 ysz_137 ya_138 yb_139 yc_140 => ?_)
            refine xan5r (fun hf140_0 hf140_1 hP1 hK1 hD1 => ?_)
            rw [ht] at hP1
            obtain ⟨hP, hD⟩ : xPD D A [oAI rta cI 8 rt, oX3 pl pna pta rails limit retry behind, oAI pna cI 64 pn, oX5 rn hy rsa ria raa rta rga dead key tick held tries trips ldraw gdraw, oAI rsa cI 8 rs_133, oAI ria cI 8 ri_134, oAI raa cI 8 ra_135, oAI rga cI 8 rg_136, oX2 hy yaa yba yca ysz_137, oAI yaa cI 64 ya_138, oAI yba cI 64 yb_139, oAI yca cI 64 yc_140] H1 := xjn 3 hP hD [6, 7, 8, 0, 1, 2, 3, 4, 5] [9, 10, 11] hC9 rfl (by decide +kernel) (by decide +kernel) hk1 hFc hP1 hD1
            generalize H1 = H at hP hS ⊢
            have hf140_0 : 0 ≤ ysz_137.toInt ∧ ysz_137.toInt ≤ 64 := hf140_0
            have hf140_1 : M_become r128 f115 x113 f116 f117 f118 x119 f120 tick f121 f122 = (rs_133, ri_134, ra_135, rg_136, ysz_137, ya_138, yb_139, yc_140) := hf140_1
            have h9M := congrArg (fun t9 => (K_changeRails_10 (K_changeRails_L2 rails may tick dead pn rt nhl123) x113 t9.1 t9.2.1 t9.2.2.1 t9.2.2.2.1 t9.2.2.2.2.1 t9.2.2.2.2.2.1 t9.2.2.2.2.2.2.1 t9.2.2.2.2.2.2.2)) hf140_1
            have hM : M_changeRails rails may tick dead pn rt rs ri ra rg ysz ya yb yc = (K_changeRails_10 (K_changeRails_L2 rails may tick dead pn rt nhl123) x113 rs_133 ri_134 ra_135 rg_136 ysz_137 ya_138 yb_139 yc_140) := (show M_changeRails rails may tick dead pn rt rs ri ra rg ysz ya yb yc = ((fun t9 => (K_changeRails_10 (K_changeRails_L2 rails may tick dead pn rt nhl123) x113 t9.1 t9.2.1 t9.2.2.1 t9.2.2.2.1 t9.2.2.2.2.1 t9.2.2.2.2.2.1 t9.2.2.2.2.2.2.1 t9.2.2.2.2.2.2.2)) (M_become r128 f115 x113 f116 f117 f118 x119 f120 tick f121 f122)) from hM).trans h9M
            refine lv_iconst (v := 1) hx hb dX5_changeRails_58 (by decide) ?_
            refine lv_istore_n (lv' := [(3, .int 1), (5, .int r128), (4, .int x113), (0, .ref rn), (1, .ref pl), (2, .int may)]) hx hb dX5_changeRails_59 rfl hl (by decide) rfl (fun ls hl => ?_)
            obtain ⟨x141, ex141⟩ : ∃ y : Int32, y = x113 + 1 := ⟨_, rfl⟩
            have tx141 : x141.toInt = (x113.toInt + 1) := (congrArg Int32.toInt ex141).trans (xadd rfl (by decide) (by omega) (by omega))
            refine lv_iinc (v := x141) (lv' := [(4, .int x141), (3, .int 1), (5, .int r128), (0, .ref rn), (1, .ref pl), (2, .int may)]) hx hb dX5_changeRails_60 hl (k := 2) rfl (by rw [ex141]; rfl) (by decide) rfl (fun ls hl => ?_)
            refine lv_goto (tgt := 5) hx hb dX5_changeRails_63 (by decide) ?_
            obtain ⟨hP, hD⟩ := xsb (ws' := [oX5 rn hy rsa ria raa rta rga dead key tick held tries trips ldraw gdraw, oAI rsa cI 8 rs_133, oAI ria cI 8 ri_134, oAI raa cI 8 ra_135, oAI rta cI 8 rt, oAI rga cI 8 rg_136, oX2 hy yaa yba yca ysz_137, oAI yaa cI 64 ya_138, oAI yba cI 64 yb_139, oAI yca cI 64 yc_140, oX3 pl pna pta rails limit retry behind, oAI pna cI 64 pn]) hP hD [3, 4, 5, 6, 0, 7, 8, 9, 10, 11, 1, 2] (by decide +kernel) rfl
            exact ihhl123 x141 1 rs_133 ri_134 ra_135 rg_136 ysz_137 ya_138 yb_139 yc_140 (by have z9_0 : (1 : Int32).toInt = 1 := (by decide); omega) (xrng tx141 (by omega) (by omega)) ⟨by decide, by decide⟩ (xrng rfl (by omega) (by omega)) (by rw [ex141]; exact hM) _ _ hP hD hS ls (lv_sub hl [0, 1, 3, 4, 5] rfl)
        · skip
          have i_127 : v126.toInt = 1 := (ieq rfl (by decide)).mp c_127
          have hM : M_changeRails rails may tick dead pn rt rs ri ra rg ysz ya yb yc = (K_changeRails_6 f115 x113 (K_changeRails_L2 rails may tick dead pn rt nhl123) x114 f116 f117 f118 x119 f120 f121 f122 tick dead pn rt) := (show M_changeRails rails may tick dead pn rt rs ri ra rg ysz ya yb yc = (if v126.toInt = 1 then (K_changeRails_6 f115 x113 (K_changeRails_L2 rails may tick dead pn rt nhl123) x114 f116 f117 f118 x119 f120 f121 f122 tick dead pn rt) else (K_changeRails_5 f115 x113 (K_changeRails_L2 rails may tick dead pn rt nhl123) x114 f116 f117 f118 x119 f120 f121 f122 tick dead pn rt)) from (by rw [ev126, ev125]; exact hM)).trans (if_pos i_127)
          refine lv_iconst (v := 1) hx hb dX5_changeRails_28 (by decide) ?_
          refine lv_goto (tgt := 33) hx hb dX5_changeRails_29 (by decide) ?_
          obtain ⟨hPc, hDc, hFc, hC9⟩ := xpk (wc := W_nextState cI cJ cZ cG cH rn pl x113 (1 : Int32) hy rsa ria raa rta rga dead key tick held tries trips ldraw gdraw f115 f116 rt pna pta rails limit retry behind pn) hP hD hS hA [0, 1, 2, 4, 10, 11] (by decide +kernel) rfl
          refine va_calli (va_runV (As := [.ref pl, .int x113, .int 1]) (rest := []) ⟨hx, hb, hml, hown, hts⟩ (c_nextState l D cI cJ cZ cG cH H.size rn pl x113 (1 : Int32) hy rsa ria raa rta rga dead key tick held tries trips ldraw gdraw f115 f116 rt pna pta rails limit retry behind pn (xrng rfl (by omega) (by omega)) (xrng rfl (by omega) (by omega)) (xwk_rng h_rt (by decide) (by decide)) (xrng rfl (by omega) (by omega)) (xwk_rng h_pn (by decide) (by decide))) (cwV 3 hts (xGV tbC wd471 wd472 wd473 wd52 wd1029) rfl rfl rfl (by decide +kernel) ⟨Nat.le_of_ble_eq_true rfl, Nat.le_of_ble_eq_true rfl⟩) ⟨xPc_blind, va_recv hK hPc (ci := 4) (q0 := 0) rfl rfl, xPc_pre hPc hK hDc⟩ rfl rfl hl.1 rfl (lv_room (Nat.le_of_ble_eq_true rfl)) dX5_changeRails_33 ⟨Nat.le_of_ble_eq_true rfl, Nat.le_of_ble_eq_true rfl⟩) hS (fun q _ h => hFc q h) hFc (fun r142 u t H1 locs ht hvm hw142 hB hz1 hk1 hS => ?_)
          obtain ⟨hru9, hw142⟩ := hw142
          subst hru9
          obtain ⟨hf142_0, hP1, hK1, hD1⟩ := hB
          rw [ht] at hP1
          obtain ⟨hP, hD⟩ : xPD D A [oAI raa cI 8 f117, oAI rga cI 8 f118, oX2 hy yaa yba yca x119, oAI yaa cI 64 f120, oAI yba cI 64 f121, oAI yca cI 64 f122, oX5 rn hy rsa ria raa rta rga dead key tick held tries trips ldraw gdraw, oAI rsa cI 8 f115, oAI ria cI 8 f116, oAI rta cI 8 rt, oX3 pl pna pta rails limit retry behind, oAI pna cI 64 pn] H1 := xjn 6 hP hD [0, 1, 2, 4, 10, 11] [3, 5, 6, 7, 8, 9] hC9 rfl (by decide +kernel) (by decide +kernel) hk1 hFc hP1 hD1
          generalize H1 = H at hP hS ⊢
          have hf142_0 : M_nextState dead x113 f115 (1 : Int32) f116 pn rt = (r142) := hf142_0
          have hw142 : 0 ≤ r142.toInt ∧ r142.toInt ≤ 4 := hw142
          have h9M := congrArg (fun t9 => (K_changeRails_11 t9 f115 x113 (K_changeRails_L2 rails may tick dead pn rt nhl123) x114 f116 f117 f118 x119 f120 f121 f122 tick)) hf142_0
          have hM : M_changeRails rails may tick dead pn rt rs ri ra rg ysz ya yb yc = (K_changeRails_11 r142 f115 x113 (K_changeRails_L2 rails may tick dead pn rt nhl123) x114 f116 f117 f118 x119 f120 f121 f122 tick) := (show M_changeRails rails may tick dead pn rt rs ri ra rg ysz ya yb yc = ((fun t9 => (K_changeRails_11 t9 f115 x113 (K_changeRails_L2 rails may tick dead pn rt nhl123) x114 f116 f117 f118 x119 f120 f121 f122 tick)) (M_nextState dead x113 f115 (1 : Int32) f116 pn rt)) from hM).trans h9M
          refine lv_istore (lv' := [(5, .int r142), (4, .int x113), (3, .int x114), (0, .ref rn), (1, .ref pl), (2, .int may)]) hx hb dX5_changeRails_36 hl (by decide) rfl (fun ls hl => ?_)
          refine lv_iload hx hb dX5_changeRails_38 (lv_at hl 0 rfl) ?_
          refine lv_aload_n hx hb dX5_changeRails_40 rfl (lv_at hl 3 rfl) ?_
          refine va_get (D := D) (ci := 4) (v := .ref rsa) (C := RX5) (T := TX5) (N := 14) hx hb hts (fun w h => tbC w (tbfX5 w h)) hown hK hP 6 rfl rfl 1 (by decide) (hts (.fieldLink RX5 18 "PowerRails$Run" "states" "[I") (tbC _ wd108)) (fun _ h9 => h9) rfl dX5_changeRails_41 ?_
          refine lv_iload hx hb dX5_changeRails_44 (lv_at hl 1 rfl) ?_
          refine va_iald hx hb hK hP 7 0 rfl rfl (vp_in_iff.mpr ⟨by omega, by omega⟩) dX5_changeRails_46 ?_
          refine lv_topi (fun v143 ev143 => ?_)
          refine lv_icmp_eq (tgt := 60) hx hb dX5_changeRails_47 (by decide) (fun c_144 => ?_) (fun c_144 => ?_)
          · skip
            have i_144 : r142.toInt = v143.toInt := (ieq rfl rfl).mp c_144
            have hM : M_changeRails rails may tick dead pn rt rs ri ra rg ysz ya yb yc = (K_changeRails_12 (K_changeRails_L2 rails may tick dead pn rt nhl123) x113 x114 f115 f116 f117 f118 x119 f120 f121 f122) := (show M_changeRails rails may tick dead pn rt rs ri ra rg ysz ya yb yc = (if r142.toInt = v143.toInt then (K_changeRails_12 (K_changeRails_L2 rails may tick dead pn rt nhl123) x113 x114 f115 f116 f117 f118 x119 f120 f121 f122) else (K_changeRails_13 (K_changeRails_L2 rails may tick dead pn rt nhl123) x113 r142 f115 f116 f117 f118 x119 f120 tick f121 f122)) from (by rw [ev143]; exact hM)).trans (if_pos i_144)
            obtain ⟨x145, ex145⟩ : ∃ y : Int32, y = x113 + 1 := ⟨_, rfl⟩
            have tx145 : x145.toInt = (x113.toInt + 1) := (congrArg Int32.toInt ex145).trans (xadd rfl (by decide) (by omega) (by omega))
            refine lv_iinc (v := x145) (lv' := [(4, .int x145), (5, .int r142), (3, .int x114), (0, .ref rn), (1, .ref pl), (2, .int may)]) hx hb dX5_changeRails_60 hl (k := 1) rfl (by rw [ex145]; rfl) (by decide) rfl (fun ls hl => ?_)
            refine lv_goto (tgt := 5) hx hb dX5_changeRails_63 (by decide) ?_
            obtain ⟨hP, hD⟩ := xsb (ws' := [oX5 rn hy rsa ria raa rta rga dead key tick held tries trips ldraw gdraw, oAI rsa cI 8 f115, oAI ria cI 8 f116, oAI raa cI 8 f117, oAI rta cI 8 rt, oAI rga cI 8 f118, oX2 hy yaa yba yca x119, oAI yaa cI 64 f120, oAI yba cI 64 f121, oAI yca cI 64 f122, oX3 pl pna pta rails limit retry behind, oAI pna cI 64 pn]) hP hD [6, 7, 8, 0, 9, 1, 2, 3, 4, 5, 10, 11] (by decide +kernel) rfl
            exact ihhl123 x145 x114 f115 f116 f117 f118 x119 f120 f121 f122 (by omega) (xrng tx145 (by omega) (by omega)) (xrng rfl (by omega) (by omega)) (xrng rfl (by omega) (by omega)) (by rw [ex145]; exact hM) _ _ hP hD hS ls (lv_sub hl [0, 2, 3, 4, 5] rfl)
          · skip
            have i_144 : ¬ (r142.toInt = v143.toInt) := fun h9 => c_144 ((ieq rfl rfl).mpr h9)
            have hM : M_changeRails rails may tick dead pn rt rs ri ra rg ysz ya yb yc = (K_changeRails_13 (K_changeRails_L2 rails may tick dead pn rt nhl123) x113 r142 f115 f116 f117 f118 x119 f120 tick f121 f122) := (show M_changeRails rails may tick dead pn rt rs ri ra rg ysz ya yb yc = (if r142.toInt = v143.toInt then (K_changeRails_12 (K_changeRails_L2 rails may tick dead pn rt nhl123) x113 x114 f115 f116 f117 f118 x119 f120 f121 f122) else (K_changeRails_13 (K_changeRails_L2 rails may tick dead pn rt nhl123) x113 r142 f115 f116 f117 f118 x119 f120 tick f121 f122)) from (by rw [ev143]; exact hM)).trans (if_neg i_144)
            refine lv_aload_n hx hb dX5_changeRails_50 rfl (lv_at hl 3 rfl) ?_
            refine lv_iload hx hb dX5_changeRails_51 (lv_at hl 1 rfl) ?_
            refine lv_iload hx hb dX5_changeRails_53 (lv_at hl 0 rfl) ?_
            obtain ⟨hPc, hDc, hFc, hC9⟩ := xpk (wc := W_become cI cJ cZ cG cH rn x113 r142 hy rsa ria raa rta rga dead key tick held tries trips ldraw gdraw f115 f116 f117 f118 yaa yba yca x119 f120 f121 f122) hP hD hS hA [6, 7, 8, 0, 1, 2, 3, 4, 5] (by decide +kernel) rfl
            refine va_callv (va_runV (As := [.int x113, .int r142]) (rest := []) ⟨hx, hb, hml, hown, hts⟩ (c_become l D cI cJ cZ cG cH H.size rn x113 r142 hy rsa ria raa rta rga dead key tick held tries trips ldraw gdraw f115 f116 f117 f118 yaa yba yca x119 f120 f121 f122 (xrng rfl (by omega) (by omega)) (xrng rfl (by omega) (by omega)) (xrng rfl (by omega) (by omega))) (cwV 2 hts (xGV tbC wd474 wd475 wd476 wd52 wd1030) rfl rfl rfl (by decide +kernel) ⟨Nat.le_of_ble_eq_true rfl, Nat.le_of_ble_eq_true rfl⟩) ⟨xPc_blind, va_recv hK hPc (ci := 4) (q0 := 0) rfl rfl, xPc_pre hPc hK hDc⟩ rfl rfl hl.1 rfl (lv_room (Nat.le_of_ble_eq_true rfl)) dX5_changeRails_55 ⟨Nat.le_of_ble_eq_true rfl, Nat.le_of_ble_eq_true rfl⟩) hS (fun q _ h => hFc q h) hFc (fun u t H1 locs ht hvm hw146 hB hz1 hk1 hS => ?_)
            revert hB
            refine xex8r (fun rs_147 ri_148 ra_149 rg_150 ysz_151 ya_152 yb_153 yc_154 => ?_)
            refine xan5r (fun hf154_0 hf154_1 hP1 hK1 hD1 => ?_)
            rw [ht] at hP1
            obtain ⟨hP, hD⟩ : xPD D A [oAI rta cI 8 rt, oX3 pl pna pta rails limit retry behind, oAI pna cI 64 pn, oX5 rn hy rsa ria raa rta rga dead key tick held tries trips ldraw gdraw, oAI rsa cI 8 rs_147, oAI ria cI 8 ri_148, oAI raa cI 8 ra_149, oAI rga cI 8 rg_150, oX2 hy yaa yba yca ysz_151, oAI yaa cI 64 ya_152, oAI yba cI 64 yb_153, oAI yca cI 64 yc_154] H1 := xjn 3 hP hD [6, 7, 8, 0, 1, 2, 3, 4, 5] [9, 10, 11] hC9 rfl (by decide +kernel) (by decide +kernel) hk1 hFc hP1 hD1
            generalize H1 = H at hP hS ⊢
            have hf154_0 : 0 ≤ ysz_151.toInt ∧ ysz_151.toInt ≤ 64 := hf154_0
            have hf154_1 : M_become r142 f115 x113 f116 f117 f118 x119 f120 tick f121 f122 = (rs_147, ri_148, ra_149, rg_150, ysz_151, ya_152, yb_153, yc_154) := hf154_1
            have h9M := congrArg (fun t9 => (K_changeRails_14 (K_changeRails_L2 rails may tick dead pn rt nhl123) x113 t9.1 t9.2.1 t9.2.2.1 t9.2.2.2.1 t9.2.2.2.2.1 t9.2.2.2.2.2.1 t9.2.2.2.2.2.2.1 t9.2.2.2.2.2.2.2)) hf154_1
            have hM : M_changeRails rails may tick dead pn rt rs ri ra rg ysz ya yb yc = (K_changeRails_14 (K_changeRails_L2 rails may tick dead pn rt nhl123) x113 rs_147 ri_148 ra_149 rg_150 ysz_151 ya_152 yb_153 yc_154) := (show M_changeRails rails may tick dead pn rt rs ri ra rg ysz ya yb yc = ((fun t9 => (K_changeRails_14 (K_changeRails_L2 rails may tick dead pn rt nhl123) x113 t9.1 t9.2.1 t9.2.2.1 t9.2.2.2.1 t9.2.2.2.2.1 t9.2.2.2.2.2.1 t9.2.2.2.2.2.2.1 t9.2.2.2.2.2.2.2)) (M_become r142 f115 x113 f116 f117 f118 x119 f120 tick f121 f122)) from hM).trans h9M
            refine lv_iconst (v := 1) hx hb dX5_changeRails_58 (by decide) ?_
            refine lv_istore_n (lv' := [(3, .int 1), (5, .int r142), (4, .int x113), (0, .ref rn), (1, .ref pl), (2, .int may)]) hx hb dX5_changeRails_59 rfl hl (by decide) rfl (fun ls hl => ?_)
            obtain ⟨x155, ex155⟩ : ∃ y : Int32, y = x113 + 1 := ⟨_, rfl⟩
            have tx155 : x155.toInt = (x113.toInt + 1) := (congrArg Int32.toInt ex155).trans (xadd rfl (by decide) (by omega) (by omega))
            refine lv_iinc (v := x155) (lv' := [(4, .int x155), (3, .int 1), (5, .int r142), (0, .ref rn), (1, .ref pl), (2, .int may)]) hx hb dX5_changeRails_60 hl (k := 2) rfl (by rw [ex155]; rfl) (by decide) rfl (fun ls hl => ?_)
            refine lv_goto (tgt := 5) hx hb dX5_changeRails_63 (by decide) ?_
            obtain ⟨hP, hD⟩ := xsb (ws' := [oX5 rn hy rsa ria raa rta rga dead key tick held tries trips ldraw gdraw, oAI rsa cI 8 rs_147, oAI ria cI 8 ri_148, oAI raa cI 8 ra_149, oAI rta cI 8 rt, oAI rga cI 8 rg_150, oX2 hy yaa yba yca ysz_151, oAI yaa cI 64 ya_152, oAI yba cI 64 yb_153, oAI yca cI 64 yc_154, oX3 pl pna pta rails limit retry behind, oAI pna cI 64 pn]) hP hD [3, 4, 5, 6, 0, 7, 8, 9, 10, 11, 1, 2] (by decide +kernel) rfl
            exact ihhl123 x155 1 rs_147 ri_148 ra_149 rg_150 ysz_151 ya_152 yb_153 yc_154 (by have z9_0 : (1 : Int32).toInt = 1 := (by decide); omega) (xrng tx155 (by omega) (by omega)) ⟨by decide, by decide⟩ (xrng rfl (by omega) (by omega)) (by rw [ex155]; exact hM) _ _ hP hD hS ls (lv_sub hl [0, 1, 3, 4, 5] rfl)
  exact hl123 100000 0 0 rs ri ra rg ysz ya yb yc (by have z9_0 : (0 : Int32).toInt = 0 := (by decide); omega) ⟨by decide, by decide⟩ ⟨by decide, by decide⟩ (xrng rfl (by omega) (by omega)) hM _ _ hP hD hS ls (lv_sub hl [0, 1, 2, 3, 4] rfl)
def K_settle_3 (f105 : Nat → Int32) (f106 : Nat → Int32) (f107 : Nat → Int32) (f108 : Nat → Int32) (x109 : Int32) (f110 : Nat → Int32) (f111 : Nat → Int32) (f112 : Nat → Int32) : (Nat → Int32) × (Nat → Int32) × (Nat → Int32) × (Nat → Int32) × (Int32) × (Nat → Int32) × (Nat → Int32) × (Nat → Int32) := (f105, f106, f107, f108, x109, f110, f111, f112)
def K_settle_5 (f105 : Nat → Int32) (f106 : Nat → Int32) (f107 : Nat → Int32) (f108 : Nat → Int32) (x109 : Int32) (f110 : Nat → Int32) (f111 : Nat → Int32) (f112 : Nat → Int32) : (Nat → Int32) × (Nat → Int32) × (Nat → Int32) × (Nat → Int32) × (Int32) × (Nat → Int32) × (Nat → Int32) × (Nat → Int32) := (f105, f106, f107, f108, x109, f110, f111, f112)
def K_settle_8 (rec_2 : (Int32) → (Int32) → (Nat → Int32) → (Nat → Int32) → (Nat → Int32) → (Nat → Int32) → (Int32) → (Nat → Int32) → (Nat → Int32) → (Nat → Int32) → ((Nat → Int32) × (Nat → Int32) × (Nat → Int32) × (Nat → Int32) × (Int32) × (Nat → Int32) × (Nat → Int32) × (Nat → Int32))) (x103 : Int32) (r117 : Int32) (rs_118 : Nat → Int32) (ri_119 : Nat → Int32) (ra_120 : Nat → Int32) (rg_121 : Nat → Int32) (ysz_122 : Int32) (ya_123 : Nat → Int32) (yb_124 : Nat → Int32) (yc_125 : Nat → Int32) : (Nat → Int32) × (Nat → Int32) × (Nat → Int32) × (Nat → Int32) × (Int32) × (Nat → Int32) × (Nat → Int32) × (Nat → Int32) := (rec_2 (x103 + 1) r117 rs_118 ri_119 ra_120 rg_121 ysz_122 ya_123 yb_124 yc_125)
def K_settle_7 (rec_2 : (Int32) → (Int32) → (Nat → Int32) → (Nat → Int32) → (Nat → Int32) → (Nat → Int32) → (Int32) → (Nat → Int32) → (Nat → Int32) → (Nat → Int32) → ((Nat → Int32) × (Nat → Int32) × (Nat → Int32) × (Nat → Int32) × (Int32) × (Nat → Int32) × (Nat → Int32) × (Nat → Int32))) (x103 : Int32) (rails : Int32) (r116 : Int32) (tick : Int32) (dead : Int32) (pn : Nat → Int32) (rt : Nat → Int32) (f105 : Nat → Int32) (f106 : Nat → Int32) (f107 : Nat → Int32) (f108 : Nat → Int32) (x109 : Int32) (f110 : Nat → Int32) (f111 : Nat → Int32) (f112 : Nat → Int32) : (Nat → Int32) × (Nat → Int32) × (Nat → Int32) × (Nat → Int32) × (Int32) × (Nat → Int32) × (Nat → Int32) × (Nat → Int32) := ((fun t9 => (K_settle_8 rec_2 x103 t9.1 t9.2.1 t9.2.2.1 t9.2.2.2.1 t9.2.2.2.2.1 t9.2.2.2.2.2.1 t9.2.2.2.2.2.2.1 t9.2.2.2.2.2.2.2.1 t9.2.2.2.2.2.2.2.2)) (M_changeRails rails r116 tick dead pn rt f105 f106 f107 f108 x109 f110 f111 f112))
def K_settle_6 (rec_2 : (Int32) → (Int32) → (Nat → Int32) → (Nat → Int32) → (Nat → Int32) → (Nat → Int32) → (Int32) → (Nat → Int32) → (Nat → Int32) → (Nat → Int32) → ((Nat → Int32) × (Nat → Int32) × (Nat → Int32) × (Nat → Int32) × (Int32) × (Nat → Int32) × (Nat → Int32) × (Nat → Int32))) (x103 : Int32) (rails : Int32) (tick : Int32) (dead : Int32) (pn : Nat → Int32) (rt : Nat → Int32) (f105 : Nat → Int32) (f106 : Nat → Int32) (f107 : Nat → Int32) (f108 : Nat → Int32) (x109 : Int32) (f110 : Nat → Int32) (f111 : Nat → Int32) (f112 : Nat → Int32) (held : Int32) (key : Int32) (pt : Nat → Int64) : (Nat → Int32) × (Nat → Int32) × (Nat → Int32) × (Nat → Int32) × (Int32) × (Nat → Int32) × (Nat → Int32) × (Nat → Int32) := ((fun t9 => (K_settle_7 rec_2 x103 rails t9 tick dead pn rt f105 f106 f107 f108 x109 f110 f111 f112)) (M_railsThatMay held key rails pt f105))
def K_settle_4 (x104 : Int32) (f105 : Nat → Int32) (f106 : Nat → Int32) (f107 : Nat → Int32) (f108 : Nat → Int32) (x109 : Int32) (f110 : Nat → Int32) (f111 : Nat → Int32) (f112 : Nat → Int32) (rec_2 : (Int32) → (Int32) → (Nat → Int32) → (Nat → Int32) → (Nat → Int32) → (Nat → Int32) → (Int32) → (Nat → Int32) → (Nat → Int32) → (Nat → Int32) → ((Nat → Int32) × (Nat → Int32) × (Nat → Int32) × (Nat → Int32) × (Int32) × (Nat → Int32) × (Nat → Int32) × (Nat → Int32))) (x103 : Int32) (rails : Int32) (tick : Int32) (dead : Int32) (pn : Nat → Int32) (rt : Nat → Int32) (held : Int32) (key : Int32) (pt : Nat → Int64) : (Nat → Int32) × (Nat → Int32) × (Nat → Int32) × (Nat → Int32) × (Int32) × (Nat → Int32) × (Nat → Int32) × (Nat → Int32) := (if x104.toInt = 0 then (K_settle_5 f105 f106 f107 f108 x109 f110 f111 f112) else (K_settle_6 rec_2 x103 rails tick dead pn rt f105 f106 f107 f108 x109 f110 f111 f112 held key pt))
def K_settle_2 (x103 : Int32) (f105 : Nat → Int32) (f106 : Nat → Int32) (f107 : Nat → Int32) (f108 : Nat → Int32) (x109 : Int32) (f110 : Nat → Int32) (f111 : Nat → Int32) (f112 : Nat → Int32) (x104 : Int32) (rec_2 : (Int32) → (Int32) → (Nat → Int32) → (Nat → Int32) → (Nat → Int32) → (Nat → Int32) → (Int32) → (Nat → Int32) → (Nat → Int32) → (Nat → Int32) → ((Nat → Int32) × (Nat → Int32) × (Nat → Int32) × (Nat → Int32) × (Int32) × (Nat → Int32) × (Nat → Int32) × (Nat → Int32))) (rails : Int32) (tick : Int32) (dead : Int32) (pn : Nat → Int32) (rt : Nat → Int32) (held : Int32) (key : Int32) (pt : Nat → Int64) : (Nat → Int32) × (Nat → Int32) × (Nat → Int32) × (Nat → Int32) × (Int32) × (Nat → Int32) × (Nat → Int32) × (Nat → Int32) := (if 1000 ≤ x103.toInt then (K_settle_3 f105 f106 f107 f108 x109 f110 f111 f112) else (K_settle_4 x104 f105 f106 f107 f108 x109 f110 f111 f112 rec_2 x103 rails tick dead pn rt held key pt))
def K_settle_L2 (rails : Int32) (tick : Int32) (dead : Int32) (pn : Nat → Int32) (rt : Nat → Int32) (held : Int32) (key : Int32) (pt : Nat → Int64) : Nat → (Int32) → (Int32) → (Nat → Int32) → (Nat → Int32) → (Nat → Int32) → (Nat → Int32) → (Int32) → (Nat → Int32) → (Nat → Int32) → (Nat → Int32) → (Nat → Int32) × (Nat → Int32) × (Nat → Int32) × (Nat → Int32) × (Int32) × (Nat → Int32) × (Nat → Int32) × (Nat → Int32)
  | 0, _, _, _, _, _, _, _, _, _, _ => (fun _ => 0, fun _ => 0, fun _ => 0, fun _ => 0, 0, fun _ => 0, fun _ => 0, fun _ => 0)
  | n9 + 1, x103, x104, f105, f106, f107, f108, x109, f110, f111, f112 => (K_settle_2 x103 f105 f106 f107 f108 x109 f110 f111 f112 x104 (K_settle_L2 rails tick dead pn rt held key pt n9) rails tick dead pn rt held key pt)
def K_settle_1 (rails : Int32) (tick : Int32) (dead : Int32) (pn : Nat → Int32) (rt : Nat → Int32) (held : Int32) (key : Int32) (pt : Nat → Int64) (rs : Nat → Int32) (ri : Nat → Int32) (ra : Nat → Int32) (rg : Nat → Int32) (ysz : Int32) (ya : Nat → Int32) (yb : Nat → Int32) (yc : Nat → Int32) : (Nat → Int32) × (Nat → Int32) × (Nat → Int32) × (Nat → Int32) × (Int32) × (Nat → Int32) × (Nat → Int32) × (Nat → Int32) := (K_settle_L2 rails tick dead pn rt held key pt 100000 (0 : Int32) (1 : Int32) rs ri ra rg ysz ya yb yc)
def M_settle (rails : Int32) (tick : Int32) (dead : Int32) (pn : Nat → Int32) (rt : Nat → Int32) (held : Int32) (key : Int32) (pt : Nat → Int64) (rs : Nat → Int32) (ri : Nat → Int32) (ra : Nat → Int32) (rg : Nat → Int32) (ysz : Int32) (ya : Nat → Int32) (yb : Nat → Int32) (yc : Nat → Int32) : (Nat → Int32) × (Nat → Int32) × (Nat → Int32) × (Nat → Int32) × (Int32) × (Nat → Int32) × (Nat → Int32) × (Nat → Int32) := (K_settle_1 rails tick dead pn rt held key pt rs ri ra rg ysz ya yb yc)
abbrev W_settle (cI cJ cZ cG cH : ClassId) (rn : Nat) (pl : Nat) (hy : Nat) (rsa : Nat) (ria : Nat) (raa : Nat) (rta : Nat) (rga : Nat) (dead : Int32) (key : Int32) (tick : Int32) (held : Int32) (tries : Int32) (trips : Int32) (ldraw : Int32) (gdraw : Int32) (rs : Nat → Int32) (ri : Nat → Int32) (ra : Nat → Int32) (rt : Nat → Int32) (rg : Nat → Int32) (yaa : Nat) (yba : Nat) (yca : Nat) (ysz : Int32) (ya : Nat → Int32) (yb : Nat → Int32) (yc : Nat → Int32) (pna : Nat) (pta : Nat) (rails : Int32) (limit : Int32) (retry : Int32) (behind : Int32) (pn : Nat → Int32) (pt : Nat → Int64) : va_W := [oX5 rn hy rsa ria raa rta rga dead key tick held tries trips ldraw gdraw, oAI rsa cI 8 rs, oAI ria cI 8 ri, oAI raa cI 8 ra, oAI rta cI 8 rt, oAI rga cI 8 rg, oX2 hy yaa yba yca ysz, oAI yaa cI 64 ya, oAI yba cI 64 yb, oAI yca cI 64 yc, oX3 pl pna pta rails limit retry behind, oAI pna cI 64 pn, oAJ pta cJ 64 pt]
abbrev Q_settle (D : va_G) (cI cJ cZ cG cH : ClassId) (rn : Nat) (pl : Nat) (hy : Nat) (rsa : Nat) (ria : Nat) (raa : Nat) (rta : Nat) (rga : Nat) (dead : Int32) (key : Int32) (tick : Int32) (held : Int32) (tries : Int32) (trips : Int32) (ldraw : Int32) (gdraw : Int32) (rs : Nat → Int32) (ri : Nat → Int32) (ra : Nat → Int32) (rt : Nat → Int32) (rg : Nat → Int32) (yaa : Nat) (yba : Nat) (yca : Nat) (ysz : Int32) (ya : Nat → Int32) (yb : Nat → Int32) (yc : Nat → Int32) (pna : Nat) (pta : Nat) (rails : Int32) (limit : Int32) (retry : Int32) (behind : Int32) (pn : Nat → Int32) (pt : Nat → Int64) (A : Nat → Prop) : Array Value → State → Outcome → State → Prop := va_Qv (fun (_ : Unit) => True) (fun _ t => ∃ (rs9 : Nat → Int32) (ri9 : Nat → Int32) (ra9 : Nat → Int32) (rg9 : Nat → Int32) (ysz9 : Int32) (ya9 : Nat → Int32) (yb9 : Nat → Int32) (yc9 : Nat → Int32), (0 ≤ ysz9.toInt ∧ ysz9.toInt ≤ 64) ∧ (M_settle rails tick dead pn rt held key pt rs ri ra rg ysz ya yb yc = (rs9, ri9, ra9, rg9, ysz9, ya9, yb9, yc9)) ∧ xB D (tyL cI cJ cZ cG cH) [oX5 rn hy rsa ria raa rta rga dead key tick held tries trips ldraw gdraw, oAI rsa cI 8 rs9, oAI ria cI 8 ri9, oAI raa cI 8 ra9, oAI rta cI 8 rt, oAI rga cI 8 rg9, oX2 hy yaa yba yca ysz9, oAI yaa cI 64 ya9, oAI yba cI 64 yb9, oAI yca cI 64 yc9, oX3 pl pna pta rails limit retry behind, oAI pna cI 64 pn, oAJ pta cJ 64 pt] A t) A
abbrev rm_settle : Room := { frames := 3, cells := 0, slots := 0, locals := 71 }
set_option maxRecDepth 100000 in
set_option maxHeartbeats 40000000 in
theorem c_settle (l : Launch) (D : va_G) (cI cJ cZ cG cH : ClassId) (sz : Nat) (rn : Nat) (pl : Nat) (hy : Nat) (rsa : Nat) (ria : Nat) (raa : Nat) (rta : Nat) (rga : Nat) (dead : Int32) (key : Int32) (tick : Int32) (held : Int32) (tries : Int32) (trips : Int32) (ldraw : Int32) (gdraw : Int32) (rs : Nat → Int32) (ri : Nat → Int32) (ra : Nat → Int32) (rt : Nat → Int32) (rg : Nat → Int32) (yaa : Nat) (yba : Nat) (yca : Nat) (ysz : Int32) (ya : Nat → Int32) (yb : Nat → Int32) (yc : Nat → Int32) (pna : Nat) (pta : Nat) (rails : Int32) (limit : Int32) (retry : Int32) (behind : Int32) (pn : Nat → Int32) (pt : Nat → Int64) (h_key : 0 ≤ key.toInt ∧ key.toInt ≤ 1) (h_rt : ∀ j, j < 8 → 0 ≤ (rt j).toInt ∧ (rt j).toInt ≤ 511) (h_ysz : 0 ≤ ysz.toInt ∧ ysz.toInt ≤ 64) (h_rails : 0 ≤ rails.toInt ∧ rails.toInt ≤ 8) (h_pn : ∀ j, j < 64 → 0 ≤ (pn j).toInt ∧ (pn j).toInt ≤ 511) : Met l yX5_settle (wt yX5_settle cX5_settle 4 none) rm_settle (xPc [.ref rn, .ref pl] D (tyL cI cJ cZ cG cH) (W_settle cI cJ cZ cG cH rn pl hy rsa ria raa rta rga dead key tick held tries trips ldraw gdraw rs ri ra rt rg yaa yba yca ysz ya yb yc pna pta rails limit retry behind pn pt) sz) (Q_settle D cI cJ cZ cG cH rn pl hy rsa ria raa rta rga dead key tick held tries trips ldraw gdraw rs ri ra rt rg yaa yba yca ysz ya yb yc pna pta rails limit retry behind pn pt (va_A (W_settle cI cJ cZ cG cH rn pl hy rsa ria raa rta rga dead key tick held tries trips ldraw gdraw rs ri ra rt rg yaa yba yca ysz ya yb yc pna pta rails limit retry behind pn pt) sz)) 0 0 (va_A (W_settle cI cJ cZ cG cH rn pl hy rsa ria raa rta rga dead key tick held tries trips ldraw gdraw rs ri ra rt rg yaa yba yca ysz ya yb yc pna pta rails limit retry behind pn pt) sz) := by
  refine xMet (cc := cX5_settle) (maxL := 4) (ret := none) (Qf := Q_settle D cI cJ cZ cG cH rn pl hy rsa ria raa rta rga dead key tick held tries trips ldraw gdraw rs ri ra rt rg yaa yba yca ysz ya yb yc pna pta rails limit retry behind pn pt) (by decide) rfl (Nat.le_of_ble_eq_true rfl) ?_
  intro p e s m below meth c ls A hx hb hr hml hts hown hlocks hnm hsz hP hK hD hA hS hl
  have hown : s.vm.findClass RX5 = some m.cls := hown
  have hP : va_P D vwCl [oX5 rn hy rsa ria raa rta rga dead key tick held tries trips ldraw gdraw, oAI rsa cI 8 rs, oAI ria cI 8 ri, oAI raa cI 8 ra, oAI rta cI 8 rt, oAI rga cI 8 rg, oX2 hy yaa yba yca ysz, oAI yaa cI 64 ya, oAI yba cI 64 yb, oAI yca cI 64 yc, oX3 pl pna pta rails limit retry behind, oAI pna cI 64 pn, oAJ pta cJ 64 pt] s.heap := hP
  have hD : va_D A [oX5 rn hy rsa ria raa rta rga dead key tick held tries trips ldraw gdraw, oAI rsa cI 8 rs, oAI ria cI 8 ri, oAI raa cI 8 ra, oAI rta cI 8 rt, oAI rga cI 8 rg, oX2 hy yaa yba yca ysz, oAI yaa cI 64 ya, oAI yba cI 64 yb, oAI yca cI 64 yc, oX3 pl pna pta rails limit retry behind, oAI pna cI 64 pn, oAJ pta cJ 64 pt] := hD
  have hl : lv_has ls 4 [(0, .ref rn), (1, .ref pl)] := hl
  have hM : M_settle rails tick dead pn rt held key pt rs ri ra rg ysz ya yb yc = (K_settle_1 rails tick dead pn rt held key pt rs ri ra rg ysz ya yb yc) := rfl
  refine lv_iconst (v := 1) hx hb dX5_settle_0 (by decide) ?_
  refine lv_istore_n (lv' := [(2, .int 1), (0, .ref rn), (1, .ref pl)]) hx hb dX5_settle_1 rfl hl (by decide) rfl (fun ls hl => ?_)
  refine lv_iconst (v := 0) hx hb dX5_settle_2 (by decide) ?_
  refine lv_istore_n (lv' := [(3, .int 0), (2, .int 1), (0, .ref rn), (1, .ref pl)]) hx hb dX5_settle_3 rfl hl (by decide) rfl (fun ls hl => ?_)
  have hl113 : ∀ (nhl113 : Nat) (x103 : Int32) (x104 : Int32) (f105 : Nat → Int32) (f106 : Nat → Int32) (f107 : Nat → Int32) (f108 : Nat → Int32) (x109 : Int32) (f110 : Nat → Int32) (f111 : Nat → Int32) (f112 : Nat → Int32), ((1000 - x103.toInt).toNat < nhl113) → (hx103 : 0 ≤ x103.toInt ∧ x103.toInt ≤ 1000) → (hx104 : 0 ≤ x104.toInt ∧ x104.toInt ≤ 1) → (hx109 : 0 ≤ x109.toInt ∧ x109.toInt ≤ 64) → (hM : M_settle rails tick dead pn rt held key pt rs ri ra rg ysz ya yb yc = (K_settle_L2 rails tick dead pn rt held key pt nhl113 x103 x104 f105 f106 f107 f108 x109 f110 f111 f112)) → ∀ (H : Heap) (locs : List Loc), va_P D vwCl [oX5 rn hy rsa ria raa rta rga dead key tick held tries trips ldraw gdraw, oAI rsa cI 8 f105, oAI ria cI 8 f106, oAI raa cI 8 f107, oAI rta cI 8 rt, oAI rga cI 8 f108, oX2 hy yaa yba yca x109, oAI yaa cI 64 f110, oAI yba cI 64 f111, oAI yca cI 64 f112, oX3 pl pna pta rails limit retry behind, oAI pna cI 64 pn, oAJ pta cJ 64 pt] H → va_D A [oX5 rn hy rsa ria raa rta rga dead key tick held tries trips ldraw gdraw, oAI rsa cI 8 f105, oAI ria cI 8 f106, oAI raa cI 8 f107, oAI rta cI 8 rt, oAI rga cI 8 f108, oX2 hy yaa yba yca x109, oAI yaa cI 64 f110, oAI yba cI 64 f111, oAI yca cI 64 f112, oX3 pl pna pta rails limit retry behind, oAI pna cI 64 pn, oAJ pta cJ 64 pt] → va_S A s.heap H locs → ∀ (ls : Array Slot), lv_has ls 4 [(3, .int x103), (2, .int x104), (0, .ref rn), (1, .ref pl)] → W p l e rm_settle s m [Value.ref rn, Value.ref pl].toArray below meth c H locs 0 0 (MQ below ((Q_settle D cI cJ cZ cG cH rn pl hy rsa ria raa rta rga dead key tick held tries trips ldraw gdraw rs ri ra rt rg yaa yba yca ysz ya yb yc pna pta rails limit retry behind pn pt) A) [Value.ref rn, Value.ref pl].toArray s 0 0 A) (F0 m 4 ls []) := by
    intro nhl113
    induction nhl113 with
    | zero =>
      intro x103 x104 f105 f106 f107 f108 x109 f110 f111 f112 hmhl113
      exact absurd hmhl113 (Nat.not_lt_zero _)
    | succ nhl113 ihhl113 =>
      intro x103 x104 f105 f106 f107 f108 x109 f110 f111 f112 hmhl113 hx103 hx104 hx109 hM H locs hP hD hS ls hl
      have hM : M_settle rails tick dead pn rt held key pt rs ri ra rg ysz ya yb yc = (K_settle_2 x103 f105 f106 f107 f108 x109 f110 f111 f112 x104 (K_settle_L2 rails tick dead pn rt held key pt nhl113) rails tick dead pn rt held key pt) := hM
      refine lv_iload_n hx hb dX5_settle_4 rfl (lv_at hl 0 rfl) ?_
      refine lv_sipush (v := 1000) hx hb dX5_settle_5 (by decide) ?_
      refine lv_icmp_ge (tgt := 32) hx hb dX5_settle_8 (by decide) (fun c_114 => ?_) (fun c_114 => ?_)
      · skip
        have i_114 : 1000 ≤ x103.toInt := (ile (by decide) rfl).mp c_114
        have hM : M_settle rails tick dead pn rt held key pt rs ri ra rg ysz ya yb yc = (K_settle_3 f105 f106 f107 f108 x109 f110 f111 f112) := (show M_settle rails tick dead pn rt held key pt rs ri ra rg ysz ya yb yc = (if 1000 ≤ x103.toInt then (K_settle_3 f105 f106 f107 f108 x109 f110 f111 f112) else (K_settle_4 x104 f105 f106 f107 f108 x109 f110 f111 f112 (K_settle_L2 rails tick dead pn rt held key pt nhl113) x103 rails tick dead pn rt held key pt)) from hM).trans (if_pos i_114)
        refine W.widen (k := 0) (n := 0) (by decide) (by decide) ?_
        exact W.vret hx hb hr (fun t ht hW => ⟨⟨(), rfl, trivial, ⟨f105, f106, f107, f108, x109, f110, f111, f112, (xrng rfl (by omega) (by omega)), hM, xB_of9 ht hW hP hK hD [0, 1, 2, 3, 4, 5, 6, 7, 8, 9, 10, 11, 12] (by decide +kernel) rfl⟩⟩, hS.F ht⟩) hS.2.2 dX5_settle_32
      · skip
        have i_114 : ¬ (1000 ≤ x103.toInt) := fun h9 => c_114 ((ile (by decide) rfl).mpr h9)
        have hM : M_settle rails tick dead pn rt held key pt rs ri ra rg ysz ya yb yc = (K_settle_4 x104 f105 f106 f107 f108 x109 f110 f111 f112 (K_settle_L2 rails tick dead pn rt held key pt nhl113) x103 rails tick dead pn rt held key pt) := (show M_settle rails tick dead pn rt held key pt rs ri ra rg ysz ya yb yc = (if 1000 ≤ x103.toInt then (K_settle_3 f105 f106 f107 f108 x109 f110 f111 f112) else (K_settle_4 x104 f105 f106 f107 f108 x109 f110 f111 f112 (K_settle_L2 rails tick dead pn rt held key pt nhl113) x103 rails tick dead pn rt held key pt)) from hM).trans (if_neg i_114)
        refine lv_iload_n hx hb dX5_settle_11 rfl (lv_at hl 1 rfl) ?_
        refine lv_if_eq (tgt := 32) hx hb dX5_settle_12 (by decide) (fun c_115 => ?_) (fun c_115 => ?_)
        · skip
          have i_115 : x104.toInt = 0 := (ieq rfl (by decide)).mp c_115
          have hM : M_settle rails tick dead pn rt held key pt rs ri ra rg ysz ya yb yc = (K_settle_5 f105 f106 f107 f108 x109 f110 f111 f112) := (show M_settle rails tick dead pn rt held key pt rs ri ra rg ysz ya yb yc = (if x104.toInt = 0 then (K_settle_5 f105 f106 f107 f108 x109 f110 f111 f112) else (K_settle_6 (K_settle_L2 rails tick dead pn rt held key pt nhl113) x103 rails tick dead pn rt f105 f106 f107 f108 x109 f110 f111 f112 held key pt)) from hM).trans (if_pos i_115)
          refine W.widen (k := 0) (n := 0) (by decide) (by decide) ?_
          exact W.vret hx hb hr (fun t ht hW => ⟨⟨(), rfl, trivial, ⟨f105, f106, f107, f108, x109, f110, f111, f112, (xrng rfl (by omega) (by omega)), hM, xB_of9 ht hW hP hK hD [0, 1, 2, 3, 4, 5, 6, 7, 8, 9, 10, 11, 12] (by decide +kernel) rfl⟩⟩, hS.F ht⟩) hS.2.2 dX5_settle_32
        · skip
          have i_115 : ¬ (x104.toInt = 0) := fun h9 => c_115 ((ieq rfl (by decide)).mpr h9)
          have hM : M_settle rails tick dead pn rt held key pt rs ri ra rg ysz ya yb yc = (K_settle_6 (K_settle_L2 rails tick dead pn rt held key pt nhl113) x103 rails tick dead pn rt f105 f106 f107 f108 x109 f110 f111 f112 held key pt) := (show M_settle rails tick dead pn rt held key pt rs ri ra rg ysz ya yb yc = (if x104.toInt = 0 then (K_settle_5 f105 f106 f107 f108 x109 f110 f111 f112) else (K_settle_6 (K_settle_L2 rails tick dead pn rt held key pt nhl113) x103 rails tick dead pn rt f105 f106 f107 f108 x109 f110 f111 f112 held key pt)) from hM).trans (if_neg i_115)
          refine lv_aload_n hx hb dX5_settle_15 rfl (lv_at hl 2 rfl) ?_
          refine lv_aload_n hx hb dX5_settle_16 rfl (lv_at hl 3 rfl) ?_
          refine lv_aload_n hx hb dX5_settle_17 rfl (lv_at hl 2 rfl) ?_
          refine lv_aload_n hx hb dX5_settle_18 rfl (lv_at hl 3 rfl) ?_
          obtain ⟨hPc, hDc, hFc, hC9⟩ := xpk (wc := W_railsThatMay cI cJ cZ cG cH rn pl hy rsa ria raa rta rga dead key tick held tries trips ldraw gdraw f105 pna pta rails limit retry behind pt) hP hD hS hA [0, 1, 10, 12] (by decide +kernel) rfl
          refine va_calli (va_runV (As := [.ref pl]) (rest := [.ref pl, .ref rn]) ⟨hx, hb, hml, hown, hts⟩ (c_railsThatMay l D cI cJ cZ cG cH H.size rn pl hy rsa ria raa rta rga dead key tick held tries trips ldraw gdraw f105 pna pta rails limit retry behind pt (xrng rfl (by omega) (by omega)) (xrng rfl (by omega) (by omega))) (cwV 1 hts (xGV tbC wd461 wd462 wd463 wd52 wd1026) rfl rfl rfl (by decide +kernel) ⟨Nat.le_of_ble_eq_true rfl, Nat.le_of_ble_eq_true rfl⟩) ⟨xPc_blind, va_recv hK hPc (ci := 4) (q0 := 0) rfl rfl, xPc_pre hPc hK hDc⟩ rfl rfl hl.1 rfl (lv_room (Nat.le_of_ble_eq_true rfl)) dX5_settle_19 ⟨Nat.le_of_ble_eq_true rfl, Nat.le_of_ble_eq_true rfl⟩) hS (fun q _ h => hFc q h) hFc (fun r116 u t H1 locs ht hvm hw116 hB hz1 hk1 hS => ?_)
          obtain ⟨hru9, hw116⟩ := hw116
          subst hru9
          obtain ⟨hf116_0, hP1, hK1, hD1⟩ := hB
          rw [ht] at hP1
          obtain ⟨hP, hD⟩ : xPD D A [oAI ria cI 8 f106, oAI raa cI 8 f107, oAI rta cI 8 rt, oAI rga cI 8 f108, oX2 hy yaa yba yca x109, oAI yaa cI 64 f110, oAI yba cI 64 f111, oAI yca cI 64 f112, oAI pna cI 64 pn, oX5 rn hy rsa ria raa rta rga dead key tick held tries trips ldraw gdraw, oAI rsa cI 8 f105, oX3 pl pna pta rails limit retry behind, oAJ pta cJ 64 pt] H1 := xjn 9 hP hD [0, 1, 10, 12] [2, 3, 4, 5, 6, 7, 8, 9, 11] hC9 rfl (by decide +kernel) (by decide +kernel) hk1 hFc hP1 hD1
          generalize H1 = H at hP hS ⊢
          have hf116_0 : M_railsThatMay held key rails pt f105 = (r116) := hf116_0
          have hw116 : 0 ≤ r116.toInt ∧ r116.toInt ≤ 255 := hw116
          have h9M := congrArg (fun t9 => (K_settle_7 (K_settle_L2 rails tick dead pn rt held key pt nhl113) x103 rails t9 tick dead pn rt f105 f106 f107 f108 x109 f110 f111 f112)) hf116_0
          have hM : M_settle rails tick dead pn rt held key pt rs ri ra rg ysz ya yb yc = (K_settle_7 (K_settle_L2 rails tick dead pn rt held key pt nhl113) x103 rails r116 tick dead pn rt f105 f106 f107 f108 x109 f110 f111 f112) := (show M_settle rails tick dead pn rt held key pt rs ri ra rg ysz ya yb yc = ((fun t9 => (K_settle_7 (K_settle_L2 rails tick dead pn rt held key pt nhl113) x103 rails t9 tick dead pn rt f105 f106 f107 f108 x109 f110 f111 f112)) (M_railsThatMay held key rails pt f105)) from hM).trans h9M
          obtain ⟨hPc, hDc, hFc, hC9⟩ := xpk (wc := W_changeRails cI cJ cZ cG cH rn pl r116 hy rsa ria raa rta rga dead key tick held tries trips ldraw gdraw f105 f106 f107 rt f108 yaa yba yca x109 f110 f111 f112 pna pta rails limit retry behind pn) hP hD hS hA [9, 10, 0, 1, 2, 3, 4, 5, 6, 7, 11, 8] (by decide +kernel) rfl
          refine va_calli (va_runV (As := [.ref pl, .int r116]) (rest := []) ⟨hx, hb, hml, hown, hts⟩ (c_changeRails l D cI cJ cZ cG cH H.size rn pl r116 hy rsa ria raa rta rga dead key tick held tries trips ldraw gdraw f105 f106 f107 rt f108 yaa yba yca x109 f110 f111 f112 pna pta rails limit retry behind pn (xrng rfl (by omega) (by omega)) (xwk_rng h_rt (by decide) (by decide)) (xrng rfl (by omega) (by omega)) (xrng rfl (by omega) (by omega)) (xwk_rng h_pn (by decide) (by decide))) (cwV 2 hts (xGV tbC wd468 wd469 wd470 wd52 wd1028) rfl rfl rfl (by decide +kernel) ⟨Nat.le_of_ble_eq_true rfl, Nat.le_of_ble_eq_true rfl⟩) ⟨xPc_blind, va_recv hK hPc (ci := 4) (q0 := 0) rfl rfl, xPc_pre hPc hK hDc⟩ rfl rfl hl.1 rfl (lv_room (Nat.le_of_ble_eq_true rfl)) dX5_settle_22 ⟨Nat.le_of_ble_eq_true rfl, Nat.le_of_ble_eq_true rfl⟩) hS (fun q _ h => hFc q h) hFc (fun r117 u t H1 locs ht hvm hw117 hB hz1 hk1 hS => ?_)
          obtain ⟨hru9, hw117⟩ := hw117
          subst hru9
          revert hB
          refine xex8r (fun rs_118 ri_119 ra_120 rg_121 ysz_122 ya_123 yb_124 yc_125 => ?_)
          refine xan5r (fun hf125_0 hf125_1 hP1 hK1 hD1 => ?_)
          rw [ht] at hP1
          obtain ⟨hP, hD⟩ : xPD D A [oAJ pta cJ 64 pt, oX5 rn hy rsa ria raa rta rga dead key tick held tries trips ldraw gdraw, oAI rsa cI 8 rs_118, oAI ria cI 8 ri_119, oAI raa cI 8 ra_120, oAI rta cI 8 rt, oAI rga cI 8 rg_121, oX2 hy yaa yba yca ysz_122, oAI yaa cI 64 ya_123, oAI yba cI 64 yb_124, oAI yca cI 64 yc_125, oX3 pl pna pta rails limit retry behind, oAI pna cI 64 pn] H1 := xjn 1 hP hD [9, 10, 0, 1, 2, 3, 4, 5, 6, 7, 11, 8] [12] hC9 rfl (by decide +kernel) (by decide +kernel) hk1 hFc hP1 hD1
          generalize H1 = H at hP hS ⊢
          have hf125_0 : 0 ≤ ysz_122.toInt ∧ ysz_122.toInt ≤ 64 := hf125_0
          have hf125_1 : M_changeRails rails r116 tick dead pn rt f105 f106 f107 f108 x109 f110 f111 f112 = (r117, rs_118, ri_119, ra_120, rg_121, ysz_122, ya_123, yb_124, yc_125) := hf125_1
          have hw117 : 0 ≤ r117.toInt ∧ r117.toInt ≤ 1 := hw117
          have h9M := congrArg (fun t9 => (K_settle_8 (K_settle_L2 rails tick dead pn rt held key pt nhl113) x103 t9.1 t9.2.1 t9.2.2.1 t9.2.2.2.1 t9.2.2.2.2.1 t9.2.2.2.2.2.1 t9.2.2.2.2.2.2.1 t9.2.2.2.2.2.2.2.1 t9.2.2.2.2.2.2.2.2)) hf125_1
          have hM : M_settle rails tick dead pn rt held key pt rs ri ra rg ysz ya yb yc = (K_settle_8 (K_settle_L2 rails tick dead pn rt held key pt nhl113) x103 r117 rs_118 ri_119 ra_120 rg_121 ysz_122 ya_123 yb_124 yc_125) := (show M_settle rails tick dead pn rt held key pt rs ri ra rg ysz ya yb yc = ((fun t9 => (K_settle_8 (K_settle_L2 rails tick dead pn rt held key pt nhl113) x103 t9.1 t9.2.1 t9.2.2.1 t9.2.2.2.1 t9.2.2.2.2.1 t9.2.2.2.2.2.1 t9.2.2.2.2.2.2.1 t9.2.2.2.2.2.2.2.1 t9.2.2.2.2.2.2.2.2)) (M_changeRails rails r116 tick dead pn rt f105 f106 f107 f108 x109 f110 f111 f112)) from hM).trans h9M
          refine lv_istore_n (lv' := [(2, .int r117), (3, .int x103), (0, .ref rn), (1, .ref pl)]) hx hb dX5_settle_25 rfl hl (by decide) rfl (fun ls hl => ?_)
          obtain ⟨x126, ex126⟩ : ∃ y : Int32, y = x103 + 1 := ⟨_, rfl⟩
          have tx126 : x126.toInt = (x103.toInt + 1) := (congrArg Int32.toInt ex126).trans (xadd rfl (by decide) (by omega) (by omega))
          refine lv_iinc (v := x126) (lv' := [(3, .int x126), (2, .int r117), (0, .ref rn), (1, .ref pl)]) hx hb dX5_settle_26 hl (k := 1) rfl (by rw [ex126]; rfl) (by decide) rfl (fun ls hl => ?_)
          refine lv_goto (tgt := 4) hx hb dX5_settle_29 (by decide) ?_
          obtain ⟨hP, hD⟩ := xsb (ws' := [oX5 rn hy rsa ria raa rta rga dead key tick held tries trips ldraw gdraw, oAI rsa cI 8 rs_118, oAI ria cI 8 ri_119, oAI raa cI 8 ra_120, oAI rta cI 8 rt, oAI rga cI 8 rg_121, oX2 hy yaa yba yca ysz_122, oAI yaa cI 64 ya_123, oAI yba cI 64 yb_124, oAI yca cI 64 yc_125, oX3 pl pna pta rails limit retry behind, oAI pna cI 64 pn, oAJ pta cJ 64 pt]) hP hD [1, 2, 3, 4, 5, 6, 7, 8, 9, 10, 11, 12, 0] (by decide +kernel) rfl
          exact ihhl113 x126 r117 rs_118 ri_119 ra_120 rg_121 ysz_122 ya_123 yb_124 yc_125 (by omega) (xrng tx126 (by omega) (by omega)) (xrng rfl (by omega) (by omega)) (xrng rfl (by omega) (by omega)) (by rw [ex126]; exact hM) _ _ hP hD hS ls (lv_sub hl [0, 1, 2, 3] rfl)
  exact hl113 100000 0 1 rs ri ra rg ysz ya yb yc (by have z9_0 : (0 : Int32).toInt = 0 := (by decide); have z9_1 : (1 : Int32).toInt = 1 := (by decide); omega) ⟨by decide, by decide⟩ ⟨by decide, by decide⟩ (xrng rfl (by omega) (by omega)) hM _ _ hP hD hS ls (lv_sub hl [0, 1, 2, 3] rfl)
def K_sumDraw_3 (x39 : Int32) : (Int32) := (x39)
def K_sumDraw_10 (rec_2 : (Int32) → (Int32) → ((Int32))) (x38 : Int32) (x39 : Int32) (r50 : Int32) : (Int32) := (rec_2 (x38 + 1) (x39 + r50))
def K_sumDraw_6 (rec_2 : (Int32) → (Int32) → ((Int32))) (x38 : Int32) (x39 : Int32) (pn : Nat → Int32) : (Int32) := ((fun t9 => (K_sumDraw_10 rec_2 x38 x39 t9)) (M_number pn x38 (3 : Int32)))
def K_sumDraw_9 (rec_2 : (Int32) → (Int32) → ((Int32))) (x38 : Int32) (x39 : Int32) (r47 : Int32) : (Int32) := (rec_2 (x38 + 1) (x39 + r47))
def K_sumDraw_8 (rec_2 : (Int32) → (Int32) → ((Int32))) (x38 : Int32) (x39 : Int32) (pn : Nat → Int32) : (Int32) := ((fun t9 => (K_sumDraw_9 rec_2 x38 x39 t9)) (M_number pn x38 (4 : Int32)))
def K_sumDraw_7 (rec_2 : (Int32) → (Int32) → ((Int32))) (x38 : Int32) (x39 : Int32) : (Int32) := (rec_2 (x38 + 1) x39)
def K_sumDraw_5 (v42 : Int32) (rec_2 : (Int32) → (Int32) → ((Int32))) (x38 : Int32) (x39 : Int32) (pn : Nat → Int32) : (Int32) := (if v42.toInt = 2 then (K_sumDraw_8 rec_2 x38 x39 pn) else (K_sumDraw_7 rec_2 x38 x39))
def K_sumDraw_4 (rs : Nat → Int32) (x38 : Int32) (rec_2 : (Int32) → (Int32) → ((Int32))) (x39 : Int32) (pn : Nat → Int32) : (Int32) := (if (rs x38.toNatClampNeg).toInt = 3 then (K_sumDraw_6 rec_2 x38 x39 pn) else (K_sumDraw_5 (rs x38.toNatClampNeg) rec_2 x38 x39 pn))
def K_sumDraw_2 (rails : Int32) (x38 : Int32) (x39 : Int32) (rs : Nat → Int32) (rec_2 : (Int32) → (Int32) → ((Int32))) (pn : Nat → Int32) : (Int32) := (if rails.toInt ≤ x38.toInt then (K_sumDraw_3 x39) else (K_sumDraw_4 rs x38 rec_2 x39 pn))
def K_sumDraw_L2 (rails : Int32) (rs : Nat → Int32) (pn : Nat → Int32) : Nat → (Int32) → (Int32) → (Int32)
  | 0, _, _ => (0)
  | n9 + 1, x38, x39 => (K_sumDraw_2 rails x38 x39 rs (K_sumDraw_L2 rails rs pn n9) pn)
def K_sumDraw_1 (rails : Int32) (rs : Nat → Int32) (pn : Nat → Int32) : (Int32) := (K_sumDraw_L2 rails rs pn 100000 (0 : Int32) (0 : Int32))
def M_sumDraw (rails : Int32) (rs : Nat → Int32) (pn : Nat → Int32) : (Int32) := (K_sumDraw_1 rails rs pn)
abbrev W_sumDraw (cI cJ cZ cG cH : ClassId) (rn : Nat) (pl : Nat) (hy : Nat) (rsa : Nat) (ria : Nat) (raa : Nat) (rta : Nat) (rga : Nat) (dead : Int32) (key : Int32) (tick : Int32) (held : Int32) (tries : Int32) (trips : Int32) (ldraw : Int32) (gdraw : Int32) (rs : Nat → Int32) (pna : Nat) (pta : Nat) (rails : Int32) (limit : Int32) (retry : Int32) (behind : Int32) (pn : Nat → Int32) : va_W := [oX5 rn hy rsa ria raa rta rga dead key tick held tries trips ldraw gdraw, oAI rsa cI 8 rs, oX3 pl pna pta rails limit retry behind, oAI pna cI 64 pn]
abbrev Q_sumDraw (D : va_G) (cI cJ cZ cG cH : ClassId) (rn : Nat) (pl : Nat) (hy : Nat) (rsa : Nat) (ria : Nat) (raa : Nat) (rta : Nat) (rga : Nat) (dead : Int32) (key : Int32) (tick : Int32) (held : Int32) (tries : Int32) (trips : Int32) (ldraw : Int32) (gdraw : Int32) (rs : Nat → Int32) (pna : Nat) (pta : Nat) (rails : Int32) (limit : Int32) (retry : Int32) (behind : Int32) (pn : Nat → Int32) (A : Nat → Prop) : Array Value → State → Outcome → State → Prop := va_Qi (fun (r : Int32) (u9 : Int32) => r = u9 ∧ (True)) (fun u9 t => (M_sumDraw rails rs pn = (u9)) ∧ xB D (tyL cI cJ cZ cG cH) [oX5 rn hy rsa ria raa rta rga dead key tick held tries trips ldraw gdraw, oAI rsa cI 8 rs, oX3 pl pna pta rails limit retry behind, oAI pna cI 64 pn] A t) A
abbrev rm_sumDraw : Room := { frames := 1, cells := 0, slots := 0, locals := 22 }
set_option maxRecDepth 100000 in
set_option maxHeartbeats 40000000 in
theorem c_sumDraw (l : Launch) (D : va_G) (cI cJ cZ cG cH : ClassId) (sz : Nat) (rn : Nat) (pl : Nat) (hy : Nat) (rsa : Nat) (ria : Nat) (raa : Nat) (rta : Nat) (rga : Nat) (dead : Int32) (key : Int32) (tick : Int32) (held : Int32) (tries : Int32) (trips : Int32) (ldraw : Int32) (gdraw : Int32) (rs : Nat → Int32) (pna : Nat) (pta : Nat) (rails : Int32) (limit : Int32) (retry : Int32) (behind : Int32) (pn : Nat → Int32) (h_key : 0 ≤ key.toInt ∧ key.toInt ≤ 1) (h_rails : 0 ≤ rails.toInt ∧ rails.toInt ≤ 8) (h_pn : ∀ j, j < 64 → 0 ≤ (pn j).toInt ∧ (pn j).toInt ≤ 511) : Met l yX5_sumDraw (wt yX5_sumDraw cX5_sumDraw 4 (some .int)) rm_sumDraw (xPc [.ref rn, .ref pl] D (tyL cI cJ cZ cG cH) (W_sumDraw cI cJ cZ cG cH rn pl hy rsa ria raa rta rga dead key tick held tries trips ldraw gdraw rs pna pta rails limit retry behind pn) sz) (Q_sumDraw D cI cJ cZ cG cH rn pl hy rsa ria raa rta rga dead key tick held tries trips ldraw gdraw rs pna pta rails limit retry behind pn (va_A (W_sumDraw cI cJ cZ cG cH rn pl hy rsa ria raa rta rga dead key tick held tries trips ldraw gdraw rs pna pta rails limit retry behind pn) sz)) 0 0 (va_A (W_sumDraw cI cJ cZ cG cH rn pl hy rsa ria raa rta rga dead key tick held tries trips ldraw gdraw rs pna pta rails limit retry behind pn) sz) := by
  refine xMet (cc := cX5_sumDraw) (maxL := 4) (ret := (some .int)) (Qf := Q_sumDraw D cI cJ cZ cG cH rn pl hy rsa ria raa rta rga dead key tick held tries trips ldraw gdraw rs pna pta rails limit retry behind pn) (by decide) rfl (Nat.le_of_ble_eq_true rfl) ?_
  intro p e s m below meth c ls A hx hb hr hml hts hown hlocks hnm hsz hP hK hD hA hS hl
  have hown : s.vm.findClass RX5 = some m.cls := hown
  have hP : va_P D vwCl [oX5 rn hy rsa ria raa rta rga dead key tick held tries trips ldraw gdraw, oAI rsa cI 8 rs, oX3 pl pna pta rails limit retry behind, oAI pna cI 64 pn] s.heap := hP
  have hD : va_D A [oX5 rn hy rsa ria raa rta rga dead key tick held tries trips ldraw gdraw, oAI rsa cI 8 rs, oX3 pl pna pta rails limit retry behind, oAI pna cI 64 pn] := hD
  have hl : lv_has ls 4 [(0, .ref rn), (1, .ref pl)] := hl
  have hM : M_sumDraw rails rs pn = (K_sumDraw_1 rails rs pn) := rfl
  refine lv_iconst (v := 0) hx hb dX5_sumDraw_0 (by decide) ?_
  refine lv_istore_n (lv' := [(2, .int 0), (0, .ref rn), (1, .ref pl)]) hx hb dX5_sumDraw_1 rfl hl (by decide) rfl (fun ls hl => ?_)
  refine lv_iconst (v := 0) hx hb dX5_sumDraw_2 (by decide) ?_
  refine lv_istore_n (lv' := [(3, .int 0), (2, .int 0), (0, .ref rn), (1, .ref pl)]) hx hb dX5_sumDraw_3 rfl hl (by decide) rfl (fun ls hl => ?_)
  have hl40 : ∀ (nhl40 : Nat) (x38 : Int32) (x39 : Int32), ((8 - x38.toInt).toNat < nhl40) → (hx38 : 0 ≤ x38.toInt ∧ x38.toInt ≤ 8) → (hM : M_sumDraw rails rs pn = (K_sumDraw_L2 rails rs pn nhl40 x38 x39)) → ∀ (H : Heap) (locs : List Loc), va_P D vwCl [oX5 rn hy rsa ria raa rta rga dead key tick held tries trips ldraw gdraw, oAI rsa cI 8 rs, oX3 pl pna pta rails limit retry behind, oAI pna cI 64 pn] H → va_D A [oX5 rn hy rsa ria raa rta rga dead key tick held tries trips ldraw gdraw, oAI rsa cI 8 rs, oX3 pl pna pta rails limit retry behind, oAI pna cI 64 pn] → va_S A s.heap H locs → ∀ (ls : Array Slot), lv_has ls 4 [(3, .int x38), (2, .int x39), (0, .ref rn), (1, .ref pl)] → W p l e rm_sumDraw s m [Value.ref rn, Value.ref pl].toArray below meth c H locs 0 0 (MQ below ((Q_sumDraw D cI cJ cZ cG cH rn pl hy rsa ria raa rta rga dead key tick held tries trips ldraw gdraw rs pna pta rails limit retry behind pn) A) [Value.ref rn, Value.ref pl].toArray s 0 0 A) (F0 m 4 ls []) := by
    intro nhl40
    induction nhl40 with
    | zero =>
      intro x38 x39 hmhl40
      exact absurd hmhl40 (Nat.not_lt_zero _)
    | succ nhl40 ihhl40 =>
      intro x38 x39 hmhl40 hx38 hM H locs hP hD hS ls hl
      have hM : M_sumDraw rails rs pn = (K_sumDraw_2 rails x38 x39 rs (K_sumDraw_L2 rails rs pn nhl40) pn) := hM
      refine lv_iload_n hx hb dX5_sumDraw_4 rfl (lv_at hl 0 rfl) ?_
      refine lv_aload_n hx hb dX5_sumDraw_5 rfl (lv_at hl 3 rfl) ?_
      refine va_get (D := D) (ci := 2) (v := .int rails) (C := RX3) (T := TX3) (N := 6) hx hb hts (fun w h => tbC w (tbfX3 w h)) hown hK hP 2 rfl rfl 2 (by decide) (hts (.fieldLink RX5 106 "PowerRails$Plan" "rails" "I") (tbC _ wd209)) (fun _ h9 => h9) rfl dX5_sumDraw_6 ?_
      refine lv_icmp_ge (tgt := 59) hx hb dX5_sumDraw_9 (by decide) (fun c_41 => ?_) (fun c_41 => ?_)
      · skip
        have i_41 : rails.toInt ≤ x38.toInt := (ile rfl rfl).mp c_41
        have hM : M_sumDraw rails rs pn = (K_sumDraw_3 x39) := (show M_sumDraw rails rs pn = (if rails.toInt ≤ x38.toInt then (K_sumDraw_3 x39) else (K_sumDraw_4 rs x38 (K_sumDraw_L2 rails rs pn nhl40) x39 pn)) from hM).trans (if_pos i_41)
        refine lv_iload_n hx hb dX5_sumDraw_59 rfl (lv_at hl 1 rfl) ?_
        refine W.widen (k := 0) (n := 0) (by decide) (by decide) ?_
        exact W.iret (v := x39) hx hb hr (fun t ht hW => ⟨⟨x39, x39, rfl, ⟨rfl, trivial⟩, ⟨hM, xB_of9 ht hW hP hK hD [0, 1, 2, 3] (by decide +kernel) rfl⟩⟩, hS.F ht⟩) hS.2.2 dX5_sumDraw_60
      · skip
        have i_41 : ¬ (rails.toInt ≤ x38.toInt) := fun h9 => c_41 ((ile rfl rfl).mpr h9)
        have hM : M_sumDraw rails rs pn = (K_sumDraw_4 rs x38 (K_sumDraw_L2 rails rs pn nhl40) x39 pn) := (show M_sumDraw rails rs pn = (if rails.toInt ≤ x38.toInt then (K_sumDraw_3 x39) else (K_sumDraw_4 rs x38 (K_sumDraw_L2 rails rs pn nhl40) x39 pn)) from hM).trans (if_neg i_41)
        refine lv_aload_n hx hb dX5_sumDraw_12 rfl (lv_at hl 2 rfl) ?_
        refine va_get (D := D) (ci := 4) (v := .ref rsa) (C := RX5) (T := TX5) (N := 14) hx hb hts (fun w h => tbC w (tbfX5 w h)) hown hK hP 0 rfl rfl 1 (by decide) (hts (.fieldLink RX5 18 "PowerRails$Run" "states" "[I") (tbC _ wd108)) (fun _ h9 => h9) rfl dX5_sumDraw_13 ?_
        refine lv_iload_n hx hb dX5_sumDraw_16 rfl (lv_at hl 0 rfl) ?_
        refine va_iald hx hb hK hP 1 0 rfl rfl (vp_in_iff.mpr ⟨by omega, by omega⟩) dX5_sumDraw_17 ?_
        refine lv_topi (fun v42 ev42 => ?_)
        refine lv_iconst (v := 3) hx hb dX5_sumDraw_18 (by decide) ?_
        refine lv_icmp_ne (tgt := 34) hx hb dX5_sumDraw_19 (by decide) (fun c_43 => ?_) (fun c_43 => ?_)
        · skip
          have i_43 : ¬ (v42.toInt = 3) := fun h9 => c_43 ((ieq rfl (by decide)).mpr h9)
          have hM : M_sumDraw rails rs pn = (K_sumDraw_5 v42 (K_sumDraw_L2 rails rs pn nhl40) x38 x39 pn) := (show M_sumDraw rails rs pn = (if v42.toInt = 3 then (K_sumDraw_6 (K_sumDraw_L2 rails rs pn nhl40) x38 x39 pn) else (K_sumDraw_5 v42 (K_sumDraw_L2 rails rs pn nhl40) x38 x39 pn)) from (by rw [ev42]; exact hM)).trans (if_neg i_43)
          refine lv_aload_n hx hb dX5_sumDraw_34 rfl (lv_at hl 2 rfl) ?_
          refine va_get (D := D) (ci := 4) (v := .ref rsa) (C := RX5) (T := TX5) (N := 14) hx hb hts (fun w h => tbC w (tbfX5 w h)) hown hK hP 0 rfl rfl 1 (by decide) (hts (.fieldLink RX5 18 "PowerRails$Run" "states" "[I") (tbC _ wd108)) (fun _ h9 => h9) rfl dX5_sumDraw_35 ?_
          refine lv_iload_n hx hb dX5_sumDraw_38 rfl (lv_at hl 0 rfl) ?_
          refine va_iald hx hb hK hP 1 0 rfl rfl (vp_in_iff.mpr ⟨by omega, by omega⟩) dX5_sumDraw_39 ?_
          refine lv_topi (fun v44 ev44 => ?_)
          have qv44 : v44.toInt = v42.toInt := by rw [ev44, ev42]
          refine lv_iconst (v := 2) hx hb dX5_sumDraw_40 (by decide) ?_
          refine lv_icmp_ne (tgt := 53) hx hb dX5_sumDraw_41 (by decide) (fun c_45 => ?_) (fun c_45 => ?_)
          · skip
            have i_45 : ¬ (v42.toInt = 2) := fun h9 => c_45 ((ieq qv44 (by decide)).mpr h9)
            have hM : M_sumDraw rails rs pn = (K_sumDraw_7 (K_sumDraw_L2 rails rs pn nhl40) x38 x39) := (show M_sumDraw rails rs pn = (if v42.toInt = 2 then (K_sumDraw_8 (K_sumDraw_L2 rails rs pn nhl40) x38 x39 pn) else (K_sumDraw_7 (K_sumDraw_L2 rails rs pn nhl40) x38 x39)) from hM).trans (if_neg i_45)
            obtain ⟨x46, ex46⟩ : ∃ y : Int32, y = x38 + 1 := ⟨_, rfl⟩
            have tx46 : x46.toInt = (x38.toInt + 1) := (congrArg Int32.toInt ex46).trans (xadd rfl (by decide) (by omega) (by omega))
            refine lv_iinc (v := x46) (lv' := [(3, .int x46), (2, .int x39), (0, .ref rn), (1, .ref pl)]) hx hb dX5_sumDraw_53 hl (k := 0) rfl (by rw [ex46]; rfl) (by decide) rfl (fun ls hl => ?_)
            refine lv_goto (tgt := 4) hx hb dX5_sumDraw_56 (by decide) ?_
            exact ihhl40 x46 x39 (by omega) (xrng tx46 (by omega) (by omega)) (by rw [ex46]; exact hM) _ _ hP hD hS ls (lv_sub hl [0, 1, 2, 3] rfl)
          · skip
            have i_45 : v42.toInt = 2 := (ieq qv44 (by decide)).mp c_45
            have hM : M_sumDraw rails rs pn = (K_sumDraw_8 (K_sumDraw_L2 rails rs pn nhl40) x38 x39 pn) := (show M_sumDraw rails rs pn = (if v42.toInt = 2 then (K_sumDraw_8 (K_sumDraw_L2 rails rs pn nhl40) x38 x39 pn) else (K_sumDraw_7 (K_sumDraw_L2 rails rs pn nhl40) x38 x39)) from hM).trans (if_pos i_45)
            refine lv_iload_n hx hb dX5_sumDraw_44 rfl (lv_at hl 1 rfl) ?_
            refine lv_aload_n hx hb dX5_sumDraw_45 rfl (lv_at hl 3 rfl) ?_
            refine lv_iload_n hx hb dX5_sumDraw_46 rfl (lv_at hl 0 rfl) ?_
            refine lv_iconst (v := 4) hx hb dX5_sumDraw_47 (by decide) ?_
            obtain ⟨hPc, hDc, hFc, hC9⟩ := xpk (wc := W_number cI cJ cZ cG cH pl x38 (4 : Int32) pna pta rails limit retry behind pn) hP hD hS hA [2, 3] (by decide +kernel) rfl
            refine va_calli (va_runV (As := [.int x38, .int 4]) (rest := [.int x39]) ⟨hx, hb, hml, hown, hts⟩ (c_number l D cI cJ cZ cG cH H.size pl x38 (4 : Int32) pna pta rails limit retry behind pn (xrng rfl (by omega) (by omega)) ⟨by decide, by decide⟩ (xrng rfl (by omega) (by omega)) (xwk_rng h_pn (by decide) (by decide))) (cwV 2 hts (xGV tbC wd397 wd368 wd369 wd59 wd996) rfl rfl rfl (by decide +kernel) ⟨Nat.le_of_ble_eq_true rfl, Nat.le_of_ble_eq_true rfl⟩) ⟨xPc_blind, va_recv hK hPc (ci := 2) (q0 := 0) rfl rfl, xPc_pre hPc hK hDc⟩ rfl rfl hl.1 rfl (lv_room (Nat.le_of_ble_eq_true rfl)) dX5_sumDraw_48 ⟨Nat.le_of_ble_eq_true rfl, Nat.le_of_ble_eq_true rfl⟩) hS (fun q _ h => hFc q h) hFc (fun r47 u t H1 locs ht hvm hw47 hB hz1 hk1 hS => ?_)
            obtain ⟨hru9, hw47⟩ := hw47
            subst hru9
            obtain ⟨hf47_0, hP1, hK1, hD1⟩ := hB
            rw [ht] at hP1
            obtain ⟨hP, hD⟩ : xPD D A [oX5 rn hy rsa ria raa rta rga dead key tick held tries trips ldraw gdraw, oAI rsa cI 8 rs, oX3 pl pna pta rails limit retry behind, oAI pna cI 64 pn] H1 := xjn 2 hP hD [2, 3] [0, 1] hC9 rfl (by decide +kernel) (by decide +kernel) hk1 hFc hP1 hD1
            generalize H1 = H at hP hS ⊢
            have hf47_0 : M_number pn x38 (4 : Int32) = (r47) := hf47_0
            have hw47 : 0 ≤ r47.toInt ∧ r47.toInt ≤ 511 := hw47
            have h9M := congrArg (fun t9 => (K_sumDraw_9 (K_sumDraw_L2 rails rs pn nhl40) x38 x39 t9)) hf47_0
            have hM : M_sumDraw rails rs pn = (K_sumDraw_9 (K_sumDraw_L2 rails rs pn nhl40) x38 x39 r47) := (show M_sumDraw rails rs pn = ((fun t9 => (K_sumDraw_9 (K_sumDraw_L2 rails rs pn nhl40) x38 x39 t9)) (M_number pn x38 (4 : Int32))) from hM).trans h9M
            refine lv_iadd hx hb dX5_sumDraw_51 ?_
            refine lv_topi (fun v48 ev48 => ?_)
            refine lv_istore_n (lv' := [(2, .int v48), (3, .int x38), (0, .ref rn), (1, .ref pl)]) hx hb dX5_sumDraw_52 rfl hl (by decide) rfl (fun ls hl => ?_)
            obtain ⟨x49, ex49⟩ : ∃ y : Int32, y = x38 + 1 := ⟨_, rfl⟩
            have tx49 : x49.toInt = (x38.toInt + 1) := (congrArg Int32.toInt ex49).trans (xadd rfl (by decide) (by omega) (by omega))
            refine lv_iinc (v := x49) (lv' := [(3, .int x49), (2, .int v48), (0, .ref rn), (1, .ref pl)]) hx hb dX5_sumDraw_53 hl (k := 1) rfl (by rw [ex49]; rfl) (by decide) rfl (fun ls hl => ?_)
            refine lv_goto (tgt := 4) hx hb dX5_sumDraw_56 (by decide) ?_
            exact ihhl40 x49 v48 (by omega) (xrng tx49 (by omega) (by omega)) (by rw [ex49, ev48]; exact hM) _ _ hP hD hS ls (lv_sub hl [0, 1, 2, 3] rfl)
        · skip
          have i_43 : v42.toInt = 3 := (ieq rfl (by decide)).mp c_43
          have hM : M_sumDraw rails rs pn = (K_sumDraw_6 (K_sumDraw_L2 rails rs pn nhl40) x38 x39 pn) := (show M_sumDraw rails rs pn = (if v42.toInt = 3 then (K_sumDraw_6 (K_sumDraw_L2 rails rs pn nhl40) x38 x39 pn) else (K_sumDraw_5 v42 (K_sumDraw_L2 rails rs pn nhl40) x38 x39 pn)) from (by rw [ev42]; exact hM)).trans (if_pos i_43)
          refine lv_iload_n hx hb dX5_sumDraw_22 rfl (lv_at hl 1 rfl) ?_
          refine lv_aload_n hx hb dX5_sumDraw_23 rfl (lv_at hl 3 rfl) ?_
          refine lv_iload_n hx hb dX5_sumDraw_24 rfl (lv_at hl 0 rfl) ?_
          refine lv_iconst (v := 3) hx hb dX5_sumDraw_25 (by decide) ?_
          obtain ⟨hPc, hDc, hFc, hC9⟩ := xpk (wc := W_number cI cJ cZ cG cH pl x38 (3 : Int32) pna pta rails limit retry behind pn) hP hD hS hA [2, 3] (by decide +kernel) rfl
          refine va_calli (va_runV (As := [.int x38, .int 3]) (rest := [.int x39]) ⟨hx, hb, hml, hown, hts⟩ (c_number l D cI cJ cZ cG cH H.size pl x38 (3 : Int32) pna pta rails limit retry behind pn (xrng rfl (by omega) (by omega)) ⟨by decide, by decide⟩ (xrng rfl (by omega) (by omega)) (xwk_rng h_pn (by decide) (by decide))) (cwV 2 hts (xGV tbC wd397 wd368 wd369 wd59 wd996) rfl rfl rfl (by decide +kernel) ⟨Nat.le_of_ble_eq_true rfl, Nat.le_of_ble_eq_true rfl⟩) ⟨xPc_blind, va_recv hK hPc (ci := 2) (q0 := 0) rfl rfl, xPc_pre hPc hK hDc⟩ rfl rfl hl.1 rfl (lv_room (Nat.le_of_ble_eq_true rfl)) dX5_sumDraw_26 ⟨Nat.le_of_ble_eq_true rfl, Nat.le_of_ble_eq_true rfl⟩) hS (fun q _ h => hFc q h) hFc (fun r50 u t H1 locs ht hvm hw50 hB hz1 hk1 hS => ?_)
          obtain ⟨hru9, hw50⟩ := hw50
          subst hru9
          obtain ⟨hf50_0, hP1, hK1, hD1⟩ := hB
          rw [ht] at hP1
          obtain ⟨hP, hD⟩ : xPD D A [oX5 rn hy rsa ria raa rta rga dead key tick held tries trips ldraw gdraw, oAI rsa cI 8 rs, oX3 pl pna pta rails limit retry behind, oAI pna cI 64 pn] H1 := xjn 2 hP hD [2, 3] [0, 1] hC9 rfl (by decide +kernel) (by decide +kernel) hk1 hFc hP1 hD1
          generalize H1 = H at hP hS ⊢
          have hf50_0 : M_number pn x38 (3 : Int32) = (r50) := hf50_0
          have hw50 : 0 ≤ r50.toInt ∧ r50.toInt ≤ 511 := hw50
          have h9M := congrArg (fun t9 => (K_sumDraw_10 (K_sumDraw_L2 rails rs pn nhl40) x38 x39 t9)) hf50_0
          have hM : M_sumDraw rails rs pn = (K_sumDraw_10 (K_sumDraw_L2 rails rs pn nhl40) x38 x39 r50) := (show M_sumDraw rails rs pn = ((fun t9 => (K_sumDraw_10 (K_sumDraw_L2 rails rs pn nhl40) x38 x39 t9)) (M_number pn x38 (3 : Int32))) from hM).trans h9M
          refine lv_iadd hx hb dX5_sumDraw_29 ?_
          refine lv_topi (fun v51 ev51 => ?_)
          refine lv_istore_n (lv' := [(2, .int v51), (3, .int x38), (0, .ref rn), (1, .ref pl)]) hx hb dX5_sumDraw_30 rfl hl (by decide) rfl (fun ls hl => ?_)
          refine lv_goto (tgt := 53) hx hb dX5_sumDraw_31 (by decide) ?_
          obtain ⟨x52, ex52⟩ : ∃ y : Int32, y = x38 + 1 := ⟨_, rfl⟩
          have tx52 : x52.toInt = (x38.toInt + 1) := (congrArg Int32.toInt ex52).trans (xadd rfl (by decide) (by omega) (by omega))
          refine lv_iinc (v := x52) (lv' := [(3, .int x52), (2, .int v51), (0, .ref rn), (1, .ref pl)]) hx hb dX5_sumDraw_53 hl (k := 1) rfl (by rw [ex52]; rfl) (by decide) rfl (fun ls hl => ?_)
          refine lv_goto (tgt := 4) hx hb dX5_sumDraw_56 (by decide) ?_
          exact ihhl40 x52 v51 (by omega) (xrng tx52 (by omega) (by omega)) (by rw [ex52, ev51]; exact hM) _ _ hP hD hS ls (lv_sub hl [0, 1, 2, 3] rfl)
  exact hl40 100000 0 0 (by have z9_0 : (0 : Int32).toInt = 0 := (by decide); omega) ⟨by decide, by decide⟩ hM _ _ hP hD hS ls (lv_sub hl [0, 1, 2, 3] rfl)
def K_whyTrip_5  : (Int32) := ((0 : Int32))
def K_whyTrip_10 (rec_4 : (Int32) → ((Int32))) (x55 : Int32) : (Int32) := (rec_4 (x55 + 1))
def K_whyTrip_12 (rec_4 : (Int32) → ((Int32))) (x55 : Int32) : (Int32) := (rec_4 (x55 + 1))
def K_whyTrip_13  : (Int32) := ((2 : Int32))
def K_whyTrip_11 (ra : Nat → Int32) (x55 : Int32) (r58 : Int32) (rec_4 : (Int32) → ((Int32))) : (Int32) := (if (ra x55.toNatClampNeg).toInt < r58.toInt then (K_whyTrip_12 rec_4 x55) else (K_whyTrip_13))
def K_whyTrip_8 (r58 : Int32) (rec_4 : (Int32) → ((Int32))) (x55 : Int32) (ra : Nat → Int32) : (Int32) := (if r58.toInt ≤ 0 then (K_whyTrip_10 rec_4 x55) else (K_whyTrip_11 ra x55 r58 rec_4))
def K_whyTrip_18 (rec_4 : (Int32) → ((Int32))) (x55 : Int32) : (Int32) := (rec_4 (x55 + 1))
def K_whyTrip_20 (rec_4 : (Int32) → ((Int32))) (x55 : Int32) : (Int32) := (rec_4 (x55 + 1))
def K_whyTrip_21  : (Int32) := ((2 : Int32))
def K_whyTrip_19 (ra : Nat → Int32) (x55 : Int32) (r58 : Int32) (rec_4 : (Int32) → ((Int32))) : (Int32) := (if (ra x55.toNatClampNeg).toInt < r58.toInt then (K_whyTrip_20 rec_4 x55) else (K_whyTrip_21))
def K_whyTrip_15 (r58 : Int32) (rec_4 : (Int32) → ((Int32))) (x55 : Int32) (ra : Nat → Int32) : (Int32) := (if r58.toInt ≤ 0 then (K_whyTrip_18 rec_4 x55) else (K_whyTrip_19 ra x55 r58 rec_4))
def K_whyTrip_16 (rec_4 : (Int32) → ((Int32))) (x55 : Int32) : (Int32) := (rec_4 (x55 + 1))
def K_whyTrip_17 (rec_4 : (Int32) → ((Int32))) (x55 : Int32) : (Int32) := (rec_4 (x55 + 1))
def K_whyTrip_14 (r58 : Int32) (rec_4 : (Int32) → ((Int32))) (x55 : Int32) : (Int32) := (if r58.toInt ≤ 0 then (K_whyTrip_16 rec_4 x55) else (K_whyTrip_17 rec_4 x55))
def K_whyTrip_9 (v59 : Int32) (r58 : Int32) (rec_4 : (Int32) → ((Int32))) (x55 : Int32) (ra : Nat → Int32) : (Int32) := (if v59.toInt = 2 then (K_whyTrip_15 r58 rec_4 x55 ra) else (K_whyTrip_14 r58 rec_4 x55))
def K_whyTrip_7 (rs : Nat → Int32) (x55 : Int32) (r58 : Int32) (rec_4 : (Int32) → ((Int32))) (ra : Nat → Int32) : (Int32) := (if (rs x55.toNatClampNeg).toInt = 1 then (K_whyTrip_8 r58 rec_4 x55 ra) else (K_whyTrip_9 (rs x55.toNatClampNeg) r58 rec_4 x55 ra))
def K_whyTrip_6 (rs : Nat → Int32) (x55 : Int32) (rec_4 : (Int32) → ((Int32))) (ra : Nat → Int32) (pn : Nat → Int32) : (Int32) := ((fun t9 => (K_whyTrip_7 rs x55 t9 rec_4 ra)) (M_number pn x55 (6 : Int32)))
def K_whyTrip_4 (rails : Int32) (x55 : Int32) (rs : Nat → Int32) (rec_4 : (Int32) → ((Int32))) (ra : Nat → Int32) (pn : Nat → Int32) : (Int32) := (if rails.toInt ≤ x55.toInt then (K_whyTrip_5) else (K_whyTrip_6 rs x55 rec_4 ra pn))
def K_whyTrip_L4 (rails : Int32) (rs : Nat → Int32) (ra : Nat → Int32) (pn : Nat → Int32) : Nat → (Int32) → (Int32)
  | 0, _ => (0)
  | n9 + 1, x55 => (K_whyTrip_4 rails x55 rs (K_whyTrip_L4 rails rs ra pn n9) ra pn)
def K_whyTrip_2 (rails : Int32) (rs : Nat → Int32) (ra : Nat → Int32) (pn : Nat → Int32) : (Int32) := (K_whyTrip_L4 rails rs ra pn 100000 (0 : Int32))
def K_whyTrip_3  : (Int32) := ((1 : Int32))
def K_whyTrip_1 (ldraw : Int32) (limit : Int32) (rails : Int32) (rs : Nat → Int32) (ra : Nat → Int32) (pn : Nat → Int32) : (Int32) := (if ldraw.toInt ≤ limit.toInt then (K_whyTrip_2 rails rs ra pn) else (K_whyTrip_3))
def M_whyTrip (ldraw : Int32) (limit : Int32) (rails : Int32) (rs : Nat → Int32) (ra : Nat → Int32) (pn : Nat → Int32) : (Int32) := (K_whyTrip_1 ldraw limit rails rs ra pn)
abbrev W_whyTrip (cI cJ cZ cG cH : ClassId) (rn : Nat) (pl : Nat) (hy : Nat) (rsa : Nat) (ria : Nat) (raa : Nat) (rta : Nat) (rga : Nat) (dead : Int32) (key : Int32) (tick : Int32) (held : Int32) (tries : Int32) (trips : Int32) (ldraw : Int32) (gdraw : Int32) (rs : Nat → Int32) (ra : Nat → Int32) (pna : Nat) (pta : Nat) (rails : Int32) (limit : Int32) (retry : Int32) (behind : Int32) (pn : Nat → Int32) : va_W := [oX5 rn hy rsa ria raa rta rga dead key tick held tries trips ldraw gdraw, oAI rsa cI 8 rs, oAI raa cI 8 ra, oX3 pl pna pta rails limit retry behind, oAI pna cI 64 pn]
abbrev Q_whyTrip (D : va_G) (cI cJ cZ cG cH : ClassId) (rn : Nat) (pl : Nat) (hy : Nat) (rsa : Nat) (ria : Nat) (raa : Nat) (rta : Nat) (rga : Nat) (dead : Int32) (key : Int32) (tick : Int32) (held : Int32) (tries : Int32) (trips : Int32) (ldraw : Int32) (gdraw : Int32) (rs : Nat → Int32) (ra : Nat → Int32) (pna : Nat) (pta : Nat) (rails : Int32) (limit : Int32) (retry : Int32) (behind : Int32) (pn : Nat → Int32) (A : Nat → Prop) : Array Value → State → Outcome → State → Prop := va_Qi (fun (r : Int32) (u9 : Int32) => r = u9 ∧ (0 ≤ r.toInt ∧ r.toInt ≤ 2)) (fun u9 t => (M_whyTrip ldraw limit rails rs ra pn = (u9)) ∧ xB D (tyL cI cJ cZ cG cH) [oX5 rn hy rsa ria raa rta rga dead key tick held tries trips ldraw gdraw, oAI rsa cI 8 rs, oAI raa cI 8 ra, oX3 pl pna pta rails limit retry behind, oAI pna cI 64 pn] A t) A
abbrev rm_whyTrip : Room := { frames := 1, cells := 0, slots := 0, locals := 22 }
set_option maxRecDepth 100000 in
set_option maxHeartbeats 40000000 in
theorem c_whyTrip (l : Launch) (D : va_G) (cI cJ cZ cG cH : ClassId) (sz : Nat) (rn : Nat) (pl : Nat) (hy : Nat) (rsa : Nat) (ria : Nat) (raa : Nat) (rta : Nat) (rga : Nat) (dead : Int32) (key : Int32) (tick : Int32) (held : Int32) (tries : Int32) (trips : Int32) (ldraw : Int32) (gdraw : Int32) (rs : Nat → Int32) (ra : Nat → Int32) (pna : Nat) (pta : Nat) (rails : Int32) (limit : Int32) (retry : Int32) (behind : Int32) (pn : Nat → Int32) (h_key : 0 ≤ key.toInt ∧ key.toInt ≤ 1) (h_rails : 0 ≤ rails.toInt ∧ rails.toInt ≤ 8) (h_pn : ∀ j, j < 64 → 0 ≤ (pn j).toInt ∧ (pn j).toInt ≤ 511) : Met l yX5_whyTrip (wt yX5_whyTrip cX5_whyTrip 5 (some .int)) rm_whyTrip (xPc [.ref rn, .ref pl] D (tyL cI cJ cZ cG cH) (W_whyTrip cI cJ cZ cG cH rn pl hy rsa ria raa rta rga dead key tick held tries trips ldraw gdraw rs ra pna pta rails limit retry behind pn) sz) (Q_whyTrip D cI cJ cZ cG cH rn pl hy rsa ria raa rta rga dead key tick held tries trips ldraw gdraw rs ra pna pta rails limit retry behind pn (va_A (W_whyTrip cI cJ cZ cG cH rn pl hy rsa ria raa rta rga dead key tick held tries trips ldraw gdraw rs ra pna pta rails limit retry behind pn) sz)) 0 0 (va_A (W_whyTrip cI cJ cZ cG cH rn pl hy rsa ria raa rta rga dead key tick held tries trips ldraw gdraw rs ra pna pta rails limit retry behind pn) sz) := by
  refine xMet (cc := cX5_whyTrip) (maxL := 5) (ret := (some .int)) (Qf := Q_whyTrip D cI cJ cZ cG cH rn pl hy rsa ria raa rta rga dead key tick held tries trips ldraw gdraw rs ra pna pta rails limit retry behind pn) (by decide) rfl (Nat.le_of_ble_eq_true rfl) ?_
  intro p e s m below meth c ls A hx hb hr hml hts hown hlocks hnm hsz hP hK hD hA hS hl
  have hown : s.vm.findClass RX5 = some m.cls := hown
  have hP : va_P D vwCl [oX5 rn hy rsa ria raa rta rga dead key tick held tries trips ldraw gdraw, oAI rsa cI 8 rs, oAI raa cI 8 ra, oX3 pl pna pta rails limit retry behind, oAI pna cI 64 pn] s.heap := hP
  have hD : va_D A [oX5 rn hy rsa ria raa rta rga dead key tick held tries trips ldraw gdraw, oAI rsa cI 8 rs, oAI raa cI 8 ra, oX3 pl pna pta rails limit retry behind, oAI pna cI 64 pn] := hD
  have hl : lv_has ls 5 [(0, .ref rn), (1, .ref pl)] := hl
  have hM : M_whyTrip ldraw limit rails rs ra pn = (K_whyTrip_1 ldraw limit rails rs ra pn) := rfl
  refine lv_aload_n hx hb dX5_whyTrip_0 rfl (lv_at hl 0 rfl) ?_
  refine va_get (D := D) (ci := 4) (v := .int ldraw) (C := RX5) (T := TX5) (N := 14) hx hb hts (fun w h => tbC w (tbfX5 w h)) hown hK hP 0 rfl rfl 12 (by decide) (hts (.fieldLink RX5 66 "PowerRails$Run" "latestDraw" "I") (tbC _ wd129)) (fun _ h9 => h9) rfl dX5_whyTrip_1 ?_
  refine lv_aload_n hx hb dX5_whyTrip_4 rfl (lv_at hl 1 rfl) ?_
  refine va_get (D := D) (ci := 2) (v := .int limit) (C := RX3) (T := TX3) (N := 6) hx hb hts (fun w h => tbC w (tbfX3 w h)) hown hK hP 3 rfl rfl 3 (by decide) (hts (.fieldLink RX5 125 "PowerRails$Plan" "limit" "I") (tbC _ wd215)) (fun _ h9 => h9) rfl dX5_whyTrip_5 ?_
  refine lv_icmp_le (tgt := 13) hx hb dX5_whyTrip_8 (by decide) (fun c_1 => ?_) (fun c_1 => ?_)
  · skip
    have i_1 : ldraw.toInt ≤ limit.toInt := (ile rfl rfl).mp c_1
    have hM : M_whyTrip ldraw limit rails rs ra pn = (K_whyTrip_2 rails rs ra pn) := (show M_whyTrip ldraw limit rails rs ra pn = (if ldraw.toInt ≤ limit.toInt then (K_whyTrip_2 rails rs ra pn) else (K_whyTrip_3)) from hM).trans (if_pos i_1)
    refine lv_iconst (v := 0) hx hb dX5_whyTrip_13 (by decide) ?_
    refine lv_istore_n (lv' := [(2, .int 0), (0, .ref rn), (1, .ref pl)]) hx hb dX5_whyTrip_14 rfl hl (by decide) rfl (fun ls hl => ?_)
    have hl56 : ∀ (nhl56 : Nat) (x55 : Int32), ((8 - x55.toInt).toNat < nhl56) → (hx55 : 0 ≤ x55.toInt ∧ x55.toInt ≤ 8) → (hM : M_whyTrip ldraw limit rails rs ra pn = (K_whyTrip_L4 rails rs ra pn nhl56 x55)) → ∀ (H : Heap) (locs : List Loc), va_P D vwCl [oX5 rn hy rsa ria raa rta rga dead key tick held tries trips ldraw gdraw, oAI rsa cI 8 rs, oAI raa cI 8 ra, oX3 pl pna pta rails limit retry behind, oAI pna cI 64 pn] H → va_D A [oX5 rn hy rsa ria raa rta rga dead key tick held tries trips ldraw gdraw, oAI rsa cI 8 rs, oAI raa cI 8 ra, oX3 pl pna pta rails limit retry behind, oAI pna cI 64 pn] → va_S A s.heap H locs → ∀ (ls : Array Slot), lv_has ls 5 [(2, .int x55), (0, .ref rn), (1, .ref pl)] → W p l e rm_whyTrip s m [Value.ref rn, Value.ref pl].toArray below meth c H locs 0 0 (MQ below ((Q_whyTrip D cI cJ cZ cG cH rn pl hy rsa ria raa rta rga dead key tick held tries trips ldraw gdraw rs ra pna pta rails limit retry behind pn) A) [Value.ref rn, Value.ref pl].toArray s 0 0 A) (F0 m 15 ls []) := by
      intro nhl56
      induction nhl56 with
      | zero =>
        intro x55 hmhl56
        exact absurd hmhl56 (Nat.not_lt_zero _)
      | succ nhl56 ihhl56 =>
        intro x55 hmhl56 hx55 hM H locs hP hD hS ls hl
        have hM : M_whyTrip ldraw limit rails rs ra pn = (K_whyTrip_4 rails x55 rs (K_whyTrip_L4 rails rs ra pn nhl56) ra pn) := hM
        refine lv_iload_n hx hb dX5_whyTrip_15 rfl (lv_at hl 0 rfl) ?_
        refine lv_aload_n hx hb dX5_whyTrip_16 rfl (lv_at hl 2 rfl) ?_
        refine va_get (D := D) (ci := 2) (v := .int rails) (C := RX3) (T := TX3) (N := 6) hx hb hts (fun w h => tbC w (tbfX3 w h)) hown hK hP 3 rfl rfl 2 (by decide) (hts (.fieldLink RX5 106 "PowerRails$Plan" "rails" "I") (tbC _ wd209)) (fun _ h9 => h9) rfl dX5_whyTrip_17 ?_
        refine lv_icmp_ge (tgt := 85) hx hb dX5_whyTrip_20 (by decide) (fun c_57 => ?_) (fun c_57 => ?_)
        · skip
          have i_57 : rails.toInt ≤ x55.toInt := (ile rfl rfl).mp c_57
          have hM : M_whyTrip ldraw limit rails rs ra pn = (K_whyTrip_5) := (show M_whyTrip ldraw limit rails rs ra pn = (if rails.toInt ≤ x55.toInt then (K_whyTrip_5) else (K_whyTrip_6 rs x55 (K_whyTrip_L4 rails rs ra pn nhl56) ra pn)) from hM).trans (if_pos i_57)
          refine lv_iconst (v := 0) hx hb dX5_whyTrip_85 (by decide) ?_
          refine W.widen (k := 0) (n := 0) (by decide) (by decide) ?_
          exact W.iret (v := 0) hx hb hr (fun t ht hW => ⟨⟨0, 0, rfl, ⟨rfl, ⟨by decide, by decide⟩⟩, ⟨hM, xB_of9 ht hW hP hK hD [0, 1, 2, 3, 4] (by decide +kernel) rfl⟩⟩, hS.F ht⟩) hS.2.2 dX5_whyTrip_86
        · skip
          have i_57 : ¬ (rails.toInt ≤ x55.toInt) := fun h9 => c_57 ((ile rfl rfl).mpr h9)
          have hM : M_whyTrip ldraw limit rails rs ra pn = (K_whyTrip_6 rs x55 (K_whyTrip_L4 rails rs ra pn nhl56) ra pn) := (show M_whyTrip ldraw limit rails rs ra pn = (if rails.toInt ≤ x55.toInt then (K_whyTrip_5) else (K_whyTrip_6 rs x55 (K_whyTrip_L4 rails rs ra pn nhl56) ra pn)) from hM).trans (if_neg i_57)
          refine lv_aload_n hx hb dX5_whyTrip_23 rfl (lv_at hl 2 rfl) ?_
          refine lv_iload_n hx hb dX5_whyTrip_24 rfl (lv_at hl 0 rfl) ?_
          refine lv_bipush (v := 6) hx hb dX5_whyTrip_25 (by decide) ?_
          obtain ⟨hPc, hDc, hFc, hC9⟩ := xpk (wc := W_number cI cJ cZ cG cH pl x55 (6 : Int32) pna pta rails limit retry behind pn) hP hD hS hA [3, 4] (by decide +kernel) rfl
          refine va_calli (va_runV (As := [.int x55, .int 6]) (rest := []) ⟨hx, hb, hml, hown, hts⟩ (c_number l D cI cJ cZ cG cH H.size pl x55 (6 : Int32) pna pta rails limit retry behind pn (xrng rfl (by omega) (by omega)) ⟨by decide, by decide⟩ (xrng rfl (by omega) (by omega)) (xwk_rng h_pn (by decide) (by decide))) (cwV 2 hts (xGV tbC wd397 wd368 wd369 wd59 wd996) rfl rfl rfl (by decide +kernel) ⟨Nat.le_of_ble_eq_true rfl, Nat.le_of_ble_eq_true rfl⟩) ⟨xPc_blind, va_recv hK hPc (ci := 2) (q0 := 0) rfl rfl, xPc_pre hPc hK hDc⟩ rfl rfl hl.1 rfl (lv_room (Nat.le_of_ble_eq_true rfl)) dX5_whyTrip_27 ⟨Nat.le_of_ble_eq_true rfl, Nat.le_of_ble_eq_true rfl⟩) hS (fun q _ h => hFc q h) hFc (fun r58 u t H1 locs ht hvm hw58 hB hz1 hk1 hS => ?_)
          obtain ⟨hru9, hw58⟩ := hw58
          subst hru9
          obtain ⟨hf58_0, hP1, hK1, hD1⟩ := hB
          rw [ht] at hP1
          obtain ⟨hP, hD⟩ : xPD D A [oX5 rn hy rsa ria raa rta rga dead key tick held tries trips ldraw gdraw, oAI rsa cI 8 rs, oAI raa cI 8 ra, oX3 pl pna pta rails limit retry behind, oAI pna cI 64 pn] H1 := xjn 3 hP hD [3, 4] [0, 1, 2] hC9 rfl (by decide +kernel) (by decide +kernel) hk1 hFc hP1 hD1
          generalize H1 = H at hP hS ⊢
          have hf58_0 : M_number pn x55 (6 : Int32) = (r58) := hf58_0
          have hw58 : 0 ≤ r58.toInt ∧ r58.toInt ≤ 511 := hw58
          have h9M := congrArg (fun t9 => (K_whyTrip_7 rs x55 t9 (K_whyTrip_L4 rails rs ra pn nhl56) ra)) hf58_0
          have hM : M_whyTrip ldraw limit rails rs ra pn = (K_whyTrip_7 rs x55 r58 (K_whyTrip_L4 rails rs ra pn nhl56) ra) := (show M_whyTrip ldraw limit rails rs ra pn = ((fun t9 => (K_whyTrip_7 rs x55 t9 (K_whyTrip_L4 rails rs ra pn nhl56) ra)) (M_number pn x55 (6 : Int32))) from hM).trans h9M
          refine lv_istore_n (lv' := [(3, .int r58), (2, .int x55), (0, .ref rn), (1, .ref pl)]) hx hb dX5_whyTrip_30 rfl hl (by decide) rfl (fun ls hl => ?_)
          refine lv_aload_n hx hb dX5_whyTrip_31 rfl (lv_at hl 2 rfl) ?_
          refine va_get (D := D) (ci := 4) (v := .ref rsa) (C := RX5) (T := TX5) (N := 14) hx hb hts (fun w h => tbC w (tbfX5 w h)) hown hK hP 0 rfl rfl 1 (by decide) (hts (.fieldLink RX5 18 "PowerRails$Run" "states" "[I") (tbC _ wd108)) (fun _ h9 => h9) rfl dX5_whyTrip_32 ?_
          refine lv_iload_n hx hb dX5_whyTrip_35 rfl (lv_at hl 1 rfl) ?_
          refine va_iald hx hb hK hP 1 0 rfl rfl (vp_in_iff.mpr ⟨by omega, by omega⟩) dX5_whyTrip_36 ?_
          refine lv_topi (fun v59 ev59 => ?_)
          refine lv_iconst (v := 1) hx hb dX5_whyTrip_37 (by decide) ?_
          refine lv_icmp_eq (tgt := 51) hx hb dX5_whyTrip_38 (by decide) (fun c_60 => ?_) (fun c_60 => ?_)
          · skip
            have i_60 : v59.toInt = 1 := (ieq rfl (by decide)).mp c_60
            have hM : M_whyTrip ldraw limit rails rs ra pn = (K_whyTrip_8 r58 (K_whyTrip_L4 rails rs ra pn nhl56) x55 ra) := (show M_whyTrip ldraw limit rails rs ra pn = (if v59.toInt = 1 then (K_whyTrip_8 r58 (K_whyTrip_L4 rails rs ra pn nhl56) x55 ra) else (K_whyTrip_9 v59 r58 (K_whyTrip_L4 rails rs ra pn nhl56) x55 ra)) from (by rw [ev59]; exact hM)).trans (if_pos i_60)
            refine lv_iconst (v := 1) hx hb dX5_whyTrip_51 (by decide) ?_
            refine lv_goto (tgt := 56) hx hb dX5_whyTrip_52 (by decide) ?_
            refine lv_istore (lv' := [(4, .int 1), (3, .int r58), (2, .int x55), (0, .ref rn), (1, .ref pl)]) hx hb dX5_whyTrip_56 hl (by decide) rfl (fun ls hl => ?_)
            refine lv_iload_n hx hb dX5_whyTrip_58 rfl (lv_at hl 1 rfl) ?_
            refine lv_if_le (tgt := 79) hx hb dX5_whyTrip_59 (by decide) (fun c_61 => ?_) (fun c_61 => ?_)
            · skip
              have i_61 : r58.toInt ≤ 0 := (ile rfl (by decide)).mp c_61
              have hM : M_whyTrip ldraw limit rails rs ra pn = (K_whyTrip_10 (K_whyTrip_L4 rails rs ra pn nhl56) x55) := (show M_whyTrip ldraw limit rails rs ra pn = (if r58.toInt ≤ 0 then (K_whyTrip_10 (K_whyTrip_L4 rails rs ra pn nhl56) x55) else (K_whyTrip_11 ra x55 r58 (K_whyTrip_L4 rails rs ra pn nhl56))) from hM).trans (if_pos i_61)
              obtain ⟨x62, ex62⟩ : ∃ y : Int32, y = x55 + 1 := ⟨_, rfl⟩
              have tx62 : x62.toInt = (x55.toInt + 1) := (congrArg Int32.toInt ex62).trans (xadd rfl (by decide) (by omega) (by omega))
              refine lv_iinc (v := x62) (lv' := [(2, .int x62), (4, .int 1), (3, .int r58), (0, .ref rn), (1, .ref pl)]) hx hb dX5_whyTrip_79 hl (k := 2) rfl (by rw [ex62]; rfl) (by decide) rfl (fun ls hl => ?_)
              refine lv_goto (tgt := 15) hx hb dX5_whyTrip_82 (by decide) ?_
              exact ihhl56 x62 (by omega) (xrng tx62 (by omega) (by omega)) (by rw [ex62]; exact hM) _ _ hP hD hS ls (lv_sub hl [0, 3, 4] rfl)
            · skip
              have i_61 : ¬ (r58.toInt ≤ 0) := fun h9 => c_61 ((ile rfl (by decide)).mpr h9)
              have hM : M_whyTrip ldraw limit rails rs ra pn = (K_whyTrip_11 ra x55 r58 (K_whyTrip_L4 rails rs ra pn nhl56)) := (show M_whyTrip ldraw limit rails rs ra pn = (if r58.toInt ≤ 0 then (K_whyTrip_10 (K_whyTrip_L4 rails rs ra pn nhl56) x55) else (K_whyTrip_11 ra x55 r58 (K_whyTrip_L4 rails rs ra pn nhl56))) from hM).trans (if_neg i_61)
              refine lv_iload hx hb dX5_whyTrip_62 (lv_at hl 0 rfl) ?_
              refine lv_if_eq (tgt := 79) hx hb dX5_whyTrip_64 (by decide) (fun c9 => absurd c9 (by decide)) (fun _ => ?_)
              refine lv_aload_n hx hb dX5_whyTrip_67 rfl (lv_at hl 3 rfl) ?_
              refine va_get (D := D) (ci := 4) (v := .ref raa) (C := RX5) (T := TX5) (N := 14) hx hb hts (fun w h => tbC w (tbfX5 w h)) hown hK hP 0 rfl rfl 3 (by decide) (hts (.fieldLink RX5 25 "PowerRails$Run" "asked" "[I") (tbC _ wd112)) (fun _ h9 => h9) rfl dX5_whyTrip_68 ?_
              refine lv_iload_n hx hb dX5_whyTrip_71 rfl (lv_at hl 2 rfl) ?_
              refine va_iald hx hb hK hP 2 0 rfl rfl (vp_in_iff.mpr ⟨by omega, by omega⟩) dX5_whyTrip_72 ?_
              refine lv_topi (fun v63 ev63 => ?_)
              refine lv_iload_n hx hb dX5_whyTrip_73 rfl (lv_at hl 1 rfl) ?_
              refine lv_icmp_lt (tgt := 79) hx hb dX5_whyTrip_74 (by decide) (fun c_64 => ?_) (fun c_64 => ?_)
              · skip
                have i_64 : v63.toInt < r58.toInt := (ilt rfl rfl).mp c_64
                have hM : M_whyTrip ldraw limit rails rs ra pn = (K_whyTrip_12 (K_whyTrip_L4 rails rs ra pn nhl56) x55) := (show M_whyTrip ldraw limit rails rs ra pn = (if v63.toInt < r58.toInt then (K_whyTrip_12 (K_whyTrip_L4 rails rs ra pn nhl56) x55) else (K_whyTrip_13)) from (by rw [ev63]; exact hM)).trans (if_pos i_64)
                obtain ⟨x65, ex65⟩ : ∃ y : Int32, y = x55 + 1 := ⟨_, rfl⟩
                have tx65 : x65.toInt = (x55.toInt + 1) := (congrArg Int32.toInt ex65).trans (xadd rfl (by decide) (by omega) (by omega))
                refine lv_iinc (v := x65) (lv' := [(2, .int x65), (4, .int 1), (3, .int r58), (0, .ref rn), (1, .ref pl)]) hx hb dX5_whyTrip_79 hl (k := 2) rfl (by rw [ex65]; rfl) (by decide) rfl (fun ls hl => ?_)
                refine lv_goto (tgt := 15) hx hb dX5_whyTrip_82 (by decide) ?_
                exact ihhl56 x65 (by omega) (xrng tx65 (by omega) (by omega)) (by rw [ex65]; exact hM) _ _ hP hD hS ls (lv_sub hl [0, 3, 4] rfl)
              · skip
                have i_64 : ¬ (v63.toInt < r58.toInt) := fun h9 => c_64 ((ilt rfl rfl).mpr h9)
                have hM : M_whyTrip ldraw limit rails rs ra pn = (K_whyTrip_13) := (show M_whyTrip ldraw limit rails rs ra pn = (if v63.toInt < r58.toInt then (K_whyTrip_12 (K_whyTrip_L4 rails rs ra pn nhl56) x55) else (K_whyTrip_13)) from (by rw [ev63]; exact hM)).trans (if_neg i_64)
                refine lv_iconst (v := 2) hx hb dX5_whyTrip_77 (by decide) ?_
                refine W.widen (k := 0) (n := 0) (by decide) (by decide) ?_
                exact W.iret (v := 2) hx hb hr (fun t ht hW => ⟨⟨2, 2, rfl, ⟨rfl, ⟨by decide, by decide⟩⟩, ⟨hM, xB_of9 ht hW hP hK hD [0, 1, 2, 3, 4] (by decide +kernel) rfl⟩⟩, hS.F ht⟩) hS.2.2 dX5_whyTrip_78
          · skip
            have i_60 : ¬ (v59.toInt = 1) := fun h9 => c_60 ((ieq rfl (by decide)).mpr h9)
            have hM : M_whyTrip ldraw limit rails rs ra pn = (K_whyTrip_9 v59 r58 (K_whyTrip_L4 rails rs ra pn nhl56) x55 ra) := (show M_whyTrip ldraw limit rails rs ra pn = (if v59.toInt = 1 then (K_whyTrip_8 r58 (K_whyTrip_L4 rails rs ra pn nhl56) x55 ra) else (K_whyTrip_9 v59 r58 (K_whyTrip_L4 rails rs ra pn nhl56) x55 ra)) from (by rw [ev59]; exact hM)).trans (if_neg i_60)
            refine lv_aload_n hx hb dX5_whyTrip_41 rfl (lv_at hl 2 rfl) ?_
            refine va_get (D := D) (ci := 4) (v := .ref rsa) (C := RX5) (T := TX5) (N := 14) hx hb hts (fun w h => tbC w (tbfX5 w h)) hown hK hP 0 rfl rfl 1 (by decide) (hts (.fieldLink RX5 18 "PowerRails$Run" "states" "[I") (tbC _ wd108)) (fun _ h9 => h9) rfl dX5_whyTrip_42 ?_
            refine lv_iload_n hx hb dX5_whyTrip_45 rfl (lv_at hl 1 rfl) ?_
            refine va_iald hx hb hK hP 1 0 rfl rfl (vp_in_iff.mpr ⟨by omega, by omega⟩) dX5_whyTrip_46 ?_
            refine lv_topi (fun v66 ev66 => ?_)
            have qv66 : v66.toInt = v59.toInt := by rw [ev66, ev59]
            refine lv_iconst (v := 2) hx hb dX5_whyTrip_47 (by decide) ?_
            refine lv_icmp_ne (tgt := 55) hx hb dX5_whyTrip_48 (by decide) (fun c_67 => ?_) (fun c_67 => ?_)
            · skip
              have i_67 : ¬ (v59.toInt = 2) := fun h9 => c_67 ((ieq qv66 (by decide)).mpr h9)
              have hM : M_whyTrip ldraw limit rails rs ra pn = (K_whyTrip_14 r58 (K_whyTrip_L4 rails rs ra pn nhl56) x55) := (show M_whyTrip ldraw limit rails rs ra pn = (if v59.toInt = 2 then (K_whyTrip_15 r58 (K_whyTrip_L4 rails rs ra pn nhl56) x55 ra) else (K_whyTrip_14 r58 (K_whyTrip_L4 rails rs ra pn nhl56) x55)) from hM).trans (if_neg i_67)
              refine lv_iconst (v := 0) hx hb dX5_whyTrip_55 (by decide) ?_
              refine lv_istore (lv' := [(4, .int 0), (3, .int r58), (2, .int x55), (0, .ref rn), (1, .ref pl)]) hx hb dX5_whyTrip_56 hl (by decide) rfl (fun ls hl => ?_)
              refine lv_iload_n hx hb dX5_whyTrip_58 rfl (lv_at hl 1 rfl) ?_
              refine lv_if_le (tgt := 79) hx hb dX5_whyTrip_59 (by decide) (fun c_68 => ?_) (fun c_68 => ?_)
              · skip
                have i_68 : r58.toInt ≤ 0 := (ile rfl (by decide)).mp c_68
                have hM : M_whyTrip ldraw limit rails rs ra pn = (K_whyTrip_16 (K_whyTrip_L4 rails rs ra pn nhl56) x55) := (show M_whyTrip ldraw limit rails rs ra pn = (if r58.toInt ≤ 0 then (K_whyTrip_16 (K_whyTrip_L4 rails rs ra pn nhl56) x55) else (K_whyTrip_17 (K_whyTrip_L4 rails rs ra pn nhl56) x55)) from hM).trans (if_pos i_68)
                obtain ⟨x69, ex69⟩ : ∃ y : Int32, y = x55 + 1 := ⟨_, rfl⟩
                have tx69 : x69.toInt = (x55.toInt + 1) := (congrArg Int32.toInt ex69).trans (xadd rfl (by decide) (by omega) (by omega))
                refine lv_iinc (v := x69) (lv' := [(2, .int x69), (4, .int 0), (3, .int r58), (0, .ref rn), (1, .ref pl)]) hx hb dX5_whyTrip_79 hl (k := 2) rfl (by rw [ex69]; rfl) (by decide) rfl (fun ls hl => ?_)
                refine lv_goto (tgt := 15) hx hb dX5_whyTrip_82 (by decide) ?_
                exact ihhl56 x69 (by omega) (xrng tx69 (by omega) (by omega)) (by rw [ex69]; exact hM) _ _ hP hD hS ls (lv_sub hl [0, 3, 4] rfl)
              · skip
                have i_68 : ¬ (r58.toInt ≤ 0) := fun h9 => c_68 ((ile rfl (by decide)).mpr h9)
                have hM : M_whyTrip ldraw limit rails rs ra pn = (K_whyTrip_17 (K_whyTrip_L4 rails rs ra pn nhl56) x55) := (show M_whyTrip ldraw limit rails rs ra pn = (if r58.toInt ≤ 0 then (K_whyTrip_16 (K_whyTrip_L4 rails rs ra pn nhl56) x55) else (K_whyTrip_17 (K_whyTrip_L4 rails rs ra pn nhl56) x55)) from hM).trans (if_neg i_68)
                refine lv_iload hx hb dX5_whyTrip_62 (lv_at hl 0 rfl) ?_
                refine lv_if_eq (tgt := 79) hx hb dX5_whyTrip_64 (by decide) (fun _ => ?_) (fun c9 => absurd c9 (by decide))
                obtain ⟨x70, ex70⟩ : ∃ y : Int32, y = x55 + 1 := ⟨_, rfl⟩
                have tx70 : x70.toInt = (x55.toInt + 1) := (congrArg Int32.toInt ex70).trans (xadd rfl (by decide) (by omega) (by omega))
                refine lv_iinc (v := x70) (lv' := [(2, .int x70), (4, .int 0), (3, .int r58), (0, .ref rn), (1, .ref pl)]) hx hb dX5_whyTrip_79 hl (k := 2) rfl (by rw [ex70]; rfl) (by decide) rfl (fun ls hl => ?_)
                refine lv_goto (tgt := 15) hx hb dX5_whyTrip_82 (by decide) ?_
                exact ihhl56 x70 (by omega) (xrng tx70 (by omega) (by omega)) (by rw [ex70]; exact hM) _ _ hP hD hS ls (lv_sub hl [0, 3, 4] rfl)
            · skip
              have i_67 : v59.toInt = 2 := (ieq qv66 (by decide)).mp c_67
              have hM : M_whyTrip ldraw limit rails rs ra pn = (K_whyTrip_15 r58 (K_whyTrip_L4 rails rs ra pn nhl56) x55 ra) := (show M_whyTrip ldraw limit rails rs ra pn = (if v59.toInt = 2 then (K_whyTrip_15 r58 (K_whyTrip_L4 rails rs ra pn nhl56) x55 ra) else (K_whyTrip_14 r58 (K_whyTrip_L4 rails rs ra pn nhl56) x55)) from hM).trans (if_pos i_67)
              refine lv_iconst (v := 1) hx hb dX5_whyTrip_51 (by decide) ?_
              refine lv_goto (tgt := 56) hx hb dX5_whyTrip_52 (by decide) ?_
              refine lv_istore (lv' := [(4, .int 1), (3, .int r58), (2, .int x55), (0, .ref rn), (1, .ref pl)]) hx hb dX5_whyTrip_56 hl (by decide) rfl (fun ls hl => ?_)
              refine lv_iload_n hx hb dX5_whyTrip_58 rfl (lv_at hl 1 rfl) ?_
              refine lv_if_le (tgt := 79) hx hb dX5_whyTrip_59 (by decide) (fun c_71 => ?_) (fun c_71 => ?_)
              · skip
                have i_71 : r58.toInt ≤ 0 := (ile rfl (by decide)).mp c_71
                have hM : M_whyTrip ldraw limit rails rs ra pn = (K_whyTrip_18 (K_whyTrip_L4 rails rs ra pn nhl56) x55) := (show M_whyTrip ldraw limit rails rs ra pn = (if r58.toInt ≤ 0 then (K_whyTrip_18 (K_whyTrip_L4 rails rs ra pn nhl56) x55) else (K_whyTrip_19 ra x55 r58 (K_whyTrip_L4 rails rs ra pn nhl56))) from hM).trans (if_pos i_71)
                obtain ⟨x72, ex72⟩ : ∃ y : Int32, y = x55 + 1 := ⟨_, rfl⟩
                have tx72 : x72.toInt = (x55.toInt + 1) := (congrArg Int32.toInt ex72).trans (xadd rfl (by decide) (by omega) (by omega))
                refine lv_iinc (v := x72) (lv' := [(2, .int x72), (4, .int 1), (3, .int r58), (0, .ref rn), (1, .ref pl)]) hx hb dX5_whyTrip_79 hl (k := 2) rfl (by rw [ex72]; rfl) (by decide) rfl (fun ls hl => ?_)
                refine lv_goto (tgt := 15) hx hb dX5_whyTrip_82 (by decide) ?_
                exact ihhl56 x72 (by omega) (xrng tx72 (by omega) (by omega)) (by rw [ex72]; exact hM) _ _ hP hD hS ls (lv_sub hl [0, 3, 4] rfl)
              · skip
                have i_71 : ¬ (r58.toInt ≤ 0) := fun h9 => c_71 ((ile rfl (by decide)).mpr h9)
                have hM : M_whyTrip ldraw limit rails rs ra pn = (K_whyTrip_19 ra x55 r58 (K_whyTrip_L4 rails rs ra pn nhl56)) := (show M_whyTrip ldraw limit rails rs ra pn = (if r58.toInt ≤ 0 then (K_whyTrip_18 (K_whyTrip_L4 rails rs ra pn nhl56) x55) else (K_whyTrip_19 ra x55 r58 (K_whyTrip_L4 rails rs ra pn nhl56))) from hM).trans (if_neg i_71)
                refine lv_iload hx hb dX5_whyTrip_62 (lv_at hl 0 rfl) ?_
                refine lv_if_eq (tgt := 79) hx hb dX5_whyTrip_64 (by decide) (fun c9 => absurd c9 (by decide)) (fun _ => ?_)
                refine lv_aload_n hx hb dX5_whyTrip_67 rfl (lv_at hl 3 rfl) ?_
                refine va_get (D := D) (ci := 4) (v := .ref raa) (C := RX5) (T := TX5) (N := 14) hx hb hts (fun w h => tbC w (tbfX5 w h)) hown hK hP 0 rfl rfl 3 (by decide) (hts (.fieldLink RX5 25 "PowerRails$Run" "asked" "[I") (tbC _ wd112)) (fun _ h9 => h9) rfl dX5_whyTrip_68 ?_
                refine lv_iload_n hx hb dX5_whyTrip_71 rfl (lv_at hl 2 rfl) ?_
                refine va_iald hx hb hK hP 2 0 rfl rfl (vp_in_iff.mpr ⟨by omega, by omega⟩) dX5_whyTrip_72 ?_
                refine lv_topi (fun v73 ev73 => ?_)
                refine lv_iload_n hx hb dX5_whyTrip_73 rfl (lv_at hl 1 rfl) ?_
                refine lv_icmp_lt (tgt := 79) hx hb dX5_whyTrip_74 (by decide) (fun c_74 => ?_) (fun c_74 => ?_)
                · skip
                  have i_74 : v73.toInt < r58.toInt := (ilt rfl rfl).mp c_74
                  have hM : M_whyTrip ldraw limit rails rs ra pn = (K_whyTrip_20 (K_whyTrip_L4 rails rs ra pn nhl56) x55) := (show M_whyTrip ldraw limit rails rs ra pn = (if v73.toInt < r58.toInt then (K_whyTrip_20 (K_whyTrip_L4 rails rs ra pn nhl56) x55) else (K_whyTrip_21)) from (by rw [ev73]; exact hM)).trans (if_pos i_74)
                  obtain ⟨x75, ex75⟩ : ∃ y : Int32, y = x55 + 1 := ⟨_, rfl⟩
                  have tx75 : x75.toInt = (x55.toInt + 1) := (congrArg Int32.toInt ex75).trans (xadd rfl (by decide) (by omega) (by omega))
                  refine lv_iinc (v := x75) (lv' := [(2, .int x75), (4, .int 1), (3, .int r58), (0, .ref rn), (1, .ref pl)]) hx hb dX5_whyTrip_79 hl (k := 2) rfl (by rw [ex75]; rfl) (by decide) rfl (fun ls hl => ?_)
                  refine lv_goto (tgt := 15) hx hb dX5_whyTrip_82 (by decide) ?_
                  exact ihhl56 x75 (by omega) (xrng tx75 (by omega) (by omega)) (by rw [ex75]; exact hM) _ _ hP hD hS ls (lv_sub hl [0, 3, 4] rfl)
                · skip
                  have i_74 : ¬ (v73.toInt < r58.toInt) := fun h9 => c_74 ((ilt rfl rfl).mpr h9)
                  have hM : M_whyTrip ldraw limit rails rs ra pn = (K_whyTrip_21) := (show M_whyTrip ldraw limit rails rs ra pn = (if v73.toInt < r58.toInt then (K_whyTrip_20 (K_whyTrip_L4 rails rs ra pn nhl56) x55) else (K_whyTrip_21)) from (by rw [ev73]; exact hM)).trans (if_neg i_74)
                  refine lv_iconst (v := 2) hx hb dX5_whyTrip_77 (by decide) ?_
                  refine W.widen (k := 0) (n := 0) (by decide) (by decide) ?_
                  exact W.iret (v := 2) hx hb hr (fun t ht hW => ⟨⟨2, 2, rfl, ⟨rfl, ⟨by decide, by decide⟩⟩, ⟨hM, xB_of9 ht hW hP hK hD [0, 1, 2, 3, 4] (by decide +kernel) rfl⟩⟩, hS.F ht⟩) hS.2.2 dX5_whyTrip_78
    exact hl56 100000 0 (by have z9_0 : (0 : Int32).toInt = 0 := (by decide); omega) ⟨by decide, by decide⟩ hM _ _ hP hD hS ls (lv_sub hl [0, 1, 2] rfl)
  · skip
    have i_1 : ¬ (ldraw.toInt ≤ limit.toInt) := fun h9 => c_1 ((ile rfl rfl).mpr h9)
    have hM : M_whyTrip ldraw limit rails rs ra pn = (K_whyTrip_3) := (show M_whyTrip ldraw limit rails rs ra pn = (if ldraw.toInt ≤ limit.toInt then (K_whyTrip_2 rails rs ra pn) else (K_whyTrip_3)) from hM).trans (if_neg i_1)
    refine lv_iconst (v := 1) hx hb dX5_whyTrip_11 (by decide) ?_
    refine W.widen (k := 0) (n := 0) (by decide) (by decide) ?_
    exact W.iret (v := 1) hx hb hr (fun t ht hW => ⟨⟨1, 1, rfl, ⟨rfl, ⟨by decide, by decide⟩⟩, ⟨hM, xB_of9 ht hW hP hK hD [0, 1, 2, 3, 4] (by decide +kernel) rfl⟩⟩, hS.F ht⟩) hS.2.2 dX5_whyTrip_12
def K_trip_3 (tries : Int32) (v1 : Int32) (ysz_4 : Int32) (ya_5 : Nat → Int32) (yb_6 : Nat → Int32) (yc_7 : Nat → Int32) : (Int32) × (Int32) × (Int32) × (Int32) × (Nat → Int32) × (Nat → Int32) × (Nat → Int32) := ((-4 : Int32), tries, v1, ysz_4, ya_5, yb_6, yc_7)
def K_trip_4 (behind : Int32) (tries : Int32) (v1 : Int32) (ysz_4 : Int32) (ya_5 : Nat → Int32) (yb_6 : Nat → Int32) (yc_7 : Nat → Int32) : (Int32) × (Int32) × (Int32) × (Int32) × (Nat → Int32) × (Nat → Int32) × (Nat → Int32) := (behind, (tries - (1 : Int32)), v1, ysz_4, ya_5, yb_6, yc_7)
def K_trip_2 (tries : Int32) (v1 : Int32) (ysz_4 : Int32) (ya_5 : Nat → Int32) (yb_6 : Nat → Int32) (yc_7 : Nat → Int32) (behind : Int32) : (Int32) × (Int32) × (Int32) × (Int32) × (Nat → Int32) × (Nat → Int32) × (Nat → Int32) := (if tries.toInt ≤ 0 then (K_trip_3 tries v1 ysz_4 ya_5 yb_6 yc_7) else (K_trip_4 behind tries v1 ysz_4 ya_5 yb_6 yc_7))
def K_trip_1 (tries : Int32) (trips : Int32) (behind : Int32) (ysz : Int32) (ya : Nat → Int32) (tick : Int32) (yb : Nat → Int32) (yc : Nat → Int32) (w0 : Int32) : (Int32) × (Int32) × (Int32) × (Int32) × (Nat → Int32) × (Nat → Int32) × (Nat → Int32) := ((fun t9 => (K_trip_2 tries (trips + (1 : Int32)) t9.1 t9.2.1 t9.2.2.1 t9.2.2.2 behind)) (M_note ysz ya tick yb (-4 : Int32) yc ((5 : Int32) + w0)))
def M_trip (tries : Int32) (trips : Int32) (behind : Int32) (ysz : Int32) (ya : Nat → Int32) (tick : Int32) (yb : Nat → Int32) (yc : Nat → Int32) (w0 : Int32) : (Int32) × (Int32) × (Int32) × (Int32) × (Nat → Int32) × (Nat → Int32) × (Nat → Int32) := (K_trip_1 tries trips behind ysz ya tick yb yc w0)
abbrev W_trip (cI cJ cZ cG cH : ClassId) (rn : Nat) (pl : Nat) (w0 : Int32) (hy : Nat) (rsa : Nat) (ria : Nat) (raa : Nat) (rta : Nat) (rga : Nat) (dead : Int32) (key : Int32) (tick : Int32) (held : Int32) (tries : Int32) (trips : Int32) (ldraw : Int32) (gdraw : Int32) (yaa : Nat) (yba : Nat) (yca : Nat) (ysz : Int32) (ya : Nat → Int32) (yb : Nat → Int32) (yc : Nat → Int32) (pna : Nat) (pta : Nat) (rails : Int32) (limit : Int32) (retry : Int32) (behind : Int32) : va_W := [oX5 rn hy rsa ria raa rta rga dead key tick held tries trips ldraw gdraw, oX2 hy yaa yba yca ysz, oAI yaa cI 64 ya, oAI yba cI 64 yb, oAI yca cI 64 yc, oX3 pl pna pta rails limit retry behind]
abbrev Q_trip (D : va_G) (cI cJ cZ cG cH : ClassId) (rn : Nat) (pl : Nat) (w0 : Int32) (hy : Nat) (rsa : Nat) (ria : Nat) (raa : Nat) (rta : Nat) (rga : Nat) (dead : Int32) (key : Int32) (tick : Int32) (held : Int32) (tries : Int32) (trips : Int32) (ldraw : Int32) (gdraw : Int32) (yaa : Nat) (yba : Nat) (yca : Nat) (ysz : Int32) (ya : Nat → Int32) (yb : Nat → Int32) (yc : Nat → Int32) (pna : Nat) (pta : Nat) (rails : Int32) (limit : Int32) (retry : Int32) (behind : Int32) (A : Nat → Prop) : Array Value → State → Outcome → State → Prop := va_Qv (fun (_ : Unit) => True) (fun _ t => ∃ (held9 : Int32) (tries9 : Int32) (trips9 : Int32) (ysz9 : Int32) (ya9 : Nat → Int32) (yb9 : Nat → Int32) (yc9 : Nat → Int32), (0 ≤ ysz9.toInt ∧ ysz9.toInt ≤ 64) ∧ (M_trip tries trips behind ysz ya tick yb yc w0 = (held9, tries9, trips9, ysz9, ya9, yb9, yc9)) ∧ xB D (tyL cI cJ cZ cG cH) [oX5 rn hy rsa ria raa rta rga dead key tick held9 tries9 trips9 ldraw gdraw, oX2 hy yaa yba yca ysz9, oAI yaa cI 64 ya9, oAI yba cI 64 yb9, oAI yca cI 64 yc9, oX3 pl pna pta rails limit retry behind] A t) A
abbrev rm_trip : Room := { frames := 1, cells := 0, slots := 0, locals := 23 }
set_option maxRecDepth 100000 in
set_option maxHeartbeats 40000000 in
theorem c_trip (l : Launch) (D : va_G) (cI cJ cZ cG cH : ClassId) (sz : Nat) (rn : Nat) (pl : Nat) (w0 : Int32) (hy : Nat) (rsa : Nat) (ria : Nat) (raa : Nat) (rta : Nat) (rga : Nat) (dead : Int32) (key : Int32) (tick : Int32) (held : Int32) (tries : Int32) (trips : Int32) (ldraw : Int32) (gdraw : Int32) (yaa : Nat) (yba : Nat) (yca : Nat) (ysz : Int32) (ya : Nat → Int32) (yb : Nat → Int32) (yc : Nat → Int32) (pna : Nat) (pta : Nat) (rails : Int32) (limit : Int32) (retry : Int32) (behind : Int32) (h_key : 0 ≤ key.toInt ∧ key.toInt ≤ 1) (h_ysz : 0 ≤ ysz.toInt ∧ ysz.toInt ≤ 64) (h_rails : 0 ≤ rails.toInt ∧ rails.toInt ≤ 8) : Met l yX5_trip (wt yX5_trip cX5_trip 3 none) rm_trip (xPc [.ref rn, .ref pl, .int w0] D (tyL cI cJ cZ cG cH) (W_trip cI cJ cZ cG cH rn pl w0 hy rsa ria raa rta rga dead key tick held tries trips ldraw gdraw yaa yba yca ysz ya yb yc pna pta rails limit retry behind) sz) (Q_trip D cI cJ cZ cG cH rn pl w0 hy rsa ria raa rta rga dead key tick held tries trips ldraw gdraw yaa yba yca ysz ya yb yc pna pta rails limit retry behind (va_A (W_trip cI cJ cZ cG cH rn pl w0 hy rsa ria raa rta rga dead key tick held tries trips ldraw gdraw yaa yba yca ysz ya yb yc pna pta rails limit retry behind) sz)) 0 0 (va_A (W_trip cI cJ cZ cG cH rn pl w0 hy rsa ria raa rta rga dead key tick held tries trips ldraw gdraw yaa yba yca ysz ya yb yc pna pta rails limit retry behind) sz) := by
  refine xMet (cc := cX5_trip) (maxL := 3) (ret := none) (Qf := Q_trip D cI cJ cZ cG cH rn pl w0 hy rsa ria raa rta rga dead key tick held tries trips ldraw gdraw yaa yba yca ysz ya yb yc pna pta rails limit retry behind) (by decide) rfl (Nat.le_of_ble_eq_true rfl) ?_
  intro p e s m below meth c ls A hx hb hr hml hts hown hlocks hnm hsz hP hK hD hA hS hl
  have hown : s.vm.findClass RX5 = some m.cls := hown
  have hP : va_P D vwCl [oX5 rn hy rsa ria raa rta rga dead key tick held tries trips ldraw gdraw, oX2 hy yaa yba yca ysz, oAI yaa cI 64 ya, oAI yba cI 64 yb, oAI yca cI 64 yc, oX3 pl pna pta rails limit retry behind] s.heap := hP
  have hD : va_D A [oX5 rn hy rsa ria raa rta rga dead key tick held tries trips ldraw gdraw, oX2 hy yaa yba yca ysz, oAI yaa cI 64 ya, oAI yba cI 64 yb, oAI yca cI 64 yc, oX3 pl pna pta rails limit retry behind] := hD
  have hl : lv_has ls 3 [(0, .ref rn), (1, .ref pl), (2, .int w0)] := hl
  have hM : M_trip tries trips behind ysz ya tick yb yc w0 = (K_trip_1 tries trips behind ysz ya tick yb yc w0) := rfl
  refine lv_aload_n hx hb dX5_trip_0 rfl (lv_at hl 0 rfl) ?_
  refine lv_dup hx hb dX5_trip_1 rfl ?_
  refine va_get (D := D) (ci := 4) (v := .int trips) (C := RX5) (T := TX5) (N := 14) hx hb hts (fun w h => tbC w (tbfX5 w h)) hown hK hP 0 rfl rfl 11 (by decide) (hts (.fieldLink RX5 63 "PowerRails$Run" "trips" "I") (tbC _ wd127)) (fun _ h9 => h9) rfl dX5_trip_2 ?_
  refine lv_iconst (v := 1) hx hb dX5_trip_5 (by decide) ?_
  refine lv_iadd hx hb dX5_trip_6 ?_
  refine lv_topi (fun v1 ev1 => ?_)
  refine va_put (D := D) (ci := 4) (v := .int v1) (ty := .int) (C := RX5) (T := TX5) (N := 14) hx hb hts (fun w h => tbC w (tbfX5 w h)) tyX5 tyX5_ok nmX5 hown hK hP hD hS 0 rfl rfl 11 (by decide) (hts (.fieldLink RX5 63 "PowerRails$Run" "trips" "I") (tbC _ wd127)) (fun _ h9 => h9) rfl (by decide +kernel) rfl rfl (Nat.le_of_ble_eq_true rfl) dX5_trip_7 (fun H locs hP hD hS => ?_)
  obtain ⟨hP, hD⟩ : xPD D A [oX5 rn hy rsa ria raa rta rga dead key tick held tries v1 ldraw gdraw, oX2 hy yaa yba yca ysz, oAI yaa cI 64 ya, oAI yba cI 64 yb, oAI yca cI 64 yc, oX3 pl pna pta rails limit retry behind] H := ⟨hP, hD⟩
  refine lv_aload_n hx hb dX5_trip_10 rfl (lv_at hl 0 rfl) ?_
  refine va_get (D := D) (ci := 4) (v := .ref hy) (C := RX5) (T := TX5) (N := 14) hx hb hts (fun w h => tbC w (tbfX5 w h)) hown hK hP 0 rfl rfl 0 (by decide) (hts (.fieldLink RX5 12 "PowerRails$Run" "history" "LPowerRails$History;") (tbC _ wd106)) (fun _ h9 => h9) rfl dX5_trip_11 ?_
  refine lv_aload_n hx hb dX5_trip_14 rfl (lv_at hl 0 rfl) ?_
  refine va_get (D := D) (ci := 4) (v := .int tick) (C := RX5) (T := TX5) (N := 14) hx hb hts (fun w h => tbC w (tbfX5 w h)) hown hK hP 0 rfl rfl 8 (by decide) (hts (.fieldLink RX5 51 "PowerRails$Run" "tick" "I") (tbC _ wd121)) (fun _ h9 => h9) rfl dX5_trip_15 ?_
  refine lv_bipush (v := (-4)) hx hb dX5_trip_18 (by decide) ?_
  refine lv_iconst (v := 5) hx hb dX5_trip_20 (by decide) ?_
  refine lv_iload_n hx hb dX5_trip_21 rfl (lv_at hl 2 rfl) ?_
  refine lv_iadd hx hb dX5_trip_22 ?_
  refine lv_topi (fun v2 ev2 => ?_)
  obtain ⟨hPc, hDc, hFc, hC9⟩ := xpk (wc := W_note cI cJ cZ cG cH hy tick (-4 : Int32) v2 yaa yba yca ysz ya yb yc) hP hD hS hA [1, 2, 3, 4] (by decide +kernel) rfl
  refine va_callv (va_runV (As := [.int tick, .int (-4), .int v2]) (rest := []) ⟨hx, hb, hml, hown, hts⟩ (c_note l D cI cJ cZ cG cH H.size hy tick (-4 : Int32) v2 yaa yba yca ysz ya yb yc (xrng rfl (by omega) (by omega))) (cwV 3 hts (xGV tbC wd477 wd478 wd479 wd53 wd1031) rfl rfl rfl (by decide +kernel) ⟨Nat.le_of_ble_eq_true rfl, Nat.le_of_ble_eq_true rfl⟩) ⟨xPc_blind, va_recv hK hPc (ci := 1) (q0 := 0) rfl rfl, xPc_pre hPc hK hDc⟩ rfl rfl hl.1 rfl (lv_room (Nat.le_of_ble_eq_true rfl)) dX5_trip_23 ⟨Nat.le_of_ble_eq_true rfl, Nat.le_of_ble_eq_true rfl⟩) hS (fun q _ h => hFc q h) hFc (fun u t H1 locs ht hvm hw3 hB hz1 hk1 hS => ?_)
  obtain ⟨ysz_4, ya_5, yb_6, yc_7, hf7_0, hf7_1, hP1, hK1, hD1⟩ := hB
  rw [ht] at hP1
  obtain ⟨hP, hD⟩ : xPD D A [oX5 rn hy rsa ria raa rta rga dead key tick held tries v1 ldraw gdraw, oX3 pl pna pta rails limit retry behind, oX2 hy yaa yba yca ysz_4, oAI yaa cI 64 ya_5, oAI yba cI 64 yb_6, oAI yca cI 64 yc_7] H1 := xjn 2 hP hD [1, 2, 3, 4] [0, 5] hC9 rfl (by decide +kernel) (by decide +kernel) hk1 hFc hP1 hD1
  generalize H1 = H at hP hS ⊢
  have hf7_0 : 0 ≤ ysz_4.toInt ∧ ysz_4.toInt ≤ 64 := hf7_0
  have hf7_1 : M_note ysz ya tick yb (-4 : Int32) yc v2 = (ysz_4, ya_5, yb_6, yc_7) := hf7_1
  have h9M := congrArg (fun t9 => (K_trip_2 tries v1 t9.1 t9.2.1 t9.2.2.1 t9.2.2.2 behind)) hf7_1
  have hM : M_trip tries trips behind ysz ya tick yb yc w0 = (K_trip_2 tries v1 ysz_4 ya_5 yb_6 yc_7 behind) := (show M_trip tries trips behind ysz ya tick yb yc w0 = ((fun t9 => (K_trip_2 tries v1 t9.1 t9.2.1 t9.2.2.1 t9.2.2.2 behind)) (M_note ysz ya tick yb (-4 : Int32) yc v2)) from (by rw [ev2, ev1]; exact hM)).trans h9M
  refine lv_aload_n hx hb dX5_trip_26 rfl (lv_at hl 0 rfl) ?_
  refine va_get (D := D) (ci := 4) (v := .int tries) (C := RX5) (T := TX5) (N := 14) hx hb hts (fun w h => tbC w (tbfX5 w h)) hown hK hP 0 rfl rfl 10 (by decide) (hts (.fieldLink RX5 60 "PowerRails$Run" "tries" "I") (tbC _ wd125)) (fun _ h9 => h9) rfl dX5_trip_27 ?_
  refine lv_if_le (tgt := 54) hx hb dX5_trip_30 (by decide) (fun c_8 => ?_) (fun c_8 => ?_)
  · skip
    have i_8 : tries.toInt ≤ 0 := (ile rfl (by decide)).mp c_8
    have hM : M_trip tries trips behind ysz ya tick yb yc w0 = (K_trip_3 tries v1 ysz_4 ya_5 yb_6 yc_7) := (show M_trip tries trips behind ysz ya tick yb yc w0 = (if tries.toInt ≤ 0 then (K_trip_3 tries v1 ysz_4 ya_5 yb_6 yc_7) else (K_trip_4 behind tries v1 ysz_4 ya_5 yb_6 yc_7)) from hM).trans (if_pos i_8)
    refine lv_aload_n hx hb dX5_trip_54 rfl (lv_at hl 0 rfl) ?_
    refine lv_bipush (v := (-4)) hx hb dX5_trip_55 (by decide) ?_
    refine va_put (D := D) (ci := 4) (v := .int (-4)) (ty := .int) (C := RX5) (T := TX5) (N := 14) hx hb hts (fun w h => tbC w (tbfX5 w h)) tyX5 tyX5_ok nmX5 hown hK hP hD hS 0 rfl rfl 9 (by decide) (hts (.fieldLink RX5 54 "PowerRails$Run" "held" "I") (tbC _ wd123)) (fun _ h9 => h9) rfl (by decide +kernel) rfl rfl (Nat.le_of_ble_eq_true rfl) dX5_trip_57 (fun H locs hP hD hS => ?_)
    obtain ⟨hP, hD⟩ : xPD D A [oX5 rn hy rsa ria raa rta rga dead key tick (-4) tries v1 ldraw gdraw, oX3 pl pna pta rails limit retry behind, oX2 hy yaa yba yca ysz_4, oAI yaa cI 64 ya_5, oAI yba cI 64 yb_6, oAI yca cI 64 yc_7] H := ⟨hP, hD⟩
    refine W.widen (k := 0) (n := 0) (by decide) (by decide) ?_
    exact W.vret hx hb hr (fun t ht hW => ⟨⟨(), rfl, trivial, ⟨(-4), tries, v1, ysz_4, ya_5, yb_6, yc_7, (xrng rfl (by omega) (by omega)), hM, xB_of9 ht hW hP hK hD [0, 2, 3, 4, 5, 1] (by decide +kernel) rfl⟩⟩, hS.F ht⟩) hS.2.2 dX5_trip_60
  · skip
    have i_8 : ¬ (tries.toInt ≤ 0) := fun h9 => c_8 ((ile rfl (by decide)).mpr h9)
    have hM : M_trip tries trips behind ysz ya tick yb yc w0 = (K_trip_4 behind tries v1 ysz_4 ya_5 yb_6 yc_7) := (show M_trip tries trips behind ysz ya tick yb yc w0 = (if tries.toInt ≤ 0 then (K_trip_3 tries v1 ysz_4 ya_5 yb_6 yc_7) else (K_trip_4 behind tries v1 ysz_4 ya_5 yb_6 yc_7)) from hM).trans (if_neg i_8)
    refine lv_aload_n hx hb dX5_trip_33 rfl (lv_at hl 0 rfl) ?_
    refine lv_dup hx hb dX5_trip_34 rfl ?_
    refine va_get (D := D) (ci := 4) (v := .int tries) (C := RX5) (T := TX5) (N := 14) hx hb hts (fun w h => tbC w (tbfX5 w h)) hown hK hP 0 rfl rfl 10 (by decide) (hts (.fieldLink RX5 60 "PowerRails$Run" "tries" "I") (tbC _ wd125)) (fun _ h9 => h9) rfl dX5_trip_35 ?_
    refine lv_iconst (v := 1) hx hb dX5_trip_38 (by decide) ?_
    refine lv_isub hx hb dX5_trip_39 ?_
    refine lv_topi (fun v9 ev9 => ?_)
    refine va_put (D := D) (ci := 4) (v := .int v9) (ty := .int) (C := RX5) (T := TX5) (N := 14) hx hb hts (fun w h => tbC w (tbfX5 w h)) tyX5 tyX5_ok nmX5 hown hK hP hD hS 0 rfl rfl 10 (by decide) (hts (.fieldLink RX5 60 "PowerRails$Run" "tries" "I") (tbC _ wd125)) (fun _ h9 => h9) rfl (by decide +kernel) rfl rfl (Nat.le_of_ble_eq_true rfl) dX5_trip_40 (fun H locs hP hD hS => ?_)
    obtain ⟨hP, hD⟩ : xPD D A [oX5 rn hy rsa ria raa rta rga dead key tick held v9 v1 ldraw gdraw, oX3 pl pna pta rails limit retry behind, oX2 hy yaa yba yca ysz_4, oAI yaa cI 64 ya_5, oAI yba cI 64 yb_6, oAI yca cI 64 yc_7] H := ⟨hP, hD⟩
    refine lv_aload_n hx hb dX5_trip_43 rfl (lv_at hl 0 rfl) ?_
    refine lv_aload_n hx hb dX5_trip_44 rfl (lv_at hl 1 rfl) ?_
    refine va_get (D := D) (ci := 2) (v := .int behind) (C := RX3) (T := TX3) (N := 6) hx hb hts (fun w h => tbC w (tbfX3 w h)) hown hK hP 1 rfl rfl 5 (by decide) (hts (.fieldLink RX5 128 "PowerRails$Plan" "behind" "I") (tbC _ wd223)) (fun _ h9 => h9) rfl dX5_trip_45 ?_
    refine va_put (D := D) (ci := 4) (v := .int behind) (ty := .int) (C := RX5) (T := TX5) (N := 14) hx hb hts (fun w h => tbC w (tbfX5 w h)) tyX5 tyX5_ok nmX5 hown hK hP hD hS 0 rfl rfl 9 (by decide) (hts (.fieldLink RX5 54 "PowerRails$Run" "held" "I") (tbC _ wd123)) (fun _ h9 => h9) rfl (by decide +kernel) rfl rfl (Nat.le_of_ble_eq_true rfl) dX5_trip_48 (fun H locs hP hD hS => ?_)
    obtain ⟨hP, hD⟩ : xPD D A [oX5 rn hy rsa ria raa rta rga dead key tick behind v9 v1 ldraw gdraw, oX3 pl pna pta rails limit retry behind, oX2 hy yaa yba yca ysz_4, oAI yaa cI 64 ya_5, oAI yba cI 64 yb_6, oAI yca cI 64 yc_7] H := ⟨hP, hD⟩
    refine lv_goto (tgt := 60) hx hb dX5_trip_51 (by decide) ?_
    refine W.widen (k := 0) (n := 0) (by decide) (by decide) ?_
    exact W.vret hx hb hr (fun t ht hW => ⟨⟨(), rfl, trivial, ⟨behind, v9, v1, ysz_4, ya_5, yb_6, yc_7, (xrng rfl (by omega) (by omega)), (by rw [ev9]; exact hM), xB_of9 ht hW hP hK hD [0, 2, 3, 4, 5, 1] (by decide +kernel) rfl⟩⟩, hS.F ht⟩) hS.2.2 dX5_trip_60
def K_growOlder_5 (v35 : Int32) (held : Int32) (f31 : Nat → Int32) (f32 : Nat → Int32) : (Int32) × (Int32) × (Nat → Int32) × (Nat → Int32) := (v35, held, f31, f32)
def K_growOlder_6 (v35 : Int32) (held : Int32) (f31 : Nat → Int32) (f32 : Nat → Int32) : (Int32) × (Int32) × (Nat → Int32) × (Nat → Int32) := (v35, (held - (1 : Int32)), f31, f32)
def K_growOlder_3 (held : Int32) (tick : Int32) (f31 : Nat → Int32) (f32 : Nat → Int32) : (Int32) × (Int32) × (Nat → Int32) × (Nat → Int32) := (if held.toInt ≤ 0 then (K_growOlder_5 (tick + (1 : Int32)) held f31 f32) else (K_growOlder_6 (tick + (1 : Int32)) held f31 f32))
def K_growOlder_4 (rec_2 : (Int32) → (Nat → Int32) → (Nat → Int32) → ((Int32) × (Int32) × (Nat → Int32) × (Nat → Int32))) (x30 : Int32) (f31 : Nat → Int32) (f32 : Nat → Int32) : (Int32) × (Int32) × (Nat → Int32) × (Nat → Int32) := (rec_2 (x30 + 1) (upd f31 (x30 : Int32).toNatClampNeg ((f31 x30.toNatClampNeg) + (1 : Int32))) (upd f32 (x30 : Int32).toNatClampNeg ((f32 x30.toNatClampNeg) + (1 : Int32))))
def K_growOlder_2 (rails : Int32) (x30 : Int32) (held : Int32) (tick : Int32) (f31 : Nat → Int32) (f32 : Nat → Int32) (rec_2 : (Int32) → (Nat → Int32) → (Nat → Int32) → ((Int32) × (Int32) × (Nat → Int32) × (Nat → Int32))) : (Int32) × (Int32) × (Nat → Int32) × (Nat → Int32) := (if rails.toInt ≤ x30.toInt then (K_growOlder_3 held tick f31 f32) else (K_growOlder_4 rec_2 x30 f31 f32))
def K_growOlder_L2 (rails : Int32) (held : Int32) (tick : Int32) : Nat → (Int32) → (Nat → Int32) → (Nat → Int32) → (Int32) × (Int32) × (Nat → Int32) × (Nat → Int32)
  | 0, _, _, _ => (0, 0, fun _ => 0, fun _ => 0)
  | n9 + 1, x30, f31, f32 => (K_growOlder_2 rails x30 held tick f31 f32 (K_growOlder_L2 rails held tick n9))
def K_growOlder_1 (rails : Int32) (held : Int32) (tick : Int32) (ri : Nat → Int32) (ra : Nat → Int32) : (Int32) × (Int32) × (Nat → Int32) × (Nat → Int32) := (K_growOlder_L2 rails held tick 100000 (0 : Int32) ri ra)
def M_growOlder (rails : Int32) (held : Int32) (tick : Int32) (ri : Nat → Int32) (ra : Nat → Int32) : (Int32) × (Int32) × (Nat → Int32) × (Nat → Int32) := (K_growOlder_1 rails held tick ri ra)
abbrev W_growOlder (cI cJ cZ cG cH : ClassId) (rn : Nat) (pl : Nat) (hy : Nat) (rsa : Nat) (ria : Nat) (raa : Nat) (rta : Nat) (rga : Nat) (dead : Int32) (key : Int32) (tick : Int32) (held : Int32) (tries : Int32) (trips : Int32) (ldraw : Int32) (gdraw : Int32) (ri : Nat → Int32) (ra : Nat → Int32) (pna : Nat) (pta : Nat) (rails : Int32) (limit : Int32) (retry : Int32) (behind : Int32) : va_W := [oX5 rn hy rsa ria raa rta rga dead key tick held tries trips ldraw gdraw, oAI ria cI 8 ri, oAI raa cI 8 ra, oX3 pl pna pta rails limit retry behind]
abbrev Q_growOlder (D : va_G) (cI cJ cZ cG cH : ClassId) (rn : Nat) (pl : Nat) (hy : Nat) (rsa : Nat) (ria : Nat) (raa : Nat) (rta : Nat) (rga : Nat) (dead : Int32) (key : Int32) (tick : Int32) (held : Int32) (tries : Int32) (trips : Int32) (ldraw : Int32) (gdraw : Int32) (ri : Nat → Int32) (ra : Nat → Int32) (pna : Nat) (pta : Nat) (rails : Int32) (limit : Int32) (retry : Int32) (behind : Int32) (A : Nat → Prop) : Array Value → State → Outcome → State → Prop := va_Qv (fun (_ : Unit) => True) (fun _ t => ∃ (tick9 : Int32) (held9 : Int32) (ri9 : Nat → Int32) (ra9 : Nat → Int32), (M_growOlder rails held tick ri ra = (tick9, held9, ri9, ra9)) ∧ xB D (tyL cI cJ cZ cG cH) [oX5 rn hy rsa ria raa rta rga dead key tick9 held9 tries trips ldraw gdraw, oAI ria cI 8 ri9, oAI raa cI 8 ra9, oX3 pl pna pta rails limit retry behind] A t) A
abbrev rm_growOlder : Room := { frames := 0, cells := 0, slots := 0, locals := 0 }
set_option maxRecDepth 100000 in
set_option maxHeartbeats 40000000 in
theorem c_growOlder (l : Launch) (D : va_G) (cI cJ cZ cG cH : ClassId) (sz : Nat) (rn : Nat) (pl : Nat) (hy : Nat) (rsa : Nat) (ria : Nat) (raa : Nat) (rta : Nat) (rga : Nat) (dead : Int32) (key : Int32) (tick : Int32) (held : Int32) (tries : Int32) (trips : Int32) (ldraw : Int32) (gdraw : Int32) (ri : Nat → Int32) (ra : Nat → Int32) (pna : Nat) (pta : Nat) (rails : Int32) (limit : Int32) (retry : Int32) (behind : Int32) (h_key : 0 ≤ key.toInt ∧ key.toInt ≤ 1) (h_rails : 0 ≤ rails.toInt ∧ rails.toInt ≤ 8) : Met l yX5_growOlder (wt yX5_growOlder cX5_growOlder 3 none) rm_growOlder (xPc [.ref rn, .ref pl] D (tyL cI cJ cZ cG cH) (W_growOlder cI cJ cZ cG cH rn pl hy rsa ria raa rta rga dead key tick held tries trips ldraw gdraw ri ra pna pta rails limit retry behind) sz) (Q_growOlder D cI cJ cZ cG cH rn pl hy rsa ria raa rta rga dead key tick held tries trips ldraw gdraw ri ra pna pta rails limit retry behind (va_A (W_growOlder cI cJ cZ cG cH rn pl hy rsa ria raa rta rga dead key tick held tries trips ldraw gdraw ri ra pna pta rails limit retry behind) sz)) 0 0 (va_A (W_growOlder cI cJ cZ cG cH rn pl hy rsa ria raa rta rga dead key tick held tries trips ldraw gdraw ri ra pna pta rails limit retry behind) sz) := by
  refine xMet (cc := cX5_growOlder) (maxL := 3) (ret := none) (Qf := Q_growOlder D cI cJ cZ cG cH rn pl hy rsa ria raa rta rga dead key tick held tries trips ldraw gdraw ri ra pna pta rails limit retry behind) (by decide) rfl (Nat.le_of_ble_eq_true rfl) ?_
  intro p e s m below meth c ls A hx hb hr hml hts hown hlocks hnm hsz hP hK hD hA hS hl
  have hown : s.vm.findClass RX5 = some m.cls := hown
  have hP : va_P D vwCl [oX5 rn hy rsa ria raa rta rga dead key tick held tries trips ldraw gdraw, oAI ria cI 8 ri, oAI raa cI 8 ra, oX3 pl pna pta rails limit retry behind] s.heap := hP
  have hD : va_D A [oX5 rn hy rsa ria raa rta rga dead key tick held tries trips ldraw gdraw, oAI ria cI 8 ri, oAI raa cI 8 ra, oX3 pl pna pta rails limit retry behind] := hD
  have hl : lv_has ls 3 [(0, .ref rn), (1, .ref pl)] := hl
  have hM : M_growOlder rails held tick ri ra = (K_growOlder_1 rails held tick ri ra) := rfl
  refine lv_iconst (v := 0) hx hb dX5_growOlder_0 (by decide) ?_
  refine lv_istore_n (lv' := [(2, .int 0), (0, .ref rn), (1, .ref pl)]) hx hb dX5_growOlder_1 rfl hl (by decide) rfl (fun ls hl => ?_)
  have hl33 : ∀ (nhl33 : Nat) (x30 : Int32) (f31 : Nat → Int32) (f32 : Nat → Int32), ((8 - x30.toInt).toNat < nhl33) → (hx30 : 0 ≤ x30.toInt ∧ x30.toInt ≤ 8) → (hM : M_growOlder rails held tick ri ra = (K_growOlder_L2 rails held tick nhl33 x30 f31 f32)) → ∀ (H : Heap) (locs : List Loc), va_P D vwCl [oX5 rn hy rsa ria raa rta rga dead key tick held tries trips ldraw gdraw, oAI ria cI 8 f31, oAI raa cI 8 f32, oX3 pl pna pta rails limit retry behind] H → va_D A [oX5 rn hy rsa ria raa rta rga dead key tick held tries trips ldraw gdraw, oAI ria cI 8 f31, oAI raa cI 8 f32, oX3 pl pna pta rails limit retry behind] → va_S A s.heap H locs → ∀ (ls : Array Slot), lv_has ls 3 [(2, .int x30), (0, .ref rn), (1, .ref pl)] → W p l e rm_growOlder s m [Value.ref rn, Value.ref pl].toArray below meth c H locs 0 0 (MQ below ((Q_growOlder D cI cJ cZ cG cH rn pl hy rsa ria raa rta rga dead key tick held tries trips ldraw gdraw ri ra pna pta rails limit retry behind) A) [Value.ref rn, Value.ref pl].toArray s 0 0 A) (F0 m 2 ls []) := by
    intro nhl33
    induction nhl33 with
    | zero =>
      intro x30 f31 f32 hmhl33
      exact absurd hmhl33 (Nat.not_lt_zero _)
    | succ nhl33 ihhl33 =>
      intro x30 f31 f32 hmhl33 hx30 hM H locs hP hD hS ls hl
      have hM : M_growOlder rails held tick ri ra = (K_growOlder_2 rails x30 held tick f31 f32 (K_growOlder_L2 rails held tick nhl33)) := hM
      refine lv_iload_n hx hb dX5_growOlder_2 rfl (lv_at hl 0 rfl) ?_
      refine lv_aload_n hx hb dX5_growOlder_3 rfl (lv_at hl 2 rfl) ?_
      refine va_get (D := D) (ci := 2) (v := .int rails) (C := RX3) (T := TX3) (N := 6) hx hb hts (fun w h => tbC w (tbfX3 w h)) hown hK hP 3 rfl rfl 2 (by decide) (hts (.fieldLink RX5 106 "PowerRails$Plan" "rails" "I") (tbC _ wd209)) (fun _ h9 => h9) rfl dX5_growOlder_4 ?_
      refine lv_icmp_ge (tgt := 36) hx hb dX5_growOlder_7 (by decide) (fun c_34 => ?_) (fun c_34 => ?_)
      · skip
        have i_34 : rails.toInt ≤ x30.toInt := (ile rfl rfl).mp c_34
        have hM : M_growOlder rails held tick ri ra = (K_growOlder_3 held tick f31 f32) := (show M_growOlder rails held tick ri ra = (if rails.toInt ≤ x30.toInt then (K_growOlder_3 held tick f31 f32) else (K_growOlder_4 (K_growOlder_L2 rails held tick nhl33) x30 f31 f32)) from hM).trans (if_pos i_34)
        refine lv_aload_n hx hb dX5_growOlder_36 rfl (lv_at hl 1 rfl) ?_
        refine lv_dup hx hb dX5_growOlder_37 rfl ?_
        refine va_get (D := D) (ci := 4) (v := .int tick) (C := RX5) (T := TX5) (N := 14) hx hb hts (fun w h => tbC w (tbfX5 w h)) hown hK hP 0 rfl rfl 8 (by decide) (hts (.fieldLink RX5 51 "PowerRails$Run" "tick" "I") (tbC _ wd121)) (fun _ h9 => h9) rfl dX5_growOlder_38 ?_
        refine lv_iconst (v := 1) hx hb dX5_growOlder_41 (by decide) ?_
        refine lv_iadd hx hb dX5_growOlder_42 ?_
        refine lv_topi (fun v35 ev35 => ?_)
        refine va_put (D := D) (ci := 4) (v := .int v35) (ty := .int) (C := RX5) (T := TX5) (N := 14) hx hb hts (fun w h => tbC w (tbfX5 w h)) tyX5 tyX5_ok nmX5 hown hK hP hD hS 0 rfl rfl 8 (by decide) (hts (.fieldLink RX5 51 "PowerRails$Run" "tick" "I") (tbC _ wd121)) (fun _ h9 => h9) rfl (by decide +kernel) rfl rfl (Nat.le_of_ble_eq_true rfl) dX5_growOlder_43 (fun H locs hP hD hS => ?_)
        obtain ⟨hP, hD⟩ : xPD D A [oX5 rn hy rsa ria raa rta rga dead key v35 held tries trips ldraw gdraw, oAI ria cI 8 f31, oAI raa cI 8 f32, oX3 pl pna pta rails limit retry behind] H := ⟨hP, hD⟩
        refine lv_aload_n hx hb dX5_growOlder_46 rfl (lv_at hl 1 rfl) ?_
        refine va_get (D := D) (ci := 4) (v := .int held) (C := RX5) (T := TX5) (N := 14) hx hb hts (fun w h => tbC w (tbfX5 w h)) hown hK hP 0 rfl rfl 9 (by decide) (hts (.fieldLink RX5 54 "PowerRails$Run" "held" "I") (tbC _ wd123)) (fun _ h9 => h9) rfl dX5_growOlder_47 ?_
        refine lv_if_le (tgt := 63) hx hb dX5_growOlder_50 (by decide) (fun c_36 => ?_) (fun c_36 => ?_)
        · skip
          have i_36 : held.toInt ≤ 0 := (ile rfl (by decide)).mp c_36
          have hM : M_growOlder rails held tick ri ra = (K_growOlder_5 v35 held f31 f32) := (show M_growOlder rails held tick ri ra = (if held.toInt ≤ 0 then (K_growOlder_5 v35 held f31 f32) else (K_growOlder_6 v35 held f31 f32)) from (by rw [ev35]; exact hM)).trans (if_pos i_36)
          refine W.widen (k := 0) (n := 0) (by decide) (by decide) ?_
          exact W.vret hx hb hr (fun t ht hW => ⟨⟨(), rfl, trivial, ⟨v35, held, f31, f32, hM, xB_of9 ht hW hP hK hD [0, 1, 2, 3] (by decide +kernel) rfl⟩⟩, hS.F ht⟩) hS.2.2 dX5_growOlder_63
        · skip
          have i_36 : ¬ (held.toInt ≤ 0) := fun h9 => c_36 ((ile rfl (by decide)).mpr h9)
          have hM : M_growOlder rails held tick ri ra = (K_growOlder_6 v35 held f31 f32) := (show M_growOlder rails held tick ri ra = (if held.toInt ≤ 0 then (K_growOlder_5 v35 held f31 f32) else (K_growOlder_6 v35 held f31 f32)) from (by rw [ev35]; exact hM)).trans (if_neg i_36)
          refine lv_aload_n hx hb dX5_growOlder_53 rfl (lv_at hl 1 rfl) ?_
          refine lv_dup hx hb dX5_growOlder_54 rfl ?_
          refine va_get (D := D) (ci := 4) (v := .int held) (C := RX5) (T := TX5) (N := 14) hx hb hts (fun w h => tbC w (tbfX5 w h)) hown hK hP 0 rfl rfl 9 (by decide) (hts (.fieldLink RX5 54 "PowerRails$Run" "held" "I") (tbC _ wd123)) (fun _ h9 => h9) rfl dX5_growOlder_55 ?_
          refine lv_iconst (v := 1) hx hb dX5_growOlder_58 (by decide) ?_
          refine lv_isub hx hb dX5_growOlder_59 ?_
          refine lv_topi (fun v37 ev37 => ?_)
          refine va_put (D := D) (ci := 4) (v := .int v37) (ty := .int) (C := RX5) (T := TX5) (N := 14) hx hb hts (fun w h => tbC w (tbfX5 w h)) tyX5 tyX5_ok nmX5 hown hK hP hD hS 0 rfl rfl 9 (by decide) (hts (.fieldLink RX5 54 "PowerRails$Run" "held" "I") (tbC _ wd123)) (fun _ h9 => h9) rfl (by decide +kernel) rfl rfl (Nat.le_of_ble_eq_true rfl) dX5_growOlder_60 (fun H locs hP hD hS => ?_)
          obtain ⟨hP, hD⟩ : xPD D A [oX5 rn hy rsa ria raa rta rga dead key v35 v37 tries trips ldraw gdraw, oAI ria cI 8 f31, oAI raa cI 8 f32, oX3 pl pna pta rails limit retry behind] H := ⟨hP, hD⟩
          refine W.widen (k := 0) (n := 0) (by decide) (by decide) ?_
          exact W.vret hx hb hr (fun t ht hW => ⟨⟨(), rfl, trivial, ⟨v35, v37, f31, f32, (by rw [ev37]; exact hM), xB_of9 ht hW hP hK hD [0, 1, 2, 3] (by decide +kernel) rfl⟩⟩, hS.F ht⟩) hS.2.2 dX5_growOlder_63
      · skip
        have i_34 : ¬ (rails.toInt ≤ x30.toInt) := fun h9 => c_34 ((ile rfl rfl).mpr h9)
        have hM : M_growOlder rails held tick ri ra = (K_growOlder_4 (K_growOlder_L2 rails held tick nhl33) x30 f31 f32) := (show M_growOlder rails held tick ri ra = (if rails.toInt ≤ x30.toInt then (K_growOlder_3 held tick f31 f32) else (K_growOlder_4 (K_growOlder_L2 rails held tick nhl33) x30 f31 f32)) from hM).trans (if_neg i_34)
        refine lv_aload_n hx hb dX5_growOlder_10 rfl (lv_at hl 1 rfl) ?_
        refine va_get (D := D) (ci := 4) (v := .ref ria) (C := RX5) (T := TX5) (N := 14) hx hb hts (fun w h => tbC w (tbfX5 w h)) hown hK hP 0 rfl rfl 2 (by decide) (hts (.fieldLink RX5 22 "PowerRails$Run" "since" "[I") (tbC _ wd110)) (fun _ h9 => h9) rfl dX5_growOlder_11 ?_
        refine lv_iload_n hx hb dX5_growOlder_14 rfl (lv_at hl 0 rfl) ?_
        refine lv_dup2_11 hx hb dX5_growOlder_15 rfl rfl ?_
        refine va_iald hx hb hK hP 1 0 rfl rfl (vp_in_iff.mpr ⟨by omega, by omega⟩) dX5_growOlder_16 ?_
        refine lv_topi (fun v38 ev38 => ?_)
        refine lv_iconst (v := 1) hx hb dX5_growOlder_17 (by decide) ?_
        refine lv_iadd hx hb dX5_growOlder_18 ?_
        refine lv_topi (fun v39 ev39 => ?_)
        refine va_iast hx hb hK hP hD hS 1 0 rfl rfl (vp_in_iff.mpr ⟨by omega, by omega⟩) dX5_growOlder_19 (fun H locs hP hD hS => ?_)
        obtain ⟨f40, ef40⟩ : ∃ fz9 : Nat → Int32, fz9 = upd f31 (x30 : Int32).toNatClampNeg v39 := ⟨_, rfl⟩
        have hP : va_P D vwCl [oX5 rn hy rsa ria raa rta rga dead key tick held tries trips ldraw gdraw, oAI ria cI 8 f40, oAI raa cI 8 f32, oX3 pl pna pta rails limit retry behind] H := by rw [ef40]; exact hP
        have hD : va_D A [oX5 rn hy rsa ria raa rta rga dead key tick held tries trips ldraw gdraw, oAI ria cI 8 f40, oAI raa cI 8 f32, oX3 pl pna pta rails limit retry behind] := by rw [ef40]; exact hD
        refine lv_aload_n hx hb dX5_growOlder_20 rfl (lv_at hl 1 rfl) ?_
        refine va_get (D := D) (ci := 4) (v := .ref raa) (C := RX5) (T := TX5) (N := 14) hx hb hts (fun w h => tbC w (tbfX5 w h)) hown hK hP 0 rfl rfl 3 (by decide) (hts (.fieldLink RX5 25 "PowerRails$Run" "asked" "[I") (tbC _ wd112)) (fun _ h9 => h9) rfl dX5_growOlder_21 ?_
        refine lv_iload_n hx hb dX5_growOlder_24 rfl (lv_at hl 0 rfl) ?_
        refine lv_dup2_11 hx hb dX5_growOlder_25 rfl rfl ?_
        refine va_iald hx hb hK hP 2 0 rfl rfl (vp_in_iff.mpr ⟨by omega, by omega⟩) dX5_growOlder_26 ?_
        refine lv_topi (fun v41 ev41 => ?_)
        refine lv_iconst (v := 1) hx hb dX5_growOlder_27 (by decide) ?_
        refine lv_iadd hx hb dX5_growOlder_28 ?_
        refine lv_topi (fun v42 ev42 => ?_)
        refine va_iast hx hb hK hP hD hS 2 0 rfl rfl (vp_in_iff.mpr ⟨by omega, by omega⟩) dX5_growOlder_29 (fun H locs hP hD hS => ?_)
        obtain ⟨f43, ef43⟩ : ∃ fz9 : Nat → Int32, fz9 = upd f32 (x30 : Int32).toNatClampNeg v42 := ⟨_, rfl⟩
        have hP : va_P D vwCl [oX5 rn hy rsa ria raa rta rga dead key tick held tries trips ldraw gdraw, oAI ria cI 8 f40, oAI raa cI 8 f43, oX3 pl pna pta rails limit retry behind] H := by rw [ef43]; exact hP
        have hD : va_D A [oX5 rn hy rsa ria raa rta rga dead key tick held tries trips ldraw gdraw, oAI ria cI 8 f40, oAI raa cI 8 f43, oX3 pl pna pta rails limit retry behind] := by rw [ef43]; exact hD
        obtain ⟨x44, ex44⟩ : ∃ y : Int32, y = x30 + 1 := ⟨_, rfl⟩
        have tx44 : x44.toInt = (x30.toInt + 1) := (congrArg Int32.toInt ex44).trans (xadd rfl (by decide) (by omega) (by omega))
        refine lv_iinc (v := x44) (lv' := [(2, .int x44), (0, .ref rn), (1, .ref pl)]) hx hb dX5_growOlder_30 hl (k := 0) rfl (by rw [ex44]; rfl) (by decide) rfl (fun ls hl => ?_)
        refine lv_goto (tgt := 2) hx hb dX5_growOlder_33 (by decide) ?_
        exact ihhl33 x44 f40 f43 (by omega) (xrng tx44 (by omega) (by omega)) (by rw [ex44, ef43, ev42, ev41, ef40, ev39, ev38]; exact hM) _ _ hP hD hS ls (lv_sub hl [0, 1, 2] rfl)
  exact hl33 100000 0 ri ra (by have z9_0 : (0 : Int32).toInt = 0 := (by decide); omega) ⟨by decide, by decide⟩ hM _ _ hP hD hS ls (lv_sub hl [0, 1, 2] rfl)
def K_passTick_7 (tick_15 : Int32) (held_16 : Int32) (tries : Int32) (trips : Int32) (r10 : Int32) (v11 : Int32) (rs_2 : Nat → Int32) (ri_17 : Nat → Int32) (ra_18 : Nat → Int32) (rg_5 : Nat → Int32) (ysz_6 : Int32) (ya_7 : Nat → Int32) (yb_8 : Nat → Int32) (yc_9 : Nat → Int32) : (Int32) × (Int32) × (Int32) × (Int32) × (Int32) × (Int32) × (Nat → Int32) × (Nat → Int32) × (Nat → Int32) × (Nat → Int32) × (Int32) × (Nat → Int32) × (Nat → Int32) × (Nat → Int32) := (tick_15, held_16, tries, trips, r10, v11, rs_2, ri_17, ra_18, rg_5, ysz_6, ya_7, yb_8, yc_9)
def K_passTick_5 (tries : Int32) (trips : Int32) (r10 : Int32) (v11 : Int32) (rs_2 : Nat → Int32) (rg_5 : Nat → Int32) (ysz_6 : Int32) (ya_7 : Nat → Int32) (yb_8 : Nat → Int32) (yc_9 : Nat → Int32) (rails : Int32) (held : Int32) (tick : Int32) (ri_3 : Nat → Int32) (ra_4 : Nat → Int32) : (Int32) × (Int32) × (Int32) × (Int32) × (Int32) × (Int32) × (Nat → Int32) × (Nat → Int32) × (Nat → Int32) × (Nat → Int32) × (Int32) × (Nat → Int32) × (Nat → Int32) × (Nat → Int32) := ((fun t9 => (K_passTick_7 t9.1 t9.2.1 tries trips r10 v11 rs_2 t9.2.2.1 t9.2.2.2 rg_5 ysz_6 ya_7 yb_8 yc_9)) (M_growOlder rails held tick ri_3 ra_4))
def K_passTick_10 (tick_37 : Int32) (held_38 : Int32) (tries_21 : Int32) (trips_22 : Int32) (r10 : Int32) (v11 : Int32) (rs_28 : Nat → Int32) (ri_39 : Nat → Int32) (ra_40 : Nat → Int32) (rg_31 : Nat → Int32) (ysz_32 : Int32) (ya_33 : Nat → Int32) (yb_34 : Nat → Int32) (yc_35 : Nat → Int32) : (Int32) × (Int32) × (Int32) × (Int32) × (Int32) × (Int32) × (Nat → Int32) × (Nat → Int32) × (Nat → Int32) × (Nat → Int32) × (Int32) × (Nat → Int32) × (Nat → Int32) × (Nat → Int32) := (tick_37, held_38, tries_21, trips_22, r10, v11, rs_28, ri_39, ra_40, rg_31, ysz_32, ya_33, yb_34, yc_35)
def K_passTick_9 (tries_21 : Int32) (trips_22 : Int32) (r10 : Int32) (v11 : Int32) (rs_28 : Nat → Int32) (rg_31 : Nat → Int32) (ysz_32 : Int32) (ya_33 : Nat → Int32) (yb_34 : Nat → Int32) (yc_35 : Nat → Int32) (rails : Int32) (held_20 : Int32) (tick : Int32) (ri_29 : Nat → Int32) (ra_30 : Nat → Int32) : (Int32) × (Int32) × (Int32) × (Int32) × (Int32) × (Int32) × (Nat → Int32) × (Nat → Int32) × (Nat → Int32) × (Nat → Int32) × (Int32) × (Nat → Int32) × (Nat → Int32) × (Nat → Int32) := ((fun t9 => (K_passTick_10 t9.1 t9.2.1 tries_21 trips_22 r10 v11 rs_28 t9.2.2.1 t9.2.2.2 rg_31 ysz_32 ya_33 yb_34 yc_35)) (M_growOlder rails held_20 tick ri_29 ra_30))
def K_passTick_8 (tries_21 : Int32) (trips_22 : Int32) (r10 : Int32) (v11 : Int32) (rails : Int32) (held_20 : Int32) (tick : Int32) (dead : Int32) (pn : Nat → Int32) (rt : Nat → Int32) (key : Int32) (pt : Nat → Int64) (rs_2 : Nat → Int32) (ri_3 : Nat → Int32) (ra_4 : Nat → Int32) (rg_5 : Nat → Int32) (ysz_23 : Int32) (ya_24 : Nat → Int32) (yb_25 : Nat → Int32) (yc_26 : Nat → Int32) : (Int32) × (Int32) × (Int32) × (Int32) × (Int32) × (Int32) × (Nat → Int32) × (Nat → Int32) × (Nat → Int32) × (Nat → Int32) × (Int32) × (Nat → Int32) × (Nat → Int32) × (Nat → Int32) := ((fun t9 => (K_passTick_9 tries_21 trips_22 r10 v11 t9.1 t9.2.2.2.1 t9.2.2.2.2.1 t9.2.2.2.2.2.1 t9.2.2.2.2.2.2.1 t9.2.2.2.2.2.2.2 rails held_20 tick t9.2.1 t9.2.2.1)) (M_settle rails tick dead pn rt held_20 key pt rs_2 ri_3 ra_4 rg_5 ysz_23 ya_24 yb_25 yc_26))
def K_passTick_6 (r10 : Int32) (v11 : Int32) (rails : Int32) (tick : Int32) (dead : Int32) (pn : Nat → Int32) (rt : Nat → Int32) (key : Int32) (pt : Nat → Int64) (rs_2 : Nat → Int32) (ri_3 : Nat → Int32) (ra_4 : Nat → Int32) (rg_5 : Nat → Int32) (tries : Int32) (trips : Int32) (behind : Int32) (ysz_6 : Int32) (ya_7 : Nat → Int32) (yb_8 : Nat → Int32) (yc_9 : Nat → Int32) (r12 : Int32) : (Int32) × (Int32) × (Int32) × (Int32) × (Int32) × (Int32) × (Nat → Int32) × (Nat → Int32) × (Nat → Int32) × (Nat → Int32) × (Int32) × (Nat → Int32) × (Nat → Int32) × (Nat → Int32) := ((fun t9 => (K_passTick_8 t9.2.1 t9.2.2.1 r10 v11 rails t9.1 tick dead pn rt key pt rs_2 ri_3 ra_4 rg_5 t9.2.2.2.1 t9.2.2.2.2.1 t9.2.2.2.2.2.1 t9.2.2.2.2.2.2)) (M_trip tries trips behind ysz_6 ya_7 tick yb_8 yc_9 r12))
def K_passTick_4 (r12 : Int32) (tries : Int32) (trips : Int32) (r10 : Int32) (v11 : Int32) (rs_2 : Nat → Int32) (rg_5 : Nat → Int32) (ysz_6 : Int32) (ya_7 : Nat → Int32) (yb_8 : Nat → Int32) (yc_9 : Nat → Int32) (rails : Int32) (held : Int32) (tick : Int32) (ri_3 : Nat → Int32) (ra_4 : Nat → Int32) (dead : Int32) (pn : Nat → Int32) (rt : Nat → Int32) (key : Int32) (pt : Nat → Int64) (behind : Int32) : (Int32) × (Int32) × (Int32) × (Int32) × (Int32) × (Int32) × (Nat → Int32) × (Nat → Int32) × (Nat → Int32) × (Nat → Int32) × (Int32) × (Nat → Int32) × (Nat → Int32) × (Nat → Int32) := (if r12.toInt = 0 then (K_passTick_5 tries trips r10 v11 rs_2 rg_5 ysz_6 ya_7 yb_8 yc_9 rails held tick ri_3 ra_4) else (K_passTick_6 r10 v11 rails tick dead pn rt key pt rs_2 ri_3 ra_4 rg_5 tries trips behind ysz_6 ya_7 yb_8 yc_9 r12))
def K_passTick_3 (tries : Int32) (trips : Int32) (r10 : Int32) (gdraw : Int32) (rs_2 : Nat → Int32) (rg_5 : Nat → Int32) (ysz_6 : Int32) (ya_7 : Nat → Int32) (yb_8 : Nat → Int32) (yc_9 : Nat → Int32) (rails : Int32) (held : Int32) (tick : Int32) (ri_3 : Nat → Int32) (ra_4 : Nat → Int32) (dead : Int32) (pn : Nat → Int32) (rt : Nat → Int32) (key : Int32) (pt : Nat → Int64) (behind : Int32) (limit : Int32) : (Int32) × (Int32) × (Int32) × (Int32) × (Int32) × (Int32) × (Nat → Int32) × (Nat → Int32) × (Nat → Int32) × (Nat → Int32) × (Int32) × (Nat → Int32) × (Nat → Int32) × (Nat → Int32) := ((fun t9 => (K_passTick_4 t9 tries trips r10 (if gdraw < r10 then r10 else gdraw) rs_2 rg_5 ysz_6 ya_7 yb_8 yc_9 rails held tick ri_3 ra_4 dead pn rt key pt behind)) (M_whyTrip r10 limit rails rs_2 ra_4 pn))
def K_passTick_2 (tries : Int32) (trips : Int32) (gdraw : Int32) (rs_2 : Nat → Int32) (rg_5 : Nat → Int32) (ysz_6 : Int32) (ya_7 : Nat → Int32) (yb_8 : Nat → Int32) (yc_9 : Nat → Int32) (rails : Int32) (held : Int32) (tick : Int32) (ri_3 : Nat → Int32) (ra_4 : Nat → Int32) (dead : Int32) (pn : Nat → Int32) (rt : Nat → Int32) (key : Int32) (pt : Nat → Int64) (behind : Int32) (limit : Int32) : (Int32) × (Int32) × (Int32) × (Int32) × (Int32) × (Int32) × (Nat → Int32) × (Nat → Int32) × (Nat → Int32) × (Nat → Int32) × (Int32) × (Nat → Int32) × (Nat → Int32) × (Nat → Int32) := ((fun t9 => (K_passTick_3 tries trips t9 gdraw rs_2 rg_5 ysz_6 ya_7 yb_8 yc_9 rails held tick ri_3 ra_4 dead pn rt key pt behind limit)) (M_sumDraw rails rs_2 pn))
def K_passTick_1 (tries : Int32) (trips : Int32) (gdraw : Int32) (rails : Int32) (held : Int32) (tick : Int32) (dead : Int32) (pn : Nat → Int32) (rt : Nat → Int32) (key : Int32) (pt : Nat → Int64) (behind : Int32) (limit : Int32) (rs : Nat → Int32) (ri : Nat → Int32) (ra : Nat → Int32) (rg : Nat → Int32) (ysz : Int32) (ya : Nat → Int32) (yb : Nat → Int32) (yc : Nat → Int32) : (Int32) × (Int32) × (Int32) × (Int32) × (Int32) × (Int32) × (Nat → Int32) × (Nat → Int32) × (Nat → Int32) × (Nat → Int32) × (Int32) × (Nat → Int32) × (Nat → Int32) × (Nat → Int32) := ((fun t9 => (K_passTick_2 tries trips gdraw t9.1 t9.2.2.2.1 t9.2.2.2.2.1 t9.2.2.2.2.2.1 t9.2.2.2.2.2.2.1 t9.2.2.2.2.2.2.2 rails held tick t9.2.1 t9.2.2.1 dead pn rt key pt behind limit)) (M_settle rails tick dead pn rt held key pt rs ri ra rg ysz ya yb yc))
def M_passTick (tries : Int32) (trips : Int32) (gdraw : Int32) (rails : Int32) (held : Int32) (tick : Int32) (dead : Int32) (pn : Nat → Int32) (rt : Nat → Int32) (key : Int32) (pt : Nat → Int64) (behind : Int32) (limit : Int32) (rs : Nat → Int32) (ri : Nat → Int32) (ra : Nat → Int32) (rg : Nat → Int32) (ysz : Int32) (ya : Nat → Int32) (yb : Nat → Int32) (yc : Nat → Int32) : (Int32) × (Int32) × (Int32) × (Int32) × (Int32) × (Int32) × (Nat → Int32) × (Nat → Int32) × (Nat → Int32) × (Nat → Int32) × (Int32) × (Nat → Int32) × (Nat → Int32) × (Nat → Int32) := (K_passTick_1 tries trips gdraw rails held tick dead pn rt key pt behind limit rs ri ra rg ysz ya yb yc)
abbrev W_passTick (cI cJ cZ cG cH : ClassId) (rn : Nat) (pl : Nat) (hy : Nat) (rsa : Nat) (ria : Nat) (raa : Nat) (rta : Nat) (rga : Nat) (dead : Int32) (key : Int32) (tick : Int32) (held : Int32) (tries : Int32) (trips : Int32) (ldraw : Int32) (gdraw : Int32) (rs : Nat → Int32) (ri : Nat → Int32) (ra : Nat → Int32) (rt : Nat → Int32) (rg : Nat → Int32) (yaa : Nat) (yba : Nat) (yca : Nat) (ysz : Int32) (ya : Nat → Int32) (yb : Nat → Int32) (yc : Nat → Int32) (pna : Nat) (pta : Nat) (rails : Int32) (limit : Int32) (retry : Int32) (behind : Int32) (pn : Nat → Int32) (pt : Nat → Int64) : va_W := [oX5 rn hy rsa ria raa rta rga dead key tick held tries trips ldraw gdraw, oAI rsa cI 8 rs, oAI ria cI 8 ri, oAI raa cI 8 ra, oAI rta cI 8 rt, oAI rga cI 8 rg, oX2 hy yaa yba yca ysz, oAI yaa cI 64 ya, oAI yba cI 64 yb, oAI yca cI 64 yc, oX3 pl pna pta rails limit retry behind, oAI pna cI 64 pn, oAJ pta cJ 64 pt]
abbrev Q_passTick (D : va_G) (cI cJ cZ cG cH : ClassId) (rn : Nat) (pl : Nat) (hy : Nat) (rsa : Nat) (ria : Nat) (raa : Nat) (rta : Nat) (rga : Nat) (dead : Int32) (key : Int32) (tick : Int32) (held : Int32) (tries : Int32) (trips : Int32) (ldraw : Int32) (gdraw : Int32) (rs : Nat → Int32) (ri : Nat → Int32) (ra : Nat → Int32) (rt : Nat → Int32) (rg : Nat → Int32) (yaa : Nat) (yba : Nat) (yca : Nat) (ysz : Int32) (ya : Nat → Int32) (yb : Nat → Int32) (yc : Nat → Int32) (pna : Nat) (pta : Nat) (rails : Int32) (limit : Int32) (retry : Int32) (behind : Int32) (pn : Nat → Int32) (pt : Nat → Int64) (A : Nat → Prop) : Array Value → State → Outcome → State → Prop := va_Qv (fun (_ : Unit) => True) (fun _ t => ∃ (tick9 : Int32) (held9 : Int32) (tries9 : Int32) (trips9 : Int32) (ldraw9 : Int32) (gdraw9 : Int32) (rs9 : Nat → Int32) (ri9 : Nat → Int32) (ra9 : Nat → Int32) (rg9 : Nat → Int32) (ysz9 : Int32) (ya9 : Nat → Int32) (yb9 : Nat → Int32) (yc9 : Nat → Int32), (0 ≤ ysz9.toInt ∧ ysz9.toInt ≤ 64) ∧ (M_passTick tries trips gdraw rails held tick dead pn rt key pt behind limit rs ri ra rg ysz ya yb yc = (tick9, held9, tries9, trips9, ldraw9, gdraw9, rs9, ri9, ra9, rg9, ysz9, ya9, yb9, yc9)) ∧ xB D (tyL cI cJ cZ cG cH) [oX5 rn hy rsa ria raa rta rga dead key tick9 held9 tries9 trips9 ldraw9 gdraw9, oAI rsa cI 8 rs9, oAI ria cI 8 ri9, oAI raa cI 8 ra9, oAI rta cI 8 rt, oAI rga cI 8 rg9, oX2 hy yaa yba yca ysz9, oAI yaa cI 64 ya9, oAI yba cI 64 yb9, oAI yca cI 64 yc9, oX3 pl pna pta rails limit retry behind, oAI pna cI 64 pn, oAJ pta cJ 64 pt] A t) A
abbrev rm_passTick : Room := { frames := 4, cells := 0, slots := 0, locals := 94 }
set_option maxRecDepth 100000 in
set_option maxHeartbeats 40000000 in
theorem c_passTick (l : Launch) (D : va_G) (cI cJ cZ cG cH : ClassId) (sz : Nat) (rn : Nat) (pl : Nat) (hy : Nat) (rsa : Nat) (ria : Nat) (raa : Nat) (rta : Nat) (rga : Nat) (dead : Int32) (key : Int32) (tick : Int32) (held : Int32) (tries : Int32) (trips : Int32) (ldraw : Int32) (gdraw : Int32) (rs : Nat → Int32) (ri : Nat → Int32) (ra : Nat → Int32) (rt : Nat → Int32) (rg : Nat → Int32) (yaa : Nat) (yba : Nat) (yca : Nat) (ysz : Int32) (ya : Nat → Int32) (yb : Nat → Int32) (yc : Nat → Int32) (pna : Nat) (pta : Nat) (rails : Int32) (limit : Int32) (retry : Int32) (behind : Int32) (pn : Nat → Int32) (pt : Nat → Int64) (h_key : 0 ≤ key.toInt ∧ key.toInt ≤ 1) (h_rt : ∀ j, j < 8 → 0 ≤ (rt j).toInt ∧ (rt j).toInt ≤ 511) (h_ysz : 0 ≤ ysz.toInt ∧ ysz.toInt ≤ 64) (h_rails : 0 ≤ rails.toInt ∧ rails.toInt ≤ 8) (h_pn : ∀ j, j < 64 → 0 ≤ (pn j).toInt ∧ (pn j).toInt ≤ 511) : Met l yX5_passTick (wt yX5_passTick cX5_passTick 3 none) rm_passTick (xPc [.ref rn, .ref pl] D (tyL cI cJ cZ cG cH) (W_passTick cI cJ cZ cG cH rn pl hy rsa ria raa rta rga dead key tick held tries trips ldraw gdraw rs ri ra rt rg yaa yba yca ysz ya yb yc pna pta rails limit retry behind pn pt) sz) (Q_passTick D cI cJ cZ cG cH rn pl hy rsa ria raa rta rga dead key tick held tries trips ldraw gdraw rs ri ra rt rg yaa yba yca ysz ya yb yc pna pta rails limit retry behind pn pt (va_A (W_passTick cI cJ cZ cG cH rn pl hy rsa ria raa rta rga dead key tick held tries trips ldraw gdraw rs ri ra rt rg yaa yba yca ysz ya yb yc pna pta rails limit retry behind pn pt) sz)) 0 0 (va_A (W_passTick cI cJ cZ cG cH rn pl hy rsa ria raa rta rga dead key tick held tries trips ldraw gdraw rs ri ra rt rg yaa yba yca ysz ya yb yc pna pta rails limit retry behind pn pt) sz) := by
  refine xMet (cc := cX5_passTick) (maxL := 3) (ret := none) (Qf := Q_passTick D cI cJ cZ cG cH rn pl hy rsa ria raa rta rga dead key tick held tries trips ldraw gdraw rs ri ra rt rg yaa yba yca ysz ya yb yc pna pta rails limit retry behind pn pt) (by decide) rfl (Nat.le_of_ble_eq_true rfl) ?_
  intro p e s m below meth c ls A hx hb hr hml hts hown hlocks hnm hsz hP hK hD hA hS hl
  have hown : s.vm.findClass RX5 = some m.cls := hown
  have hP : va_P D vwCl [oX5 rn hy rsa ria raa rta rga dead key tick held tries trips ldraw gdraw, oAI rsa cI 8 rs, oAI ria cI 8 ri, oAI raa cI 8 ra, oAI rta cI 8 rt, oAI rga cI 8 rg, oX2 hy yaa yba yca ysz, oAI yaa cI 64 ya, oAI yba cI 64 yb, oAI yca cI 64 yc, oX3 pl pna pta rails limit retry behind, oAI pna cI 64 pn, oAJ pta cJ 64 pt] s.heap := hP
  have hD : va_D A [oX5 rn hy rsa ria raa rta rga dead key tick held tries trips ldraw gdraw, oAI rsa cI 8 rs, oAI ria cI 8 ri, oAI raa cI 8 ra, oAI rta cI 8 rt, oAI rga cI 8 rg, oX2 hy yaa yba yca ysz, oAI yaa cI 64 ya, oAI yba cI 64 yb, oAI yca cI 64 yc, oX3 pl pna pta rails limit retry behind, oAI pna cI 64 pn, oAJ pta cJ 64 pt] := hD
  have hl : lv_has ls 3 [(0, .ref rn), (1, .ref pl)] := hl
  have hM : M_passTick tries trips gdraw rails held tick dead pn rt key pt behind limit rs ri ra rg ysz ya yb yc = (K_passTick_1 tries trips gdraw rails held tick dead pn rt key pt behind limit rs ri ra rg ysz ya yb yc) := rfl
  refine lv_aload_n hx hb dX5_passTick_0 rfl (lv_at hl 0 rfl) ?_
  refine lv_aload_n hx hb dX5_passTick_1 rfl (lv_at hl 1 rfl) ?_
  obtain ⟨hPc, hDc, hFc, hC9⟩ := xpk (wc := W_settle cI cJ cZ cG cH rn pl hy rsa ria raa rta rga dead key tick held tries trips ldraw gdraw rs ri ra rt rg yaa yba yca ysz ya yb yc pna pta rails limit retry behind pn pt) hP hD hS hA [0, 1, 2, 3, 4, 5, 6, 7, 8, 9, 10, 11, 12] (by decide +kernel) rfl
  refine va_callv (va_runV (As := [.ref pl]) (rest := []) ⟨hx, hb, hml, hown, hts⟩ (c_settle l D cI cJ cZ cG cH s.heap.size rn pl hy rsa ria raa rta rga dead key tick held tries trips ldraw gdraw rs ri ra rt rg yaa yba yca ysz ya yb yc pna pta rails limit retry behind pn pt (xrng rfl (by omega) (by omega)) (xwk_rng h_rt (by decide) (by decide)) (xrng rfl (by omega) (by omega)) (xrng rfl (by omega) (by omega)) (xwk_rng h_pn (by decide) (by decide))) (cwV 1 hts (xGV tbC wd458 wd459 wd460 wd52 wd1025) rfl rfl rfl (by decide +kernel) ⟨Nat.le_of_ble_eq_true rfl, Nat.le_of_ble_eq_true rfl⟩) ⟨xPc_blind, va_recv hK hPc (ci := 4) (q0 := 0) rfl rfl, xPc_pre hPc hK hDc⟩ rfl rfl hl.1 rfl (lv_room (Nat.le_of_ble_eq_true rfl)) dX5_passTick_2 ⟨Nat.le_of_ble_eq_true rfl, Nat.le_of_ble_eq_true rfl⟩) hS (fun q _ h => hFc q h) hFc (fun u t H1 locs ht hvm hw1 hB hz1 hk1 hS => ?_)
  revert hB
  refine xex8r (fun rs_2 ri_3 ra_4 rg_5 ysz_6 ya_7 yb_8 yc_9 => ?_)
  refine xan5r (fun hf9_0 hf9_1 hP1 hK1 hD1 => ?_)
  rw [ht] at hP1
  obtain ⟨hP, hD⟩ : xPD D A [oX5 rn hy rsa ria raa rta rga dead key tick held tries trips ldraw gdraw, oAI rsa cI 8 rs_2, oAI ria cI 8 ri_3, oAI raa cI 8 ra_4, oAI rta cI 8 rt, oAI rga cI 8 rg_5, oX2 hy yaa yba yca ysz_6, oAI yaa cI 64 ya_7, oAI yba cI 64 yb_8, oAI yca cI 64 yc_9, oX3 pl pna pta rails limit retry behind, oAI pna cI 64 pn, oAJ pta cJ 64 pt] H1 := xjn 0 hP hD [0, 1, 2, 3, 4, 5, 6, 7, 8, 9, 10, 11, 12] [] hC9 rfl (by decide +kernel) (by decide +kernel) hk1 hFc hP1 hD1
  generalize H1 = H at hP hS ⊢
  have hf9_0 : 0 ≤ ysz_6.toInt ∧ ysz_6.toInt ≤ 64 := hf9_0
  have hf9_1 : M_settle rails tick dead pn rt held key pt rs ri ra rg ysz ya yb yc = (rs_2, ri_3, ra_4, rg_5, ysz_6, ya_7, yb_8, yc_9) := hf9_1
  have h9M := congrArg (fun t9 => (K_passTick_2 tries trips gdraw t9.1 t9.2.2.2.1 t9.2.2.2.2.1 t9.2.2.2.2.2.1 t9.2.2.2.2.2.2.1 t9.2.2.2.2.2.2.2 rails held tick t9.2.1 t9.2.2.1 dead pn rt key pt behind limit)) hf9_1
  have hM : M_passTick tries trips gdraw rails held tick dead pn rt key pt behind limit rs ri ra rg ysz ya yb yc = (K_passTick_2 tries trips gdraw rs_2 rg_5 ysz_6 ya_7 yb_8 yc_9 rails held tick ri_3 ra_4 dead pn rt key pt behind limit) := (show M_passTick tries trips gdraw rails held tick dead pn rt key pt behind limit rs ri ra rg ysz ya yb yc = ((fun t9 => (K_passTick_2 tries trips gdraw t9.1 t9.2.2.2.1 t9.2.2.2.2.1 t9.2.2.2.2.2.1 t9.2.2.2.2.2.2.1 t9.2.2.2.2.2.2.2 rails held tick t9.2.1 t9.2.2.1 dead pn rt key pt behind limit)) (M_settle rails tick dead pn rt held key pt rs ri ra rg ysz ya yb yc)) from hM).trans h9M
  refine lv_aload_n hx hb dX5_passTick_5 rfl (lv_at hl 0 rfl) ?_
  refine lv_aload_n hx hb dX5_passTick_6 rfl (lv_at hl 0 rfl) ?_
  refine lv_aload_n hx hb dX5_passTick_7 rfl (lv_at hl 1 rfl) ?_
  obtain ⟨hPc, hDc, hFc, hC9⟩ := xpk (wc := W_sumDraw cI cJ cZ cG cH rn pl hy rsa ria raa rta rga dead key tick held tries trips ldraw gdraw rs_2 pna pta rails limit retry behind pn) hP hD hS hA [0, 1, 10, 11] (by decide +kernel) rfl
  refine va_calli (va_runV (As := [.ref pl]) (rest := [.ref rn]) ⟨hx, hb, hml, hown, hts⟩ (c_sumDraw l D cI cJ cZ cG cH H.size rn pl hy rsa ria raa rta rga dead key tick held tries trips ldraw gdraw rs_2 pna pta rails limit retry behind pn (xrng rfl (by omega) (by omega)) (xrng rfl (by omega) (by omega)) (xwk_rng h_pn (by decide) (by decide))) (cwV 1 hts (xGV tbC wd480 wd481 wd482 wd52 wd1032) rfl rfl rfl (by decide +kernel) ⟨Nat.le_of_ble_eq_true rfl, Nat.le_of_ble_eq_true rfl⟩) ⟨xPc_blind, va_recv hK hPc (ci := 4) (q0 := 0) rfl rfl, xPc_pre hPc hK hDc⟩ rfl rfl hl.1 rfl (lv_room (Nat.le_of_ble_eq_true rfl)) dX5_passTick_8 ⟨Nat.le_of_ble_eq_true rfl, Nat.le_of_ble_eq_true rfl⟩) hS (fun q _ h => hFc q h) hFc (fun r10 u t H1 locs ht hvm hw10 hB hz1 hk1 hS => ?_)
  obtain ⟨hru9, hw10⟩ := hw10
  subst hru9
  obtain ⟨hf10_0, hP1, hK1, hD1⟩ := hB
  rw [ht] at hP1
  obtain ⟨hP, hD⟩ : xPD D A [oAI ria cI 8 ri_3, oAI raa cI 8 ra_4, oAI rta cI 8 rt, oAI rga cI 8 rg_5, oX2 hy yaa yba yca ysz_6, oAI yaa cI 64 ya_7, oAI yba cI 64 yb_8, oAI yca cI 64 yc_9, oAJ pta cJ 64 pt, oX5 rn hy rsa ria raa rta rga dead key tick held tries trips ldraw gdraw, oAI rsa cI 8 rs_2, oX3 pl pna pta rails limit retry behind, oAI pna cI 64 pn] H1 := xjn 9 hP hD [0, 1, 10, 11] [2, 3, 4, 5, 6, 7, 8, 9, 12] hC9 rfl (by decide +kernel) (by decide +kernel) hk1 hFc hP1 hD1
  generalize H1 = H at hP hS ⊢
  have hf10_0 : M_sumDraw rails rs_2 pn = (r10) := hf10_0
  have h9M := congrArg (fun t9 => (K_passTick_3 tries trips t9 gdraw rs_2 rg_5 ysz_6 ya_7 yb_8 yc_9 rails held tick ri_3 ra_4 dead pn rt key pt behind limit)) hf10_0
  have hM : M_passTick tries trips gdraw rails held tick dead pn rt key pt behind limit rs ri ra rg ysz ya yb yc = (K_passTick_3 tries trips r10 gdraw rs_2 rg_5 ysz_6 ya_7 yb_8 yc_9 rails held tick ri_3 ra_4 dead pn rt key pt behind limit) := (show M_passTick tries trips gdraw rails held tick dead pn rt key pt behind limit rs ri ra rg ysz ya yb yc = ((fun t9 => (K_passTick_3 tries trips t9 gdraw rs_2 rg_5 ysz_6 ya_7 yb_8 yc_9 rails held tick ri_3 ra_4 dead pn rt key pt behind limit)) (M_sumDraw rails rs_2 pn)) from hM).trans h9M
  refine va_put (D := D) (ci := 4) (v := .int r10) (ty := .int) (C := RX5) (T := TX5) (N := 14) hx hb hts (fun w h => tbC w (tbfX5 w h)) tyX5 tyX5_ok nmX5 hown hK hP hD hS 9 rfl rfl 12 (by decide) (hts (.fieldLink RX5 66 "PowerRails$Run" "latestDraw" "I") (tbC _ wd129)) (fun _ h9 => h9) rfl (by decide +kernel) rfl rfl (Nat.le_of_ble_eq_true rfl) dX5_passTick_11 (fun H locs hP hD hS => ?_)
  obtain ⟨hP, hD⟩ : xPD D A [oAI ria cI 8 ri_3, oAI raa cI 8 ra_4, oAI rta cI 8 rt, oAI rga cI 8 rg_5, oX2 hy yaa yba yca ysz_6, oAI yaa cI 64 ya_7, oAI yba cI 64 yb_8, oAI yca cI 64 yc_9, oAJ pta cJ 64 pt, oX5 rn hy rsa ria raa rta rga dead key tick held tries trips r10 gdraw, oAI rsa cI 8 rs_2, oX3 pl pna pta rails limit retry behind, oAI pna cI 64 pn] H := ⟨hP, hD⟩
  refine lv_aload_n hx hb dX5_passTick_14 rfl (lv_at hl 0 rfl) ?_
  refine lv_aload_n hx hb dX5_passTick_15 rfl (lv_at hl 0 rfl) ?_
  refine va_get (D := D) (ci := 4) (v := .int gdraw) (C := RX5) (T := TX5) (N := 14) hx hb hts (fun w h => tbC w (tbfX5 w h)) hown hK hP 9 rfl rfl 13 (by decide) (hts (.fieldLink RX5 69 "PowerRails$Run" "greatestDraw" "I") (tbC _ wd131)) (fun _ h9 => h9) rfl dX5_passTick_16 ?_
  refine lv_aload_n hx hb dX5_passTick_19 rfl (lv_at hl 0 rfl) ?_
  refine va_get (D := D) (ci := 4) (v := .int r10) (C := RX5) (T := TX5) (N := 14) hx hb hts (fun w h => tbC w (tbfX5 w h)) hown hK hP 9 rfl rfl 12 (by decide) (hts (.fieldLink RX5 66 "PowerRails$Run" "latestDraw" "I") (tbC _ wd129)) (fun _ h9 => h9) rfl dX5_passTick_20 ?_
  refine va_mmax hx hb (hml.trans hl.1.symm) hown (hts (.methodLink RX5 80 Lib.Math.max.name) (tbC _ wd483)) (hts (.static Lib.Math.max.name) (tbC _ wd484)) (hts (.initialized "java/lang/Math") (tbC _ wd67)) (hts (.code Lib.Math.max.name Lib.Math.max.code 2 (some .int)) (tbC _ wd1033)) (Nat.le_of_ble_eq_true rfl) (Nat.le_of_ble_eq_true rfl) (Nat.le_of_ble_eq_true rfl) (Nat.le_of_ble_eq_true rfl) dX5_passTick_23 ?_
  refine lv_topi (fun v11 ev11 => ?_)
  have rv11 : (v11.toInt = gdraw.toInt ∨ v11.toInt = r10.toInt) ∧ gdraw.toInt ≤ v11.toInt ∧ r10.toInt ≤ v11.toInt := xmaxL ev11 (show (gdraw : Int32).toInt = gdraw.toInt from rfl) (show (r10 : Int32).toInt = r10.toInt from rfl)
  refine va_put (D := D) (ci := 4) (v := .int v11) (ty := .int) (C := RX5) (T := TX5) (N := 14) hx hb hts (fun w h => tbC w (tbfX5 w h)) tyX5 tyX5_ok nmX5 hown hK hP hD hS 9 rfl rfl 13 (by decide) (hts (.fieldLink RX5 69 "PowerRails$Run" "greatestDraw" "I") (tbC _ wd131)) (fun _ h9 => h9) rfl (by decide +kernel) rfl rfl (Nat.le_of_ble_eq_true rfl) dX5_passTick_26 (fun H locs hP hD hS => ?_)
  obtain ⟨hP, hD⟩ : xPD D A [oAI ria cI 8 ri_3, oAI raa cI 8 ra_4, oAI rta cI 8 rt, oAI rga cI 8 rg_5, oX2 hy yaa yba yca ysz_6, oAI yaa cI 64 ya_7, oAI yba cI 64 yb_8, oAI yca cI 64 yc_9, oAJ pta cJ 64 pt, oX5 rn hy rsa ria raa rta rga dead key tick held tries trips r10 v11, oAI rsa cI 8 rs_2, oX3 pl pna pta rails limit retry behind, oAI pna cI 64 pn] H := ⟨hP, hD⟩
  refine lv_aload_n hx hb dX5_passTick_29 rfl (lv_at hl 0 rfl) ?_
  refine lv_aload_n hx hb dX5_passTick_30 rfl (lv_at hl 1 rfl) ?_
  obtain ⟨hPc, hDc, hFc, hC9⟩ := xpk (wc := W_whyTrip cI cJ cZ cG cH rn pl hy rsa ria raa rta rga dead key tick held tries trips r10 v11 rs_2 ra_4 pna pta rails limit retry behind pn) hP hD hS hA [9, 10, 1, 11, 12] (by decide +kernel) rfl
  refine va_calli (va_runV (As := [.ref pl]) (rest := []) ⟨hx, hb, hml, hown, hts⟩ (c_whyTrip l D cI cJ cZ cG cH H.size rn pl hy rsa ria raa rta rga dead key tick held tries trips r10 v11 rs_2 ra_4 pna pta rails limit retry behind pn (xrng rfl (by omega) (by omega)) (xrng rfl (by omega) (by omega)) (xwk_rng h_pn (by decide) (by decide))) (cwV 1 hts (xGV tbC wd485 wd486 wd487 wd52 wd1034) rfl rfl rfl (by decide +kernel) ⟨Nat.le_of_ble_eq_true rfl, Nat.le_of_ble_eq_true rfl⟩) ⟨xPc_blind, va_recv hK hPc (ci := 4) (q0 := 0) rfl rfl, xPc_pre hPc hK hDc⟩ rfl rfl hl.1 rfl (lv_room (Nat.le_of_ble_eq_true rfl)) dX5_passTick_31 ⟨Nat.le_of_ble_eq_true rfl, Nat.le_of_ble_eq_true rfl⟩) hS (fun q _ h => hFc q h) hFc (fun r12 u t H1 locs ht hvm hw12 hB hz1 hk1 hS => ?_)
  obtain ⟨hru9, hw12⟩ := hw12
  subst hru9
  obtain ⟨hf12_0, hP1, hK1, hD1⟩ := hB
  rw [ht] at hP1
  obtain ⟨hP, hD⟩ : xPD D A [oAI ria cI 8 ri_3, oAI rta cI 8 rt, oAI rga cI 8 rg_5, oX2 hy yaa yba yca ysz_6, oAI yaa cI 64 ya_7, oAI yba cI 64 yb_8, oAI yca cI 64 yc_9, oAJ pta cJ 64 pt, oX5 rn hy rsa ria raa rta rga dead key tick held tries trips r10 v11, oAI rsa cI 8 rs_2, oAI raa cI 8 ra_4, oX3 pl pna pta rails limit retry behind, oAI pna cI 64 pn] H1 := xjn 8 hP hD [9, 10, 1, 11, 12] [0, 2, 3, 4, 5, 6, 7, 8] hC9 rfl (by decide +kernel) (by decide +kernel) hk1 hFc hP1 hD1
  generalize H1 = H at hP hS ⊢
  have hf12_0 : M_whyTrip r10 limit rails rs_2 ra_4 pn = (r12) := hf12_0
  have hw12 : 0 ≤ r12.toInt ∧ r12.toInt ≤ 2 := hw12
  have h9M := congrArg (fun t9 => (K_passTick_4 t9 tries trips r10 v11 rs_2 rg_5 ysz_6 ya_7 yb_8 yc_9 rails held tick ri_3 ra_4 dead pn rt key pt behind)) hf12_0
  have hM : M_passTick tries trips gdraw rails held tick dead pn rt key pt behind limit rs ri ra rg ysz ya yb yc = (K_passTick_4 r12 tries trips r10 v11 rs_2 rg_5 ysz_6 ya_7 yb_8 yc_9 rails held tick ri_3 ra_4 dead pn rt key pt behind) := (show M_passTick tries trips gdraw rails held tick dead pn rt key pt behind limit rs ri ra rg ysz ya yb yc = ((fun t9 => (K_passTick_4 t9 tries trips r10 v11 rs_2 rg_5 ysz_6 ya_7 yb_8 yc_9 rails held tick ri_3 ra_4 dead pn rt key pt behind)) (M_whyTrip r10 limit rails rs_2 ra_4 pn)) from (by rw [ev11]; exact hM)).trans h9M
  refine lv_istore_n (lv' := [(2, .int r12), (0, .ref rn), (1, .ref pl)]) hx hb dX5_passTick_34 rfl hl (by decide) rfl (fun ls hl => ?_)
  refine lv_iload_n hx hb dX5_passTick_35 rfl (lv_at hl 0 rfl) ?_
  refine lv_if_eq (tgt := 50) hx hb dX5_passTick_36 (by decide) (fun c_13 => ?_) (fun c_13 => ?_)
  · skip
    have i_13 : r12.toInt = 0 := (ieq rfl (by decide)).mp c_13
    have hM : M_passTick tries trips gdraw rails held tick dead pn rt key pt behind limit rs ri ra rg ysz ya yb yc = (K_passTick_5 tries trips r10 v11 rs_2 rg_5 ysz_6 ya_7 yb_8 yc_9 rails held tick ri_3 ra_4) := (show M_passTick tries trips gdraw rails held tick dead pn rt key pt behind limit rs ri ra rg ysz ya yb yc = (if r12.toInt = 0 then (K_passTick_5 tries trips r10 v11 rs_2 rg_5 ysz_6 ya_7 yb_8 yc_9 rails held tick ri_3 ra_4) else (K_passTick_6 r10 v11 rails tick dead pn rt key pt rs_2 ri_3 ra_4 rg_5 tries trips behind ysz_6 ya_7 yb_8 yc_9 r12)) from hM).trans (if_pos i_13)
    refine lv_aload_n hx hb dX5_passTick_50 rfl (lv_at hl 1 rfl) ?_
    refine lv_aload_n hx hb dX5_passTick_51 rfl (lv_at hl 2 rfl) ?_
    obtain ⟨hPc, hDc, hFc, hC9⟩ := xpk (wc := W_growOlder cI cJ cZ cG cH rn pl hy rsa ria raa rta rga dead key tick held tries trips r10 v11 ri_3 ra_4 pna pta rails limit retry behind) hP hD hS hA [8, 0, 10, 11] (by decide +kernel) rfl
    refine va_callv (va_runV (As := [.ref pl]) (rest := []) ⟨hx, hb, hml, hown, hts⟩ (c_growOlder l D cI cJ cZ cG cH H.size rn pl hy rsa ria raa rta rga dead key tick held tries trips r10 v11 ri_3 ra_4 pna pta rails limit retry behind (xrng rfl (by omega) (by omega)) (xrng rfl (by omega) (by omega))) (cwV 1 hts (xGV tbC wd491 wd492 wd493 wd52 wd1036) rfl rfl rfl (by decide +kernel) ⟨Nat.le_of_ble_eq_true rfl, Nat.le_of_ble_eq_true rfl⟩) ⟨xPc_blind, va_recv hK hPc (ci := 4) (q0 := 0) rfl rfl, xPc_pre hPc hK hDc⟩ rfl rfl hl.1 rfl (lv_room (Nat.le_of_ble_eq_true rfl)) dX5_passTick_52 ⟨Nat.le_of_ble_eq_true rfl, Nat.le_of_ble_eq_true rfl⟩) hS (fun q _ h => hFc q h) hFc (fun u t H1 locs ht hvm hw14 hB hz1 hk1 hS => ?_)
    obtain ⟨tick_15, held_16, ri_17, ra_18, hf18_0, hP1, hK1, hD1⟩ := hB
    rw [ht] at hP1
    obtain ⟨hP, hD⟩ : xPD D A [oAI rta cI 8 rt, oAI rga cI 8 rg_5, oX2 hy yaa yba yca ysz_6, oAI yaa cI 64 ya_7, oAI yba cI 64 yb_8, oAI yca cI 64 yc_9, oAJ pta cJ 64 pt, oAI rsa cI 8 rs_2, oAI pna cI 64 pn, oX5 rn hy rsa ria raa rta rga dead key tick_15 held_16 tries trips r10 v11, oAI ria cI 8 ri_17, oAI raa cI 8 ra_18, oX3 pl pna pta rails limit retry behind] H1 := xjn 9 hP hD [8, 0, 10, 11] [1, 2, 3, 4, 5, 6, 7, 9, 12] hC9 rfl (by decide +kernel) (by decide +kernel) hk1 hFc hP1 hD1
    generalize H1 = H at hP hS ⊢
    have hf18_0 : M_growOlder rails held tick ri_3 ra_4 = (tick_15, held_16, ri_17, ra_18) := hf18_0
    have h9M := congrArg (fun t9 => (K_passTick_7 t9.1 t9.2.1 tries trips r10 v11 rs_2 t9.2.2.1 t9.2.2.2 rg_5 ysz_6 ya_7 yb_8 yc_9)) hf18_0
    have hM : M_passTick tries trips gdraw rails held tick dead pn rt key pt behind limit rs ri ra rg ysz ya yb yc = (K_passTick_7 tick_15 held_16 tries trips r10 v11 rs_2 ri_17 ra_18 rg_5 ysz_6 ya_7 yb_8 yc_9) := (show M_passTick tries trips gdraw rails held tick dead pn rt key pt behind limit rs ri ra rg ysz ya yb yc = ((fun t9 => (K_passTick_7 t9.1 t9.2.1 tries trips r10 v11 rs_2 t9.2.2.1 t9.2.2.2 rg_5 ysz_6 ya_7 yb_8 yc_9)) (M_growOlder rails held tick ri_3 ra_4)) from hM).trans h9M
    refine W.widen (k := 0) (n := 0) (by decide) (by decide) ?_
    exact W.vret hx hb hr (fun t ht hW => ⟨⟨(), rfl, trivial, ⟨tick_15, held_16, tries, trips, r10, v11, rs_2, ri_17, ra_18, rg_5, ysz_6, ya_7, yb_8, yc_9, (xrng rfl (by omega) (by omega)), hM, xB_of9 ht hW hP hK hD [9, 7, 10, 11, 0, 1, 2, 3, 4, 5, 12, 8, 6] (by decide +kernel) rfl⟩⟩, hS.F ht⟩) hS.2.2 dX5_passTick_55
  · skip
    have i_13 : ¬ (r12.toInt = 0) := fun h9 => c_13 ((ieq rfl (by decide)).mpr h9)
    have hM : M_passTick tries trips gdraw rails held tick dead pn rt key pt behind limit rs ri ra rg ysz ya yb yc = (K_passTick_6 r10 v11 rails tick dead pn rt key pt rs_2 ri_3 ra_4 rg_5 tries trips behind ysz_6 ya_7 yb_8 yc_9 r12) := (show M_passTick tries trips gdraw rails held tick dead pn rt key pt behind limit rs ri ra rg ysz ya yb yc = (if r12.toInt = 0 then (K_passTick_5 tries trips r10 v11 rs_2 rg_5 ysz_6 ya_7 yb_8 yc_9 rails held tick ri_3 ra_4) else (K_passTick_6 r10 v11 rails tick dead pn rt key pt rs_2 ri_3 ra_4 rg_5 tries trips behind ysz_6 ya_7 yb_8 yc_9 r12)) from hM).trans (if_neg i_13)
    refine lv_aload_n hx hb dX5_passTick_39 rfl (lv_at hl 1 rfl) ?_
    refine lv_aload_n hx hb dX5_passTick_40 rfl (lv_at hl 2 rfl) ?_
    refine lv_iload_n hx hb dX5_passTick_41 rfl (lv_at hl 0 rfl) ?_
    obtain ⟨hPc, hDc, hFc, hC9⟩ := xpk (wc := W_trip cI cJ cZ cG cH rn pl r12 hy rsa ria raa rta rga dead key tick held tries trips r10 v11 yaa yba yca ysz_6 ya_7 yb_8 yc_9 pna pta rails limit retry behind) hP hD hS hA [8, 3, 4, 5, 6, 11] (by decide +kernel) rfl
    refine va_callv (va_runV (As := [.ref pl, .int r12]) (rest := []) ⟨hx, hb, hml, hown, hts⟩ (c_trip l D cI cJ cZ cG cH H.size rn pl r12 hy rsa ria raa rta rga dead key tick held tries trips r10 v11 yaa yba yca ysz_6 ya_7 yb_8 yc_9 pna pta rails limit retry behind (xrng rfl (by omega) (by omega)) (xrng rfl (by omega) (by omega)) (xrng rfl (by omega) (by omega))) (cwV 2 hts (xGV tbC wd488 wd489 wd490 wd52 wd1035) rfl rfl rfl (by decide +kernel) ⟨Nat.le_of_ble_eq_true rfl, Nat.le_of_ble_eq_true rfl⟩) ⟨xPc_blind, va_recv hK hPc (ci := 4) (q0 := 0) rfl rfl, xPc_pre hPc hK hDc⟩ rfl rfl hl.1 rfl (lv_room (Nat.le_of_ble_eq_true rfl)) dX5_passTick_42 ⟨Nat.le_of_ble_eq_true rfl, Nat.le_of_ble_eq_true rfl⟩) hS (fun q _ h => hFc q h) hFc (fun u t H1 locs ht hvm hw19 hB hz1 hk1 hS => ?_)
    revert hB
    refine xex7r (fun held_20 tries_21 trips_22 ysz_23 ya_24 yb_25 yc_26 => ?_)
    refine xan5r (fun hf26_0 hf26_1 hP1 hK1 hD1 => ?_)
    rw [ht] at hP1
    obtain ⟨hP, hD⟩ : xPD D A [oAI ria cI 8 ri_3, oAI rta cI 8 rt, oAI rga cI 8 rg_5, oAJ pta cJ 64 pt, oAI rsa cI 8 rs_2, oAI raa cI 8 ra_4, oAI pna cI 64 pn, oX5 rn hy rsa ria raa rta rga dead key tick held_20 tries_21 trips_22 r10 v11, oX2 hy yaa yba yca ysz_23, oAI yaa cI 64 ya_24, oAI yba cI 64 yb_25, oAI yca cI 64 yc_26, oX3 pl pna pta rails limit retry behind] H1 := xjn 7 hP hD [8, 3, 4, 5, 6, 11] [0, 1, 2, 7, 9, 10, 12] hC9 rfl (by decide +kernel) (by decide +kernel) hk1 hFc hP1 hD1
    generalize H1 = H at hP hS ⊢
    have hf26_0 : 0 ≤ ysz_23.toInt ∧ ysz_23.toInt ≤ 64 := hf26_0
    have hf26_1 : M_trip tries trips behind ysz_6 ya_7 tick yb_8 yc_9 r12 = (held_20, tries_21, trips_22, ysz_23, ya_24, yb_25, yc_26) := hf26_1
    have h9M := congrArg (fun t9 => (K_passTick_8 t9.2.1 t9.2.2.1 r10 v11 rails t9.1 tick dead pn rt key pt rs_2 ri_3 ra_4 rg_5 t9.2.2.2.1 t9.2.2.2.2.1 t9.2.2.2.2.2.1 t9.2.2.2.2.2.2)) hf26_1
    have hM : M_passTick tries trips gdraw rails held tick dead pn rt key pt behind limit rs ri ra rg ysz ya yb yc = (K_passTick_8 tries_21 trips_22 r10 v11 rails held_20 tick dead pn rt key pt rs_2 ri_3 ra_4 rg_5 ysz_23 ya_24 yb_25 yc_26) := (show M_passTick tries trips gdraw rails held tick dead pn rt key pt behind limit rs ri ra rg ysz ya yb yc = ((fun t9 => (K_passTick_8 t9.2.1 t9.2.2.1 r10 v11 rails t9.1 tick dead pn rt key pt rs_2 ri_3 ra_4 rg_5 t9.2.2.2.1 t9.2.2.2.2.1 t9.2.2.2.2.2.1 t9.2.2.2.2.2.2)) (M_trip tries trips behind ysz_6 ya_7 tick yb_8 yc_9 r12)) from hM).trans h9M
    refine lv_aload_n hx hb dX5_passTick_45 rfl (lv_at hl 1 rfl) ?_
    refine lv_aload_n hx hb dX5_passTick_46 rfl (lv_at hl 2 rfl) ?_
    obtain ⟨hPc, hDc, hFc, hC9⟩ := xpk (wc := W_settle cI cJ cZ cG cH rn pl hy rsa ria raa rta rga dead key tick held_20 tries_21 trips_22 r10 v11 rs_2 ri_3 ra_4 rt rg_5 yaa yba yca ysz_23 ya_24 yb_25 yc_26 pna pta rails limit retry behind pn pt) hP hD hS hA [7, 4, 0, 5, 1, 2, 8, 9, 10, 11, 12, 6, 3] (by decide +kernel) rfl
    refine va_callv (va_runV (As := [.ref pl]) (rest := []) ⟨hx, hb, hml, hown, hts⟩ (c_settle l D cI cJ cZ cG cH H.size rn pl hy rsa ria raa rta rga dead key tick held_20 tries_21 trips_22 r10 v11 rs_2 ri_3 ra_4 rt rg_5 yaa yba yca ysz_23 ya_24 yb_25 yc_26 pna pta rails limit retry behind pn pt (xrng rfl (by omega) (by omega)) (xwk_rng h_rt (by decide) (by decide)) (xrng rfl (by omega) (by omega)) (xrng rfl (by omega) (by omega)) (xwk_rng h_pn (by decide) (by decide))) (cwV 1 hts (xGV tbC wd458 wd459 wd460 wd52 wd1025) rfl rfl rfl (by decide +kernel) ⟨Nat.le_of_ble_eq_true rfl, Nat.le_of_ble_eq_true rfl⟩) ⟨xPc_blind, va_recv hK hPc (ci := 4) (q0 := 0) rfl rfl, xPc_pre hPc hK hDc⟩ rfl rfl hl.1 rfl (lv_room (Nat.le_of_ble_eq_true rfl)) dX5_passTick_47 ⟨Nat.le_of_ble_eq_true rfl, Nat.le_of_ble_eq_true rfl⟩) hS (fun q _ h => hFc q h) hFc (fun u t H1 locs ht hvm hw27 hB hz1 hk1 hS => ?_)
    revert hB
    refine xex8r (fun rs_28 ri_29 ra_30 rg_31 ysz_32 ya_33 yb_34 yc_35 => ?_)
    refine xan5r (fun hf35_0 hf35_1 hP1 hK1 hD1 => ?_)
    rw [ht] at hP1
    obtain ⟨hP, hD⟩ : xPD D A [oX5 rn hy rsa ria raa rta rga dead key tick held_20 tries_21 trips_22 r10 v11, oAI rsa cI 8 rs_28, oAI ria cI 8 ri_29, oAI raa cI 8 ra_30, oAI rta cI 8 rt, oAI rga cI 8 rg_31, oX2 hy yaa yba yca ysz_32, oAI yaa cI 64 ya_33, oAI yba cI 64 yb_34, oAI yca cI 64 yc_35, oX3 pl pna pta rails limit retry behind, oAI pna cI 64 pn, oAJ pta cJ 64 pt] H1 := xjn 0 hP hD [7, 4, 0, 5, 1, 2, 8, 9, 10, 11, 12, 6, 3] [] hC9 rfl (by decide +kernel) (by decide +kernel) hk1 hFc hP1 hD1
    generalize H1 = H at hP hS ⊢
    have hf35_0 : 0 ≤ ysz_32.toInt ∧ ysz_32.toInt ≤ 64 := hf35_0
    have hf35_1 : M_settle rails tick dead pn rt held_20 key pt rs_2 ri_3 ra_4 rg_5 ysz_23 ya_24 yb_25 yc_26 = (rs_28, ri_29, ra_30, rg_31, ysz_32, ya_33, yb_34, yc_35) := hf35_1
    have h9M := congrArg (fun t9 => (K_passTick_9 tries_21 trips_22 r10 v11 t9.1 t9.2.2.2.1 t9.2.2.2.2.1 t9.2.2.2.2.2.1 t9.2.2.2.2.2.2.1 t9.2.2.2.2.2.2.2 rails held_20 tick t9.2.1 t9.2.2.1)) hf35_1
    have hM : M_passTick tries trips gdraw rails held tick dead pn rt key pt behind limit rs ri ra rg ysz ya yb yc = (K_passTick_9 tries_21 trips_22 r10 v11 rs_28 rg_31 ysz_32 ya_33 yb_34 yc_35 rails held_20 tick ri_29 ra_30) := (show M_passTick tries trips gdraw rails held tick dead pn rt key pt behind limit rs ri ra rg ysz ya yb yc = ((fun t9 => (K_passTick_9 tries_21 trips_22 r10 v11 t9.1 t9.2.2.2.1 t9.2.2.2.2.1 t9.2.2.2.2.2.1 t9.2.2.2.2.2.2.1 t9.2.2.2.2.2.2.2 rails held_20 tick t9.2.1 t9.2.2.1)) (M_settle rails tick dead pn rt held_20 key pt rs_2 ri_3 ra_4 rg_5 ysz_23 ya_24 yb_25 yc_26)) from hM).trans h9M
    refine lv_aload_n hx hb dX5_passTick_50 rfl (lv_at hl 1 rfl) ?_
    refine lv_aload_n hx hb dX5_passTick_51 rfl (lv_at hl 2 rfl) ?_
    obtain ⟨hPc, hDc, hFc, hC9⟩ := xpk (wc := W_growOlder cI cJ cZ cG cH rn pl hy rsa ria raa rta rga dead key tick held_20 tries_21 trips_22 r10 v11 ri_29 ra_30 pna pta rails limit retry behind) hP hD hS hA [0, 2, 3, 10] (by decide +kernel) rfl
    refine va_callv (va_runV (As := [.ref pl]) (rest := []) ⟨hx, hb, hml, hown, hts⟩ (c_growOlder l D cI cJ cZ cG cH H.size rn pl hy rsa ria raa rta rga dead key tick held_20 tries_21 trips_22 r10 v11 ri_29 ra_30 pna pta rails limit retry behind (xrng rfl (by omega) (by omega)) (xrng rfl (by omega) (by omega))) (cwV 1 hts (xGV tbC wd491 wd492 wd493 wd52 wd1036) rfl rfl rfl (by decide +kernel) ⟨Nat.le_of_ble_eq_true rfl, Nat.le_of_ble_eq_true rfl⟩) ⟨xPc_blind, va_recv hK hPc (ci := 4) (q0 := 0) rfl rfl, xPc_pre hPc hK hDc⟩ rfl rfl hl.1 rfl (lv_room (Nat.le_of_ble_eq_true rfl)) dX5_passTick_52 ⟨Nat.le_of_ble_eq_true rfl, Nat.le_of_ble_eq_true rfl⟩) hS (fun q _ h => hFc q h) hFc (fun u t H1 locs ht hvm hw36 hB hz1 hk1 hS => ?_)
    obtain ⟨tick_37, held_38, ri_39, ra_40, hf40_0, hP1, hK1, hD1⟩ := hB
    rw [ht] at hP1
    obtain ⟨hP, hD⟩ : xPD D A [oAI rsa cI 8 rs_28, oAI rta cI 8 rt, oAI rga cI 8 rg_31, oX2 hy yaa yba yca ysz_32, oAI yaa cI 64 ya_33, oAI yba cI 64 yb_34, oAI yca cI 64 yc_35, oAI pna cI 64 pn, oAJ pta cJ 64 pt, oX5 rn hy rsa ria raa rta rga dead key tick_37 held_38 tries_21 trips_22 r10 v11, oAI ria cI 8 ri_39, oAI raa cI 8 ra_40, oX3 pl pna pta rails limit retry behind] H1 := xjn 9 hP hD [0, 2, 3, 10] [1, 4, 5, 6, 7, 8, 9, 11, 12] hC9 rfl (by decide +kernel) (by decide +kernel) hk1 hFc hP1 hD1
    generalize H1 = H at hP hS ⊢
    have hf40_0 : M_growOlder rails held_20 tick ri_29 ra_30 = (tick_37, held_38, ri_39, ra_40) := hf40_0
    have h9M := congrArg (fun t9 => (K_passTick_10 t9.1 t9.2.1 tries_21 trips_22 r10 v11 rs_28 t9.2.2.1 t9.2.2.2 rg_31 ysz_32 ya_33 yb_34 yc_35)) hf40_0
    have hM : M_passTick tries trips gdraw rails held tick dead pn rt key pt behind limit rs ri ra rg ysz ya yb yc = (K_passTick_10 tick_37 held_38 tries_21 trips_22 r10 v11 rs_28 ri_39 ra_40 rg_31 ysz_32 ya_33 yb_34 yc_35) := (show M_passTick tries trips gdraw rails held tick dead pn rt key pt behind limit rs ri ra rg ysz ya yb yc = ((fun t9 => (K_passTick_10 t9.1 t9.2.1 tries_21 trips_22 r10 v11 rs_28 t9.2.2.1 t9.2.2.2 rg_31 ysz_32 ya_33 yb_34 yc_35)) (M_growOlder rails held_20 tick ri_29 ra_30)) from hM).trans h9M
    refine W.widen (k := 0) (n := 0) (by decide) (by decide) ?_
    exact W.vret hx hb hr (fun t ht hW => ⟨⟨(), rfl, trivial, ⟨tick_37, held_38, tries_21, trips_22, r10, v11, rs_28, ri_39, ra_40, rg_31, ysz_32, ya_33, yb_34, yc_35, (xrng rfl (by omega) (by omega)), hM, xB_of9 ht hW hP hK hD [9, 0, 10, 11, 1, 2, 3, 4, 5, 6, 12, 7, 8] (by decide +kernel) rfl⟩⟩, hS.F ht⟩) hS.2.2 dX5_passTick_55
