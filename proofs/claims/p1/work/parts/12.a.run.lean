theorem in_X5_railsThatAre_X5 : ∀ w ∈ wsX50, w ∈ wsX5_railsThatAre := by decide +kernel
abbrev W_railsThatAre0 (cI cJ cZ cG cH : ClassId) (rn : Nat) (p0 : Int32) (hy : Nat) (rs : Nat) (ri : Nat) (ra : Nat) (rt : Nat) (rg : Nat) (tk : Int32) : va_W := [(rn, .inr (4, [.ref hy, .ref rs, .ref ri, .ref ra, .ref rt, .ref rg, .int 0, .int 0, .int tk, .int 0, .int 0, .int 0, .int 0, .int 0])), (rs, .inl (cI, 8, .inl (fun _ => 0)))]
abbrev Q_railsThatAre0 (D : va_G) (cI cJ cZ cG cH : ClassId) (rn : Nat) (p0 : Int32) (hy : Nat) (rs : Nat) (ri : Nat) (ra : Nat) (rt : Nat) (rg : Nat) (tk : Int32) (A : Nat → Prop) : Array Value → State → Outcome → State → Prop := va_Qi (fun (r : Int32) (_ : Unit) => r = 0) (fun _ t => xB D (tyL cI cJ cZ cG cH) [(rn, .inr (4, [.ref hy, .ref rs, .ref ri, .ref ra, .ref rt, .ref rg, .int 0, .int 0, .int tk, .int 0, .int 0, .int 0, .int 0, .int 0])), (rs, .inl (cI, 8, .inl (fun _ => 0)))] A t) A
abbrev rm_railsThatAre0 : Room := { frames := 0, cells := 0, slots := 0, locals := 0 }
set_option maxRecDepth 100000 in
set_option maxHeartbeats 4000000 in
theorem c_railsThatAre0 (l : Launch) (D : va_G) (cI cJ cZ cG cH : ClassId) (sz : Nat) (rn : Nat) (p0 : Int32) (hy : Nat) (rs : Nat) (ri : Nat) (ra : Nat) (rt : Nat) (rg : Nat) (tk : Int32) (hp0 : p0.toInt ≠ 0) : Met l yX5_railsThatAre wsX5_railsThatAre rm_railsThatAre0 (xPc [.ref rn, .int p0] D (tyL cI cJ cZ cG cH) (W_railsThatAre0 cI cJ cZ cG cH rn p0 hy rs ri ra rt rg tk) sz) (Q_railsThatAre0 D cI cJ cZ cG cH rn p0 hy rs ri ra rt rg tk (va_A (W_railsThatAre0 cI cJ cZ cG cH rn p0 hy rs ri ra rt rg tk) sz)) 0 0 (va_A (W_railsThatAre0 cI cJ cZ cG cH rn p0 hy rs ri ra rt rg tk) sz) := by
  refine xMet (cc := cX5_railsThatAre) (maxL := 4) (ret := (some .int)) (Qf := Q_railsThatAre0 D cI cJ cZ cG cH rn p0 hy rs ri ra rt rg tk) (by decide) rfl (Nat.le_of_ble_eq_true rfl) ?_
  intro p e s m below meth c ls A hx hb hr hml hts hown hlocks hnm hsz hP hK hD hA hS hl
  have hown : s.vm.findClass RX5 = some m.cls := hown
  have hP : va_P D vwCl [(rn, .inr (4, [.ref hy, .ref rs, .ref ri, .ref ra, .ref rt, .ref rg, .int 0, .int 0, .int tk, .int 0, .int 0, .int 0, .int 0, .int 0])), (rs, .inl (cI, 8, .inl (fun _ => 0)))] s.heap := hP
  have hD : va_D A [(rn, .inr (4, [.ref hy, .ref rs, .ref ri, .ref ra, .ref rt, .ref rg, .int 0, .int 0, .int tk, .int 0, .int 0, .int 0, .int 0, .int 0])), (rs, .inl (cI, 8, .inl (fun _ => 0)))] := hD
  have hl : lv_has ls 4 [(0, .ref rn), (1, .int p0)] := hl
  refine lv_iconst (v := 0) hx hb dX5_railsThatAre_0 (by decide) ?_
  refine lv_istore_n (lv' := [(2, .int 0), (0, .ref rn), (1, .int p0)]) hx hb dX5_railsThatAre_1 rfl hl (by decide) rfl (fun ls hl => ?_)
  refine lv_iconst (v := 0) hx hb dX5_railsThatAre_2 (by decide) ?_
  refine lv_istore_n (lv' := [(3, .int 0), (2, .int 0), (0, .ref rn), (1, .int p0)]) hx hb dX5_railsThatAre_3 rfl hl (by decide) rfl (fun ls hl => ?_)
  refine lv_iload_n hx hb dX5_railsThatAre_4 rfl (lv_at hl 0 rfl) ?_
  refine lv_bipush (v := 8) hx hb dX5_railsThatAre_5 (by decide) ?_
  refine lv_icmp_ge (tgt := 32) hx hb dX5_railsThatAre_7 (by decide) (fun c9 => absurd c9 (by decide)) (fun _ => ?_)
  refine lv_aload_n hx hb dX5_railsThatAre_10 rfl (lv_at hl 2 rfl) ?_
  refine va_get (D := D) (ci := 4) (v := .ref rs) (C := RX5) (T := TX5) (N := 14) hx hb hts in_X5_railsThatAre_X5 hown hK hP 0 rfl rfl 1 (by decide) (hts (.fieldLink RX5 18 "PowerRails$Run" "states" "[I") (by decide +kernel)) (fun _ h9 => h9) rfl dX5_railsThatAre_11 ?_
  refine lv_iload_n hx hb dX5_railsThatAre_14 rfl (lv_at hl 0 rfl) ?_
  refine va_iald hx hb hK hP 1 0 rfl rfl (xin (by decide) (by decide)) dX5_railsThatAre_15 ?_
  refine lv_topi (fun v1 ev1 => ?_)
  obtain rfl : v1 = 0 := ev1
  refine lv_iload_n hx hb dX5_railsThatAre_16 rfl (lv_at hl 3 rfl) ?_
  refine lv_icmp_ne (tgt := 26) hx hb dX5_railsThatAre_17 (by decide) (fun c_2 => ?_) (fun c_2 => ?_)
  · skip
    have i_2 : ¬ (0 = p0.toInt) := fun h9 => c_2 ((ieq (by decide) rfl).mpr h9)
    refine lv_iinc (v := 1) (lv' := [(3, .int 1), (2, .int 0), (0, .ref rn), (1, .int p0)]) hx hb dX5_railsThatAre_26 hl (k := 0) rfl (by decide) (by decide) rfl (fun ls hl => ?_)
    refine lv_goto (tgt := 4) hx hb dX5_railsThatAre_29 (by decide) ?_
    refine lv_iload_n hx hb dX5_railsThatAre_4 rfl (lv_at hl 0 rfl) ?_
    refine lv_bipush (v := 8) hx hb dX5_railsThatAre_5 (by decide) ?_
    refine lv_icmp_ge (tgt := 32) hx hb dX5_railsThatAre_7 (by decide) (fun c9 => absurd c9 (by decide)) (fun _ => ?_)
    refine lv_aload_n hx hb dX5_railsThatAre_10 rfl (lv_at hl 2 rfl) ?_
    refine va_get (D := D) (ci := 4) (v := .ref rs) (C := RX5) (T := TX5) (N := 14) hx hb hts in_X5_railsThatAre_X5 hown hK hP 0 rfl rfl 1 (by decide) (hts (.fieldLink RX5 18 "PowerRails$Run" "states" "[I") (by decide +kernel)) (fun _ h9 => h9) rfl dX5_railsThatAre_11 ?_
    refine lv_iload_n hx hb dX5_railsThatAre_14 rfl (lv_at hl 0 rfl) ?_
    refine va_iald hx hb hK hP 1 0 rfl rfl (xin (by decide) (by decide)) dX5_railsThatAre_15 ?_
    refine lv_topi (fun v3 ev3 => ?_)
    obtain rfl : v3 = 0 := ev3
    refine lv_iload_n hx hb dX5_railsThatAre_16 rfl (lv_at hl 3 rfl) ?_
    refine lv_icmp_ne (tgt := 26) hx hb dX5_railsThatAre_17 (by decide) (fun c_4 => ?_) (fun c_4 => ?_)
    · skip
      have i_4 : ¬ (0 = p0.toInt) := fun h9 => c_4 ((ieq (by decide) rfl).mpr h9)
      refine lv_iinc (v := 2) (lv' := [(3, .int 2), (2, .int 0), (0, .ref rn), (1, .int p0)]) hx hb dX5_railsThatAre_26 hl (k := 0) rfl (by decide) (by decide) rfl (fun ls hl => ?_)
      refine lv_goto (tgt := 4) hx hb dX5_railsThatAre_29 (by decide) ?_
      refine lv_iload_n hx hb dX5_railsThatAre_4 rfl (lv_at hl 0 rfl) ?_
      refine lv_bipush (v := 8) hx hb dX5_railsThatAre_5 (by decide) ?_
      refine lv_icmp_ge (tgt := 32) hx hb dX5_railsThatAre_7 (by decide) (fun c9 => absurd c9 (by decide)) (fun _ => ?_)
      refine lv_aload_n hx hb dX5_railsThatAre_10 rfl (lv_at hl 2 rfl) ?_
      refine va_get (D := D) (ci := 4) (v := .ref rs) (C := RX5) (T := TX5) (N := 14) hx hb hts in_X5_railsThatAre_X5 hown hK hP 0 rfl rfl 1 (by decide) (hts (.fieldLink RX5 18 "PowerRails$Run" "states" "[I") (by decide +kernel)) (fun _ h9 => h9) rfl dX5_railsThatAre_11 ?_
      refine lv_iload_n hx hb dX5_railsThatAre_14 rfl (lv_at hl 0 rfl) ?_
      refine va_iald hx hb hK hP 1 0 rfl rfl (xin (by decide) (by decide)) dX5_railsThatAre_15 ?_
      refine lv_topi (fun v5 ev5 => ?_)
      obtain rfl : v5 = 0 := ev5
      refine lv_iload_n hx hb dX5_railsThatAre_16 rfl (lv_at hl 3 rfl) ?_
      refine lv_icmp_ne (tgt := 26) hx hb dX5_railsThatAre_17 (by decide) (fun c_6 => ?_) (fun c_6 => ?_)
      · skip
        have i_6 : ¬ (0 = p0.toInt) := fun h9 => c_6 ((ieq (by decide) rfl).mpr h9)
        refine lv_iinc (v := 3) (lv' := [(3, .int 3), (2, .int 0), (0, .ref rn), (1, .int p0)]) hx hb dX5_railsThatAre_26 hl (k := 0) rfl (by decide) (by decide) rfl (fun ls hl => ?_)
        refine lv_goto (tgt := 4) hx hb dX5_railsThatAre_29 (by decide) ?_
        refine lv_iload_n hx hb dX5_railsThatAre_4 rfl (lv_at hl 0 rfl) ?_
        refine lv_bipush (v := 8) hx hb dX5_railsThatAre_5 (by decide) ?_
        refine lv_icmp_ge (tgt := 32) hx hb dX5_railsThatAre_7 (by decide) (fun c9 => absurd c9 (by decide)) (fun _ => ?_)
        refine lv_aload_n hx hb dX5_railsThatAre_10 rfl (lv_at hl 2 rfl) ?_
        refine va_get (D := D) (ci := 4) (v := .ref rs) (C := RX5) (T := TX5) (N := 14) hx hb hts in_X5_railsThatAre_X5 hown hK hP 0 rfl rfl 1 (by decide) (hts (.fieldLink RX5 18 "PowerRails$Run" "states" "[I") (by decide +kernel)) (fun _ h9 => h9) rfl dX5_railsThatAre_11 ?_
        refine lv_iload_n hx hb dX5_railsThatAre_14 rfl (lv_at hl 0 rfl) ?_
        refine va_iald hx hb hK hP 1 0 rfl rfl (xin (by decide) (by decide)) dX5_railsThatAre_15 ?_
        refine lv_topi (fun v7 ev7 => ?_)
        obtain rfl : v7 = 0 := ev7
        refine lv_iload_n hx hb dX5_railsThatAre_16 rfl (lv_at hl 3 rfl) ?_
        refine lv_icmp_ne (tgt := 26) hx hb dX5_railsThatAre_17 (by decide) (fun c_8 => ?_) (fun c_8 => ?_)
        · skip
          have i_8 : ¬ (0 = p0.toInt) := fun h9 => c_8 ((ieq (by decide) rfl).mpr h9)
          refine lv_iinc (v := 4) (lv' := [(3, .int 4), (2, .int 0), (0, .ref rn), (1, .int p0)]) hx hb dX5_railsThatAre_26 hl (k := 0) rfl (by decide) (by decide) rfl (fun ls hl => ?_)
          refine lv_goto (tgt := 4) hx hb dX5_railsThatAre_29 (by decide) ?_
          refine lv_iload_n hx hb dX5_railsThatAre_4 rfl (lv_at hl 0 rfl) ?_
          refine lv_bipush (v := 8) hx hb dX5_railsThatAre_5 (by decide) ?_
          refine lv_icmp_ge (tgt := 32) hx hb dX5_railsThatAre_7 (by decide) (fun c9 => absurd c9 (by decide)) (fun _ => ?_)
          refine lv_aload_n hx hb dX5_railsThatAre_10 rfl (lv_at hl 2 rfl) ?_
          refine va_get (D := D) (ci := 4) (v := .ref rs) (C := RX5) (T := TX5) (N := 14) hx hb hts in_X5_railsThatAre_X5 hown hK hP 0 rfl rfl 1 (by decide) (hts (.fieldLink RX5 18 "PowerRails$Run" "states" "[I") (by decide +kernel)) (fun _ h9 => h9) rfl dX5_railsThatAre_11 ?_
          refine lv_iload_n hx hb dX5_railsThatAre_14 rfl (lv_at hl 0 rfl) ?_
          refine va_iald hx hb hK hP 1 0 rfl rfl (xin (by decide) (by decide)) dX5_railsThatAre_15 ?_
          refine lv_topi (fun v9 ev9 => ?_)
          obtain rfl : v9 = 0 := ev9
          refine lv_iload_n hx hb dX5_railsThatAre_16 rfl (lv_at hl 3 rfl) ?_
          refine lv_icmp_ne (tgt := 26) hx hb dX5_railsThatAre_17 (by decide) (fun c_10 => ?_) (fun c_10 => ?_)
          · skip
            have i_10 : ¬ (0 = p0.toInt) := fun h9 => c_10 ((ieq (by decide) rfl).mpr h9)
            refine lv_iinc (v := 5) (lv' := [(3, .int 5), (2, .int 0), (0, .ref rn), (1, .int p0)]) hx hb dX5_railsThatAre_26 hl (k := 0) rfl (by decide) (by decide) rfl (fun ls hl => ?_)
            refine lv_goto (tgt := 4) hx hb dX5_railsThatAre_29 (by decide) ?_
            refine lv_iload_n hx hb dX5_railsThatAre_4 rfl (lv_at hl 0 rfl) ?_
            refine lv_bipush (v := 8) hx hb dX5_railsThatAre_5 (by decide) ?_
            refine lv_icmp_ge (tgt := 32) hx hb dX5_railsThatAre_7 (by decide) (fun c9 => absurd c9 (by decide)) (fun _ => ?_)
            refine lv_aload_n hx hb dX5_railsThatAre_10 rfl (lv_at hl 2 rfl) ?_
            refine va_get (D := D) (ci := 4) (v := .ref rs) (C := RX5) (T := TX5) (N := 14) hx hb hts in_X5_railsThatAre_X5 hown hK hP 0 rfl rfl 1 (by decide) (hts (.fieldLink RX5 18 "PowerRails$Run" "states" "[I") (by decide +kernel)) (fun _ h9 => h9) rfl dX5_railsThatAre_11 ?_
            refine lv_iload_n hx hb dX5_railsThatAre_14 rfl (lv_at hl 0 rfl) ?_
            refine va_iald hx hb hK hP 1 0 rfl rfl (xin (by decide) (by decide)) dX5_railsThatAre_15 ?_
            refine lv_topi (fun v11 ev11 => ?_)
            obtain rfl : v11 = 0 := ev11
            refine lv_iload_n hx hb dX5_railsThatAre_16 rfl (lv_at hl 3 rfl) ?_
            refine lv_icmp_ne (tgt := 26) hx hb dX5_railsThatAre_17 (by decide) (fun c_12 => ?_) (fun c_12 => ?_)
            · skip
              have i_12 : ¬ (0 = p0.toInt) := fun h9 => c_12 ((ieq (by decide) rfl).mpr h9)
              refine lv_iinc (v := 6) (lv' := [(3, .int 6), (2, .int 0), (0, .ref rn), (1, .int p0)]) hx hb dX5_railsThatAre_26 hl (k := 0) rfl (by decide) (by decide) rfl (fun ls hl => ?_)
              refine lv_goto (tgt := 4) hx hb dX5_railsThatAre_29 (by decide) ?_
              refine lv_iload_n hx hb dX5_railsThatAre_4 rfl (lv_at hl 0 rfl) ?_
              refine lv_bipush (v := 8) hx hb dX5_railsThatAre_5 (by decide) ?_
              refine lv_icmp_ge (tgt := 32) hx hb dX5_railsThatAre_7 (by decide) (fun c9 => absurd c9 (by decide)) (fun _ => ?_)
              refine lv_aload_n hx hb dX5_railsThatAre_10 rfl (lv_at hl 2 rfl) ?_
              refine va_get (D := D) (ci := 4) (v := .ref rs) (C := RX5) (T := TX5) (N := 14) hx hb hts in_X5_railsThatAre_X5 hown hK hP 0 rfl rfl 1 (by decide) (hts (.fieldLink RX5 18 "PowerRails$Run" "states" "[I") (by decide +kernel)) (fun _ h9 => h9) rfl dX5_railsThatAre_11 ?_
              refine lv_iload_n hx hb dX5_railsThatAre_14 rfl (lv_at hl 0 rfl) ?_
              refine va_iald hx hb hK hP 1 0 rfl rfl (xin (by decide) (by decide)) dX5_railsThatAre_15 ?_
              refine lv_topi (fun v13 ev13 => ?_)
              obtain rfl : v13 = 0 := ev13
              refine lv_iload_n hx hb dX5_railsThatAre_16 rfl (lv_at hl 3 rfl) ?_
              refine lv_icmp_ne (tgt := 26) hx hb dX5_railsThatAre_17 (by decide) (fun c_14 => ?_) (fun c_14 => ?_)
              · skip
                have i_14 : ¬ (0 = p0.toInt) := fun h9 => c_14 ((ieq (by decide) rfl).mpr h9)
                refine lv_iinc (v := 7) (lv' := [(3, .int 7), (2, .int 0), (0, .ref rn), (1, .int p0)]) hx hb dX5_railsThatAre_26 hl (k := 0) rfl (by decide) (by decide) rfl (fun ls hl => ?_)
                refine lv_goto (tgt := 4) hx hb dX5_railsThatAre_29 (by decide) ?_
                refine lv_iload_n hx hb dX5_railsThatAre_4 rfl (lv_at hl 0 rfl) ?_
                refine lv_bipush (v := 8) hx hb dX5_railsThatAre_5 (by decide) ?_
                refine lv_icmp_ge (tgt := 32) hx hb dX5_railsThatAre_7 (by decide) (fun c9 => absurd c9 (by decide)) (fun _ => ?_)
                refine lv_aload_n hx hb dX5_railsThatAre_10 rfl (lv_at hl 2 rfl) ?_
                refine va_get (D := D) (ci := 4) (v := .ref rs) (C := RX5) (T := TX5) (N := 14) hx hb hts in_X5_railsThatAre_X5 hown hK hP 0 rfl rfl 1 (by decide) (hts (.fieldLink RX5 18 "PowerRails$Run" "states" "[I") (by decide +kernel)) (fun _ h9 => h9) rfl dX5_railsThatAre_11 ?_
                refine lv_iload_n hx hb dX5_railsThatAre_14 rfl (lv_at hl 0 rfl) ?_
                refine va_iald hx hb hK hP 1 0 rfl rfl (xin (by decide) (by decide)) dX5_railsThatAre_15 ?_
                refine lv_topi (fun v15 ev15 => ?_)
                obtain rfl : v15 = 0 := ev15
                refine lv_iload_n hx hb dX5_railsThatAre_16 rfl (lv_at hl 3 rfl) ?_
                refine lv_icmp_ne (tgt := 26) hx hb dX5_railsThatAre_17 (by decide) (fun c_16 => ?_) (fun c_16 => ?_)
                · skip
                  have i_16 : ¬ (0 = p0.toInt) := fun h9 => c_16 ((ieq (by decide) rfl).mpr h9)
                  refine lv_iinc (v := 8) (lv' := [(3, .int 8), (2, .int 0), (0, .ref rn), (1, .int p0)]) hx hb dX5_railsThatAre_26 hl (k := 0) rfl (by decide) (by decide) rfl (fun ls hl => ?_)
                  refine lv_goto (tgt := 4) hx hb dX5_railsThatAre_29 (by decide) ?_
                  refine lv_iload_n hx hb dX5_railsThatAre_4 rfl (lv_at hl 0 rfl) ?_
                  refine lv_bipush (v := 8) hx hb dX5_railsThatAre_5 (by decide) ?_
                  refine lv_icmp_ge (tgt := 32) hx hb dX5_railsThatAre_7 (by decide) (fun _ => ?_) (fun c9 => absurd c9 (by decide))
                  refine lv_iload_n hx hb dX5_railsThatAre_32 rfl (lv_at hl 1 rfl) ?_
                  refine W.widen (k := 0) (n := 0) (by decide) (by decide) ?_
                  have hP9 := hP.sub (ws' := [(rn, .inr (4, [.ref hy, .ref rs, .ref ri, .ref ra, .ref rt, .ref rg, .int 0, .int 0, .int tk, .int 0, .int 0, .int 0, .int 0, .int 0])), (rs, .inl (cI, 8, .inl (fun _ => 0)))]) [0, 1] rfl
                  have hD9 := hD.sub (ws' := [(rn, .inr (4, [.ref hy, .ref rs, .ref ri, .ref ra, .ref rt, .ref rg, .int 0, .int 0, .int tk, .int 0, .int 0, .int 0, .int 0, .int 0])), (rs, .inl (cI, 8, .inl (fun _ => 0)))]) [0, 1] (by decide) rfl
                  exact W.iret (v := 0) hx hb hr (fun t ht hW => ⟨⟨0, (), rfl, rfl, xB_of ht hW hP9 hK hD9⟩, hS.F ht⟩) hS.2.2 dX5_railsThatAre_33
                · skip
                  have i_16 : 0 = p0.toInt := (ieq (by decide) rfl).mp c_16
                  exfalso
                  omega
              · skip
                have i_14 : 0 = p0.toInt := (ieq (by decide) rfl).mp c_14
                exfalso
                omega
            · skip
              have i_12 : 0 = p0.toInt := (ieq (by decide) rfl).mp c_12
              exfalso
              omega
          · skip
            have i_10 : 0 = p0.toInt := (ieq (by decide) rfl).mp c_10
            exfalso
            omega
        · skip
          have i_8 : 0 = p0.toInt := (ieq (by decide) rfl).mp c_8
          exfalso
          omega
      · skip
        have i_6 : 0 = p0.toInt := (ieq (by decide) rfl).mp c_6
        exfalso
        omega
    · skip
      have i_4 : 0 = p0.toInt := (ieq (by decide) rfl).mp c_4
      exfalso
      omega
  · skip
    have i_2 : 0 = p0.toInt := (ieq (by decide) rfl).mp c_2
    exfalso
    omega
theorem in_X5_railsThatMay_X5 : ∀ w ∈ wsX50, w ∈ wsX5_railsThatMay := by decide +kernel
theorem in_X5_railsThatMay_X3 : ∀ w ∈ wsX30, w ∈ wsX5_railsThatMay := by decide +kernel
abbrev W_railsThatMay0 (cI cJ cZ cG cH : ClassId) (rn : Nat) (pl : Nat) (hy : Nat) (rs : Nat) (ri : Nat) (ra : Nat) (rt : Nat) (rg : Nat) (tk : Int32) (pn : Nat) (pt : Nat) : va_W := [(rn, .inr (4, [.ref hy, .ref rs, .ref ri, .ref ra, .ref rt, .ref rg, .int 0, .int 0, .int tk, .int 0, .int 0, .int 0, .int 0, .int 0])), (rs, .inl (cI, 8, .inl (fun _ => 0))), (pl, .inr (2, [.ref pn, .ref pt, .int 0, .int 999, .int 0, .int 5]))]
abbrev Q_railsThatMay0 (D : va_G) (cI cJ cZ cG cH : ClassId) (rn : Nat) (pl : Nat) (hy : Nat) (rs : Nat) (ri : Nat) (ra : Nat) (rt : Nat) (rg : Nat) (tk : Int32) (pn : Nat) (pt : Nat) (A : Nat → Prop) : Array Value → State → Outcome → State → Prop := va_Qi (fun (r : Int32) (_ : Unit) => r = 0) (fun _ t => xB D (tyL cI cJ cZ cG cH) [(rn, .inr (4, [.ref hy, .ref rs, .ref ri, .ref ra, .ref rt, .ref rg, .int 0, .int 0, .int tk, .int 0, .int 0, .int 0, .int 0, .int 0])), (rs, .inl (cI, 8, .inl (fun _ => 0))), (pl, .inr (2, [.ref pn, .ref pt, .int 0, .int 999, .int 0, .int 5]))] A t) A
abbrev rm_railsThatMay0 : Room := { frames := 1, cells := 0, slots := 0, locals := 23 }
set_option maxRecDepth 100000 in
set_option maxHeartbeats 4000000 in
theorem c_railsThatMay0 (l : Launch) (D : va_G) (cI cJ cZ cG cH : ClassId) (sz : Nat) (rn : Nat) (pl : Nat) (hy : Nat) (rs : Nat) (ri : Nat) (ra : Nat) (rt : Nat) (rg : Nat) (tk : Int32) (pn : Nat) (pt : Nat) : Met l yX5_railsThatMay wsX5_railsThatMay rm_railsThatMay0 (xPc [.ref rn, .ref pl] D (tyL cI cJ cZ cG cH) (W_railsThatMay0 cI cJ cZ cG cH rn pl hy rs ri ra rt rg tk pn pt) sz) (Q_railsThatMay0 D cI cJ cZ cG cH rn pl hy rs ri ra rt rg tk pn pt (va_A (W_railsThatMay0 cI cJ cZ cG cH rn pl hy rs ri ra rt rg tk pn pt) sz)) 0 0 (va_A (W_railsThatMay0 cI cJ cZ cG cH rn pl hy rs ri ra rt rg tk pn pt) sz) := by
  refine xMet (cc := cX5_railsThatMay) (maxL := 5) (ret := (some .int)) (Qf := Q_railsThatMay0 D cI cJ cZ cG cH rn pl hy rs ri ra rt rg tk pn pt) (by decide) rfl (Nat.le_of_ble_eq_true rfl) ?_
  intro p e s m below meth c ls A hx hb hr hml hts hown hlocks hnm hsz hP hK hD hA hS hl
  have hown : s.vm.findClass RX5 = some m.cls := hown
  have hP : va_P D vwCl [(rn, .inr (4, [.ref hy, .ref rs, .ref ri, .ref ra, .ref rt, .ref rg, .int 0, .int 0, .int tk, .int 0, .int 0, .int 0, .int 0, .int 0])), (rs, .inl (cI, 8, .inl (fun _ => 0))), (pl, .inr (2, [.ref pn, .ref pt, .int 0, .int 999, .int 0, .int 5]))] s.heap := hP
  have hD : va_D A [(rn, .inr (4, [.ref hy, .ref rs, .ref ri, .ref ra, .ref rt, .ref rg, .int 0, .int 0, .int tk, .int 0, .int 0, .int 0, .int 0, .int 0])), (rs, .inl (cI, 8, .inl (fun _ => 0))), (pl, .inr (2, [.ref pn, .ref pt, .int 0, .int 999, .int 0, .int 5]))] := hD
  have hl : lv_has ls 5 [(0, .ref rn), (1, .ref pl)] := hl
  refine lv_aload_n hx hb dX5_railsThatMay_0 rfl (lv_at hl 0 rfl) ?_
  refine va_get (D := D) (ci := 4) (v := .int 0) (C := RX5) (T := TX5) (N := 14) hx hb hts in_X5_railsThatMay_X5 hown hK hP 0 rfl rfl 9 (by decide) (hts (.fieldLink RX5 54 "PowerRails$Run" "held" "I") (by decide +kernel)) (fun _ h9 => h9) rfl dX5_railsThatMay_1 ?_
  refine lv_if_eq (tgt := 9) hx hb dX5_railsThatMay_4 (by decide) (fun _ => ?_) (fun c9 => absurd c9 (by decide))
  refine lv_aload_n hx hb dX5_railsThatMay_9 rfl (lv_at hl 0 rfl) ?_
  refine lv_iconst (v := 3) hx hb dX5_railsThatMay_10 (by decide) ?_
  have hPc := hP.sub (ws' := [(rn, .inr (4, [.ref hy, .ref rs, .ref ri, .ref ra, .ref rt, .ref rg, .int 0, .int 0, .int tk, .int 0, .int 0, .int 0, .int 0, .int 0])), (rs, .inl (cI, 8, .inl (fun _ => 0)))]) [0, 1] rfl
  have hDc := hD.sub (ws' := [(rn, .inr (4, [.ref hy, .ref rs, .ref ri, .ref ra, .ref rt, .ref rg, .int 0, .int 0, .int tk, .int 0, .int 0, .int 0, .int 0, .int 0])), (rs, .inl (cI, 8, .inl (fun _ => 0)))]) [0, 1] (by decide) rfl
  have hFc := va_free (wc := [(rn, .inr (4, [.ref hy, .ref rs, .ref ri, .ref ra, .ref rt, .ref rg, .int 0, .int 0, .int tk, .int 0, .int 0, .int 0, .int 0, .int 0])), (rs, .inl (cI, 8, .inl (fun _ => 0)))]) hD hS hA [0, 1] rfl
  refine va_calli (va_runV (As := [.int 3]) (rest := []) ⟨hx, hb, hml, hown, hts⟩ (c_railsThatAre0 l D cI cJ cZ cG cH s.heap.size rn (3 : Int32) hy rs ri ra rt rg tk (by first | assumption | decide | omega)) (cwV 1 hts gX5_railsThatMay_X5_railsThatAre rfl rfl rfl (by decide +kernel) ⟨Nat.le_of_ble_eq_true rfl, Nat.le_of_ble_eq_true rfl⟩) ⟨xPc_blind, va_recv hK hPc (ci := 4) (q0 := 0) rfl rfl, xPc_pre hPc hK hDc⟩ rfl rfl hl.1 rfl (lv_room (Nat.le_of_ble_eq_true rfl)) dX5_railsThatMay_11 ⟨Nat.le_of_ble_eq_true rfl, Nat.le_of_ble_eq_true rfl⟩) hS (fun q _ h => hFc q h) hFc (fun r1 u t H1 locs ht hvm hw1 hB hz1 hk1 hS => ?_)
  obtain ⟨hP1, hK1, hD1⟩ := hB
  rw [ht] at hP1
  obtain ⟨hP, hD⟩ := va_join (wr := [(pl, .inr (2, [.ref pn, .ref pt, .int 0, .int 999, .int 0, .int 5]))]) (w1 := [(rn, .inr (4, [.ref hy, .ref rs, .ref ri, .ref ra, .ref rt, .ref rg, .int 0, .int 0, .int tk, .int 0, .int 0, .int 0, .int 0, .int 0])), (rs, .inl (cI, 8, .inl (fun _ => 0)))]) hP hD [0, 1] [2] rfl rfl (by decide) (by decide) hk1 hFc hP1 hD1
  generalize H1 = H at hP hS ⊢
  have hP : va_P D vwCl [(pl, .inr (2, [.ref pn, .ref pt, .int 0, .int 999, .int 0, .int 5])), (rn, .inr (4, [.ref hy, .ref rs, .ref ri, .ref ra, .ref rt, .ref rg, .int 0, .int 0, .int tk, .int 0, .int 0, .int 0, .int 0, .int 0])), (rs, .inl (cI, 8, .inl (fun _ => 0)))] H := hP
  have hD : va_D A [(pl, .inr (2, [.ref pn, .ref pt, .int 0, .int 999, .int 0, .int 5])), (rn, .inr (4, [.ref hy, .ref rs, .ref ri, .ref ra, .ref rt, .ref rg, .int 0, .int 0, .int tk, .int 0, .int 0, .int 0, .int 0, .int 0])), (rs, .inl (cI, 8, .inl (fun _ => 0)))] := hD
  obtain rfl : r1 = 0 := hw1
  refine lv_aload_n hx hb dX5_railsThatMay_14 rfl (lv_at hl 0 rfl) ?_
  refine va_get (D := D) (ci := 4) (v := .int 0) (C := RX5) (T := TX5) (N := 14) hx hb hts in_X5_railsThatMay_X5 hown hK hP 1 rfl rfl 7 (by decide) (hts (.fieldLink RX5 38 "PowerRails$Run" "key" "Z") (by decide +kernel)) (fun _ h9 => h9) rfl dX5_railsThatMay_15 ?_
  refine lv_if_eq (tgt := 27) hx hb dX5_railsThatMay_18 (by decide) (fun _ => ?_) (fun c9 => absurd c9 (by decide))
  refine lv_iconst (v := 0) hx hb dX5_railsThatMay_27 (by decide) ?_
  refine lv_ior hx hb dX5_railsThatMay_28 ?_
  refine lv_topi (fun v2 ev2 => ?_)
  obtain rfl : v2 = 0 := ev2.trans (by decide)
  refine lv_istore_n (lv' := [(2, .int 0), (0, .ref rn), (1, .ref pl)]) hx hb dX5_railsThatMay_29 rfl hl (by decide) rfl (fun ls hl => ?_)
  refine lv_iconst (v := 0) hx hb dX5_railsThatMay_30 (by decide) ?_
  refine lv_istore_n (lv' := [(3, .int 0), (2, .int 0), (0, .ref rn), (1, .ref pl)]) hx hb dX5_railsThatMay_31 rfl hl (by decide) rfl (fun ls hl => ?_)
  refine lv_iconst (v := 0) hx hb dX5_railsThatMay_32 (by decide) ?_
  refine lv_istore (lv' := [(4, .int 0), (3, .int 0), (2, .int 0), (0, .ref rn), (1, .ref pl)]) hx hb dX5_railsThatMay_33 hl (by decide) rfl (fun ls hl => ?_)
  refine lv_iload hx hb dX5_railsThatMay_35 (lv_at hl 0 rfl) ?_
  refine lv_aload_n hx hb dX5_railsThatMay_37 rfl (lv_at hl 4 rfl) ?_
  refine va_get (D := D) (ci := 2) (v := .int 0) (C := RX3) (T := TX3) (N := 6) hx hb hts in_X5_railsThatMay_X3 hown hK hP 0 rfl rfl 2 (by decide) (hts (.fieldLink RX5 106 "PowerRails$Plan" "rails" "I") (by decide +kernel)) (fun _ h9 => h9) rfl dX5_railsThatMay_38 ?_
  refine lv_icmp_ge (tgt := 67) hx hb dX5_railsThatMay_41 (by decide) (fun _ => ?_) (fun c9 => absurd c9 (by decide))
  refine lv_iload_n hx hb dX5_railsThatMay_67 rfl (lv_at hl 1 rfl) ?_
  refine W.widen (k := 0) (n := 0) (by decide) (by decide) ?_
  have hP9 := hP.sub (ws' := [(rn, .inr (4, [.ref hy, .ref rs, .ref ri, .ref ra, .ref rt, .ref rg, .int 0, .int 0, .int tk, .int 0, .int 0, .int 0, .int 0, .int 0])), (rs, .inl (cI, 8, .inl (fun _ => 0))), (pl, .inr (2, [.ref pn, .ref pt, .int 0, .int 999, .int 0, .int 5]))]) [1, 2, 0] rfl
  have hD9 := hD.sub (ws' := [(rn, .inr (4, [.ref hy, .ref rs, .ref ri, .ref ra, .ref rt, .ref rg, .int 0, .int 0, .int tk, .int 0, .int 0, .int 0, .int 0, .int 0])), (rs, .inl (cI, 8, .inl (fun _ => 0))), (pl, .inr (2, [.ref pn, .ref pt, .int 0, .int 999, .int 0, .int 5]))]) [1, 2, 0] (by decide) rfl
  exact W.iret (v := 0) hx hb hr (fun t ht hW => ⟨⟨0, (), rfl, rfl, xB_of ht hW hP9 hK hD9⟩, hS.F ht⟩) hS.2.2 dX5_railsThatMay_68
theorem in_X5_changeRails_X3 : ∀ w ∈ wsX30, w ∈ wsX5_changeRails := by decide +kernel
abbrev W_changeRails0 (cI cJ cZ cG cH : ClassId) (rn : Nat) (pl : Nat) (hy : Nat) (rs : Nat) (ri : Nat) (ra : Nat) (rt : Nat) (rg : Nat) (tk : Int32) (pn : Nat) (pt : Nat) : va_W := [(rn, .inr (4, [.ref hy, .ref rs, .ref ri, .ref ra, .ref rt, .ref rg, .int 0, .int 0, .int tk, .int 0, .int 0, .int 0, .int 0, .int 0])), (pl, .inr (2, [.ref pn, .ref pt, .int 0, .int 999, .int 0, .int 5]))]
abbrev Q_changeRails0 (D : va_G) (cI cJ cZ cG cH : ClassId) (rn : Nat) (pl : Nat) (hy : Nat) (rs : Nat) (ri : Nat) (ra : Nat) (rt : Nat) (rg : Nat) (tk : Int32) (pn : Nat) (pt : Nat) (A : Nat → Prop) : Array Value → State → Outcome → State → Prop := va_Qi (fun (r : Int32) (_ : Unit) => r = 0) (fun _ t => xB D (tyL cI cJ cZ cG cH) [(rn, .inr (4, [.ref hy, .ref rs, .ref ri, .ref ra, .ref rt, .ref rg, .int 0, .int 0, .int tk, .int 0, .int 0, .int 0, .int 0, .int 0])), (pl, .inr (2, [.ref pn, .ref pt, .int 0, .int 999, .int 0, .int 5]))] A t) A
abbrev rm_changeRails0 : Room := { frames := 0, cells := 0, slots := 0, locals := 0 }
set_option maxRecDepth 100000 in
set_option maxHeartbeats 4000000 in
theorem c_changeRails0 (l : Launch) (D : va_G) (cI cJ cZ cG cH : ClassId) (sz : Nat) (rn : Nat) (pl : Nat) (hy : Nat) (rs : Nat) (ri : Nat) (ra : Nat) (rt : Nat) (rg : Nat) (tk : Int32) (pn : Nat) (pt : Nat) : Met l yX5_changeRails wsX5_changeRails rm_changeRails0 (xPc [.ref rn, .ref pl, .int 0] D (tyL cI cJ cZ cG cH) (W_changeRails0 cI cJ cZ cG cH rn pl hy rs ri ra rt rg tk pn pt) sz) (Q_changeRails0 D cI cJ cZ cG cH rn pl hy rs ri ra rt rg tk pn pt (va_A (W_changeRails0 cI cJ cZ cG cH rn pl hy rs ri ra rt rg tk pn pt) sz)) 0 0 (va_A (W_changeRails0 cI cJ cZ cG cH rn pl hy rs ri ra rt rg tk pn pt) sz) := by
  refine xMet (cc := cX5_changeRails) (maxL := 6) (ret := (some .boolean)) (Qf := Q_changeRails0 D cI cJ cZ cG cH rn pl hy rs ri ra rt rg tk pn pt) (by decide) rfl (Nat.le_of_ble_eq_true rfl) ?_
  intro p e s m below meth c ls A hx hb hr hml hts hown hlocks hnm hsz hP hK hD hA hS hl
  have hown : s.vm.findClass RX5 = some m.cls := hown
  have hP : va_P D vwCl [(rn, .inr (4, [.ref hy, .ref rs, .ref ri, .ref ra, .ref rt, .ref rg, .int 0, .int 0, .int tk, .int 0, .int 0, .int 0, .int 0, .int 0])), (pl, .inr (2, [.ref pn, .ref pt, .int 0, .int 999, .int 0, .int 5]))] s.heap := hP
  have hD : va_D A [(rn, .inr (4, [.ref hy, .ref rs, .ref ri, .ref ra, .ref rt, .ref rg, .int 0, .int 0, .int tk, .int 0, .int 0, .int 0, .int 0, .int 0])), (pl, .inr (2, [.ref pn, .ref pt, .int 0, .int 999, .int 0, .int 5]))] := hD
  have hl : lv_has ls 6 [(0, .ref rn), (1, .ref pl), (2, .int 0)] := hl
  refine lv_iconst (v := 0) hx hb dX5_changeRails_0 (by decide) ?_
  refine lv_istore_n (lv' := [(3, .int 0), (0, .ref rn), (1, .ref pl), (2, .int 0)]) hx hb dX5_changeRails_1 rfl hl (by decide) rfl (fun ls hl => ?_)
  refine lv_iconst (v := 0) hx hb dX5_changeRails_2 (by decide) ?_
  refine lv_istore (lv' := [(4, .int 0), (3, .int 0), (0, .ref rn), (1, .ref pl), (2, .int 0)]) hx hb dX5_changeRails_3 hl (by decide) rfl (fun ls hl => ?_)
  refine lv_iload hx hb dX5_changeRails_5 (lv_at hl 0 rfl) ?_
  refine lv_aload_n hx hb dX5_changeRails_7 rfl (lv_at hl 3 rfl) ?_
  refine va_get (D := D) (ci := 2) (v := .int 0) (C := RX3) (T := TX3) (N := 6) hx hb hts in_X5_changeRails_X3 hown hK hP 1 rfl rfl 2 (by decide) (hts (.fieldLink RX5 106 "PowerRails$Plan" "rails" "I") (by decide +kernel)) (fun _ h9 => h9) rfl dX5_changeRails_8 ?_
  refine lv_icmp_ge (tgt := 66) hx hb dX5_changeRails_11 (by decide) (fun _ => ?_) (fun c9 => absurd c9 (by decide))
  refine lv_iload_n hx hb dX5_changeRails_66 rfl (lv_at hl 1 rfl) ?_
  refine W.widen (k := 0) (n := 0) (by decide) (by decide) ?_
  have hP9 := hP.sub (ws' := [(rn, .inr (4, [.ref hy, .ref rs, .ref ri, .ref ra, .ref rt, .ref rg, .int 0, .int 0, .int tk, .int 0, .int 0, .int 0, .int 0, .int 0])), (pl, .inr (2, [.ref pn, .ref pt, .int 0, .int 999, .int 0, .int 5]))]) [0, 1] rfl
  have hD9 := hD.sub (ws' := [(rn, .inr (4, [.ref hy, .ref rs, .ref ri, .ref ra, .ref rt, .ref rg, .int 0, .int 0, .int tk, .int 0, .int 0, .int 0, .int 0, .int 0])), (pl, .inr (2, [.ref pn, .ref pt, .int 0, .int 999, .int 0, .int 5]))]) [0, 1] (by decide) rfl
  exact W.zret (v := 0) hx hb hr (by decide) (fun t ht hW => ⟨⟨0, (), rfl, rfl, xB_of ht hW hP9 hK hD9⟩, hS.F ht⟩) hS.2.2 dX5_changeRails_67
abbrev W_settle0 (cI cJ cZ cG cH : ClassId) (rn : Nat) (pl : Nat) (hy : Nat) (rs : Nat) (ri : Nat) (ra : Nat) (rt : Nat) (rg : Nat) (tk : Int32) (pn : Nat) (pt : Nat) : va_W := [(rn, .inr (4, [.ref hy, .ref rs, .ref ri, .ref ra, .ref rt, .ref rg, .int 0, .int 0, .int tk, .int 0, .int 0, .int 0, .int 0, .int 0])), (rs, .inl (cI, 8, .inl (fun _ => 0))), (pl, .inr (2, [.ref pn, .ref pt, .int 0, .int 999, .int 0, .int 5]))]
abbrev Q_settle0 (D : va_G) (cI cJ cZ cG cH : ClassId) (rn : Nat) (pl : Nat) (hy : Nat) (rs : Nat) (ri : Nat) (ra : Nat) (rt : Nat) (rg : Nat) (tk : Int32) (pn : Nat) (pt : Nat) (A : Nat → Prop) : Array Value → State → Outcome → State → Prop := va_Qv (fun (_ : Unit) => True) (fun _ t => xB D (tyL cI cJ cZ cG cH) [(rn, .inr (4, [.ref hy, .ref rs, .ref ri, .ref ra, .ref rt, .ref rg, .int 0, .int 0, .int tk, .int 0, .int 0, .int 0, .int 0, .int 0])), (rs, .inl (cI, 8, .inl (fun _ => 0))), (pl, .inr (2, [.ref pn, .ref pt, .int 0, .int 999, .int 0, .int 5]))] A t) A
abbrev rm_settle0 : Room := { frames := 2, cells := 0, slots := 0, locals := 47 }
set_option maxRecDepth 100000 in
set_option maxHeartbeats 4000000 in
theorem c_settle0 (l : Launch) (D : va_G) (cI cJ cZ cG cH : ClassId) (sz : Nat) (rn : Nat) (pl : Nat) (hy : Nat) (rs : Nat) (ri : Nat) (ra : Nat) (rt : Nat) (rg : Nat) (tk : Int32) (pn : Nat) (pt : Nat) : Met l yX5_settle wsX5_settle rm_settle0 (xPc [.ref rn, .ref pl] D (tyL cI cJ cZ cG cH) (W_settle0 cI cJ cZ cG cH rn pl hy rs ri ra rt rg tk pn pt) sz) (Q_settle0 D cI cJ cZ cG cH rn pl hy rs ri ra rt rg tk pn pt (va_A (W_settle0 cI cJ cZ cG cH rn pl hy rs ri ra rt rg tk pn pt) sz)) 0 0 (va_A (W_settle0 cI cJ cZ cG cH rn pl hy rs ri ra rt rg tk pn pt) sz) := by
  refine xMet (cc := cX5_settle) (maxL := 4) (ret := none) (Qf := Q_settle0 D cI cJ cZ cG cH rn pl hy rs ri ra rt rg tk pn pt) (by decide) rfl (Nat.le_of_ble_eq_true rfl) ?_
  intro p e s m below meth c ls A hx hb hr hml hts hown hlocks hnm hsz hP hK hD hA hS hl
  have hown : s.vm.findClass RX5 = some m.cls := hown
  have hP : va_P D vwCl [(rn, .inr (4, [.ref hy, .ref rs, .ref ri, .ref ra, .ref rt, .ref rg, .int 0, .int 0, .int tk, .int 0, .int 0, .int 0, .int 0, .int 0])), (rs, .inl (cI, 8, .inl (fun _ => 0))), (pl, .inr (2, [.ref pn, .ref pt, .int 0, .int 999, .int 0, .int 5]))] s.heap := hP
  have hD : va_D A [(rn, .inr (4, [.ref hy, .ref rs, .ref ri, .ref ra, .ref rt, .ref rg, .int 0, .int 0, .int tk, .int 0, .int 0, .int 0, .int 0, .int 0])), (rs, .inl (cI, 8, .inl (fun _ => 0))), (pl, .inr (2, [.ref pn, .ref pt, .int 0, .int 999, .int 0, .int 5]))] := hD
  have hl : lv_has ls 4 [(0, .ref rn), (1, .ref pl)] := hl
  refine lv_iconst (v := 1) hx hb dX5_settle_0 (by decide) ?_
  refine lv_istore_n (lv' := [(2, .int 1), (0, .ref rn), (1, .ref pl)]) hx hb dX5_settle_1 rfl hl (by decide) rfl (fun ls hl => ?_)
  refine lv_iconst (v := 0) hx hb dX5_settle_2 (by decide) ?_
  refine lv_istore_n (lv' := [(3, .int 0), (2, .int 1), (0, .ref rn), (1, .ref pl)]) hx hb dX5_settle_3 rfl hl (by decide) rfl (fun ls hl => ?_)
  refine lv_iload_n hx hb dX5_settle_4 rfl (lv_at hl 0 rfl) ?_
  refine lv_sipush (v := 1000) hx hb dX5_settle_5 (by decide) ?_
  refine lv_icmp_ge (tgt := 32) hx hb dX5_settle_8 (by decide) (fun c9 => absurd c9 (by decide)) (fun _ => ?_)
  refine lv_iload_n hx hb dX5_settle_11 rfl (lv_at hl 1 rfl) ?_
  refine lv_if_eq (tgt := 32) hx hb dX5_settle_12 (by decide) (fun c9 => absurd c9 (by decide)) (fun _ => ?_)
  refine lv_aload_n hx hb dX5_settle_15 rfl (lv_at hl 2 rfl) ?_
  refine lv_aload_n hx hb dX5_settle_16 rfl (lv_at hl 3 rfl) ?_
  refine lv_aload_n hx hb dX5_settle_17 rfl (lv_at hl 2 rfl) ?_
  refine lv_aload_n hx hb dX5_settle_18 rfl (lv_at hl 3 rfl) ?_
  have hPc := hP.sub (ws' := [(rn, .inr (4, [.ref hy, .ref rs, .ref ri, .ref ra, .ref rt, .ref rg, .int 0, .int 0, .int tk, .int 0, .int 0, .int 0, .int 0, .int 0])), (rs, .inl (cI, 8, .inl (fun _ => 0))), (pl, .inr (2, [.ref pn, .ref pt, .int 0, .int 999, .int 0, .int 5]))]) [0, 1, 2] rfl
  have hDc := hD.sub (ws' := [(rn, .inr (4, [.ref hy, .ref rs, .ref ri, .ref ra, .ref rt, .ref rg, .int 0, .int 0, .int tk, .int 0, .int 0, .int 0, .int 0, .int 0])), (rs, .inl (cI, 8, .inl (fun _ => 0))), (pl, .inr (2, [.ref pn, .ref pt, .int 0, .int 999, .int 0, .int 5]))]) [0, 1, 2] (by decide) rfl
  have hFc := va_free (wc := [(rn, .inr (4, [.ref hy, .ref rs, .ref ri, .ref ra, .ref rt, .ref rg, .int 0, .int 0, .int tk, .int 0, .int 0, .int 0, .int 0, .int 0])), (rs, .inl (cI, 8, .inl (fun _ => 0))), (pl, .inr (2, [.ref pn, .ref pt, .int 0, .int 999, .int 0, .int 5]))]) hD hS hA [0, 1, 2] rfl
  refine va_calli (va_runV (As := [.ref pl]) (rest := [.ref pl, .ref rn]) ⟨hx, hb, hml, hown, hts⟩ (c_railsThatMay0 l D cI cJ cZ cG cH s.heap.size rn pl hy rs ri ra rt rg tk pn pt) (cwV 1 hts gX5_settle_X5_railsThatMay rfl rfl rfl (by decide +kernel) ⟨Nat.le_of_ble_eq_true rfl, Nat.le_of_ble_eq_true rfl⟩) ⟨xPc_blind, va_recv hK hPc (ci := 4) (q0 := 0) rfl rfl, xPc_pre hPc hK hDc⟩ rfl rfl hl.1 rfl (lv_room (Nat.le_of_ble_eq_true rfl)) dX5_settle_19 ⟨Nat.le_of_ble_eq_true rfl, Nat.le_of_ble_eq_true rfl⟩) hS (fun q _ h => hFc q h) hFc (fun r1 u t H1 locs ht hvm hw1 hB hz1 hk1 hS => ?_)
  obtain ⟨hP1, hK1, hD1⟩ := hB
  rw [ht] at hP1
  obtain ⟨hP, hD⟩ := va_join (wr := []) (w1 := [(rn, .inr (4, [.ref hy, .ref rs, .ref ri, .ref ra, .ref rt, .ref rg, .int 0, .int 0, .int tk, .int 0, .int 0, .int 0, .int 0, .int 0])), (rs, .inl (cI, 8, .inl (fun _ => 0))), (pl, .inr (2, [.ref pn, .ref pt, .int 0, .int 999, .int 0, .int 5]))]) hP hD [0, 1, 2] [] rfl rfl (by decide) (by decide) hk1 hFc hP1 hD1
  generalize H1 = H at hP hS ⊢
  have hP : va_P D vwCl [(rn, .inr (4, [.ref hy, .ref rs, .ref ri, .ref ra, .ref rt, .ref rg, .int 0, .int 0, .int tk, .int 0, .int 0, .int 0, .int 0, .int 0])), (rs, .inl (cI, 8, .inl (fun _ => 0))), (pl, .inr (2, [.ref pn, .ref pt, .int 0, .int 999, .int 0, .int 5]))] H := hP
  have hD : va_D A [(rn, .inr (4, [.ref hy, .ref rs, .ref ri, .ref ra, .ref rt, .ref rg, .int 0, .int 0, .int tk, .int 0, .int 0, .int 0, .int 0, .int 0])), (rs, .inl (cI, 8, .inl (fun _ => 0))), (pl, .inr (2, [.ref pn, .ref pt, .int 0, .int 999, .int 0, .int 5]))] := hD
  obtain rfl : r1 = 0 := hw1
  have hPc := hP.sub (ws' := [(rn, .inr (4, [.ref hy, .ref rs, .ref ri, .ref ra, .ref rt, .ref rg, .int 0, .int 0, .int tk, .int 0, .int 0, .int 0, .int 0, .int 0])), (pl, .inr (2, [.ref pn, .ref pt, .int 0, .int 999, .int 0, .int 5]))]) [0, 2] rfl
  have hDc := hD.sub (ws' := [(rn, .inr (4, [.ref hy, .ref rs, .ref ri, .ref ra, .ref rt, .ref rg, .int 0, .int 0, .int tk, .int 0, .int 0, .int 0, .int 0, .int 0])), (pl, .inr (2, [.ref pn, .ref pt, .int 0, .int 999, .int 0, .int 5]))]) [0, 2] (by decide) rfl
  have hFc := va_free (wc := [(rn, .inr (4, [.ref hy, .ref rs, .ref ri, .ref ra, .ref rt, .ref rg, .int 0, .int 0, .int tk, .int 0, .int 0, .int 0, .int 0, .int 0])), (pl, .inr (2, [.ref pn, .ref pt, .int 0, .int 999, .int 0, .int 5]))]) hD hS hA [0, 2] rfl
  refine va_calli (va_runV (As := [.ref pl, .int 0]) (rest := []) ⟨hx, hb, hml, hown, hts⟩ (c_changeRails0 l D cI cJ cZ cG cH H.size rn pl hy rs ri ra rt rg tk pn pt) (cwV 2 hts gX5_settle_X5_changeRails rfl rfl rfl (by decide +kernel) ⟨Nat.le_of_ble_eq_true rfl, Nat.le_of_ble_eq_true rfl⟩) ⟨xPc_blind, va_recv hK hPc (ci := 4) (q0 := 0) rfl rfl, xPc_pre hPc hK hDc⟩ rfl rfl hl.1 rfl (lv_room (Nat.le_of_ble_eq_true rfl)) dX5_settle_22 ⟨Nat.le_of_ble_eq_true rfl, Nat.le_of_ble_eq_true rfl⟩) hS (fun q _ h => hFc q h) hFc (fun r2 u t H1 locs ht hvm hw2 hB hz1 hk1 hS => ?_)
  obtain ⟨hP1, hK1, hD1⟩ := hB
  rw [ht] at hP1
  obtain ⟨hP, hD⟩ := va_join (wr := [(rs, .inl (cI, 8, .inl (fun _ => 0)))]) (w1 := [(rn, .inr (4, [.ref hy, .ref rs, .ref ri, .ref ra, .ref rt, .ref rg, .int 0, .int 0, .int tk, .int 0, .int 0, .int 0, .int 0, .int 0])), (pl, .inr (2, [.ref pn, .ref pt, .int 0, .int 999, .int 0, .int 5]))]) hP hD [0, 2] [1] rfl rfl (by decide) (by decide) hk1 hFc hP1 hD1
  generalize H1 = H at hP hS ⊢
  have hP : va_P D vwCl [(rs, .inl (cI, 8, .inl (fun _ => 0))), (rn, .inr (4, [.ref hy, .ref rs, .ref ri, .ref ra, .ref rt, .ref rg, .int 0, .int 0, .int tk, .int 0, .int 0, .int 0, .int 0, .int 0])), (pl, .inr (2, [.ref pn, .ref pt, .int 0, .int 999, .int 0, .int 5]))] H := hP
  have hD : va_D A [(rs, .inl (cI, 8, .inl (fun _ => 0))), (rn, .inr (4, [.ref hy, .ref rs, .ref ri, .ref ra, .ref rt, .ref rg, .int 0, .int 0, .int tk, .int 0, .int 0, .int 0, .int 0, .int 0])), (pl, .inr (2, [.ref pn, .ref pt, .int 0, .int 999, .int 0, .int 5]))] := hD
  obtain rfl : r2 = 0 := hw2
  refine lv_istore_n (lv' := [(2, .int 0), (3, .int 0), (0, .ref rn), (1, .ref pl)]) hx hb dX5_settle_25 rfl hl (by decide) rfl (fun ls hl => ?_)
  refine lv_iinc (v := 1) (lv' := [(3, .int 1), (2, .int 0), (0, .ref rn), (1, .ref pl)]) hx hb dX5_settle_26 hl (k := 1) rfl (by decide) (by decide) rfl (fun ls hl => ?_)
  refine lv_goto (tgt := 4) hx hb dX5_settle_29 (by decide) ?_
  refine lv_iload_n hx hb dX5_settle_4 rfl (lv_at hl 0 rfl) ?_
  refine lv_sipush (v := 1000) hx hb dX5_settle_5 (by decide) ?_
  refine lv_icmp_ge (tgt := 32) hx hb dX5_settle_8 (by decide) (fun c9 => absurd c9 (by decide)) (fun _ => ?_)
  refine lv_iload_n hx hb dX5_settle_11 rfl (lv_at hl 1 rfl) ?_
  refine lv_if_eq (tgt := 32) hx hb dX5_settle_12 (by decide) (fun _ => ?_) (fun c9 => absurd c9 (by decide))
  refine W.widen (k := 0) (n := 0) (by decide) (by decide) ?_
  have hP9 := hP.sub (ws' := [(rn, .inr (4, [.ref hy, .ref rs, .ref ri, .ref ra, .ref rt, .ref rg, .int 0, .int 0, .int tk, .int 0, .int 0, .int 0, .int 0, .int 0])), (rs, .inl (cI, 8, .inl (fun _ => 0))), (pl, .inr (2, [.ref pn, .ref pt, .int 0, .int 999, .int 0, .int 5]))]) [1, 0, 2] rfl
  have hD9 := hD.sub (ws' := [(rn, .inr (4, [.ref hy, .ref rs, .ref ri, .ref ra, .ref rt, .ref rg, .int 0, .int 0, .int tk, .int 0, .int 0, .int 0, .int 0, .int 0])), (rs, .inl (cI, 8, .inl (fun _ => 0))), (pl, .inr (2, [.ref pn, .ref pt, .int 0, .int 999, .int 0, .int 5]))]) [1, 0, 2] (by decide) rfl
  exact W.vret hx hb hr (fun t ht hW => ⟨⟨(), rfl, trivial, xB_of ht hW hP9 hK hD9⟩, hS.F ht⟩) hS.2.2 dX5_settle_32
theorem in_X5_sumDraw_X3 : ∀ w ∈ wsX30, w ∈ wsX5_sumDraw := by decide +kernel
abbrev W_sumDraw0 (cI cJ cZ cG cH : ClassId) (rn : Nat) (pl : Nat) (hy : Nat) (rs : Nat) (ri : Nat) (ra : Nat) (rt : Nat) (rg : Nat) (tk : Int32) (pn : Nat) (pt : Nat) : va_W := [(rn, .inr (4, [.ref hy, .ref rs, .ref ri, .ref ra, .ref rt, .ref rg, .int 0, .int 0, .int tk, .int 0, .int 0, .int 0, .int 0, .int 0])), (pl, .inr (2, [.ref pn, .ref pt, .int 0, .int 999, .int 0, .int 5]))]
abbrev Q_sumDraw0 (D : va_G) (cI cJ cZ cG cH : ClassId) (rn : Nat) (pl : Nat) (hy : Nat) (rs : Nat) (ri : Nat) (ra : Nat) (rt : Nat) (rg : Nat) (tk : Int32) (pn : Nat) (pt : Nat) (A : Nat → Prop) : Array Value → State → Outcome → State → Prop := va_Qi (fun (r : Int32) (_ : Unit) => r = 0) (fun _ t => xB D (tyL cI cJ cZ cG cH) [(rn, .inr (4, [.ref hy, .ref rs, .ref ri, .ref ra, .ref rt, .ref rg, .int 0, .int 0, .int tk, .int 0, .int 0, .int 0, .int 0, .int 0])), (pl, .inr (2, [.ref pn, .ref pt, .int 0, .int 999, .int 0, .int 5]))] A t) A
abbrev rm_sumDraw0 : Room := { frames := 0, cells := 0, slots := 0, locals := 0 }
set_option maxRecDepth 100000 in
set_option maxHeartbeats 4000000 in
theorem c_sumDraw0 (l : Launch) (D : va_G) (cI cJ cZ cG cH : ClassId) (sz : Nat) (rn : Nat) (pl : Nat) (hy : Nat) (rs : Nat) (ri : Nat) (ra : Nat) (rt : Nat) (rg : Nat) (tk : Int32) (pn : Nat) (pt : Nat) : Met l yX5_sumDraw wsX5_sumDraw rm_sumDraw0 (xPc [.ref rn, .ref pl] D (tyL cI cJ cZ cG cH) (W_sumDraw0 cI cJ cZ cG cH rn pl hy rs ri ra rt rg tk pn pt) sz) (Q_sumDraw0 D cI cJ cZ cG cH rn pl hy rs ri ra rt rg tk pn pt (va_A (W_sumDraw0 cI cJ cZ cG cH rn pl hy rs ri ra rt rg tk pn pt) sz)) 0 0 (va_A (W_sumDraw0 cI cJ cZ cG cH rn pl hy rs ri ra rt rg tk pn pt) sz) := by
  refine xMet (cc := cX5_sumDraw) (maxL := 4) (ret := (some .int)) (Qf := Q_sumDraw0 D cI cJ cZ cG cH rn pl hy rs ri ra rt rg tk pn pt) (by decide) rfl (Nat.le_of_ble_eq_true rfl) ?_
  intro p e s m below meth c ls A hx hb hr hml hts hown hlocks hnm hsz hP hK hD hA hS hl
  have hown : s.vm.findClass RX5 = some m.cls := hown
  have hP : va_P D vwCl [(rn, .inr (4, [.ref hy, .ref rs, .ref ri, .ref ra, .ref rt, .ref rg, .int 0, .int 0, .int tk, .int 0, .int 0, .int 0, .int 0, .int 0])), (pl, .inr (2, [.ref pn, .ref pt, .int 0, .int 999, .int 0, .int 5]))] s.heap := hP
  have hD : va_D A [(rn, .inr (4, [.ref hy, .ref rs, .ref ri, .ref ra, .ref rt, .ref rg, .int 0, .int 0, .int tk, .int 0, .int 0, .int 0, .int 0, .int 0])), (pl, .inr (2, [.ref pn, .ref pt, .int 0, .int 999, .int 0, .int 5]))] := hD
  have hl : lv_has ls 4 [(0, .ref rn), (1, .ref pl)] := hl
  refine lv_iconst (v := 0) hx hb dX5_sumDraw_0 (by decide) ?_
  refine lv_istore_n (lv' := [(2, .int 0), (0, .ref rn), (1, .ref pl)]) hx hb dX5_sumDraw_1 rfl hl (by decide) rfl (fun ls hl => ?_)
  refine lv_iconst (v := 0) hx hb dX5_sumDraw_2 (by decide) ?_
  refine lv_istore_n (lv' := [(3, .int 0), (2, .int 0), (0, .ref rn), (1, .ref pl)]) hx hb dX5_sumDraw_3 rfl hl (by decide) rfl (fun ls hl => ?_)
  refine lv_iload_n hx hb dX5_sumDraw_4 rfl (lv_at hl 0 rfl) ?_
  refine lv_aload_n hx hb dX5_sumDraw_5 rfl (lv_at hl 3 rfl) ?_
  refine va_get (D := D) (ci := 2) (v := .int 0) (C := RX3) (T := TX3) (N := 6) hx hb hts in_X5_sumDraw_X3 hown hK hP 1 rfl rfl 2 (by decide) (hts (.fieldLink RX5 106 "PowerRails$Plan" "rails" "I") (by decide +kernel)) (fun _ h9 => h9) rfl dX5_sumDraw_6 ?_
  refine lv_icmp_ge (tgt := 59) hx hb dX5_sumDraw_9 (by decide) (fun _ => ?_) (fun c9 => absurd c9 (by decide))
  refine lv_iload_n hx hb dX5_sumDraw_59 rfl (lv_at hl 1 rfl) ?_
  refine W.widen (k := 0) (n := 0) (by decide) (by decide) ?_
  have hP9 := hP.sub (ws' := [(rn, .inr (4, [.ref hy, .ref rs, .ref ri, .ref ra, .ref rt, .ref rg, .int 0, .int 0, .int tk, .int 0, .int 0, .int 0, .int 0, .int 0])), (pl, .inr (2, [.ref pn, .ref pt, .int 0, .int 999, .int 0, .int 5]))]) [0, 1] rfl
  have hD9 := hD.sub (ws' := [(rn, .inr (4, [.ref hy, .ref rs, .ref ri, .ref ra, .ref rt, .ref rg, .int 0, .int 0, .int tk, .int 0, .int 0, .int 0, .int 0, .int 0])), (pl, .inr (2, [.ref pn, .ref pt, .int 0, .int 999, .int 0, .int 5]))]) [0, 1] (by decide) rfl
  exact W.iret (v := 0) hx hb hr (fun t ht hW => ⟨⟨0, (), rfl, rfl, xB_of ht hW hP9 hK hD9⟩, hS.F ht⟩) hS.2.2 dX5_sumDraw_60
theorem in_X5_whyTrip_X5 : ∀ w ∈ wsX50, w ∈ wsX5_whyTrip := by decide +kernel
theorem in_X5_whyTrip_X3 : ∀ w ∈ wsX30, w ∈ wsX5_whyTrip := by decide +kernel
abbrev W_whyTrip0 (cI cJ cZ cG cH : ClassId) (rn : Nat) (pl : Nat) (hy : Nat) (rs : Nat) (ri : Nat) (ra : Nat) (rt : Nat) (rg : Nat) (tk : Int32) (pn : Nat) (pt : Nat) : va_W := [(rn, .inr (4, [.ref hy, .ref rs, .ref ri, .ref ra, .ref rt, .ref rg, .int 0, .int 0, .int tk, .int 0, .int 0, .int 0, .int 0, .int 0])), (pl, .inr (2, [.ref pn, .ref pt, .int 0, .int 999, .int 0, .int 5]))]
abbrev Q_whyTrip0 (D : va_G) (cI cJ cZ cG cH : ClassId) (rn : Nat) (pl : Nat) (hy : Nat) (rs : Nat) (ri : Nat) (ra : Nat) (rt : Nat) (rg : Nat) (tk : Int32) (pn : Nat) (pt : Nat) (A : Nat → Prop) : Array Value → State → Outcome → State → Prop := va_Qi (fun (r : Int32) (_ : Unit) => r = 0) (fun _ t => xB D (tyL cI cJ cZ cG cH) [(rn, .inr (4, [.ref hy, .ref rs, .ref ri, .ref ra, .ref rt, .ref rg, .int 0, .int 0, .int tk, .int 0, .int 0, .int 0, .int 0, .int 0])), (pl, .inr (2, [.ref pn, .ref pt, .int 0, .int 999, .int 0, .int 5]))] A t) A
abbrev rm_whyTrip0 : Room := { frames := 0, cells := 0, slots := 0, locals := 0 }
set_option maxRecDepth 100000 in
set_option maxHeartbeats 4000000 in
theorem c_whyTrip0 (l : Launch) (D : va_G) (cI cJ cZ cG cH : ClassId) (sz : Nat) (rn : Nat) (pl : Nat) (hy : Nat) (rs : Nat) (ri : Nat) (ra : Nat) (rt : Nat) (rg : Nat) (tk : Int32) (pn : Nat) (pt : Nat) : Met l yX5_whyTrip wsX5_whyTrip rm_whyTrip0 (xPc [.ref rn, .ref pl] D (tyL cI cJ cZ cG cH) (W_whyTrip0 cI cJ cZ cG cH rn pl hy rs ri ra rt rg tk pn pt) sz) (Q_whyTrip0 D cI cJ cZ cG cH rn pl hy rs ri ra rt rg tk pn pt (va_A (W_whyTrip0 cI cJ cZ cG cH rn pl hy rs ri ra rt rg tk pn pt) sz)) 0 0 (va_A (W_whyTrip0 cI cJ cZ cG cH rn pl hy rs ri ra rt rg tk pn pt) sz) := by
  refine xMet (cc := cX5_whyTrip) (maxL := 5) (ret := (some .int)) (Qf := Q_whyTrip0 D cI cJ cZ cG cH rn pl hy rs ri ra rt rg tk pn pt) (by decide) rfl (Nat.le_of_ble_eq_true rfl) ?_
  intro p e s m below meth c ls A hx hb hr hml hts hown hlocks hnm hsz hP hK hD hA hS hl
  have hown : s.vm.findClass RX5 = some m.cls := hown
  have hP : va_P D vwCl [(rn, .inr (4, [.ref hy, .ref rs, .ref ri, .ref ra, .ref rt, .ref rg, .int 0, .int 0, .int tk, .int 0, .int 0, .int 0, .int 0, .int 0])), (pl, .inr (2, [.ref pn, .ref pt, .int 0, .int 999, .int 0, .int 5]))] s.heap := hP
  have hD : va_D A [(rn, .inr (4, [.ref hy, .ref rs, .ref ri, .ref ra, .ref rt, .ref rg, .int 0, .int 0, .int tk, .int 0, .int 0, .int 0, .int 0, .int 0])), (pl, .inr (2, [.ref pn, .ref pt, .int 0, .int 999, .int 0, .int 5]))] := hD
  have hl : lv_has ls 5 [(0, .ref rn), (1, .ref pl)] := hl
  refine lv_aload_n hx hb dX5_whyTrip_0 rfl (lv_at hl 0 rfl) ?_
  refine va_get (D := D) (ci := 4) (v := .int 0) (C := RX5) (T := TX5) (N := 14) hx hb hts in_X5_whyTrip_X5 hown hK hP 0 rfl rfl 12 (by decide) (hts (.fieldLink RX5 66 "PowerRails$Run" "latestDraw" "I") (by decide +kernel)) (fun _ h9 => h9) rfl dX5_whyTrip_1 ?_
  refine lv_aload_n hx hb dX5_whyTrip_4 rfl (lv_at hl 1 rfl) ?_
  refine va_get (D := D) (ci := 2) (v := .int 999) (C := RX3) (T := TX3) (N := 6) hx hb hts in_X5_whyTrip_X3 hown hK hP 1 rfl rfl 3 (by decide) (hts (.fieldLink RX5 125 "PowerRails$Plan" "limit" "I") (by decide +kernel)) (fun _ h9 => h9) rfl dX5_whyTrip_5 ?_
  refine lv_icmp_le (tgt := 13) hx hb dX5_whyTrip_8 (by decide) (fun _ => ?_) (fun c9 => absurd c9 (by decide))
  refine lv_iconst (v := 0) hx hb dX5_whyTrip_13 (by decide) ?_
  refine lv_istore_n (lv' := [(2, .int 0), (0, .ref rn), (1, .ref pl)]) hx hb dX5_whyTrip_14 rfl hl (by decide) rfl (fun ls hl => ?_)
  refine lv_iload_n hx hb dX5_whyTrip_15 rfl (lv_at hl 0 rfl) ?_
  refine lv_aload_n hx hb dX5_whyTrip_16 rfl (lv_at hl 2 rfl) ?_
  refine va_get (D := D) (ci := 2) (v := .int 0) (C := RX3) (T := TX3) (N := 6) hx hb hts in_X5_whyTrip_X3 hown hK hP 1 rfl rfl 2 (by decide) (hts (.fieldLink RX5 106 "PowerRails$Plan" "rails" "I") (by decide +kernel)) (fun _ h9 => h9) rfl dX5_whyTrip_17 ?_
  refine lv_icmp_ge (tgt := 85) hx hb dX5_whyTrip_20 (by decide) (fun _ => ?_) (fun c9 => absurd c9 (by decide))
  refine lv_iconst (v := 0) hx hb dX5_whyTrip_85 (by decide) ?_
  refine W.widen (k := 0) (n := 0) (by decide) (by decide) ?_
  have hP9 := hP.sub (ws' := [(rn, .inr (4, [.ref hy, .ref rs, .ref ri, .ref ra, .ref rt, .ref rg, .int 0, .int 0, .int tk, .int 0, .int 0, .int 0, .int 0, .int 0])), (pl, .inr (2, [.ref pn, .ref pt, .int 0, .int 999, .int 0, .int 5]))]) [0, 1] rfl
  have hD9 := hD.sub (ws' := [(rn, .inr (4, [.ref hy, .ref rs, .ref ri, .ref ra, .ref rt, .ref rg, .int 0, .int 0, .int tk, .int 0, .int 0, .int 0, .int 0, .int 0])), (pl, .inr (2, [.ref pn, .ref pt, .int 0, .int 999, .int 0, .int 5]))]) [0, 1] (by decide) rfl
  exact W.iret (v := 0) hx hb hr (fun t ht hW => ⟨⟨0, (), rfl, rfl, xB_of ht hW hP9 hK hD9⟩, hS.F ht⟩) hS.2.2 dX5_whyTrip_86
theorem in_X5_growOlder_X3 : ∀ w ∈ wsX30, w ∈ wsX5_growOlder := by decide +kernel
theorem in_X5_growOlder_X5 : ∀ w ∈ wsX50, w ∈ wsX5_growOlder := by decide +kernel
abbrev W_growOlder0 (cI cJ cZ cG cH : ClassId) (rn : Nat) (pl : Nat) (hy : Nat) (rs : Nat) (ri : Nat) (ra : Nat) (rt : Nat) (rg : Nat) (tk : Int32) (pn : Nat) (pt : Nat) : va_W := [(rn, .inr (4, [.ref hy, .ref rs, .ref ri, .ref ra, .ref rt, .ref rg, .int 0, .int 0, .int tk, .int 0, .int 0, .int 0, .int 0, .int 0])), (pl, .inr (2, [.ref pn, .ref pt, .int 0, .int 999, .int 0, .int 5]))]
abbrev Q_growOlder0 (D : va_G) (cI cJ cZ cG cH : ClassId) (rn : Nat) (pl : Nat) (hy : Nat) (rs : Nat) (ri : Nat) (ra : Nat) (rt : Nat) (rg : Nat) (tk : Int32) (pn : Nat) (pt : Nat) (A : Nat → Prop) : Array Value → State → Outcome → State → Prop := va_Qv (fun (_ : Unit) => True) (fun _ t => ∃ (t2 : Int32), xB D (tyL cI cJ cZ cG cH) [(rn, .inr (4, [.ref hy, .ref rs, .ref ri, .ref ra, .ref rt, .ref rg, .int 0, .int 0, .int t2, .int 0, .int 0, .int 0, .int 0, .int 0])), (pl, .inr (2, [.ref pn, .ref pt, .int 0, .int 999, .int 0, .int 5]))] A t) A
abbrev rm_growOlder0 : Room := { frames := 0, cells := 0, slots := 0, locals := 0 }
set_option maxRecDepth 100000 in
set_option maxHeartbeats 4000000 in
theorem c_growOlder0 (l : Launch) (D : va_G) (cI cJ cZ cG cH : ClassId) (sz : Nat) (rn : Nat) (pl : Nat) (hy : Nat) (rs : Nat) (ri : Nat) (ra : Nat) (rt : Nat) (rg : Nat) (tk : Int32) (pn : Nat) (pt : Nat) : Met l yX5_growOlder wsX5_growOlder rm_growOlder0 (xPc [.ref rn, .ref pl] D (tyL cI cJ cZ cG cH) (W_growOlder0 cI cJ cZ cG cH rn pl hy rs ri ra rt rg tk pn pt) sz) (Q_growOlder0 D cI cJ cZ cG cH rn pl hy rs ri ra rt rg tk pn pt (va_A (W_growOlder0 cI cJ cZ cG cH rn pl hy rs ri ra rt rg tk pn pt) sz)) 0 0 (va_A (W_growOlder0 cI cJ cZ cG cH rn pl hy rs ri ra rt rg tk pn pt) sz) := by
  refine xMet (cc := cX5_growOlder) (maxL := 3) (ret := none) (Qf := Q_growOlder0 D cI cJ cZ cG cH rn pl hy rs ri ra rt rg tk pn pt) (by decide) rfl (Nat.le_of_ble_eq_true rfl) ?_
  intro p e s m below meth c ls A hx hb hr hml hts hown hlocks hnm hsz hP hK hD hA hS hl
  have hown : s.vm.findClass RX5 = some m.cls := hown
  have hP : va_P D vwCl [(rn, .inr (4, [.ref hy, .ref rs, .ref ri, .ref ra, .ref rt, .ref rg, .int 0, .int 0, .int tk, .int 0, .int 0, .int 0, .int 0, .int 0])), (pl, .inr (2, [.ref pn, .ref pt, .int 0, .int 999, .int 0, .int 5]))] s.heap := hP
  have hD : va_D A [(rn, .inr (4, [.ref hy, .ref rs, .ref ri, .ref ra, .ref rt, .ref rg, .int 0, .int 0, .int tk, .int 0, .int 0, .int 0, .int 0, .int 0])), (pl, .inr (2, [.ref pn, .ref pt, .int 0, .int 999, .int 0, .int 5]))] := hD
  have hl : lv_has ls 3 [(0, .ref rn), (1, .ref pl)] := hl
  refine lv_iconst (v := 0) hx hb dX5_growOlder_0 (by decide) ?_
  refine lv_istore_n (lv' := [(2, .int 0), (0, .ref rn), (1, .ref pl)]) hx hb dX5_growOlder_1 rfl hl (by decide) rfl (fun ls hl => ?_)
  refine lv_iload_n hx hb dX5_growOlder_2 rfl (lv_at hl 0 rfl) ?_
  refine lv_aload_n hx hb dX5_growOlder_3 rfl (lv_at hl 2 rfl) ?_
  refine va_get (D := D) (ci := 2) (v := .int 0) (C := RX3) (T := TX3) (N := 6) hx hb hts in_X5_growOlder_X3 hown hK hP 1 rfl rfl 2 (by decide) (hts (.fieldLink RX5 106 "PowerRails$Plan" "rails" "I") (by decide +kernel)) (fun _ h9 => h9) rfl dX5_growOlder_4 ?_
  refine lv_icmp_ge (tgt := 36) hx hb dX5_growOlder_7 (by decide) (fun _ => ?_) (fun c9 => absurd c9 (by decide))
  refine lv_aload_n hx hb dX5_growOlder_36 rfl (lv_at hl 1 rfl) ?_
  refine lv_dup hx hb dX5_growOlder_37 rfl ?_
  refine va_get (D := D) (ci := 4) (v := .int tk) (C := RX5) (T := TX5) (N := 14) hx hb hts in_X5_growOlder_X5 hown hK hP 0 rfl rfl 8 (by decide) (hts (.fieldLink RX5 51 "PowerRails$Run" "tick" "I") (by decide +kernel)) (fun _ h9 => h9) rfl dX5_growOlder_38 ?_
  refine lv_iconst (v := 1) hx hb dX5_growOlder_41 (by decide) ?_
  refine lv_iadd hx hb dX5_growOlder_42 ?_
  refine lv_topi (fun v1 ev1 => ?_)
  refine va_put (D := D) (ci := 4) (v := .int v1) (ty := .int) (C := RX5) (T := TX5) (N := 14) hx hb hts in_X5_growOlder_X5 tyX5 tyX5_ok nmX5 hown hK hP hD hS 0 rfl rfl 8 (by decide) (hts (.fieldLink RX5 51 "PowerRails$Run" "tick" "I") (by decide +kernel)) (fun _ h9 => h9) rfl (by decide +kernel) rfl rfl (Nat.le_of_ble_eq_true rfl) dX5_growOlder_43 (fun H locs hP hD hS => ?_)
  have hP : va_P D vwCl [(rn, .inr (4, [.ref hy, .ref rs, .ref ri, .ref ra, .ref rt, .ref rg, .int 0, .int 0, .int v1, .int 0, .int 0, .int 0, .int 0, .int 0])), (pl, .inr (2, [.ref pn, .ref pt, .int 0, .int 999, .int 0, .int 5]))] H := hP
  have hD : va_D A [(rn, .inr (4, [.ref hy, .ref rs, .ref ri, .ref ra, .ref rt, .ref rg, .int 0, .int 0, .int v1, .int 0, .int 0, .int 0, .int 0, .int 0])), (pl, .inr (2, [.ref pn, .ref pt, .int 0, .int 999, .int 0, .int 5]))] := hD
  refine lv_aload_n hx hb dX5_growOlder_46 rfl (lv_at hl 1 rfl) ?_
  refine va_get (D := D) (ci := 4) (v := .int 0) (C := RX5) (T := TX5) (N := 14) hx hb hts in_X5_growOlder_X5 hown hK hP 0 rfl rfl 9 (by decide) (hts (.fieldLink RX5 54 "PowerRails$Run" "held" "I") (by decide +kernel)) (fun _ h9 => h9) rfl dX5_growOlder_47 ?_
  refine lv_if_le (tgt := 63) hx hb dX5_growOlder_50 (by decide) (fun _ => ?_) (fun c9 => absurd c9 (by decide))
  refine W.widen (k := 0) (n := 0) (by decide) (by decide) ?_
  have hP9 := hP.sub (ws' := [(rn, .inr (4, [.ref hy, .ref rs, .ref ri, .ref ra, .ref rt, .ref rg, .int 0, .int 0, .int v1, .int 0, .int 0, .int 0, .int 0, .int 0])), (pl, .inr (2, [.ref pn, .ref pt, .int 0, .int 999, .int 0, .int 5]))]) [0, 1] rfl
  have hD9 := hD.sub (ws' := [(rn, .inr (4, [.ref hy, .ref rs, .ref ri, .ref ra, .ref rt, .ref rg, .int 0, .int 0, .int v1, .int 0, .int 0, .int 0, .int 0, .int 0])), (pl, .inr (2, [.ref pn, .ref pt, .int 0, .int 999, .int 0, .int 5]))]) [0, 1] (by decide) rfl
  exact W.vret hx hb hr (fun t ht hW => ⟨⟨(), rfl, trivial, ⟨v1, xB_of ht hW hP9 hK hD9⟩⟩, hS.F ht⟩) hS.2.2 dX5_growOlder_63
theorem in_X5_passTick_X5 : ∀ w ∈ wsX50, w ∈ wsX5_passTick := by decide +kernel
abbrev W_passTick0 (cI cJ cZ cG cH : ClassId) (rn : Nat) (pl : Nat) (hy : Nat) (rs : Nat) (ri : Nat) (ra : Nat) (rt : Nat) (rg : Nat) (tk : Int32) (pn : Nat) (pt : Nat) : va_W := [(rn, .inr (4, [.ref hy, .ref rs, .ref ri, .ref ra, .ref rt, .ref rg, .int 0, .int 0, .int tk, .int 0, .int 0, .int 0, .int 0, .int 0])), (rs, .inl (cI, 8, .inl (fun _ => 0))), (pl, .inr (2, [.ref pn, .ref pt, .int 0, .int 999, .int 0, .int 5]))]
abbrev Q_passTick0 (D : va_G) (cI cJ cZ cG cH : ClassId) (rn : Nat) (pl : Nat) (hy : Nat) (rs : Nat) (ri : Nat) (ra : Nat) (rt : Nat) (rg : Nat) (tk : Int32) (pn : Nat) (pt : Nat) (A : Nat → Prop) : Array Value → State → Outcome → State → Prop := va_Qv (fun (_ : Unit) => True) (fun _ t => ∃ (t2 : Int32), xB D (tyL cI cJ cZ cG cH) [(rn, .inr (4, [.ref hy, .ref rs, .ref ri, .ref ra, .ref rt, .ref rg, .int 0, .int 0, .int t2, .int 0, .int 0, .int 0, .int 0, .int 0])), (rs, .inl (cI, 8, .inl (fun _ => 0))), (pl, .inr (2, [.ref pn, .ref pt, .int 0, .int 999, .int 0, .int 5]))] A t) A
abbrev rm_passTick0 : Room := { frames := 3, cells := 0, slots := 0, locals := 70 }
set_option maxRecDepth 100000 in
set_option maxHeartbeats 4000000 in
theorem c_passTick0 (l : Launch) (D : va_G) (cI cJ cZ cG cH : ClassId) (sz : Nat) (rn : Nat) (pl : Nat) (hy : Nat) (rs : Nat) (ri : Nat) (ra : Nat) (rt : Nat) (rg : Nat) (tk : Int32) (pn : Nat) (pt : Nat) : Met l yX5_passTick wsX5_passTick rm_passTick0 (xPc [.ref rn, .ref pl] D (tyL cI cJ cZ cG cH) (W_passTick0 cI cJ cZ cG cH rn pl hy rs ri ra rt rg tk pn pt) sz) (Q_passTick0 D cI cJ cZ cG cH rn pl hy rs ri ra rt rg tk pn pt (va_A (W_passTick0 cI cJ cZ cG cH rn pl hy rs ri ra rt rg tk pn pt) sz)) 0 0 (va_A (W_passTick0 cI cJ cZ cG cH rn pl hy rs ri ra rt rg tk pn pt) sz) := by
  refine xMet (cc := cX5_passTick) (maxL := 3) (ret := none) (Qf := Q_passTick0 D cI cJ cZ cG cH rn pl hy rs ri ra rt rg tk pn pt) (by decide) rfl (Nat.le_of_ble_eq_true rfl) ?_
  intro p e s m below meth c ls A hx hb hr hml hts hown hlocks hnm hsz hP hK hD hA hS hl
  have hown : s.vm.findClass RX5 = some m.cls := hown
  have hP : va_P D vwCl [(rn, .inr (4, [.ref hy, .ref rs, .ref ri, .ref ra, .ref rt, .ref rg, .int 0, .int 0, .int tk, .int 0, .int 0, .int 0, .int 0, .int 0])), (rs, .inl (cI, 8, .inl (fun _ => 0))), (pl, .inr (2, [.ref pn, .ref pt, .int 0, .int 999, .int 0, .int 5]))] s.heap := hP
  have hD : va_D A [(rn, .inr (4, [.ref hy, .ref rs, .ref ri, .ref ra, .ref rt, .ref rg, .int 0, .int 0, .int tk, .int 0, .int 0, .int 0, .int 0, .int 0])), (rs, .inl (cI, 8, .inl (fun _ => 0))), (pl, .inr (2, [.ref pn, .ref pt, .int 0, .int 999, .int 0, .int 5]))] := hD
  have hl : lv_has ls 3 [(0, .ref rn), (1, .ref pl)] := hl
  refine lv_aload_n hx hb dX5_passTick_0 rfl (lv_at hl 0 rfl) ?_
  refine lv_aload_n hx hb dX5_passTick_1 rfl (lv_at hl 1 rfl) ?_
  have hPc := hP.sub (ws' := [(rn, .inr (4, [.ref hy, .ref rs, .ref ri, .ref ra, .ref rt, .ref rg, .int 0, .int 0, .int tk, .int 0, .int 0, .int 0, .int 0, .int 0])), (rs, .inl (cI, 8, .inl (fun _ => 0))), (pl, .inr (2, [.ref pn, .ref pt, .int 0, .int 999, .int 0, .int 5]))]) [0, 1, 2] rfl
  have hDc := hD.sub (ws' := [(rn, .inr (4, [.ref hy, .ref rs, .ref ri, .ref ra, .ref rt, .ref rg, .int 0, .int 0, .int tk, .int 0, .int 0, .int 0, .int 0, .int 0])), (rs, .inl (cI, 8, .inl (fun _ => 0))), (pl, .inr (2, [.ref pn, .ref pt, .int 0, .int 999, .int 0, .int 5]))]) [0, 1, 2] (by decide) rfl
  have hFc := va_free (wc := [(rn, .inr (4, [.ref hy, .ref rs, .ref ri, .ref ra, .ref rt, .ref rg, .int 0, .int 0, .int tk, .int 0, .int 0, .int 0, .int 0, .int 0])), (rs, .inl (cI, 8, .inl (fun _ => 0))), (pl, .inr (2, [.ref pn, .ref pt, .int 0, .int 999, .int 0, .int 5]))]) hD hS hA [0, 1, 2] rfl
  refine va_callv (va_runV (As := [.ref pl]) (rest := []) ⟨hx, hb, hml, hown, hts⟩ (c_settle0 l D cI cJ cZ cG cH s.heap.size rn pl hy rs ri ra rt rg tk pn pt) (cwV 1 hts gX5_passTick_X5_settle rfl rfl rfl (by decide +kernel) ⟨Nat.le_of_ble_eq_true rfl, Nat.le_of_ble_eq_true rfl⟩) ⟨xPc_blind, va_recv hK hPc (ci := 4) (q0 := 0) rfl rfl, xPc_pre hPc hK hDc⟩ rfl rfl hl.1 rfl (lv_room (Nat.le_of_ble_eq_true rfl)) dX5_passTick_2 ⟨Nat.le_of_ble_eq_true rfl, Nat.le_of_ble_eq_true rfl⟩) hS (fun q _ h => hFc q h) hFc (fun u t H1 locs ht hvm hw1 hB hz1 hk1 hS => ?_)
  obtain ⟨hP1, hK1, hD1⟩ := hB
  rw [ht] at hP1
  obtain ⟨hP, hD⟩ := va_join (wr := []) (w1 := [(rn, .inr (4, [.ref hy, .ref rs, .ref ri, .ref ra, .ref rt, .ref rg, .int 0, .int 0, .int tk, .int 0, .int 0, .int 0, .int 0, .int 0])), (rs, .inl (cI, 8, .inl (fun _ => 0))), (pl, .inr (2, [.ref pn, .ref pt, .int 0, .int 999, .int 0, .int 5]))]) hP hD [0, 1, 2] [] rfl rfl (by decide) (by decide) hk1 hFc hP1 hD1
  generalize H1 = H at hP hS ⊢
  have hP : va_P D vwCl [(rn, .inr (4, [.ref hy, .ref rs, .ref ri, .ref ra, .ref rt, .ref rg, .int 0, .int 0, .int tk, .int 0, .int 0, .int 0, .int 0, .int 0])), (rs, .inl (cI, 8, .inl (fun _ => 0))), (pl, .inr (2, [.ref pn, .ref pt, .int 0, .int 999, .int 0, .int 5]))] H := hP
  have hD : va_D A [(rn, .inr (4, [.ref hy, .ref rs, .ref ri, .ref ra, .ref rt, .ref rg, .int 0, .int 0, .int tk, .int 0, .int 0, .int 0, .int 0, .int 0])), (rs, .inl (cI, 8, .inl (fun _ => 0))), (pl, .inr (2, [.ref pn, .ref pt, .int 0, .int 999, .int 0, .int 5]))] := hD
  refine lv_aload_n hx hb dX5_passTick_5 rfl (lv_at hl 0 rfl) ?_
  refine lv_aload_n hx hb dX5_passTick_6 rfl (lv_at hl 0 rfl) ?_
  refine lv_aload_n hx hb dX5_passTick_7 rfl (lv_at hl 1 rfl) ?_
  have hPc := hP.sub (ws' := [(rn, .inr (4, [.ref hy, .ref rs, .ref ri, .ref ra, .ref rt, .ref rg, .int 0, .int 0, .int tk, .int 0, .int 0, .int 0, .int 0, .int 0])), (pl, .inr (2, [.ref pn, .ref pt, .int 0, .int 999, .int 0, .int 5]))]) [0, 2] rfl
  have hDc := hD.sub (ws' := [(rn, .inr (4, [.ref hy, .ref rs, .ref ri, .ref ra, .ref rt, .ref rg, .int 0, .int 0, .int tk, .int 0, .int 0, .int 0, .int 0, .int 0])), (pl, .inr (2, [.ref pn, .ref pt, .int 0, .int 999, .int 0, .int 5]))]) [0, 2] (by decide) rfl
  have hFc := va_free (wc := [(rn, .inr (4, [.ref hy, .ref rs, .ref ri, .ref ra, .ref rt, .ref rg, .int 0, .int 0, .int tk, .int 0, .int 0, .int 0, .int 0, .int 0])), (pl, .inr (2, [.ref pn, .ref pt, .int 0, .int 999, .int 0, .int 5]))]) hD hS hA [0, 2] rfl
  refine va_calli (va_runV (As := [.ref pl]) (rest := [.ref rn]) ⟨hx, hb, hml, hown, hts⟩ (c_sumDraw0 l D cI cJ cZ cG cH H.size rn pl hy rs ri ra rt rg tk pn pt) (cwV 1 hts gX5_passTick_X5_sumDraw rfl rfl rfl (by decide +kernel) ⟨Nat.le_of_ble_eq_true rfl, Nat.le_of_ble_eq_true rfl⟩) ⟨xPc_blind, va_recv hK hPc (ci := 4) (q0 := 0) rfl rfl, xPc_pre hPc hK hDc⟩ rfl rfl hl.1 rfl (lv_room (Nat.le_of_ble_eq_true rfl)) dX5_passTick_8 ⟨Nat.le_of_ble_eq_true rfl, Nat.le_of_ble_eq_true rfl⟩) hS (fun q _ h => hFc q h) hFc (fun r2 u t H1 locs ht hvm hw2 hB hz1 hk1 hS => ?_)
  obtain ⟨hP1, hK1, hD1⟩ := hB
  rw [ht] at hP1
  obtain ⟨hP, hD⟩ := va_join (wr := [(rs, .inl (cI, 8, .inl (fun _ => 0)))]) (w1 := [(rn, .inr (4, [.ref hy, .ref rs, .ref ri, .ref ra, .ref rt, .ref rg, .int 0, .int 0, .int tk, .int 0, .int 0, .int 0, .int 0, .int 0])), (pl, .inr (2, [.ref pn, .ref pt, .int 0, .int 999, .int 0, .int 5]))]) hP hD [0, 2] [1] rfl rfl (by decide) (by decide) hk1 hFc hP1 hD1
  generalize H1 = H at hP hS ⊢
  have hP : va_P D vwCl [(rs, .inl (cI, 8, .inl (fun _ => 0))), (rn, .inr (4, [.ref hy, .ref rs, .ref ri, .ref ra, .ref rt, .ref rg, .int 0, .int 0, .int tk, .int 0, .int 0, .int 0, .int 0, .int 0])), (pl, .inr (2, [.ref pn, .ref pt, .int 0, .int 999, .int 0, .int 5]))] H := hP
  have hD : va_D A [(rs, .inl (cI, 8, .inl (fun _ => 0))), (rn, .inr (4, [.ref hy, .ref rs, .ref ri, .ref ra, .ref rt, .ref rg, .int 0, .int 0, .int tk, .int 0, .int 0, .int 0, .int 0, .int 0])), (pl, .inr (2, [.ref pn, .ref pt, .int 0, .int 999, .int 0, .int 5]))] := hD
  obtain rfl : r2 = 0 := hw2
  refine va_put (D := D) (ci := 4) (v := .int 0) (ty := .int) (C := RX5) (T := TX5) (N := 14) hx hb hts in_X5_passTick_X5 tyX5 tyX5_ok nmX5 hown hK hP hD hS 1 rfl rfl 12 (by decide) (hts (.fieldLink RX5 66 "PowerRails$Run" "latestDraw" "I") (by decide +kernel)) (fun _ h9 => h9) rfl (by decide +kernel) rfl rfl (Nat.le_of_ble_eq_true rfl) dX5_passTick_11 (fun H locs hP hD hS => ?_)
  have hP : va_P D vwCl [(rs, .inl (cI, 8, .inl (fun _ => 0))), (rn, .inr (4, [.ref hy, .ref rs, .ref ri, .ref ra, .ref rt, .ref rg, .int 0, .int 0, .int tk, .int 0, .int 0, .int 0, .int 0, .int 0])), (pl, .inr (2, [.ref pn, .ref pt, .int 0, .int 999, .int 0, .int 5]))] H := hP
  have hD : va_D A [(rs, .inl (cI, 8, .inl (fun _ => 0))), (rn, .inr (4, [.ref hy, .ref rs, .ref ri, .ref ra, .ref rt, .ref rg, .int 0, .int 0, .int tk, .int 0, .int 0, .int 0, .int 0, .int 0])), (pl, .inr (2, [.ref pn, .ref pt, .int 0, .int 999, .int 0, .int 5]))] := hD
  refine lv_aload_n hx hb dX5_passTick_14 rfl (lv_at hl 0 rfl) ?_
  refine lv_aload_n hx hb dX5_passTick_15 rfl (lv_at hl 0 rfl) ?_
  refine va_get (D := D) (ci := 4) (v := .int 0) (C := RX5) (T := TX5) (N := 14) hx hb hts in_X5_passTick_X5 hown hK hP 1 rfl rfl 13 (by decide) (hts (.fieldLink RX5 69 "PowerRails$Run" "greatestDraw" "I") (by decide +kernel)) (fun _ h9 => h9) rfl dX5_passTick_16 ?_
  refine lv_aload_n hx hb dX5_passTick_19 rfl (lv_at hl 0 rfl) ?_
  refine va_get (D := D) (ci := 4) (v := .int 0) (C := RX5) (T := TX5) (N := 14) hx hb hts in_X5_passTick_X5 hown hK hP 1 rfl rfl 12 (by decide) (hts (.fieldLink RX5 66 "PowerRails$Run" "latestDraw" "I") (by decide +kernel)) (fun _ h9 => h9) rfl dX5_passTick_20 ?_
  refine va_mmax hx hb (hml.trans hl.1.symm) hown (hts (.methodLink RX5 80 Lib.Math.max.name) (by decide +kernel)) (hts (.static Lib.Math.max.name) (by decide +kernel)) (hts (.initialized "java/lang/Math") (by decide +kernel)) (hts (.code Lib.Math.max.name Lib.Math.max.code 2 (some .int)) (by decide +kernel)) (Nat.le_of_ble_eq_true rfl) (Nat.le_of_ble_eq_true rfl) (Nat.le_of_ble_eq_true rfl) (Nat.le_of_ble_eq_true rfl) dX5_passTick_23 ?_
  refine lv_topi (fun v3 ev3 => ?_)
  obtain rfl : v3 = 0 := ev3.trans (by decide)
  refine va_put (D := D) (ci := 4) (v := .int 0) (ty := .int) (C := RX5) (T := TX5) (N := 14) hx hb hts in_X5_passTick_X5 tyX5 tyX5_ok nmX5 hown hK hP hD hS 1 rfl rfl 13 (by decide) (hts (.fieldLink RX5 69 "PowerRails$Run" "greatestDraw" "I") (by decide +kernel)) (fun _ h9 => h9) rfl (by decide +kernel) rfl rfl (Nat.le_of_ble_eq_true rfl) dX5_passTick_26 (fun H locs hP hD hS => ?_)
  have hP : va_P D vwCl [(rs, .inl (cI, 8, .inl (fun _ => 0))), (rn, .inr (4, [.ref hy, .ref rs, .ref ri, .ref ra, .ref rt, .ref rg, .int 0, .int 0, .int tk, .int 0, .int 0, .int 0, .int 0, .int 0])), (pl, .inr (2, [.ref pn, .ref pt, .int 0, .int 999, .int 0, .int 5]))] H := hP
  have hD : va_D A [(rs, .inl (cI, 8, .inl (fun _ => 0))), (rn, .inr (4, [.ref hy, .ref rs, .ref ri, .ref ra, .ref rt, .ref rg, .int 0, .int 0, .int tk, .int 0, .int 0, .int 0, .int 0, .int 0])), (pl, .inr (2, [.ref pn, .ref pt, .int 0, .int 999, .int 0, .int 5]))] := hD
  refine lv_aload_n hx hb dX5_passTick_29 rfl (lv_at hl 0 rfl) ?_
  refine lv_aload_n hx hb dX5_passTick_30 rfl (lv_at hl 1 rfl) ?_
  have hPc := hP.sub (ws' := [(rn, .inr (4, [.ref hy, .ref rs, .ref ri, .ref ra, .ref rt, .ref rg, .int 0, .int 0, .int tk, .int 0, .int 0, .int 0, .int 0, .int 0])), (pl, .inr (2, [.ref pn, .ref pt, .int 0, .int 999, .int 0, .int 5]))]) [1, 2] rfl
  have hDc := hD.sub (ws' := [(rn, .inr (4, [.ref hy, .ref rs, .ref ri, .ref ra, .ref rt, .ref rg, .int 0, .int 0, .int tk, .int 0, .int 0, .int 0, .int 0, .int 0])), (pl, .inr (2, [.ref pn, .ref pt, .int 0, .int 999, .int 0, .int 5]))]) [1, 2] (by decide) rfl
  have hFc := va_free (wc := [(rn, .inr (4, [.ref hy, .ref rs, .ref ri, .ref ra, .ref rt, .ref rg, .int 0, .int 0, .int tk, .int 0, .int 0, .int 0, .int 0, .int 0])), (pl, .inr (2, [.ref pn, .ref pt, .int 0, .int 999, .int 0, .int 5]))]) hD hS hA [1, 2] rfl
  refine va_calli (va_runV (As := [.ref pl]) (rest := []) ⟨hx, hb, hml, hown, hts⟩ (c_whyTrip0 l D cI cJ cZ cG cH H.size rn pl hy rs ri ra rt rg tk pn pt) (cwV 1 hts gX5_passTick_X5_whyTrip rfl rfl rfl (by decide +kernel) ⟨Nat.le_of_ble_eq_true rfl, Nat.le_of_ble_eq_true rfl⟩) ⟨xPc_blind, va_recv hK hPc (ci := 4) (q0 := 0) rfl rfl, xPc_pre hPc hK hDc⟩ rfl rfl hl.1 rfl (lv_room (Nat.le_of_ble_eq_true rfl)) dX5_passTick_31 ⟨Nat.le_of_ble_eq_true rfl, Nat.le_of_ble_eq_true rfl⟩) hS (fun q _ h => hFc q h) hFc (fun r4 u t H1 locs ht hvm hw4 hB hz1 hk1 hS => ?_)
  obtain ⟨hP1, hK1, hD1⟩ := hB
  rw [ht] at hP1
  obtain ⟨hP, hD⟩ := va_join (wr := [(rs, .inl (cI, 8, .inl (fun _ => 0)))]) (w1 := [(rn, .inr (4, [.ref hy, .ref rs, .ref ri, .ref ra, .ref rt, .ref rg, .int 0, .int 0, .int tk, .int 0, .int 0, .int 0, .int 0, .int 0])), (pl, .inr (2, [.ref pn, .ref pt, .int 0, .int 999, .int 0, .int 5]))]) hP hD [1, 2] [0] rfl rfl (by decide) (by decide) hk1 hFc hP1 hD1
  generalize H1 = H at hP hS ⊢
  have hP : va_P D vwCl [(rs, .inl (cI, 8, .inl (fun _ => 0))), (rn, .inr (4, [.ref hy, .ref rs, .ref ri, .ref ra, .ref rt, .ref rg, .int 0, .int 0, .int tk, .int 0, .int 0, .int 0, .int 0, .int 0])), (pl, .inr (2, [.ref pn, .ref pt, .int 0, .int 999, .int 0, .int 5]))] H := hP
  have hD : va_D A [(rs, .inl (cI, 8, .inl (fun _ => 0))), (rn, .inr (4, [.ref hy, .ref rs, .ref ri, .ref ra, .ref rt, .ref rg, .int 0, .int 0, .int tk, .int 0, .int 0, .int 0, .int 0, .int 0])), (pl, .inr (2, [.ref pn, .ref pt, .int 0, .int 999, .int 0, .int 5]))] := hD
  obtain rfl : r4 = 0 := hw4
  refine lv_istore_n (lv' := [(2, .int 0), (0, .ref rn), (1, .ref pl)]) hx hb dX5_passTick_34 rfl hl (by decide) rfl (fun ls hl => ?_)
  refine lv_iload_n hx hb dX5_passTick_35 rfl (lv_at hl 0 rfl) ?_
  refine lv_if_eq (tgt := 50) hx hb dX5_passTick_36 (by decide) (fun _ => ?_) (fun c9 => absurd c9 (by decide))
  refine lv_aload_n hx hb dX5_passTick_50 rfl (lv_at hl 1 rfl) ?_
  refine lv_aload_n hx hb dX5_passTick_51 rfl (lv_at hl 2 rfl) ?_
  have hPc := hP.sub (ws' := [(rn, .inr (4, [.ref hy, .ref rs, .ref ri, .ref ra, .ref rt, .ref rg, .int 0, .int 0, .int tk, .int 0, .int 0, .int 0, .int 0, .int 0])), (pl, .inr (2, [.ref pn, .ref pt, .int 0, .int 999, .int 0, .int 5]))]) [1, 2] rfl
  have hDc := hD.sub (ws' := [(rn, .inr (4, [.ref hy, .ref rs, .ref ri, .ref ra, .ref rt, .ref rg, .int 0, .int 0, .int tk, .int 0, .int 0, .int 0, .int 0, .int 0])), (pl, .inr (2, [.ref pn, .ref pt, .int 0, .int 999, .int 0, .int 5]))]) [1, 2] (by decide) rfl
  have hFc := va_free (wc := [(rn, .inr (4, [.ref hy, .ref rs, .ref ri, .ref ra, .ref rt, .ref rg, .int 0, .int 0, .int tk, .int 0, .int 0, .int 0, .int 0, .int 0])), (pl, .inr (2, [.ref pn, .ref pt, .int 0, .int 999, .int 0, .int 5]))]) hD hS hA [1, 2] rfl
  refine va_callv (va_runV (As := [.ref pl]) (rest := []) ⟨hx, hb, hml, hown, hts⟩ (c_growOlder0 l D cI cJ cZ cG cH H.size rn pl hy rs ri ra rt rg tk pn pt) (cwV 1 hts gX5_passTick_X5_growOlder rfl rfl rfl (by decide +kernel) ⟨Nat.le_of_ble_eq_true rfl, Nat.le_of_ble_eq_true rfl⟩) ⟨xPc_blind, va_recv hK hPc (ci := 4) (q0 := 0) rfl rfl, xPc_pre hPc hK hDc⟩ rfl rfl hl.1 rfl (lv_room (Nat.le_of_ble_eq_true rfl)) dX5_passTick_52 ⟨Nat.le_of_ble_eq_true rfl, Nat.le_of_ble_eq_true rfl⟩) hS (fun q _ h => hFc q h) hFc (fun u t H1 locs ht hvm hw5 hB hz1 hk1 hS => ?_)
  obtain ⟨t_6, hP1, hK1, hD1⟩ := hB
  rw [ht] at hP1
  obtain ⟨hP, hD⟩ := va_join (wr := [(rs, .inl (cI, 8, .inl (fun _ => 0)))]) (w1 := [(rn, .inr (4, [.ref hy, .ref rs, .ref ri, .ref ra, .ref rt, .ref rg, .int 0, .int 0, .int t_6, .int 0, .int 0, .int 0, .int 0, .int 0])), (pl, .inr (2, [.ref pn, .ref pt, .int 0, .int 999, .int 0, .int 5]))]) hP hD [1, 2] [0] rfl rfl (by decide) (by decide) hk1 hFc hP1 hD1
  generalize H1 = H at hP hS ⊢
  have hP : va_P D vwCl [(rs, .inl (cI, 8, .inl (fun _ => 0))), (rn, .inr (4, [.ref hy, .ref rs, .ref ri, .ref ra, .ref rt, .ref rg, .int 0, .int 0, .int t_6, .int 0, .int 0, .int 0, .int 0, .int 0])), (pl, .inr (2, [.ref pn, .ref pt, .int 0, .int 999, .int 0, .int 5]))] H := hP
  have hD : va_D A [(rs, .inl (cI, 8, .inl (fun _ => 0))), (rn, .inr (4, [.ref hy, .ref rs, .ref ri, .ref ra, .ref rt, .ref rg, .int 0, .int 0, .int t_6, .int 0, .int 0, .int 0, .int 0, .int 0])), (pl, .inr (2, [.ref pn, .ref pt, .int 0, .int 999, .int 0, .int 5]))] := hD
  refine W.widen (k := 0) (n := 0) (by decide) (by decide) ?_
  have hP9 := hP.sub (ws' := [(rn, .inr (4, [.ref hy, .ref rs, .ref ri, .ref ra, .ref rt, .ref rg, .int 0, .int 0, .int t_6, .int 0, .int 0, .int 0, .int 0, .int 0])), (rs, .inl (cI, 8, .inl (fun _ => 0))), (pl, .inr (2, [.ref pn, .ref pt, .int 0, .int 999, .int 0, .int 5]))]) [1, 0, 2] rfl
  have hD9 := hD.sub (ws' := [(rn, .inr (4, [.ref hy, .ref rs, .ref ri, .ref ra, .ref rt, .ref rg, .int 0, .int 0, .int t_6, .int 0, .int 0, .int 0, .int 0, .int 0])), (rs, .inl (cI, 8, .inl (fun _ => 0))), (pl, .inr (2, [.ref pn, .ref pt, .int 0, .int 999, .int 0, .int 5]))]) [1, 0, 2] (by decide) rfl
  exact W.vret hx hb hr (fun t ht hW => ⟨⟨(), rfl, trivial, ⟨t_6, xB_of ht hW hP9 hK hD9⟩⟩, hS.F ht⟩) hS.2.2 dX5_passTick_55
theorem in_X5_turnKey_X5 : ∀ w ∈ wsX50, w ∈ wsX5_turnKey := by decide +kernel
theorem in_X5_turnKey_X3 : ∀ w ∈ wsX30, w ∈ wsX5_turnKey := by decide +kernel
abbrev W_turnKey0 (cI cJ cZ cG cH : ClassId) (rn : Nat) (pl : Nat) (p0 : Int32) (hy : Nat) (rs : Nat) (ri : Nat) (ra : Nat) (rt : Nat) (rg : Nat) (pn : Nat) (pt : Nat) : va_W := [(rn, .inr (4, [.ref hy, .ref rs, .ref ri, .ref ra, .ref rt, .ref rg, .int 0, .int 0, .int 0, .int 0, .int 0, .int 0, .int 0, .int 0])), (pl, .inr (2, [.ref pn, .ref pt, .int 0, .int 999, .int 0, .int 5]))]
abbrev Q_turnKey0 (D : va_G) (cI cJ cZ cG cH : ClassId) (rn : Nat) (pl : Nat) (p0 : Int32) (hy : Nat) (rs : Nat) (ri : Nat) (ra : Nat) (rt : Nat) (rg : Nat) (pn : Nat) (pt : Nat) (A : Nat → Prop) : Array Value → State → Outcome → State → Prop := va_Qv (fun (_ : Unit) => True) (fun _ t => True) A
abbrev rm_turnKey0 : Room := { frames := 0, cells := 0, slots := 0, locals := 0 }
set_option maxRecDepth 100000 in
set_option maxHeartbeats 4000000 in
theorem c_turnKey0 (l : Launch) (D : va_G) (cI cJ cZ cG cH : ClassId) (sz : Nat) (rn : Nat) (pl : Nat) (p0 : Int32) (hy : Nat) (rs : Nat) (ri : Nat) (ra : Nat) (rt : Nat) (rg : Nat) (pn : Nat) (pt : Nat) (hbz0 : narrow .boolean (.int p0) = .int p0) (hbz1 : fits .boolean (.int p0) = true) : Met l yX5_turnKey wsX5_turnKey rm_turnKey0 (xPc [.ref rn, .ref pl, .int p0] D (tyL cI cJ cZ cG cH) (W_turnKey0 cI cJ cZ cG cH rn pl p0 hy rs ri ra rt rg pn pt) sz) (Q_turnKey0 D cI cJ cZ cG cH rn pl p0 hy rs ri ra rt rg pn pt (va_A (W_turnKey0 cI cJ cZ cG cH rn pl p0 hy rs ri ra rt rg pn pt) sz)) 0 0 (va_A (W_turnKey0 cI cJ cZ cG cH rn pl p0 hy rs ri ra rt rg pn pt) sz) := by
  refine xMet (cc := cX5_turnKey) (maxL := 3) (ret := none) (Qf := Q_turnKey0 D cI cJ cZ cG cH rn pl p0 hy rs ri ra rt rg pn pt) (by decide) rfl (Nat.le_of_ble_eq_true rfl) ?_
  intro p e s m below meth c ls A hx hb hr hml hts hown hlocks hnm hsz hP hK hD hA hS hl
  have hown : s.vm.findClass RX5 = some m.cls := hown
  have hP : va_P D vwCl [(rn, .inr (4, [.ref hy, .ref rs, .ref ri, .ref ra, .ref rt, .ref rg, .int 0, .int 0, .int 0, .int 0, .int 0, .int 0, .int 0, .int 0])), (pl, .inr (2, [.ref pn, .ref pt, .int 0, .int 999, .int 0, .int 5]))] s.heap := hP
  have hD : va_D A [(rn, .inr (4, [.ref hy, .ref rs, .ref ri, .ref ra, .ref rt, .ref rg, .int 0, .int 0, .int 0, .int 0, .int 0, .int 0, .int 0, .int 0])), (pl, .inr (2, [.ref pn, .ref pt, .int 0, .int 999, .int 0, .int 5]))] := hD
  have hl : lv_has ls 3 [(0, .ref rn), (1, .ref pl), (2, .int p0)] := hl
  refine lv_aload_n hx hb dX5_turnKey_0 rfl (lv_at hl 0 rfl) ?_
  refine lv_iload_n hx hb dX5_turnKey_1 rfl (lv_at hl 2 rfl) ?_
  refine va_put (D := D) (ci := 4) (v := .int p0) (ty := .boolean) (C := RX5) (T := TX5) (N := 14) hx hb hts in_X5_turnKey_X5 tyX5 tyX5_ok nmX5 hown hK hP hD hS 0 rfl rfl 7 (by decide) (hts (.fieldLink RX5 38 "PowerRails$Run" "key" "Z") (by decide +kernel)) (fun _ h9 => h9) rfl (by decide +kernel) (by first | assumption | rfl) (by first | assumption | rfl) (Nat.le_of_ble_eq_true rfl) dX5_turnKey_2 (fun H locs hP hD hS => ?_)
  have hP : va_P D vwCl [(rn, .inr (4, [.ref hy, .ref rs, .ref ri, .ref ra, .ref rt, .ref rg, .int 0, .int p0, .int 0, .int 0, .int 0, .int 0, .int 0, .int 0])), (pl, .inr (2, [.ref pn, .ref pt, .int 0, .int 999, .int 0, .int 5]))] H := hP
  have hD : va_D A [(rn, .inr (4, [.ref hy, .ref rs, .ref ri, .ref ra, .ref rt, .ref rg, .int 0, .int p0, .int 0, .int 0, .int 0, .int 0, .int 0, .int 0])), (pl, .inr (2, [.ref pn, .ref pt, .int 0, .int 999, .int 0, .int 5]))] := hD
  refine lv_iload_n hx hb dX5_turnKey_5 rfl (lv_at hl 2 rfl) ?_
  refine lv_if_ne (tgt := 31) hx hb dX5_turnKey_6 (by decide) (fun c_1 => ?_) (fun c_1 => ?_)
  · skip
    have i_1 : ¬ (p0.toInt = 0) := fun h9 => c_1 ((ieq rfl (by decide)).mpr h9)
    refine W.widen (k := 0) (n := 0) (by decide) (by decide) ?_
    exact W.vret hx hb hr (fun t ht hW => ⟨⟨(), rfl, trivial, trivial⟩, hS.F ht⟩) hS.2.2 dX5_turnKey_31
  · skip
    have i_1 : p0.toInt = 0 := (ieq rfl (by decide)).mp c_1
    refine lv_aload_n hx hb dX5_turnKey_9 rfl (lv_at hl 0 rfl) ?_
    refine lv_aload_n hx hb dX5_turnKey_10 rfl (lv_at hl 1 rfl) ?_
    refine va_get (D := D) (ci := 2) (v := .int 0) (C := RX3) (T := TX3) (N := 6) hx hb hts in_X5_turnKey_X3 hown hK hP 1 rfl rfl 4 (by decide) (hts (.fieldLink RX5 57 "PowerRails$Plan" "retry" "I") (by decide +kernel)) (fun _ h9 => h9) rfl dX5_turnKey_11 ?_
    refine va_put (D := D) (ci := 4) (v := .int 0) (ty := .int) (C := RX5) (T := TX5) (N := 14) hx hb hts in_X5_turnKey_X5 tyX5 tyX5_ok nmX5 hown hK hP hD hS 0 rfl rfl 10 (by decide) (hts (.fieldLink RX5 60 "PowerRails$Run" "tries" "I") (by decide +kernel)) (fun _ h9 => h9) rfl (by decide +kernel) rfl rfl (Nat.le_of_ble_eq_true rfl) dX5_turnKey_14 (fun H locs hP hD hS => ?_)
    have hP : va_P D vwCl [(rn, .inr (4, [.ref hy, .ref rs, .ref ri, .ref ra, .ref rt, .ref rg, .int 0, .int p0, .int 0, .int 0, .int 0, .int 0, .int 0, .int 0])), (pl, .inr (2, [.ref pn, .ref pt, .int 0, .int 999, .int 0, .int 5]))] H := hP
    have hD : va_D A [(rn, .inr (4, [.ref hy, .ref rs, .ref ri, .ref ra, .ref rt, .ref rg, .int 0, .int p0, .int 0, .int 0, .int 0, .int 0, .int 0, .int 0])), (pl, .inr (2, [.ref pn, .ref pt, .int 0, .int 999, .int 0, .int 5]))] := hD
    refine lv_aload_n hx hb dX5_turnKey_17 rfl (lv_at hl 0 rfl) ?_
    refine va_get (D := D) (ci := 4) (v := .int 0) (C := RX5) (T := TX5) (N := 14) hx hb hts in_X5_turnKey_X5 hown hK hP 0 rfl rfl 9 (by decide) (hts (.fieldLink RX5 54 "PowerRails$Run" "held" "I") (by decide +kernel)) (fun _ h9 => h9) rfl dX5_turnKey_18 ?_
    refine lv_bipush (v := (-4)) hx hb dX5_turnKey_21 (by decide) ?_
    refine lv_icmp_ne (tgt := 31) hx hb dX5_turnKey_23 (by decide) (fun _ => ?_) (fun c9 => absurd c9 (by decide))
    refine W.widen (k := 0) (n := 0) (by decide) (by decide) ?_
    exact W.vret hx hb hr (fun t ht hW => ⟨⟨(), rfl, trivial, trivial⟩, hS.F ht⟩) hS.2.2 dX5_turnKey_31
theorem in_X3_number_X3 : ∀ w ∈ wsX30, w ∈ wsX3_number := by decide +kernel
abbrev W_number0 (cI cJ cZ cG cH : ClassId) (pl : Nat) (i : Nat) (pn : Nat) (pt : Nat) : va_W := [(pl, .inr (2, [.ref pn, .ref pt, .int 0, .int 999, .int 0, .int 5])), (pn, .inl (cI, 64, .inl (fun _ => 0)))]
abbrev Q_number0 (D : va_G) (cI cJ cZ cG cH : ClassId) (pl : Nat) (i : Nat) (pn : Nat) (pt : Nat) (A : Nat → Prop) : Array Value → State → Outcome → State → Prop := va_Qi (fun (r : Int32) (_ : Unit) => r = 0) (fun _ t => xB D (tyL cI cJ cZ cG cH) [(pl, .inr (2, [.ref pn, .ref pt, .int 0, .int 999, .int 0, .int 5])), (pn, .inl (cI, 64, .inl (fun _ => 0)))] A t) A
abbrev rm_number0 : Room := { frames := 0, cells := 0, slots := 0, locals := 0 }
set_option maxRecDepth 100000 in
set_option maxHeartbeats 4000000 in
theorem c_number0 (l : Launch) (D : va_G) (cI cJ cZ cG cH : ClassId) (sz : Nat) (pl : Nat) (i : Nat) (pn : Nat) (pt : Nat) (hi8 : i < 8) : Met l yX3_number wsX3_number rm_number0 (xPc [.ref pl, .int (nI i), .int 0] D (tyL cI cJ cZ cG cH) (W_number0 cI cJ cZ cG cH pl i pn pt) sz) (Q_number0 D cI cJ cZ cG cH pl i pn pt (va_A (W_number0 cI cJ cZ cG cH pl i pn pt) sz)) 0 0 (va_A (W_number0 cI cJ cZ cG cH pl i pn pt) sz) := by
  refine xMet (cc := cX3_number) (maxL := 3) (ret := (some .int)) (Qf := Q_number0 D cI cJ cZ cG cH pl i pn pt) (by decide) rfl (Nat.le_of_ble_eq_true rfl) ?_
  intro p e s m below meth c ls A hx hb hr hml hts hown hlocks hnm hsz hP hK hD hA hS hl
  have hown : s.vm.findClass RX3 = some m.cls := hown
  have hP : va_P D vwCl [(pl, .inr (2, [.ref pn, .ref pt, .int 0, .int 999, .int 0, .int 5])), (pn, .inl (cI, 64, .inl (fun _ => 0)))] s.heap := hP
  have hD : va_D A [(pl, .inr (2, [.ref pn, .ref pt, .int 0, .int 999, .int 0, .int 5])), (pn, .inl (cI, 64, .inl (fun _ => 0)))] := hD
  have hl : lv_has ls 3 [(0, .ref pl), (1, .int (nI i)), (2, .int 0)] := hl
  refine lv_aload_n hx hb dX3_number_0 rfl (lv_at hl 0 rfl) ?_
  refine va_get (D := D) (ci := 2) (v := .ref pn) (C := RX3) (T := TX3) (N := 6) hx hb hts in_X3_number_X3 hown hK hP 0 rfl rfl 0 (by decide) (hts (.fieldLink RX3 11 "PowerRails$Plan" "numbers" "[I") (by decide +kernel)) (fun _ h9 => h9) rfl dX3_number_1 ?_
  refine lv_iload_n hx hb dX3_number_4 rfl (lv_at hl 1 rfl) ?_
  refine lv_bipush (v := 8) hx hb dX3_number_5 (by decide) ?_
  refine lv_imul hx hb dX3_number_7 ?_
  refine lv_topi (fun v1 ev1 => ?_)
  obtain rfl : v1 = (nI (i * 8)) := ev1.trans (pk_mul i 8)
  refine lv_iload_n hx hb dX3_number_8 rfl (lv_at hl 2 rfl) ?_
  refine lv_iadd hx hb dX3_number_9 ?_
  refine lv_topi (fun v2 ev2 => ?_)
  obtain rfl : v2 = (nI (i * 8 + 0)) := ev2.trans (nI_add (i * 8) 0)
  refine va_iald hx hb hK hP 1 0 rfl rfl (vp_in_nI (by omega) (by omega)) dX3_number_10 ?_
  refine lv_topi (fun v3 ev3 => ?_)
  obtain rfl : v3 = 0 := ev3
  refine W.widen (k := 0) (n := 0) (by decide) (by decide) ?_
  have hP9 := hP.sub (ws' := [(pl, .inr (2, [.ref pn, .ref pt, .int 0, .int 999, .int 0, .int 5])), (pn, .inl (cI, 64, .inl (fun _ => 0)))]) [0, 1] rfl
  have hD9 := hD.sub (ws' := [(pl, .inr (2, [.ref pn, .ref pt, .int 0, .int 999, .int 0, .int 5])), (pn, .inl (cI, 64, .inl (fun _ => 0)))]) [0, 1] (by decide) rfl
  exact W.iret (v := 0) hx hb hr (fun t ht hW => ⟨⟨0, (), rfl, rfl, xB_of ht hW hP9 hK hD9⟩, hS.F ht⟩) hS.2.2 dX3_number_11
theorem in_X5_reset_X5 : ∀ w ∈ wsX50, w ∈ wsX5_reset := by decide +kernel
theorem in_X5_reset_X2 : ∀ w ∈ wsX20, w ∈ wsX5_reset := by decide +kernel
theorem in_X5_reset_X3 : ∀ w ∈ wsX30, w ∈ wsX5_reset := by decide +kernel
abbrev W_Run_reset (cI cJ cZ cG cH : ClassId) (rn : Nat) (pl : Nat) (hy : Nat) (rs : Nat) (ri : Nat) (ra : Nat) (rt : Nat) (rg : Nat) (ya : Nat) (yb : Nat) (yc : Nat) (pn : Nat) (pt : Nat) : va_W := [(rn, .inr (4, [.ref hy, .ref rs, .ref ri, .ref ra, .ref rt, .ref rg, .int 0, .int 0, .int 0, .int 0, .int 0, .int 0, .int 0, .int 0])), (rs, .inl (cI, 8, .inl (fun _ => 0))), (ri, .inl (cI, 8, .inl (fun _ => 0))), (ra, .inl (cI, 8, .inl (fun _ => 0))), (rt, .inl (cI, 8, .inl (fun _ => 0))), (rg, .inl (cI, 8, .inl (fun _ => 0))), (hy, .inr (1, [.ref ya, .ref yb, .ref yc, .int 0])), (pl, .inr (2, [.ref pn, .ref pt, .int 0, .int 999, .int 0, .int 5])), (pn, .inl (cI, 64, .inl (fun _ => 0)))]
abbrev Q_Run_reset (D : va_G) (cI cJ cZ cG cH : ClassId) (rn : Nat) (pl : Nat) (hy : Nat) (rs : Nat) (ri : Nat) (ra : Nat) (rt : Nat) (rg : Nat) (ya : Nat) (yb : Nat) (yc : Nat) (pn : Nat) (pt : Nat) (A : Nat → Prop) : Array Value → State → Outcome → State → Prop := va_Qv (fun (_ : Unit) => True) (fun _ t => True) A
abbrev rm_Run_reset : Room := { frames := 1, cells := 0, slots := 0, locals := 22 }
set_option maxRecDepth 100000 in
set_option maxHeartbeats 4000000 in
theorem c_Run_reset (l : Launch) (D : va_G) (cI cJ cZ cG cH : ClassId) (sz : Nat) (rn : Nat) (pl : Nat) (hy : Nat) (rs : Nat) (ri : Nat) (ra : Nat) (rt : Nat) (rg : Nat) (ya : Nat) (yb : Nat) (yc : Nat) (pn : Nat) (pt : Nat) : Met l yX5_reset wsX5_reset rm_Run_reset (xPc [.ref rn, .ref pl] D (tyL cI cJ cZ cG cH) (W_Run_reset cI cJ cZ cG cH rn pl hy rs ri ra rt rg ya yb yc pn pt) sz) (Q_Run_reset D cI cJ cZ cG cH rn pl hy rs ri ra rt rg ya yb yc pn pt (va_A (W_Run_reset cI cJ cZ cG cH rn pl hy rs ri ra rt rg ya yb yc pn pt) sz)) 0 0 (va_A (W_Run_reset cI cJ cZ cG cH rn pl hy rs ri ra rt rg ya yb yc pn pt) sz) := by
  refine xMet (cc := cX5_reset) (maxL := 3) (ret := none) (Qf := Q_Run_reset D cI cJ cZ cG cH rn pl hy rs ri ra rt rg ya yb yc pn pt) (by decide) rfl (Nat.le_of_ble_eq_true rfl) ?_
  intro p e s m below meth c ls A hx hb hr hml hts hown hlocks hnm hsz hP hK hD hA hS hl
  have hown : s.vm.findClass RX5 = some m.cls := hown
  have hP : va_P D vwCl [(rn, .inr (4, [.ref hy, .ref rs, .ref ri, .ref ra, .ref rt, .ref rg, .int 0, .int 0, .int 0, .int 0, .int 0, .int 0, .int 0, .int 0])), (rs, .inl (cI, 8, .inl (fun _ => 0))), (ri, .inl (cI, 8, .inl (fun _ => 0))), (ra, .inl (cI, 8, .inl (fun _ => 0))), (rt, .inl (cI, 8, .inl (fun _ => 0))), (rg, .inl (cI, 8, .inl (fun _ => 0))), (hy, .inr (1, [.ref ya, .ref yb, .ref yc, .int 0])), (pl, .inr (2, [.ref pn, .ref pt, .int 0, .int 999, .int 0, .int 5])), (pn, .inl (cI, 64, .inl (fun _ => 0)))] s.heap := hP
  have hD : va_D A [(rn, .inr (4, [.ref hy, .ref rs, .ref ri, .ref ra, .ref rt, .ref rg, .int 0, .int 0, .int 0, .int 0, .int 0, .int 0, .int 0, .int 0])), (rs, .inl (cI, 8, .inl (fun _ => 0))), (ri, .inl (cI, 8, .inl (fun _ => 0))), (ra, .inl (cI, 8, .inl (fun _ => 0))), (rt, .inl (cI, 8, .inl (fun _ => 0))), (rg, .inl (cI, 8, .inl (fun _ => 0))), (hy, .inr (1, [.ref ya, .ref yb, .ref yc, .int 0])), (pl, .inr (2, [.ref pn, .ref pt, .int 0, .int 999, .int 0, .int 5])), (pn, .inl (cI, 64, .inl (fun _ => 0)))] := hD
  have hl : lv_has ls 3 [(0, .ref rn), (1, .ref pl)] := hl
  refine lv_aload_n hx hb dX5_reset_0 rfl (lv_at hl 0 rfl) ?_
  refine va_get (D := D) (ci := 4) (v := .ref hy) (C := RX5) (T := TX5) (N := 14) hx hb hts in_X5_reset_X5 hown hK hP 0 rfl rfl 0 (by decide) (hts (.fieldLink RX5 12 "PowerRails$Run" "history" "LPowerRails$History;") (by decide +kernel)) (fun _ h9 => h9) rfl dX5_reset_1 ?_
  refine lv_iconst (v := 0) hx hb dX5_reset_4 (by decide) ?_
  refine va_put (D := D) (ci := 1) (v := .int 0) (ty := .int) (C := RX2) (T := TX2) (N := 4) hx hb hts in_X5_reset_X2 tyX2 tyX2_ok nmX2 hown hK hP hD hS 6 rfl rfl 3 (by decide) (hts (.fieldLink RX5 42 "PowerRails$History" "size" "I") (by decide +kernel)) (fun _ h9 => h9) rfl (by decide +kernel) rfl rfl (Nat.le_of_ble_eq_true rfl) dX5_reset_5 (fun H locs hP hD hS => ?_)
  have hP : va_P D vwCl [(rn, .inr (4, [.ref hy, .ref rs, .ref ri, .ref ra, .ref rt, .ref rg, .int 0, .int 0, .int 0, .int 0, .int 0, .int 0, .int 0, .int 0])), (rs, .inl (cI, 8, .inl (fun _ => 0))), (ri, .inl (cI, 8, .inl (fun _ => 0))), (ra, .inl (cI, 8, .inl (fun _ => 0))), (rt, .inl (cI, 8, .inl (fun _ => 0))), (rg, .inl (cI, 8, .inl (fun _ => 0))), (hy, .inr (1, [.ref ya, .ref yb, .ref yc, .int 0])), (pl, .inr (2, [.ref pn, .ref pt, .int 0, .int 999, .int 0, .int 5])), (pn, .inl (cI, 64, .inl (fun _ => 0)))] H := hP
  have hD : va_D A [(rn, .inr (4, [.ref hy, .ref rs, .ref ri, .ref ra, .ref rt, .ref rg, .int 0, .int 0, .int 0, .int 0, .int 0, .int 0, .int 0, .int 0])), (rs, .inl (cI, 8, .inl (fun _ => 0))), (ri, .inl (cI, 8, .inl (fun _ => 0))), (ra, .inl (cI, 8, .inl (fun _ => 0))), (rt, .inl (cI, 8, .inl (fun _ => 0))), (rg, .inl (cI, 8, .inl (fun _ => 0))), (hy, .inr (1, [.ref ya, .ref yb, .ref yc, .int 0])), (pl, .inr (2, [.ref pn, .ref pt, .int 0, .int 999, .int 0, .int 5])), (pn, .inl (cI, 64, .inl (fun _ => 0)))] := hD
  refine lv_iconst (v := 0) hx hb dX5_reset_8 (by decide) ?_
  refine lv_istore_n (lv' := [(2, .int 0), (0, .ref rn), (1, .ref pl)]) hx hb dX5_reset_9 rfl hl (by decide) rfl (fun ls hl => ?_)
  have hl10 : ∀ (n10 : Nat) (i : Nat) (g1 : Nat → Int32) (g2 : Nat → Int32) (g3 : Nat → Int32) (g4 : Nat → Int32) (g5 : Nat → Int32), (8 - i < n10) → (hi : i ≤ 8) → ∀ (H : Heap) (locs : List Loc), va_P D vwCl [(rn, .inr (4, [.ref hy, .ref rs, .ref ri, .ref ra, .ref rt, .ref rg, .int 0, .int 0, .int 0, .int 0, .int 0, .int 0, .int 0, .int 0])), (rs, .inl (cI, 8, .inl g1)), (ri, .inl (cI, 8, .inl g2)), (ra, .inl (cI, 8, .inl g3)), (rt, .inl (cI, 8, .inl g4)), (rg, .inl (cI, 8, .inl g5)), (hy, .inr (1, [.ref ya, .ref yb, .ref yc, .int 0])), (pl, .inr (2, [.ref pn, .ref pt, .int 0, .int 999, .int 0, .int 5])), (pn, .inl (cI, 64, .inl (fun _ => 0)))] H → va_D A [(rn, .inr (4, [.ref hy, .ref rs, .ref ri, .ref ra, .ref rt, .ref rg, .int 0, .int 0, .int 0, .int 0, .int 0, .int 0, .int 0, .int 0])), (rs, .inl (cI, 8, .inl g1)), (ri, .inl (cI, 8, .inl g2)), (ra, .inl (cI, 8, .inl g3)), (rt, .inl (cI, 8, .inl g4)), (rg, .inl (cI, 8, .inl g5)), (hy, .inr (1, [.ref ya, .ref yb, .ref yc, .int 0])), (pl, .inr (2, [.ref pn, .ref pt, .int 0, .int 999, .int 0, .int 5])), (pn, .inl (cI, 64, .inl (fun _ => 0)))] → va_S A s.heap H locs → ∀ (ls : Array Slot), lv_has ls 3 [(2, .int (nI i)), (0, .ref rn), (1, .ref pl)] → W p l e rm_Run_reset s m [Value.ref rn, Value.ref pl].toArray below meth c H locs 0 0 (MQ below ((Q_Run_reset D cI cJ cZ cG cH rn pl hy rs ri ra rt rg ya yb yc pn pt) A) [Value.ref rn, Value.ref pl].toArray s 0 0 A) (F0 m 10 ls []) := by
    intro n10
    induction n10 with
    | zero =>
      intro i g1 g2 g3 g4 g5 hm10
      exact absurd hm10 (Nat.not_lt_zero _)
    | succ n10 ih10 =>
      intro i g1 g2 g3 g4 g5 hm10 hi H locs hP hD hS ls hl
      refine lv_iload_n hx hb dX5_reset_10 rfl (lv_at hl 0 rfl) ?_
      refine lv_bipush (v := 8) hx hb dX5_reset_11 (by decide) ?_
      refine lv_icmp_ge (tgt := 62) hx hb dX5_reset_13 (by decide) (fun c_1 => ?_) (fun c_1 => ?_)
      · skip
        have i_1 : 8 ≤ ((i : Nat) : Int) := (ile (by decide) (nI_toInt (by omega))).mp c_1
        refine lv_aload_n hx hb dX5_reset_62 rfl (lv_at hl 1 rfl) ?_
        refine lv_iconst (v := 0) hx hb dX5_reset_63 (by decide) ?_
        refine va_put (D := D) (ci := 4) (v := .int 0) (ty := .int) (C := RX5) (T := TX5) (N := 14) hx hb hts in_X5_reset_X5 tyX5 tyX5_ok nmX5 hown hK hP hD hS 0 rfl rfl 6 (by decide) (hts (.fieldLink RX5 34 "PowerRails$Run" "dead" "I") (by decide +kernel)) (fun _ h9 => h9) rfl (by decide +kernel) rfl rfl (Nat.le_of_ble_eq_true rfl) dX5_reset_64 (fun H locs hP hD hS => ?_)
        have hP : va_P D vwCl [(rn, .inr (4, [.ref hy, .ref rs, .ref ri, .ref ra, .ref rt, .ref rg, .int 0, .int 0, .int 0, .int 0, .int 0, .int 0, .int 0, .int 0])), (rs, .inl (cI, 8, .inl g1)), (ri, .inl (cI, 8, .inl g2)), (ra, .inl (cI, 8, .inl g3)), (rt, .inl (cI, 8, .inl g4)), (rg, .inl (cI, 8, .inl g5)), (hy, .inr (1, [.ref ya, .ref yb, .ref yc, .int 0])), (pl, .inr (2, [.ref pn, .ref pt, .int 0, .int 999, .int 0, .int 5])), (pn, .inl (cI, 64, .inl (fun _ => 0)))] H := hP
        have hD : va_D A [(rn, .inr (4, [.ref hy, .ref rs, .ref ri, .ref ra, .ref rt, .ref rg, .int 0, .int 0, .int 0, .int 0, .int 0, .int 0, .int 0, .int 0])), (rs, .inl (cI, 8, .inl g1)), (ri, .inl (cI, 8, .inl g2)), (ra, .inl (cI, 8, .inl g3)), (rt, .inl (cI, 8, .inl g4)), (rg, .inl (cI, 8, .inl g5)), (hy, .inr (1, [.ref ya, .ref yb, .ref yc, .int 0])), (pl, .inr (2, [.ref pn, .ref pt, .int 0, .int 999, .int 0, .int 5])), (pn, .inl (cI, 64, .inl (fun _ => 0)))] := hD
        refine lv_aload_n hx hb dX5_reset_67 rfl (lv_at hl 1 rfl) ?_
        refine lv_iconst (v := 0) hx hb dX5_reset_68 (by decide) ?_
        refine va_put (D := D) (ci := 4) (v := .int 0) (ty := .boolean) (C := RX5) (T := TX5) (N := 14) hx hb hts in_X5_reset_X5 tyX5 tyX5_ok nmX5 hown hK hP hD hS 0 rfl rfl 7 (by decide) (hts (.fieldLink RX5 38 "PowerRails$Run" "key" "Z") (by decide +kernel)) (fun _ h9 => h9) rfl (by decide +kernel) (by decide) rfl (Nat.le_of_ble_eq_true rfl) dX5_reset_69 (fun H locs hP hD hS => ?_)
        have hP : va_P D vwCl [(rn, .inr (4, [.ref hy, .ref rs, .ref ri, .ref ra, .ref rt, .ref rg, .int 0, .int 0, .int 0, .int 0, .int 0, .int 0, .int 0, .int 0])), (rs, .inl (cI, 8, .inl g1)), (ri, .inl (cI, 8, .inl g2)), (ra, .inl (cI, 8, .inl g3)), (rt, .inl (cI, 8, .inl g4)), (rg, .inl (cI, 8, .inl g5)), (hy, .inr (1, [.ref ya, .ref yb, .ref yc, .int 0])), (pl, .inr (2, [.ref pn, .ref pt, .int 0, .int 999, .int 0, .int 5])), (pn, .inl (cI, 64, .inl (fun _ => 0)))] H := hP
        have hD : va_D A [(rn, .inr (4, [.ref hy, .ref rs, .ref ri, .ref ra, .ref rt, .ref rg, .int 0, .int 0, .int 0, .int 0, .int 0, .int 0, .int 0, .int 0])), (rs, .inl (cI, 8, .inl g1)), (ri, .inl (cI, 8, .inl g2)), (ra, .inl (cI, 8, .inl g3)), (rt, .inl (cI, 8, .inl g4)), (rg, .inl (cI, 8, .inl g5)), (hy, .inr (1, [.ref ya, .ref yb, .ref yc, .int 0])), (pl, .inr (2, [.ref pn, .ref pt, .int 0, .int 999, .int 0, .int 5])), (pn, .inl (cI, 64, .inl (fun _ => 0)))] := hD
        refine lv_aload_n hx hb dX5_reset_72 rfl (lv_at hl 1 rfl) ?_
        refine lv_iconst (v := 0) hx hb dX5_reset_73 (by decide) ?_
        refine va_put (D := D) (ci := 4) (v := .int 0) (ty := .int) (C := RX5) (T := TX5) (N := 14) hx hb hts in_X5_reset_X5 tyX5 tyX5_ok nmX5 hown hK hP hD hS 0 rfl rfl 8 (by decide) (hts (.fieldLink RX5 51 "PowerRails$Run" "tick" "I") (by decide +kernel)) (fun _ h9 => h9) rfl (by decide +kernel) rfl rfl (Nat.le_of_ble_eq_true rfl) dX5_reset_74 (fun H locs hP hD hS => ?_)
        have hP : va_P D vwCl [(rn, .inr (4, [.ref hy, .ref rs, .ref ri, .ref ra, .ref rt, .ref rg, .int 0, .int 0, .int 0, .int 0, .int 0, .int 0, .int 0, .int 0])), (rs, .inl (cI, 8, .inl g1)), (ri, .inl (cI, 8, .inl g2)), (ra, .inl (cI, 8, .inl g3)), (rt, .inl (cI, 8, .inl g4)), (rg, .inl (cI, 8, .inl g5)), (hy, .inr (1, [.ref ya, .ref yb, .ref yc, .int 0])), (pl, .inr (2, [.ref pn, .ref pt, .int 0, .int 999, .int 0, .int 5])), (pn, .inl (cI, 64, .inl (fun _ => 0)))] H := hP
        have hD : va_D A [(rn, .inr (4, [.ref hy, .ref rs, .ref ri, .ref ra, .ref rt, .ref rg, .int 0, .int 0, .int 0, .int 0, .int 0, .int 0, .int 0, .int 0])), (rs, .inl (cI, 8, .inl g1)), (ri, .inl (cI, 8, .inl g2)), (ra, .inl (cI, 8, .inl g3)), (rt, .inl (cI, 8, .inl g4)), (rg, .inl (cI, 8, .inl g5)), (hy, .inr (1, [.ref ya, .ref yb, .ref yc, .int 0])), (pl, .inr (2, [.ref pn, .ref pt, .int 0, .int 999, .int 0, .int 5])), (pn, .inl (cI, 64, .inl (fun _ => 0)))] := hD
        refine lv_aload_n hx hb dX5_reset_77 rfl (lv_at hl 1 rfl) ?_
        refine lv_iconst (v := 0) hx hb dX5_reset_78 (by decide) ?_
        refine va_put (D := D) (ci := 4) (v := .int 0) (ty := .int) (C := RX5) (T := TX5) (N := 14) hx hb hts in_X5_reset_X5 tyX5 tyX5_ok nmX5 hown hK hP hD hS 0 rfl rfl 9 (by decide) (hts (.fieldLink RX5 54 "PowerRails$Run" "held" "I") (by decide +kernel)) (fun _ h9 => h9) rfl (by decide +kernel) rfl rfl (Nat.le_of_ble_eq_true rfl) dX5_reset_79 (fun H locs hP hD hS => ?_)
        have hP : va_P D vwCl [(rn, .inr (4, [.ref hy, .ref rs, .ref ri, .ref ra, .ref rt, .ref rg, .int 0, .int 0, .int 0, .int 0, .int 0, .int 0, .int 0, .int 0])), (rs, .inl (cI, 8, .inl g1)), (ri, .inl (cI, 8, .inl g2)), (ra, .inl (cI, 8, .inl g3)), (rt, .inl (cI, 8, .inl g4)), (rg, .inl (cI, 8, .inl g5)), (hy, .inr (1, [.ref ya, .ref yb, .ref yc, .int 0])), (pl, .inr (2, [.ref pn, .ref pt, .int 0, .int 999, .int 0, .int 5])), (pn, .inl (cI, 64, .inl (fun _ => 0)))] H := hP
        have hD : va_D A [(rn, .inr (4, [.ref hy, .ref rs, .ref ri, .ref ra, .ref rt, .ref rg, .int 0, .int 0, .int 0, .int 0, .int 0, .int 0, .int 0, .int 0])), (rs, .inl (cI, 8, .inl g1)), (ri, .inl (cI, 8, .inl g2)), (ra, .inl (cI, 8, .inl g3)), (rt, .inl (cI, 8, .inl g4)), (rg, .inl (cI, 8, .inl g5)), (hy, .inr (1, [.ref ya, .ref yb, .ref yc, .int 0])), (pl, .inr (2, [.ref pn, .ref pt, .int 0, .int 999, .int 0, .int 5])), (pn, .inl (cI, 64, .inl (fun _ => 0)))] := hD
        refine lv_aload_n hx hb dX5_reset_82 rfl (lv_at hl 1 rfl) ?_
        refine lv_aload_n hx hb dX5_reset_83 rfl (lv_at hl 2 rfl) ?_
        refine va_get (D := D) (ci := 2) (v := .int 0) (C := RX3) (T := TX3) (N := 6) hx hb hts in_X5_reset_X3 hown hK hP 7 rfl rfl 4 (by decide) (hts (.fieldLink RX5 57 "PowerRails$Plan" "retry" "I") (by decide +kernel)) (fun _ h9 => h9) rfl dX5_reset_84 ?_
        refine va_put (D := D) (ci := 4) (v := .int 0) (ty := .int) (C := RX5) (T := TX5) (N := 14) hx hb hts in_X5_reset_X5 tyX5 tyX5_ok nmX5 hown hK hP hD hS 0 rfl rfl 10 (by decide) (hts (.fieldLink RX5 60 "PowerRails$Run" "tries" "I") (by decide +kernel)) (fun _ h9 => h9) rfl (by decide +kernel) rfl rfl (Nat.le_of_ble_eq_true rfl) dX5_reset_87 (fun H locs hP hD hS => ?_)
        have hP : va_P D vwCl [(rn, .inr (4, [.ref hy, .ref rs, .ref ri, .ref ra, .ref rt, .ref rg, .int 0, .int 0, .int 0, .int 0, .int 0, .int 0, .int 0, .int 0])), (rs, .inl (cI, 8, .inl g1)), (ri, .inl (cI, 8, .inl g2)), (ra, .inl (cI, 8, .inl g3)), (rt, .inl (cI, 8, .inl g4)), (rg, .inl (cI, 8, .inl g5)), (hy, .inr (1, [.ref ya, .ref yb, .ref yc, .int 0])), (pl, .inr (2, [.ref pn, .ref pt, .int 0, .int 999, .int 0, .int 5])), (pn, .inl (cI, 64, .inl (fun _ => 0)))] H := hP
        have hD : va_D A [(rn, .inr (4, [.ref hy, .ref rs, .ref ri, .ref ra, .ref rt, .ref rg, .int 0, .int 0, .int 0, .int 0, .int 0, .int 0, .int 0, .int 0])), (rs, .inl (cI, 8, .inl g1)), (ri, .inl (cI, 8, .inl g2)), (ra, .inl (cI, 8, .inl g3)), (rt, .inl (cI, 8, .inl g4)), (rg, .inl (cI, 8, .inl g5)), (hy, .inr (1, [.ref ya, .ref yb, .ref yc, .int 0])), (pl, .inr (2, [.ref pn, .ref pt, .int 0, .int 999, .int 0, .int 5])), (pn, .inl (cI, 64, .inl (fun _ => 0)))] := hD
        refine lv_aload_n hx hb dX5_reset_90 rfl (lv_at hl 1 rfl) ?_
        refine lv_iconst (v := 0) hx hb dX5_reset_91 (by decide) ?_
        refine va_put (D := D) (ci := 4) (v := .int 0) (ty := .int) (C := RX5) (T := TX5) (N := 14) hx hb hts in_X5_reset_X5 tyX5 tyX5_ok nmX5 hown hK hP hD hS 0 rfl rfl 11 (by decide) (hts (.fieldLink RX5 63 "PowerRails$Run" "trips" "I") (by decide +kernel)) (fun _ h9 => h9) rfl (by decide +kernel) rfl rfl (Nat.le_of_ble_eq_true rfl) dX5_reset_92 (fun H locs hP hD hS => ?_)
        have hP : va_P D vwCl [(rn, .inr (4, [.ref hy, .ref rs, .ref ri, .ref ra, .ref rt, .ref rg, .int 0, .int 0, .int 0, .int 0, .int 0, .int 0, .int 0, .int 0])), (rs, .inl (cI, 8, .inl g1)), (ri, .inl (cI, 8, .inl g2)), (ra, .inl (cI, 8, .inl g3)), (rt, .inl (cI, 8, .inl g4)), (rg, .inl (cI, 8, .inl g5)), (hy, .inr (1, [.ref ya, .ref yb, .ref yc, .int 0])), (pl, .inr (2, [.ref pn, .ref pt, .int 0, .int 999, .int 0, .int 5])), (pn, .inl (cI, 64, .inl (fun _ => 0)))] H := hP
        have hD : va_D A [(rn, .inr (4, [.ref hy, .ref rs, .ref ri, .ref ra, .ref rt, .ref rg, .int 0, .int 0, .int 0, .int 0, .int 0, .int 0, .int 0, .int 0])), (rs, .inl (cI, 8, .inl g1)), (ri, .inl (cI, 8, .inl g2)), (ra, .inl (cI, 8, .inl g3)), (rt, .inl (cI, 8, .inl g4)), (rg, .inl (cI, 8, .inl g5)), (hy, .inr (1, [.ref ya, .ref yb, .ref yc, .int 0])), (pl, .inr (2, [.ref pn, .ref pt, .int 0, .int 999, .int 0, .int 5])), (pn, .inl (cI, 64, .inl (fun _ => 0)))] := hD
        refine lv_aload_n hx hb dX5_reset_95 rfl (lv_at hl 1 rfl) ?_
        refine lv_iconst (v := 0) hx hb dX5_reset_96 (by decide) ?_
        refine va_put (D := D) (ci := 4) (v := .int 0) (ty := .int) (C := RX5) (T := TX5) (N := 14) hx hb hts in_X5_reset_X5 tyX5 tyX5_ok nmX5 hown hK hP hD hS 0 rfl rfl 12 (by decide) (hts (.fieldLink RX5 66 "PowerRails$Run" "latestDraw" "I") (by decide +kernel)) (fun _ h9 => h9) rfl (by decide +kernel) rfl rfl (Nat.le_of_ble_eq_true rfl) dX5_reset_97 (fun H locs hP hD hS => ?_)
        have hP : va_P D vwCl [(rn, .inr (4, [.ref hy, .ref rs, .ref ri, .ref ra, .ref rt, .ref rg, .int 0, .int 0, .int 0, .int 0, .int 0, .int 0, .int 0, .int 0])), (rs, .inl (cI, 8, .inl g1)), (ri, .inl (cI, 8, .inl g2)), (ra, .inl (cI, 8, .inl g3)), (rt, .inl (cI, 8, .inl g4)), (rg, .inl (cI, 8, .inl g5)), (hy, .inr (1, [.ref ya, .ref yb, .ref yc, .int 0])), (pl, .inr (2, [.ref pn, .ref pt, .int 0, .int 999, .int 0, .int 5])), (pn, .inl (cI, 64, .inl (fun _ => 0)))] H := hP
        have hD : va_D A [(rn, .inr (4, [.ref hy, .ref rs, .ref ri, .ref ra, .ref rt, .ref rg, .int 0, .int 0, .int 0, .int 0, .int 0, .int 0, .int 0, .int 0])), (rs, .inl (cI, 8, .inl g1)), (ri, .inl (cI, 8, .inl g2)), (ra, .inl (cI, 8, .inl g3)), (rt, .inl (cI, 8, .inl g4)), (rg, .inl (cI, 8, .inl g5)), (hy, .inr (1, [.ref ya, .ref yb, .ref yc, .int 0])), (pl, .inr (2, [.ref pn, .ref pt, .int 0, .int 999, .int 0, .int 5])), (pn, .inl (cI, 64, .inl (fun _ => 0)))] := hD
        refine lv_aload_n hx hb dX5_reset_100 rfl (lv_at hl 1 rfl) ?_
        refine lv_iconst (v := 0) hx hb dX5_reset_101 (by decide) ?_
        refine va_put (D := D) (ci := 4) (v := .int 0) (ty := .int) (C := RX5) (T := TX5) (N := 14) hx hb hts in_X5_reset_X5 tyX5 tyX5_ok nmX5 hown hK hP hD hS 0 rfl rfl 13 (by decide) (hts (.fieldLink RX5 69 "PowerRails$Run" "greatestDraw" "I") (by decide +kernel)) (fun _ h9 => h9) rfl (by decide +kernel) rfl rfl (Nat.le_of_ble_eq_true rfl) dX5_reset_102 (fun H locs hP hD hS => ?_)
        have hP : va_P D vwCl [(rn, .inr (4, [.ref hy, .ref rs, .ref ri, .ref ra, .ref rt, .ref rg, .int 0, .int 0, .int 0, .int 0, .int 0, .int 0, .int 0, .int 0])), (rs, .inl (cI, 8, .inl g1)), (ri, .inl (cI, 8, .inl g2)), (ra, .inl (cI, 8, .inl g3)), (rt, .inl (cI, 8, .inl g4)), (rg, .inl (cI, 8, .inl g5)), (hy, .inr (1, [.ref ya, .ref yb, .ref yc, .int 0])), (pl, .inr (2, [.ref pn, .ref pt, .int 0, .int 999, .int 0, .int 5])), (pn, .inl (cI, 64, .inl (fun _ => 0)))] H := hP
        have hD : va_D A [(rn, .inr (4, [.ref hy, .ref rs, .ref ri, .ref ra, .ref rt, .ref rg, .int 0, .int 0, .int 0, .int 0, .int 0, .int 0, .int 0, .int 0])), (rs, .inl (cI, 8, .inl g1)), (ri, .inl (cI, 8, .inl g2)), (ra, .inl (cI, 8, .inl g3)), (rt, .inl (cI, 8, .inl g4)), (rg, .inl (cI, 8, .inl g5)), (hy, .inr (1, [.ref ya, .ref yb, .ref yc, .int 0])), (pl, .inr (2, [.ref pn, .ref pt, .int 0, .int 999, .int 0, .int 5])), (pn, .inl (cI, 64, .inl (fun _ => 0)))] := hD
        refine W.widen (k := 0) (n := 0) (by decide) (by decide) ?_
        exact W.vret hx hb hr (fun t ht hW => ⟨⟨(), rfl, trivial, trivial⟩, hS.F ht⟩) hS.2.2 dX5_reset_105
      · skip
        have i_1 : ¬ (8 ≤ ((i : Nat) : Int)) := fun h9 => c_1 ((ile (by decide) (nI_toInt (by omega))).mpr h9)
        refine lv_aload_n hx hb dX5_reset_16 rfl (lv_at hl 1 rfl) ?_
        refine va_get (D := D) (ci := 4) (v := .ref rs) (C := RX5) (T := TX5) (N := 14) hx hb hts in_X5_reset_X5 hown hK hP 0 rfl rfl 1 (by decide) (hts (.fieldLink RX5 18 "PowerRails$Run" "states" "[I") (by decide +kernel)) (fun _ h9 => h9) rfl dX5_reset_17 ?_
        refine lv_iload_n hx hb dX5_reset_20 rfl (lv_at hl 0 rfl) ?_
        refine lv_iconst (v := 0) hx hb dX5_reset_21 (by decide) ?_
        refine va_iast hx hb hK hP hD hS 1 0 rfl rfl (vp_in_nI (by omega) (by omega)) dX5_reset_22 (fun H locs hP hD hS => ?_)
        obtain ⟨f2, ef2⟩ : ∃ fz9 : Nat → Int32, fz9 = upd g1 ((nI i) : Int32).toNatClampNeg 0 := ⟨_, rfl⟩
        have hP : va_P D vwCl [(rn, .inr (4, [.ref hy, .ref rs, .ref ri, .ref ra, .ref rt, .ref rg, .int 0, .int 0, .int 0, .int 0, .int 0, .int 0, .int 0, .int 0])), (rs, .inl (cI, 8, .inl f2)), (ri, .inl (cI, 8, .inl g2)), (ra, .inl (cI, 8, .inl g3)), (rt, .inl (cI, 8, .inl g4)), (rg, .inl (cI, 8, .inl g5)), (hy, .inr (1, [.ref ya, .ref yb, .ref yc, .int 0])), (pl, .inr (2, [.ref pn, .ref pt, .int 0, .int 999, .int 0, .int 5])), (pn, .inl (cI, 64, .inl (fun _ => 0)))] H := by rw [ef2]; exact hP
        have hD : va_D A [(rn, .inr (4, [.ref hy, .ref rs, .ref ri, .ref ra, .ref rt, .ref rg, .int 0, .int 0, .int 0, .int 0, .int 0, .int 0, .int 0, .int 0])), (rs, .inl (cI, 8, .inl f2)), (ri, .inl (cI, 8, .inl g2)), (ra, .inl (cI, 8, .inl g3)), (rt, .inl (cI, 8, .inl g4)), (rg, .inl (cI, 8, .inl g5)), (hy, .inr (1, [.ref ya, .ref yb, .ref yc, .int 0])), (pl, .inr (2, [.ref pn, .ref pt, .int 0, .int 999, .int 0, .int 5])), (pn, .inl (cI, 64, .inl (fun _ => 0)))] := by rw [ef2]; exact hD
        refine lv_aload_n hx hb dX5_reset_23 rfl (lv_at hl 1 rfl) ?_
        refine va_get (D := D) (ci := 4) (v := .ref ri) (C := RX5) (T := TX5) (N := 14) hx hb hts in_X5_reset_X5 hown hK hP 0 rfl rfl 2 (by decide) (hts (.fieldLink RX5 22 "PowerRails$Run" "since" "[I") (by decide +kernel)) (fun _ h9 => h9) rfl dX5_reset_24 ?_
        refine lv_iload_n hx hb dX5_reset_27 rfl (lv_at hl 0 rfl) ?_
        refine lv_iconst (v := 0) hx hb dX5_reset_28 (by decide) ?_
        refine va_iast hx hb hK hP hD hS 2 0 rfl rfl (vp_in_nI (by omega) (by omega)) dX5_reset_29 (fun H locs hP hD hS => ?_)
        obtain ⟨f3, ef3⟩ : ∃ fz9 : Nat → Int32, fz9 = upd g2 ((nI i) : Int32).toNatClampNeg 0 := ⟨_, rfl⟩
        have hP : va_P D vwCl [(rn, .inr (4, [.ref hy, .ref rs, .ref ri, .ref ra, .ref rt, .ref rg, .int 0, .int 0, .int 0, .int 0, .int 0, .int 0, .int 0, .int 0])), (rs, .inl (cI, 8, .inl f2)), (ri, .inl (cI, 8, .inl f3)), (ra, .inl (cI, 8, .inl g3)), (rt, .inl (cI, 8, .inl g4)), (rg, .inl (cI, 8, .inl g5)), (hy, .inr (1, [.ref ya, .ref yb, .ref yc, .int 0])), (pl, .inr (2, [.ref pn, .ref pt, .int 0, .int 999, .int 0, .int 5])), (pn, .inl (cI, 64, .inl (fun _ => 0)))] H := by rw [ef3]; exact hP
        have hD : va_D A [(rn, .inr (4, [.ref hy, .ref rs, .ref ri, .ref ra, .ref rt, .ref rg, .int 0, .int 0, .int 0, .int 0, .int 0, .int 0, .int 0, .int 0])), (rs, .inl (cI, 8, .inl f2)), (ri, .inl (cI, 8, .inl f3)), (ra, .inl (cI, 8, .inl g3)), (rt, .inl (cI, 8, .inl g4)), (rg, .inl (cI, 8, .inl g5)), (hy, .inr (1, [.ref ya, .ref yb, .ref yc, .int 0])), (pl, .inr (2, [.ref pn, .ref pt, .int 0, .int 999, .int 0, .int 5])), (pn, .inl (cI, 64, .inl (fun _ => 0)))] := by rw [ef3]; exact hD
        refine lv_aload_n hx hb dX5_reset_30 rfl (lv_at hl 1 rfl) ?_
        refine va_get (D := D) (ci := 4) (v := .ref ra) (C := RX5) (T := TX5) (N := 14) hx hb hts in_X5_reset_X5 hown hK hP 0 rfl rfl 3 (by decide) (hts (.fieldLink RX5 25 "PowerRails$Run" "asked" "[I") (by decide +kernel)) (fun _ h9 => h9) rfl dX5_reset_31 ?_
        refine lv_iload_n hx hb dX5_reset_34 rfl (lv_at hl 0 rfl) ?_
        refine lv_iconst (v := 0) hx hb dX5_reset_35 (by decide) ?_
        refine va_iast hx hb hK hP hD hS 3 0 rfl rfl (vp_in_nI (by omega) (by omega)) dX5_reset_36 (fun H locs hP hD hS => ?_)
        obtain ⟨f4, ef4⟩ : ∃ fz9 : Nat → Int32, fz9 = upd g3 ((nI i) : Int32).toNatClampNeg 0 := ⟨_, rfl⟩
        have hP : va_P D vwCl [(rn, .inr (4, [.ref hy, .ref rs, .ref ri, .ref ra, .ref rt, .ref rg, .int 0, .int 0, .int 0, .int 0, .int 0, .int 0, .int 0, .int 0])), (rs, .inl (cI, 8, .inl f2)), (ri, .inl (cI, 8, .inl f3)), (ra, .inl (cI, 8, .inl f4)), (rt, .inl (cI, 8, .inl g4)), (rg, .inl (cI, 8, .inl g5)), (hy, .inr (1, [.ref ya, .ref yb, .ref yc, .int 0])), (pl, .inr (2, [.ref pn, .ref pt, .int 0, .int 999, .int 0, .int 5])), (pn, .inl (cI, 64, .inl (fun _ => 0)))] H := by rw [ef4]; exact hP
        have hD : va_D A [(rn, .inr (4, [.ref hy, .ref rs, .ref ri, .ref ra, .ref rt, .ref rg, .int 0, .int 0, .int 0, .int 0, .int 0, .int 0, .int 0, .int 0])), (rs, .inl (cI, 8, .inl f2)), (ri, .inl (cI, 8, .inl f3)), (ra, .inl (cI, 8, .inl f4)), (rt, .inl (cI, 8, .inl g4)), (rg, .inl (cI, 8, .inl g5)), (hy, .inr (1, [.ref ya, .ref yb, .ref yc, .int 0])), (pl, .inr (2, [.ref pn, .ref pt, .int 0, .int 999, .int 0, .int 5])), (pn, .inl (cI, 64, .inl (fun _ => 0)))] := by rw [ef4]; exact hD
        refine lv_aload_n hx hb dX5_reset_37 rfl (lv_at hl 1 rfl) ?_
        refine va_get (D := D) (ci := 4) (v := .ref rt) (C := RX5) (T := TX5) (N := 14) hx hb hts in_X5_reset_X5 hown hK hP 0 rfl rfl 4 (by decide) (hts (.fieldLink RX5 28 "PowerRails$Run" "takes" "[I") (by decide +kernel)) (fun _ h9 => h9) rfl dX5_reset_38 ?_
        refine lv_iload_n hx hb dX5_reset_41 rfl (lv_at hl 0 rfl) ?_
        refine lv_aload_n hx hb dX5_reset_42 rfl (lv_at hl 2 rfl) ?_
        refine lv_iload_n hx hb dX5_reset_43 rfl (lv_at hl 0 rfl) ?_
        refine lv_iconst (v := 0) hx hb dX5_reset_44 (by decide) ?_
        have hPc := hP.sub (ws' := [(pl, .inr (2, [.ref pn, .ref pt, .int 0, .int 999, .int 0, .int 5])), (pn, .inl (cI, 64, .inl (fun _ => 0)))]) [7, 8] rfl
        have hDc := hD.sub (ws' := [(pl, .inr (2, [.ref pn, .ref pt, .int 0, .int 999, .int 0, .int 5])), (pn, .inl (cI, 64, .inl (fun _ => 0)))]) [7, 8] (by decide) rfl
        have hFc := va_free (wc := [(pl, .inr (2, [.ref pn, .ref pt, .int 0, .int 999, .int 0, .int 5])), (pn, .inl (cI, 64, .inl (fun _ => 0)))]) hD hS hA [7, 8] rfl
        refine va_calli (va_runV (As := [.int (nI i), .int 0]) (rest := [.int (nI i), .ref rt]) ⟨hx, hb, hml, hown, hts⟩ (c_number0 l D cI cJ cZ cG cH H.size pl i pn pt (by first | assumption | decide | omega)) (cwV 2 hts gX5_reset_X3_number rfl rfl rfl (by decide +kernel) ⟨Nat.le_of_ble_eq_true rfl, Nat.le_of_ble_eq_true rfl⟩) ⟨xPc_blind, va_recv hK hPc (ci := 2) (q0 := 0) rfl rfl, xPc_pre hPc hK hDc⟩ rfl rfl hl.1 rfl (lv_room (Nat.le_of_ble_eq_true rfl)) dX5_reset_45 ⟨Nat.le_of_ble_eq_true rfl, Nat.le_of_ble_eq_true rfl⟩) hS (fun q _ h => hFc q h) hFc (fun r5 u t H1 locs ht hvm hw5 hB hz1 hk1 hS => ?_)
        obtain ⟨hP1, hK1, hD1⟩ := hB
        rw [ht] at hP1
        obtain ⟨hP, hD⟩ := va_join (wr := [(rn, .inr (4, [.ref hy, .ref rs, .ref ri, .ref ra, .ref rt, .ref rg, .int 0, .int 0, .int 0, .int 0, .int 0, .int 0, .int 0, .int 0])), (rs, .inl (cI, 8, .inl f2)), (ri, .inl (cI, 8, .inl f3)), (ra, .inl (cI, 8, .inl f4)), (rt, .inl (cI, 8, .inl g4)), (rg, .inl (cI, 8, .inl g5)), (hy, .inr (1, [.ref ya, .ref yb, .ref yc, .int 0]))]) (w1 := [(pl, .inr (2, [.ref pn, .ref pt, .int 0, .int 999, .int 0, .int 5])), (pn, .inl (cI, 64, .inl (fun _ => 0)))]) hP hD [7, 8] [0, 1, 2, 3, 4, 5, 6] rfl rfl (by decide) (by decide) hk1 hFc hP1 hD1
        generalize H1 = H at hP hS ⊢
        have hP : va_P D vwCl [(rn, .inr (4, [.ref hy, .ref rs, .ref ri, .ref ra, .ref rt, .ref rg, .int 0, .int 0, .int 0, .int 0, .int 0, .int 0, .int 0, .int 0])), (rs, .inl (cI, 8, .inl f2)), (ri, .inl (cI, 8, .inl f3)), (ra, .inl (cI, 8, .inl f4)), (rt, .inl (cI, 8, .inl g4)), (rg, .inl (cI, 8, .inl g5)), (hy, .inr (1, [.ref ya, .ref yb, .ref yc, .int 0])), (pl, .inr (2, [.ref pn, .ref pt, .int 0, .int 999, .int 0, .int 5])), (pn, .inl (cI, 64, .inl (fun _ => 0)))] H := hP
        have hD : va_D A [(rn, .inr (4, [.ref hy, .ref rs, .ref ri, .ref ra, .ref rt, .ref rg, .int 0, .int 0, .int 0, .int 0, .int 0, .int 0, .int 0, .int 0])), (rs, .inl (cI, 8, .inl f2)), (ri, .inl (cI, 8, .inl f3)), (ra, .inl (cI, 8, .inl f4)), (rt, .inl (cI, 8, .inl g4)), (rg, .inl (cI, 8, .inl g5)), (hy, .inr (1, [.ref ya, .ref yb, .ref yc, .int 0])), (pl, .inr (2, [.ref pn, .ref pt, .int 0, .int 999, .int 0, .int 5])), (pn, .inl (cI, 64, .inl (fun _ => 0)))] := hD
        obtain rfl : r5 = 0 := hw5
        refine va_iast hx hb hK hP hD hS 4 0 rfl rfl (vp_in_nI (by omega) (by omega)) dX5_reset_48 (fun H locs hP hD hS => ?_)
        obtain ⟨f6, ef6⟩ : ∃ fz9 : Nat → Int32, fz9 = upd g4 ((nI i) : Int32).toNatClampNeg 0 := ⟨_, rfl⟩
        have hP : va_P D vwCl [(rn, .inr (4, [.ref hy, .ref rs, .ref ri, .ref ra, .ref rt, .ref rg, .int 0, .int 0, .int 0, .int 0, .int 0, .int 0, .int 0, .int 0])), (rs, .inl (cI, 8, .inl f2)), (ri, .inl (cI, 8, .inl f3)), (ra, .inl (cI, 8, .inl f4)), (rt, .inl (cI, 8, .inl f6)), (rg, .inl (cI, 8, .inl g5)), (hy, .inr (1, [.ref ya, .ref yb, .ref yc, .int 0])), (pl, .inr (2, [.ref pn, .ref pt, .int 0, .int 999, .int 0, .int 5])), (pn, .inl (cI, 64, .inl (fun _ => 0)))] H := by rw [ef6]; exact hP
        have hD : va_D A [(rn, .inr (4, [.ref hy, .ref rs, .ref ri, .ref ra, .ref rt, .ref rg, .int 0, .int 0, .int 0, .int 0, .int 0, .int 0, .int 0, .int 0])), (rs, .inl (cI, 8, .inl f2)), (ri, .inl (cI, 8, .inl f3)), (ra, .inl (cI, 8, .inl f4)), (rt, .inl (cI, 8, .inl f6)), (rg, .inl (cI, 8, .inl g5)), (hy, .inr (1, [.ref ya, .ref yb, .ref yc, .int 0])), (pl, .inr (2, [.ref pn, .ref pt, .int 0, .int 999, .int 0, .int 5])), (pn, .inl (cI, 64, .inl (fun _ => 0)))] := by rw [ef6]; exact hD
        refine lv_aload_n hx hb dX5_reset_49 rfl (lv_at hl 1 rfl) ?_
        refine va_get (D := D) (ci := 4) (v := .ref rg) (C := RX5) (T := TX5) (N := 14) hx hb hts in_X5_reset_X5 hown hK hP 0 rfl rfl 5 (by decide) (hts (.fieldLink RX5 31 "PowerRails$Run" "timesGood" "[I") (by decide +kernel)) (fun _ h9 => h9) rfl dX5_reset_50 ?_
        refine lv_iload_n hx hb dX5_reset_53 rfl (lv_at hl 0 rfl) ?_
        refine lv_iconst (v := 0) hx hb dX5_reset_54 (by decide) ?_
        refine va_iast hx hb hK hP hD hS 5 0 rfl rfl (vp_in_nI (by omega) (by omega)) dX5_reset_55 (fun H locs hP hD hS => ?_)
        obtain ⟨f7, ef7⟩ : ∃ fz9 : Nat → Int32, fz9 = upd g5 ((nI i) : Int32).toNatClampNeg 0 := ⟨_, rfl⟩
        have hP : va_P D vwCl [(rn, .inr (4, [.ref hy, .ref rs, .ref ri, .ref ra, .ref rt, .ref rg, .int 0, .int 0, .int 0, .int 0, .int 0, .int 0, .int 0, .int 0])), (rs, .inl (cI, 8, .inl f2)), (ri, .inl (cI, 8, .inl f3)), (ra, .inl (cI, 8, .inl f4)), (rt, .inl (cI, 8, .inl f6)), (rg, .inl (cI, 8, .inl f7)), (hy, .inr (1, [.ref ya, .ref yb, .ref yc, .int 0])), (pl, .inr (2, [.ref pn, .ref pt, .int 0, .int 999, .int 0, .int 5])), (pn, .inl (cI, 64, .inl (fun _ => 0)))] H := by rw [ef7]; exact hP
        have hD : va_D A [(rn, .inr (4, [.ref hy, .ref rs, .ref ri, .ref ra, .ref rt, .ref rg, .int 0, .int 0, .int 0, .int 0, .int 0, .int 0, .int 0, .int 0])), (rs, .inl (cI, 8, .inl f2)), (ri, .inl (cI, 8, .inl f3)), (ra, .inl (cI, 8, .inl f4)), (rt, .inl (cI, 8, .inl f6)), (rg, .inl (cI, 8, .inl f7)), (hy, .inr (1, [.ref ya, .ref yb, .ref yc, .int 0])), (pl, .inr (2, [.ref pn, .ref pt, .int 0, .int 999, .int 0, .int 5])), (pn, .inl (cI, 64, .inl (fun _ => 0)))] := by rw [ef7]; exact hD
        refine lv_iinc (v := (nI (i + 1))) (lv' := [(2, .int (nI (i + 1))), (0, .ref rn), (1, .ref pl)]) hx hb dX5_reset_56 hl (k := 0) rfl ((show (nI i) + Int32.ofInt 1 = (nI i) + 1 from rfl).trans (nI_1 _)) (by decide) rfl (fun ls hl => ?_)
        refine lv_goto (tgt := 10) hx hb dX5_reset_59 (by decide) ?_
        exact ih10 (i + 1) f2 f3 f4 f6 f7 (by omega) (by omega) _ _ hP hD hS ls (lv_sub hl [0, 1, 2] rfl)
  exact hl10 _ 0 (fun _ => 0) (fun _ => 0) (fun _ => 0) (fun _ => 0) (fun _ => 0) (Nat.lt_succ_self _) (by omega) _ _ hP hD hS ls (lv_sub hl [0, 1, 2] rfl)
theorem in_X0_setWaits_X3 : ∀ w ∈ wsX30, w ∈ wsX0_setWaits := by decide +kernel
abbrev W_setWaits0 (cI cJ cZ cG cH : ClassId) (co : Nat) (pl : Nat) (cw : Nat) (ct : Nat) (cr : Nat) (cg : Nat) (cx : Nat) (pn : Nat) (pt : Nat) : va_W := [(co, .inr (0, [.ref cw, .ref ct, .ref cr, .ref cg, .ref cx, .int 0, .int 0, .int 0, .int 0])), (pl, .inr (2, [.ref pn, .ref pt, .int 0, .int 999, .int 0, .int 5]))]
abbrev Q_setWaits0 (D : va_G) (cI cJ cZ cG cH : ClassId) (co : Nat) (pl : Nat) (cw : Nat) (ct : Nat) (cr : Nat) (cg : Nat) (cx : Nat) (pn : Nat) (pt : Nat) (A : Nat → Prop) : Array Value → State → Outcome → State → Prop := va_Qv (fun (_ : Unit) => True) (fun _ t => xB D (tyL cI cJ cZ cG cH) [(co, .inr (0, [.ref cw, .ref ct, .ref cr, .ref cg, .ref cx, .int 0, .int 0, .int 0, .int 0])), (pl, .inr (2, [.ref pn, .ref pt, .int 0, .int 999, .int 0, .int 5]))] A t) A
abbrev rm_setWaits0 : Room := { frames := 0, cells := 0, slots := 0, locals := 0 }
set_option maxRecDepth 100000 in
set_option maxHeartbeats 4000000 in
theorem c_setWaits0 (l : Launch) (D : va_G) (cI cJ cZ cG cH : ClassId) (sz : Nat) (co : Nat) (pl : Nat) (cw : Nat) (ct : Nat) (cr : Nat) (cg : Nat) (cx : Nat) (pn : Nat) (pt : Nat) : Met l yX0_setWaits wsX0_setWaits rm_setWaits0 (xPc [.ref co, .ref pl] D (tyL cI cJ cZ cG cH) (W_setWaits0 cI cJ cZ cG cH co pl cw ct cr cg cx pn pt) sz) (Q_setWaits0 D cI cJ cZ cG cH co pl cw ct cr cg cx pn pt (va_A (W_setWaits0 cI cJ cZ cG cH co pl cw ct cr cg cx pn pt) sz)) 0 0 (va_A (W_setWaits0 cI cJ cZ cG cH co pl cw ct cr cg cx pn pt) sz) := by
  refine xMet (cc := cX0_setWaits) (maxL := 3) (ret := none) (Qf := Q_setWaits0 D cI cJ cZ cG cH co pl cw ct cr cg cx pn pt) (by decide) rfl (Nat.le_of_ble_eq_true rfl) ?_
  intro p e s m below meth c ls A hx hb hr hml hts hown hlocks hnm hsz hP hK hD hA hS hl
  have hown : s.vm.findClass RX0 = some m.cls := hown
  have hP : va_P D vwCl [(co, .inr (0, [.ref cw, .ref ct, .ref cr, .ref cg, .ref cx, .int 0, .int 0, .int 0, .int 0])), (pl, .inr (2, [.ref pn, .ref pt, .int 0, .int 999, .int 0, .int 5]))] s.heap := hP
  have hD : va_D A [(co, .inr (0, [.ref cw, .ref ct, .ref cr, .ref cg, .ref cx, .int 0, .int 0, .int 0, .int 0])), (pl, .inr (2, [.ref pn, .ref pt, .int 0, .int 999, .int 0, .int 5]))] := hD
  have hl : lv_has ls 3 [(0, .ref co), (1, .ref pl)] := hl
  refine lv_iconst (v := 0) hx hb dX0_setWaits_0 (by decide) ?_
  refine lv_istore_n (lv' := [(2, .int 0), (0, .ref co), (1, .ref pl)]) hx hb dX0_setWaits_1 rfl hl (by decide) rfl (fun ls hl => ?_)
  refine lv_iload_n hx hb dX0_setWaits_2 rfl (lv_at hl 0 rfl) ?_
  refine lv_aload_n hx hb dX0_setWaits_3 rfl (lv_at hl 2 rfl) ?_
  refine va_get (D := D) (ci := 2) (v := .int 0) (C := RX3) (T := TX3) (N := 6) hx hb hts in_X0_setWaits_X3 hown hK hP 1 rfl rfl 2 (by decide) (hts (.fieldLink RX0 27 "PowerRails$Plan" "rails" "I") (by decide +kernel)) (fun _ h9 => h9) rfl dX0_setWaits_4 ?_
  refine lv_icmp_ge (tgt := 28) hx hb dX0_setWaits_7 (by decide) (fun _ => ?_) (fun c9 => absurd c9 (by decide))
  refine W.widen (k := 0) (n := 0) (by decide) (by decide) ?_
  have hP9 := hP.sub (ws' := [(co, .inr (0, [.ref cw, .ref ct, .ref cr, .ref cg, .ref cx, .int 0, .int 0, .int 0, .int 0])), (pl, .inr (2, [.ref pn, .ref pt, .int 0, .int 999, .int 0, .int 5]))]) [0, 1] rfl
  have hD9 := hD.sub (ws' := [(co, .inr (0, [.ref cw, .ref ct, .ref cr, .ref cg, .ref cx, .int 0, .int 0, .int 0, .int 0])), (pl, .inr (2, [.ref pn, .ref pt, .int 0, .int 999, .int 0, .int 5]))]) [0, 1] (by decide) rfl
  exact W.vret hx hb hr (fun t ht hW => ⟨⟨(), rfl, trivial, xB_of ht hW hP9 hK hD9⟩, hS.F ht⟩) hS.2.2 dX0_setWaits_28
theorem in_X0_copyTakes_X0 : ∀ w ∈ wsX00, w ∈ wsX0_copyTakes := by decide +kernel
abbrev W_copyTakes0 (cI cJ cZ cG cH : ClassId) (co : Nat) (sq : Nat) (cw : Nat) (ct : Nat) (cr : Nat) (cg : Nat) (cx : Nat) : va_W := [(co, .inr (0, [.ref cw, .ref ct, .ref cr, .ref cg, .ref cx, .int 0, .int 0, .int 0, .int 0])), (ct, .inl (cI, 8, .inl (fun _ => 0))), (sq, .inl (cI, 8, .inl (fun _ => 0)))]
abbrev Q_copyTakes0 (D : va_G) (cI cJ cZ cG cH : ClassId) (co : Nat) (sq : Nat) (cw : Nat) (ct : Nat) (cr : Nat) (cg : Nat) (cx : Nat) (A : Nat → Prop) : Array Value → State → Outcome → State → Prop := va_Qv (fun (_ : Unit) => True) (fun _ t => ∃ (f9 : Nat → Int32), xB D (tyL cI cJ cZ cG cH) [(co, .inr (0, [.ref cw, .ref ct, .ref cr, .ref cg, .ref cx, .int 0, .int 0, .int 0, .int 0])), (ct, .inl (cI, 8, .inl f9)), (sq, .inl (cI, 8, .inl (fun _ => 0)))] A t) A
abbrev rm_copyTakes0 : Room := { frames := 1, cells := 0, slots := 0, locals := 40 }
set_option maxRecDepth 100000 in
set_option maxHeartbeats 4000000 in
theorem c_copyTakes0 (l : Launch) (D : va_G) (cI cJ cZ cG cH : ClassId) (sz : Nat) (co : Nat) (sq : Nat) (cw : Nat) (ct : Nat) (cr : Nat) (cg : Nat) (cx : Nat) : Met l yX0_copyTakes wsX0_copyTakes rm_copyTakes0 (xPc [.ref co, .ref sq] D (tyL cI cJ cZ cG cH) (W_copyTakes0 cI cJ cZ cG cH co sq cw ct cr cg cx) sz) (Q_copyTakes0 D cI cJ cZ cG cH co sq cw ct cr cg cx (va_A (W_copyTakes0 cI cJ cZ cG cH co sq cw ct cr cg cx) sz)) 0 0 (va_A (W_copyTakes0 cI cJ cZ cG cH co sq cw ct cr cg cx) sz) := by
  refine xMet (cc := cX0_copyTakes) (maxL := 2) (ret := none) (Qf := Q_copyTakes0 D cI cJ cZ cG cH co sq cw ct cr cg cx) (by decide) rfl (Nat.le_of_ble_eq_true rfl) ?_
  intro p e s m below meth c ls A hx hb hr hml hts hown hlocks hnm hsz hP hK hD hA hS hl
  have hown : s.vm.findClass RX0 = some m.cls := hown
  have hP : va_P D vwCl [(co, .inr (0, [.ref cw, .ref ct, .ref cr, .ref cg, .ref cx, .int 0, .int 0, .int 0, .int 0])), (ct, .inl (cI, 8, .inl (fun _ => 0))), (sq, .inl (cI, 8, .inl (fun _ => 0)))] s.heap := hP
  have hD : va_D A [(co, .inr (0, [.ref cw, .ref ct, .ref cr, .ref cg, .ref cx, .int 0, .int 0, .int 0, .int 0])), (ct, .inl (cI, 8, .inl (fun _ => 0))), (sq, .inl (cI, 8, .inl (fun _ => 0)))] := hD
  have hl : lv_has ls 2 [(0, .ref co), (1, .ref sq)] := hl
  refine lv_aload_n hx hb dX0_copyTakes_0 rfl (lv_at hl 1 rfl) ?_
  refine lv_iconst (v := 0) hx hb dX0_copyTakes_1 (by decide) ?_
  refine lv_aload_n hx hb dX0_copyTakes_2 rfl (lv_at hl 0 rfl) ?_
  refine va_get (D := D) (ci := 0) (v := .ref ct) (C := RX0) (T := TX0) (N := 9) hx hb hts in_X0_copyTakes_X0 hown hK hP 0 rfl rfl 1 (by decide) (hts (.fieldLink RX0 15 "PowerRails$Course" "takes" "[I") (by decide +kernel)) (fun _ h9 => h9) rfl dX0_copyTakes_3 ?_
  refine lv_iconst (v := 0) hx hb dX0_copyTakes_6 (by decide) ?_
  refine lv_bipush (v := 8) hx hb dX0_copyTakes_7 (by decide) ?_
  refine va_copyi hx hb (hml.trans hl.1.symm) hown (hts (.methodLink RX0 37 arraycopyName) (by decide +kernel)) (hts (.native arraycopyName) (by decide +kernel)) (hts (.static arraycopyName) (by decide +kernel)) (hts (.initialized "java/lang/System") (by decide +kernel)) hK hP hD hS 2 1 0 0 rfl rfl rfl rfl rfl (by decide) (by decide) (by decide) (by decide) (by decide) (fun _ _ => rfl) (Nat.le_of_ble_eq_true rfl) (Nat.le_of_ble_eq_true rfl) dX0_copyTakes_9 (fun H locs hP hD hS => ?_)
  obtain ⟨f1, ef1⟩ : ∃ fz9 : Nat → Int32, fz9 = va_cpy (fun _ => 0) (fun _ => 0) (0 : Int32).toNatClampNeg (0 : Int32).toNatClampNeg (8 : Int32).toNatClampNeg := ⟨_, rfl⟩
  have hP : va_P D vwCl [(co, .inr (0, [.ref cw, .ref ct, .ref cr, .ref cg, .ref cx, .int 0, .int 0, .int 0, .int 0])), (ct, .inl (cI, 8, .inl f1)), (sq, .inl (cI, 8, .inl (fun _ => 0)))] H := by rw [ef1]; exact hP
  have hD : va_D A [(co, .inr (0, [.ref cw, .ref ct, .ref cr, .ref cg, .ref cx, .int 0, .int 0, .int 0, .int 0])), (ct, .inl (cI, 8, .inl f1)), (sq, .inl (cI, 8, .inl (fun _ => 0)))] := by rw [ef1]; exact hD
  refine W.widen (k := 0) (n := 0) (by decide) (by decide) ?_
  have hP9 := hP.sub (ws' := [(co, .inr (0, [.ref cw, .ref ct, .ref cr, .ref cg, .ref cx, .int 0, .int 0, .int 0, .int 0])), (ct, .inl (cI, 8, .inl f1)), (sq, .inl (cI, 8, .inl (fun _ => 0)))]) [0, 1, 2] rfl
  have hD9 := hD.sub (ws' := [(co, .inr (0, [.ref cw, .ref ct, .ref cr, .ref cg, .ref cx, .int 0, .int 0, .int 0, .int 0])), (ct, .inl (cI, 8, .inl f1)), (sq, .inl (cI, 8, .inl (fun _ => 0)))]) [0, 1, 2] (by decide) rfl
  exact W.vret hx hb hr (fun t ht hW => ⟨⟨(), rfl, trivial, ⟨f1, xB_of ht hW hP9 hK hD9⟩⟩, hS.F ht⟩) hS.2.2 dX0_copyTakes_12
theorem in_X0_begin_X3 : ∀ w ∈ wsX30, w ∈ wsX0_begin := by decide +kernel
abbrev W_begin0 (cI cJ cZ cG cH : ClassId) (co : Nat) (pl : Nat) (p0 : Int32) (cw : Nat) (ct : Nat) (cr : Nat) (cg : Nat) (cx : Nat) (pn : Nat) (pt : Nat) : va_W := [(co, .inr (0, [.ref cw, .ref ct, .ref cr, .ref cg, .ref cx, .int 0, .int 0, .int 0, .int 0])), (pl, .inr (2, [.ref pn, .ref pt, .int 0, .int 999, .int 0, .int 5]))]
abbrev Q_begin0 (D : va_G) (cI cJ cZ cG cH : ClassId) (co : Nat) (pl : Nat) (p0 : Int32) (cw : Nat) (ct : Nat) (cr : Nat) (cg : Nat) (cx : Nat) (pn : Nat) (pt : Nat) (A : Nat → Prop) : Array Value → State → Outcome → State → Prop := va_Qi (fun (r : Int32) (_ : Unit) => r = 0) (fun _ t => xB D (tyL cI cJ cZ cG cH) [(co, .inr (0, [.ref cw, .ref ct, .ref cr, .ref cg, .ref cx, .int 0, .int 0, .int 0, .int 0])), (pl, .inr (2, [.ref pn, .ref pt, .int 0, .int 999, .int 0, .int 5]))] A t) A
abbrev rm_begin0 : Room := { frames := 0, cells := 0, slots := 0, locals := 0 }
set_option maxRecDepth 100000 in
set_option maxHeartbeats 4000000 in
theorem c_begin0 (l : Launch) (D : va_G) (cI cJ cZ cG cH : ClassId) (sz : Nat) (co : Nat) (pl : Nat) (p0 : Int32) (cw : Nat) (ct : Nat) (cr : Nat) (cg : Nat) (cx : Nat) (pn : Nat) (pt : Nat) : Met l yX0_begin wsX0_begin rm_begin0 (xPc [.ref co, .ref pl, .int p0] D (tyL cI cJ cZ cG cH) (W_begin0 cI cJ cZ cG cH co pl p0 cw ct cr cg cx pn pt) sz) (Q_begin0 D cI cJ cZ cG cH co pl p0 cw ct cr cg cx pn pt (va_A (W_begin0 cI cJ cZ cG cH co pl p0 cw ct cr cg cx pn pt) sz)) 0 0 (va_A (W_begin0 cI cJ cZ cG cH co pl p0 cw ct cr cg cx pn pt) sz) := by
  refine xMet (cc := cX0_begin) (maxL := 5) (ret := (some .int)) (Qf := Q_begin0 D cI cJ cZ cG cH co pl p0 cw ct cr cg cx pn pt) (by decide) rfl (Nat.le_of_ble_eq_true rfl) ?_
  intro p e s m below meth c ls A hx hb hr hml hts hown hlocks hnm hsz hP hK hD hA hS hl
  have hown : s.vm.findClass RX0 = some m.cls := hown
  have hP : va_P D vwCl [(co, .inr (0, [.ref cw, .ref ct, .ref cr, .ref cg, .ref cx, .int 0, .int 0, .int 0, .int 0])), (pl, .inr (2, [.ref pn, .ref pt, .int 0, .int 999, .int 0, .int 5]))] s.heap := hP
  have hD : va_D A [(co, .inr (0, [.ref cw, .ref ct, .ref cr, .ref cg, .ref cx, .int 0, .int 0, .int 0, .int 0])), (pl, .inr (2, [.ref pn, .ref pt, .int 0, .int 999, .int 0, .int 5]))] := hD
  have hl : lv_has ls 5 [(0, .ref co), (1, .ref pl), (2, .int p0)] := hl
  refine lv_iconst (v := 0) hx hb dX0_begin_0 (by decide) ?_
  refine lv_istore_n (lv' := [(3, .int 0), (0, .ref co), (1, .ref pl), (2, .int p0)]) hx hb dX0_begin_1 rfl hl (by decide) rfl (fun ls hl => ?_)
  refine lv_iconst (v := 0) hx hb dX0_begin_2 (by decide) ?_
  refine lv_istore (lv' := [(4, .int 0), (3, .int 0), (0, .ref co), (1, .ref pl), (2, .int p0)]) hx hb dX0_begin_3 hl (by decide) rfl (fun ls hl => ?_)
  refine lv_iload hx hb dX0_begin_5 (lv_at hl 0 rfl) ?_
  refine lv_aload_n hx hb dX0_begin_7 rfl (lv_at hl 3 rfl) ?_
  refine va_get (D := D) (ci := 2) (v := .int 0) (C := RX3) (T := TX3) (N := 6) hx hb hts in_X0_begin_X3 hown hK hP 1 rfl rfl 2 (by decide) (hts (.fieldLink RX0 27 "PowerRails$Plan" "rails" "I") (by decide +kernel)) (fun _ h9 => h9) rfl dX0_begin_8 ?_
  refine lv_icmp_ge (tgt := 95) hx hb dX0_begin_11 (by decide) (fun _ => ?_) (fun c9 => absurd c9 (by decide))
  refine lv_iload_n hx hb dX0_begin_95 rfl (lv_at hl 1 rfl) ?_
  refine W.widen (k := 0) (n := 0) (by decide) (by decide) ?_
  have hP9 := hP.sub (ws' := [(co, .inr (0, [.ref cw, .ref ct, .ref cr, .ref cg, .ref cx, .int 0, .int 0, .int 0, .int 0])), (pl, .inr (2, [.ref pn, .ref pt, .int 0, .int 999, .int 0, .int 5]))]) [0, 1] rfl
  have hD9 := hD.sub (ws' := [(co, .inr (0, [.ref cw, .ref ct, .ref cr, .ref cg, .ref cx, .int 0, .int 0, .int 0, .int 0])), (pl, .inr (2, [.ref pn, .ref pt, .int 0, .int 999, .int 0, .int 5]))]) [0, 1] (by decide) rfl
  exact W.iret (v := 0) hx hb hr (fun t ht hW => ⟨⟨0, (), rfl, rfl, xB_of ht hW hP9 hK hD9⟩, hS.F ht⟩) hS.2.2 dX0_begin_96
theorem in_X0_follow_X0 : ∀ w ∈ wsX00, w ∈ wsX0_follow := by decide +kernel
abbrev W_follow0 (cI cJ cZ cG cH : ClassId) (co : Nat) (pl : Nat) (p0 : Int32) (cw : Nat) (ct : Nat) (cr : Nat) (cg : Nat) (cx : Nat) (pn : Nat) (pt : Nat) : va_W := [(co, .inr (0, [.ref cw, .ref ct, .ref cr, .ref cg, .ref cx, .int 0, .int 0, .int 0, .int 0])), (pl, .inr (2, [.ref pn, .ref pt, .int 0, .int 999, .int 0, .int 5]))]
abbrev Q_follow0 (D : va_G) (cI cJ cZ cG cH : ClassId) (co : Nat) (pl : Nat) (p0 : Int32) (cw : Nat) (ct : Nat) (cr : Nat) (cg : Nat) (cx : Nat) (pn : Nat) (pt : Nat) (A : Nat → Prop) : Array Value → State → Outcome → State → Prop := va_Qv (fun (_ : Unit) => True) (fun _ t => xB D (tyL cI cJ cZ cG cH) [(co, .inr (0, [.ref cw, .ref ct, .ref cr, .ref cg, .ref cx, .int 0, .int 0, .int 0, .int 0])), (pl, .inr (2, [.ref pn, .ref pt, .int 0, .int 999, .int 0, .int 5]))] A t) A
abbrev rm_follow0 : Room := { frames := 1, cells := 0, slots := 0, locals := 24 }
set_option maxRecDepth 100000 in
set_option maxHeartbeats 4000000 in
theorem c_follow0 (l : Launch) (D : va_G) (cI cJ cZ cG cH : ClassId) (sz : Nat) (co : Nat) (pl : Nat) (p0 : Int32) (cw : Nat) (ct : Nat) (cr : Nat) (cg : Nat) (cx : Nat) (pn : Nat) (pt : Nat) : Met l yX0_follow wsX0_follow rm_follow0 (xPc [.ref co, .ref pl, .int p0] D (tyL cI cJ cZ cG cH) (W_follow0 cI cJ cZ cG cH co pl p0 cw ct cr cg cx pn pt) sz) (Q_follow0 D cI cJ cZ cG cH co pl p0 cw ct cr cg cx pn pt (va_A (W_follow0 cI cJ cZ cG cH co pl p0 cw ct cr cg cx pn pt) sz)) 0 0 (va_A (W_follow0 cI cJ cZ cG cH co pl p0 cw ct cr cg cx pn pt) sz) := by
  refine xMet (cc := cX0_follow) (maxL := 7) (ret := none) (Qf := Q_follow0 D cI cJ cZ cG cH co pl p0 cw ct cr cg cx pn pt) (by decide) rfl (Nat.le_of_ble_eq_true rfl) ?_
  intro p e s m below meth c ls A hx hb hr hml hts hown hlocks hnm hsz hP hK hD hA hS hl
  have hown : s.vm.findClass RX0 = some m.cls := hown
  have hP : va_P D vwCl [(co, .inr (0, [.ref cw, .ref ct, .ref cr, .ref cg, .ref cx, .int 0, .int 0, .int 0, .int 0])), (pl, .inr (2, [.ref pn, .ref pt, .int 0, .int 999, .int 0, .int 5]))] s.heap := hP
  have hD : va_D A [(co, .inr (0, [.ref cw, .ref ct, .ref cr, .ref cg, .ref cx, .int 0, .int 0, .int 0, .int 0])), (pl, .inr (2, [.ref pn, .ref pt, .int 0, .int 999, .int 0, .int 5]))] := hD
  have hl : lv_has ls 7 [(0, .ref co), (1, .ref pl), (2, .int p0)] := hl
  refine lv_iconst (v := 0) hx hb dX0_follow_0 (by decide) ?_
  refine lv_istore_n (lv' := [(3, .int 0), (0, .ref co), (1, .ref pl), (2, .int p0)]) hx hb dX0_follow_1 rfl hl (by decide) rfl (fun ls hl => ?_)
  refine lv_aload_n hx hb dX0_follow_2 rfl (lv_at hl 1 rfl) ?_
  refine lv_iconst (v := 0) hx hb dX0_follow_3 (by decide) ?_
  refine va_put (D := D) (ci := 0) (v := .int 0) (ty := .int) (C := RX0) (T := TX0) (N := 9) hx hb hts in_X0_follow_X0 tyX0 tyX0_ok nmX0 hown hK hP hD hS 0 rfl rfl 5 (by decide) (hts (.fieldLink RX0 43 "PowerRails$Course" "up" "I") (by decide +kernel)) (fun _ h9 => h9) rfl (by decide +kernel) rfl rfl (Nat.le_of_ble_eq_true rfl) dX0_follow_4 (fun H locs hP hD hS => ?_)
  have hP : va_P D vwCl [(co, .inr (0, [.ref cw, .ref ct, .ref cr, .ref cg, .ref cx, .int 0, .int 0, .int 0, .int 0])), (pl, .inr (2, [.ref pn, .ref pt, .int 0, .int 999, .int 0, .int 5]))] H := hP
  have hD : va_D A [(co, .inr (0, [.ref cw, .ref ct, .ref cr, .ref cg, .ref cx, .int 0, .int 0, .int 0, .int 0])), (pl, .inr (2, [.ref pn, .ref pt, .int 0, .int 999, .int 0, .int 5]))] := hD
  refine lv_aload_n hx hb dX0_follow_7 rfl (lv_at hl 1 rfl) ?_
  refine lv_iconst (v := 0) hx hb dX0_follow_8 (by decide) ?_
  refine va_put (D := D) (ci := 0) (v := .int 0) (ty := .int) (C := RX0) (T := TX0) (N := 9) hx hb hts in_X0_follow_X0 tyX0 tyX0_ok nmX0 hown hK hP hD hS 0 rfl rfl 6 (by decide) (hts (.fieldLink RX0 46 "PowerRails$Course" "last" "I") (by decide +kernel)) (fun _ h9 => h9) rfl (by decide +kernel) rfl rfl (Nat.le_of_ble_eq_true rfl) dX0_follow_9 (fun H locs hP hD hS => ?_)
  have hP : va_P D vwCl [(co, .inr (0, [.ref cw, .ref ct, .ref cr, .ref cg, .ref cx, .int 0, .int 0, .int 0, .int 0])), (pl, .inr (2, [.ref pn, .ref pt, .int 0, .int 999, .int 0, .int 5]))] H := hP
  have hD : va_D A [(co, .inr (0, [.ref cw, .ref ct, .ref cr, .ref cg, .ref cx, .int 0, .int 0, .int 0, .int 0])), (pl, .inr (2, [.ref pn, .ref pt, .int 0, .int 999, .int 0, .int 5]))] := hD
  refine lv_iconst (v := 0) hx hb dX0_follow_12 (by decide) ?_
  refine lv_istore (lv' := [(4, .int 0), (3, .int 0), (0, .ref co), (1, .ref pl), (2, .int p0)]) hx hb dX0_follow_13 hl (by decide) rfl (fun ls hl => ?_)
  refine lv_iload hx hb dX0_follow_15 (lv_at hl 0 rfl) ?_
  refine lv_bipush (v := 8) hx hb dX0_follow_17 (by decide) ?_
  refine lv_icmp_gt (tgt := 121) hx hb dX0_follow_19 (by decide) (fun c9 => absurd c9 (by decide)) (fun _ => ?_)
  refine lv_iload_n hx hb dX0_follow_22 rfl (lv_at hl 1 rfl) ?_
  refine lv_aload_n hx hb dX0_follow_23 rfl (lv_at hl 2 rfl) ?_
  refine lv_aload_n hx hb dX0_follow_24 rfl (lv_at hl 3 rfl) ?_
  refine lv_iload_n hx hb dX0_follow_25 rfl (lv_at hl 4 rfl) ?_
  refine lv_iload_n hx hb dX0_follow_26 rfl (lv_at hl 1 rfl) ?_
  refine lv_iconst (v := (-1)) hx hb dX0_follow_27 (by decide) ?_
  refine lv_ixor hx hb dX0_follow_28 ?_
  refine lv_topi (fun v1 ev1 => ?_)
  obtain rfl : v1 = (-1) := ev1.trans (by decide)
  refine lv_iand hx hb dX0_follow_29 ?_
  refine lv_topi (fun v2 ev2 => ?_)
  have ev2 : v2 = p0 := ev2.trans (xand1 _)
  have hPc := hP.sub (ws' := [(co, .inr (0, [.ref cw, .ref ct, .ref cr, .ref cg, .ref cx, .int 0, .int 0, .int 0, .int 0])), (pl, .inr (2, [.ref pn, .ref pt, .int 0, .int 999, .int 0, .int 5]))]) [0, 1] rfl
  have hDc := hD.sub (ws' := [(co, .inr (0, [.ref cw, .ref ct, .ref cr, .ref cg, .ref cx, .int 0, .int 0, .int 0, .int 0])), (pl, .inr (2, [.ref pn, .ref pt, .int 0, .int 999, .int 0, .int 5]))]) [0, 1] (by decide) rfl
  have hFc := va_free (wc := [(co, .inr (0, [.ref cw, .ref ct, .ref cr, .ref cg, .ref cx, .int 0, .int 0, .int 0, .int 0])), (pl, .inr (2, [.ref pn, .ref pt, .int 0, .int 999, .int 0, .int 5]))]) hD hS hA [0, 1] rfl
  refine va_calli (va_runV (As := [.ref pl, .int v2]) (rest := [.int 0]) ⟨hx, hb, hml, hown, hts⟩ (c_begin0 l D cI cJ cZ cG cH H.size co pl v2 cw ct cr cg cx pn pt) (cwV 2 hts gX0_follow_X0_begin rfl rfl rfl (by decide +kernel) ⟨Nat.le_of_ble_eq_true rfl, Nat.le_of_ble_eq_true rfl⟩) ⟨xPc_blind, va_recv hK hPc (ci := 0) (q0 := 0) rfl rfl, xPc_pre hPc hK hDc⟩ rfl rfl hl.1 rfl (lv_room (Nat.le_of_ble_eq_true rfl)) dX0_follow_30 ⟨Nat.le_of_ble_eq_true rfl, Nat.le_of_ble_eq_true rfl⟩) hS (fun q _ h => hFc q h) hFc (fun r3 u t H1 locs ht hvm hw3 hB hz1 hk1 hS => ?_)
  obtain ⟨hP1, hK1, hD1⟩ := hB
  rw [ht] at hP1
  obtain ⟨hP, hD⟩ := va_join (wr := []) (w1 := [(co, .inr (0, [.ref cw, .ref ct, .ref cr, .ref cg, .ref cx, .int 0, .int 0, .int 0, .int 0])), (pl, .inr (2, [.ref pn, .ref pt, .int 0, .int 999, .int 0, .int 5]))]) hP hD [0, 1] [] rfl rfl (by decide) (by decide) hk1 hFc hP1 hD1
  generalize H1 = H at hP hS ⊢
  have hP : va_P D vwCl [(co, .inr (0, [.ref cw, .ref ct, .ref cr, .ref cg, .ref cx, .int 0, .int 0, .int 0, .int 0])), (pl, .inr (2, [.ref pn, .ref pt, .int 0, .int 999, .int 0, .int 5]))] H := hP
  have hD : va_D A [(co, .inr (0, [.ref cw, .ref ct, .ref cr, .ref cg, .ref cx, .int 0, .int 0, .int 0, .int 0])), (pl, .inr (2, [.ref pn, .ref pt, .int 0, .int 999, .int 0, .int 5]))] := hD
  obtain rfl : r3 = 0 := hw3
  refine lv_ior hx hb dX0_follow_33 ?_
  refine lv_topi (fun v4 ev4 => ?_)
  obtain rfl : v4 = 0 := ev4.trans (by decide)
  refine lv_istore_n (lv' := [(3, .int 0), (4, .int 0), (0, .ref co), (1, .ref pl), (2, .int p0)]) hx hb dX0_follow_34 rfl hl (by decide) rfl (fun ls hl => ?_)
  refine lv_iload_n hx hb dX0_follow_35 rfl (lv_at hl 0 rfl) ?_
  refine lv_aload_n hx hb dX0_follow_36 rfl (lv_at hl 2 rfl) ?_
  refine va_get (D := D) (ci := 0) (v := .int 0) (C := RX0) (T := TX0) (N := 9) hx hb hts in_X0_follow_X0 hown hK hP 0 rfl rfl 5 (by decide) (hts (.fieldLink RX0 43 "PowerRails$Course" "up" "I") (by decide +kernel)) (fun _ h9 => h9) rfl dX0_follow_37 ?_
  refine lv_iconst (v := (-1)) hx hb dX0_follow_40 (by decide) ?_
  refine lv_ixor hx hb dX0_follow_41 ?_
  refine lv_topi (fun v5 ev5 => ?_)
  obtain rfl : v5 = (-1) := ev5.trans (by decide)
  refine lv_iand hx hb dX0_follow_42 ?_
  refine lv_topi (fun v6 ev6 => ?_)
  obtain rfl : v6 = 0 := ev6.trans (by decide)
  refine lv_istore (lv' := [(5, .int 0), (3, .int 0), (4, .int 0), (0, .ref co), (1, .ref pl), (2, .int p0)]) hx hb dX0_follow_43 hl (by decide) rfl (fun ls hl => ?_)
  refine lv_iload hx hb dX0_follow_45 (lv_at hl 0 rfl) ?_
  refine lv_if_ne (tgt := 51) hx hb dX0_follow_47 (by decide) (fun c9 => absurd c9 (by decide)) (fun _ => ?_)
  refine W.widen (k := 0) (n := 0) (by decide) (by decide) ?_
  have hP9 := hP.sub (ws' := [(co, .inr (0, [.ref cw, .ref ct, .ref cr, .ref cg, .ref cx, .int 0, .int 0, .int 0, .int 0])), (pl, .inr (2, [.ref pn, .ref pt, .int 0, .int 999, .int 0, .int 5]))]) [0, 1] rfl
  have hD9 := hD.sub (ws' := [(co, .inr (0, [.ref cw, .ref ct, .ref cr, .ref cg, .ref cx, .int 0, .int 0, .int 0, .int 0])), (pl, .inr (2, [.ref pn, .ref pt, .int 0, .int 999, .int 0, .int 5]))]) [0, 1] (by decide) rfl
  exact W.vret hx hb hr (fun t ht hW => ⟨⟨(), rfl, trivial, xB_of ht hW hP9 hK hD9⟩, hS.F ht⟩) hS.2.2 dX0_follow_50
theorem in_X0_drawnAt_X3 : ∀ w ∈ wsX30, w ∈ wsX0_drawnAt := by decide +kernel
abbrev W_drawnAt0 (cI cJ cZ cG cH : ClassId) (co : Nat) (pl : Nat) (p0 : Int32) (cw : Nat) (ct : Nat) (cr : Nat) (cg : Nat) (cx : Nat) (pn : Nat) (pt : Nat) : va_W := [(co, .inr (0, [.ref cw, .ref ct, .ref cr, .ref cg, .ref cx, .int 0, .int 0, .int 0, .int 0])), (pl, .inr (2, [.ref pn, .ref pt, .int 0, .int 999, .int 0, .int 5]))]
abbrev Q_drawnAt0 (D : va_G) (cI cJ cZ cG cH : ClassId) (co : Nat) (pl : Nat) (p0 : Int32) (cw : Nat) (ct : Nat) (cr : Nat) (cg : Nat) (cx : Nat) (pn : Nat) (pt : Nat) (A : Nat → Prop) : Array Value → State → Outcome → State → Prop := va_Qi (fun (r : Int32) (_ : Unit) => r = 0) (fun _ t => xB D (tyL cI cJ cZ cG cH) [(co, .inr (0, [.ref cw, .ref ct, .ref cr, .ref cg, .ref cx, .int 0, .int 0, .int 0, .int 0])), (pl, .inr (2, [.ref pn, .ref pt, .int 0, .int 999, .int 0, .int 5]))] A t) A
abbrev rm_drawnAt0 : Room := { frames := 0, cells := 0, slots := 0, locals := 0 }
set_option maxRecDepth 100000 in
set_option maxHeartbeats 4000000 in
theorem c_drawnAt0 (l : Launch) (D : va_G) (cI cJ cZ cG cH : ClassId) (sz : Nat) (co : Nat) (pl : Nat) (p0 : Int32) (cw : Nat) (ct : Nat) (cr : Nat) (cg : Nat) (cx : Nat) (pn : Nat) (pt : Nat) : Met l yX0_drawnAt wsX0_drawnAt rm_drawnAt0 (xPc [.ref co, .ref pl, .int p0] D (tyL cI cJ cZ cG cH) (W_drawnAt0 cI cJ cZ cG cH co pl p0 cw ct cr cg cx pn pt) sz) (Q_drawnAt0 D cI cJ cZ cG cH co pl p0 cw ct cr cg cx pn pt (va_A (W_drawnAt0 cI cJ cZ cG cH co pl p0 cw ct cr cg cx pn pt) sz)) 0 0 (va_A (W_drawnAt0 cI cJ cZ cG cH co pl p0 cw ct cr cg cx pn pt) sz) := by
  refine xMet (cc := cX0_drawnAt) (maxL := 5) (ret := (some .int)) (Qf := Q_drawnAt0 D cI cJ cZ cG cH co pl p0 cw ct cr cg cx pn pt) (by decide) rfl (Nat.le_of_ble_eq_true rfl) ?_
  intro p e s m below meth c ls A hx hb hr hml hts hown hlocks hnm hsz hP hK hD hA hS hl
  have hown : s.vm.findClass RX0 = some m.cls := hown
  have hP : va_P D vwCl [(co, .inr (0, [.ref cw, .ref ct, .ref cr, .ref cg, .ref cx, .int 0, .int 0, .int 0, .int 0])), (pl, .inr (2, [.ref pn, .ref pt, .int 0, .int 999, .int 0, .int 5]))] s.heap := hP
  have hD : va_D A [(co, .inr (0, [.ref cw, .ref ct, .ref cr, .ref cg, .ref cx, .int 0, .int 0, .int 0, .int 0])), (pl, .inr (2, [.ref pn, .ref pt, .int 0, .int 999, .int 0, .int 5]))] := hD
  have hl : lv_has ls 5 [(0, .ref co), (1, .ref pl), (2, .int p0)] := hl
  refine lv_iconst (v := 0) hx hb dX0_drawnAt_0 (by decide) ?_
  refine lv_istore_n (lv' := [(3, .int 0), (0, .ref co), (1, .ref pl), (2, .int p0)]) hx hb dX0_drawnAt_1 rfl hl (by decide) rfl (fun ls hl => ?_)
  refine lv_iconst (v := 0) hx hb dX0_drawnAt_2 (by decide) ?_
  refine lv_istore (lv' := [(4, .int 0), (3, .int 0), (0, .ref co), (1, .ref pl), (2, .int p0)]) hx hb dX0_drawnAt_3 hl (by decide) rfl (fun ls hl => ?_)
  refine lv_iload hx hb dX0_drawnAt_5 (lv_at hl 0 rfl) ?_
  refine lv_aload_n hx hb dX0_drawnAt_7 rfl (lv_at hl 3 rfl) ?_
  refine va_get (D := D) (ci := 2) (v := .int 0) (C := RX3) (T := TX3) (N := 6) hx hb hts in_X0_drawnAt_X3 hown hK hP 1 rfl rfl 2 (by decide) (hts (.fieldLink RX0 27 "PowerRails$Plan" "rails" "I") (by decide +kernel)) (fun _ h9 => h9) rfl dX0_drawnAt_8 ?_
  refine lv_icmp_ge (tgt := 77) hx hb dX0_drawnAt_11 (by decide) (fun _ => ?_) (fun c9 => absurd c9 (by decide))
  refine lv_iload_n hx hb dX0_drawnAt_77 rfl (lv_at hl 1 rfl) ?_
  refine W.widen (k := 0) (n := 0) (by decide) (by decide) ?_
  have hP9 := hP.sub (ws' := [(co, .inr (0, [.ref cw, .ref ct, .ref cr, .ref cg, .ref cx, .int 0, .int 0, .int 0, .int 0])), (pl, .inr (2, [.ref pn, .ref pt, .int 0, .int 999, .int 0, .int 5]))]) [0, 1] rfl
  have hD9 := hD.sub (ws' := [(co, .inr (0, [.ref cw, .ref ct, .ref cr, .ref cg, .ref cx, .int 0, .int 0, .int 0, .int 0])), (pl, .inr (2, [.ref pn, .ref pt, .int 0, .int 999, .int 0, .int 5]))]) [0, 1] (by decide) rfl
  exact W.iret (v := 0) hx hb hr (fun t ht hW => ⟨⟨0, (), rfl, rfl, xB_of ht hW hP9 hK hD9⟩, hS.F ht⟩) hS.2.2 dX0_drawnAt_78
theorem in_X10_followTimes_X10 : ∀ w ∈ wsX100, w ∈ wsX10_followTimes := by decide +kernel
theorem in_X10_followTimes_X5 : ∀ w ∈ wsX50, w ∈ wsX10_followTimes := by decide +kernel
abbrev W_followTimes0 (cI cJ cZ cG cH : ClassId) (xo : Nat) (tp : Nat) (rd : Nat) (rn : Nat) (co : Nat) (wy : Nat) (sg : Nat) (sh : Nat) (pl : Nat) (sp : Nat) (pn : Nat) (pt : Nat) (cw : Nat) (ct : Nat) (cr : Nat) (cg : Nat) (cx : Nat) (hy : Nat) (rs : Nat) (ri : Nat) (ra : Nat) (rt : Nat) (rg : Nat) : va_W := [(xo, .inr (9, [.ref tp, .ref rd, .ref rn, .ref co, .ref wy, .ref sg, .ref sh, .ref pl, .ref sp, .int 0])), (pl, .inr (2, [.ref pn, .ref pt, .int 0, .int 999, .int 0, .int 5])), (co, .inr (0, [.ref cw, .ref ct, .ref cr, .ref cg, .ref cx, .int 0, .int 0, .int 0, .int 0])), (ct, .inl (cI, 8, .inl (fun _ => 0))), (rn, .inr (4, [.ref hy, .ref rs, .ref ri, .ref ra, .ref rt, .ref rg, .int 0, .int 0, .int 0, .int 0, .int 0, .int 0, .int 0, .int 0])), (rt, .inl (cI, 8, .inl (fun _ => 0)))]
abbrev Q_followTimes0 (D : va_G) (cI cJ cZ cG cH : ClassId) (xo : Nat) (tp : Nat) (rd : Nat) (rn : Nat) (co : Nat) (wy : Nat) (sg : Nat) (sh : Nat) (pl : Nat) (sp : Nat) (pn : Nat) (pt : Nat) (cw : Nat) (ct : Nat) (cr : Nat) (cg : Nat) (cx : Nat) (hy : Nat) (rs : Nat) (ri : Nat) (ra : Nat) (rt : Nat) (rg : Nat) (A : Nat → Prop) : Array Value → State → Outcome → State → Prop := va_Qv (fun (_ : Unit) => True) (fun _ t => xB D (tyL cI cJ cZ cG cH) [(xo, .inr (9, [.ref tp, .ref rd, .ref rn, .ref co, .ref wy, .ref sg, .ref sh, .ref pl, .ref sp, .int 0])), (pl, .inr (2, [.ref pn, .ref pt, .int 0, .int 999, .int 0, .int 5])), (co, .inr (0, [.ref cw, .ref ct, .ref cr, .ref cg, .ref cx, .int 0, .int 0, .int 0, .int 0]))] A t) A
abbrev rm_followTimes0 : Room := { frames := 2, cells := 0, slots := 0, locals := 61 }
set_option maxRecDepth 100000 in
set_option maxHeartbeats 4000000 in
theorem c_followTimes0 (l : Launch) (D : va_G) (cI cJ cZ cG cH : ClassId) (sz : Nat) (xo : Nat) (tp : Nat) (rd : Nat) (rn : Nat) (co : Nat) (wy : Nat) (sg : Nat) (sh : Nat) (pl : Nat) (sp : Nat) (pn : Nat) (pt : Nat) (cw : Nat) (ct : Nat) (cr : Nat) (cg : Nat) (cx : Nat) (hy : Nat) (rs : Nat) (ri : Nat) (ra : Nat) (rt : Nat) (rg : Nat) : Met l yX10_followTimes wsX10_followTimes rm_followTimes0 (xPc [.ref xo] D (tyL cI cJ cZ cG cH) (W_followTimes0 cI cJ cZ cG cH xo tp rd rn co wy sg sh pl sp pn pt cw ct cr cg cx hy rs ri ra rt rg) sz) (Q_followTimes0 D cI cJ cZ cG cH xo tp rd rn co wy sg sh pl sp pn pt cw ct cr cg cx hy rs ri ra rt rg (va_A (W_followTimes0 cI cJ cZ cG cH xo tp rd rn co wy sg sh pl sp pn pt cw ct cr cg cx hy rs ri ra rt rg) sz)) 0 0 (va_A (W_followTimes0 cI cJ cZ cG cH xo tp rd rn co wy sg sh pl sp pn pt cw ct cr cg cx hy rs ri ra rt rg) sz) := by
  refine xMet (cc := cX10_followTimes) (maxL := 1) (ret := none) (Qf := Q_followTimes0 D cI cJ cZ cG cH xo tp rd rn co wy sg sh pl sp pn pt cw ct cr cg cx hy rs ri ra rt rg) (by decide) rfl (Nat.le_of_ble_eq_true rfl) ?_
  intro p e s m below meth c ls A hx hb hr hml hts hown hlocks hnm hsz hP hK hD hA hS hl
  have hown : s.vm.findClass RX10 = some m.cls := hown
  have hP : va_P D vwCl [(xo, .inr (9, [.ref tp, .ref rd, .ref rn, .ref co, .ref wy, .ref sg, .ref sh, .ref pl, .ref sp, .int 0])), (pl, .inr (2, [.ref pn, .ref pt, .int 0, .int 999, .int 0, .int 5])), (co, .inr (0, [.ref cw, .ref ct, .ref cr, .ref cg, .ref cx, .int 0, .int 0, .int 0, .int 0])), (ct, .inl (cI, 8, .inl (fun _ => 0))), (rn, .inr (4, [.ref hy, .ref rs, .ref ri, .ref ra, .ref rt, .ref rg, .int 0, .int 0, .int 0, .int 0, .int 0, .int 0, .int 0, .int 0])), (rt, .inl (cI, 8, .inl (fun _ => 0)))] s.heap := hP
  have hD : va_D A [(xo, .inr (9, [.ref tp, .ref rd, .ref rn, .ref co, .ref wy, .ref sg, .ref sh, .ref pl, .ref sp, .int 0])), (pl, .inr (2, [.ref pn, .ref pt, .int 0, .int 999, .int 0, .int 5])), (co, .inr (0, [.ref cw, .ref ct, .ref cr, .ref cg, .ref cx, .int 0, .int 0, .int 0, .int 0])), (ct, .inl (cI, 8, .inl (fun _ => 0))), (rn, .inr (4, [.ref hy, .ref rs, .ref ri, .ref ra, .ref rt, .ref rg, .int 0, .int 0, .int 0, .int 0, .int 0, .int 0, .int 0, .int 0])), (rt, .inl (cI, 8, .inl (fun _ => 0)))] := hD
  have hl : lv_has ls 1 [(0, .ref xo)] := hl
  refine lv_aload_n hx hb dX10_followTimes_0 rfl (lv_at hl 0 rfl) ?_
  refine va_get (D := D) (ci := 9) (v := .ref co) (C := RX10) (T := TX10) (N := 10) hx hb hts in_X10_followTimes_X10 hown hK hP 0 rfl rfl 3 (by decide) (hts (.fieldLink RX10 26 "PowerRails" "course" "LPowerRails$Course;") (by decide +kernel)) (fun _ h9 => h9) rfl dX10_followTimes_1 ?_
  refine lv_aload_n hx hb dX10_followTimes_4 rfl (lv_at hl 0 rfl) ?_
  refine va_get (D := D) (ci := 9) (v := .ref pl) (C := RX10) (T := TX10) (N := 10) hx hb hts in_X10_followTimes_X10 hown hK hP 0 rfl rfl 7 (by decide) (hts (.fieldLink RX10 56 "PowerRails" "plan" "LPowerRails$Plan;") (by decide +kernel)) (fun _ h9 => h9) rfl dX10_followTimes_5 ?_
  have hPc := hP.sub (ws' := [(co, .inr (0, [.ref cw, .ref ct, .ref cr, .ref cg, .ref cx, .int 0, .int 0, .int 0, .int 0])), (pl, .inr (2, [.ref pn, .ref pt, .int 0, .int 999, .int 0, .int 5]))]) [2, 1] rfl
  have hDc := hD.sub (ws' := [(co, .inr (0, [.ref cw, .ref ct, .ref cr, .ref cg, .ref cx, .int 0, .int 0, .int 0, .int 0])), (pl, .inr (2, [.ref pn, .ref pt, .int 0, .int 999, .int 0, .int 5]))]) [2, 1] (by decide) rfl
  have hFc := va_free (wc := [(co, .inr (0, [.ref cw, .ref ct, .ref cr, .ref cg, .ref cx, .int 0, .int 0, .int 0, .int 0])), (pl, .inr (2, [.ref pn, .ref pt, .int 0, .int 999, .int 0, .int 5]))]) hD hS hA [2, 1] rfl
  refine va_callv (va_runV (As := [.ref pl]) (rest := []) ⟨hx, hb, hml, hown, hts⟩ (c_setWaits0 l D cI cJ cZ cG cH s.heap.size co pl cw ct cr cg cx pn pt) (cwV 1 hts gX10_followTimes_X0_setWaits rfl rfl rfl (by decide +kernel) ⟨Nat.le_of_ble_eq_true rfl, Nat.le_of_ble_eq_true rfl⟩) ⟨xPc_blind, va_recv hK hPc (ci := 0) (q0 := 0) rfl rfl, xPc_pre hPc hK hDc⟩ rfl rfl hl.1 rfl (lv_room (Nat.le_of_ble_eq_true rfl)) dX10_followTimes_8 ⟨Nat.le_of_ble_eq_true rfl, Nat.le_of_ble_eq_true rfl⟩) hS (fun q _ h => hFc q h) hFc (fun u t H1 locs ht hvm hw1 hB hz1 hk1 hS => ?_)
  obtain ⟨hP1, hK1, hD1⟩ := hB
  rw [ht] at hP1
  obtain ⟨hP, hD⟩ := va_join (wr := [(xo, .inr (9, [.ref tp, .ref rd, .ref rn, .ref co, .ref wy, .ref sg, .ref sh, .ref pl, .ref sp, .int 0])), (ct, .inl (cI, 8, .inl (fun _ => 0))), (rn, .inr (4, [.ref hy, .ref rs, .ref ri, .ref ra, .ref rt, .ref rg, .int 0, .int 0, .int 0, .int 0, .int 0, .int 0, .int 0, .int 0])), (rt, .inl (cI, 8, .inl (fun _ => 0)))]) (w1 := [(co, .inr (0, [.ref cw, .ref ct, .ref cr, .ref cg, .ref cx, .int 0, .int 0, .int 0, .int 0])), (pl, .inr (2, [.ref pn, .ref pt, .int 0, .int 999, .int 0, .int 5]))]) hP hD [2, 1] [0, 3, 4, 5] rfl rfl (by decide) (by decide) hk1 hFc hP1 hD1
  generalize H1 = H at hP hS ⊢
  have hP : va_P D vwCl [(xo, .inr (9, [.ref tp, .ref rd, .ref rn, .ref co, .ref wy, .ref sg, .ref sh, .ref pl, .ref sp, .int 0])), (ct, .inl (cI, 8, .inl (fun _ => 0))), (rn, .inr (4, [.ref hy, .ref rs, .ref ri, .ref ra, .ref rt, .ref rg, .int 0, .int 0, .int 0, .int 0, .int 0, .int 0, .int 0, .int 0])), (rt, .inl (cI, 8, .inl (fun _ => 0))), (co, .inr (0, [.ref cw, .ref ct, .ref cr, .ref cg, .ref cx, .int 0, .int 0, .int 0, .int 0])), (pl, .inr (2, [.ref pn, .ref pt, .int 0, .int 999, .int 0, .int 5]))] H := hP
  have hD : va_D A [(xo, .inr (9, [.ref tp, .ref rd, .ref rn, .ref co, .ref wy, .ref sg, .ref sh, .ref pl, .ref sp, .int 0])), (ct, .inl (cI, 8, .inl (fun _ => 0))), (rn, .inr (4, [.ref hy, .ref rs, .ref ri, .ref ra, .ref rt, .ref rg, .int 0, .int 0, .int 0, .int 0, .int 0, .int 0, .int 0, .int 0])), (rt, .inl (cI, 8, .inl (fun _ => 0))), (co, .inr (0, [.ref cw, .ref ct, .ref cr, .ref cg, .ref cx, .int 0, .int 0, .int 0, .int 0])), (pl, .inr (2, [.ref pn, .ref pt, .int 0, .int 999, .int 0, .int 5]))] := hD
  refine lv_aload_n hx hb dX10_followTimes_11 rfl (lv_at hl 0 rfl) ?_
  refine va_get (D := D) (ci := 9) (v := .ref co) (C := RX10) (T := TX10) (N := 10) hx hb hts in_X10_followTimes_X10 hown hK hP 0 rfl rfl 3 (by decide) (hts (.fieldLink RX10 26 "PowerRails" "course" "LPowerRails$Course;") (by decide +kernel)) (fun _ h9 => h9) rfl dX10_followTimes_12 ?_
  refine lv_aload_n hx hb dX10_followTimes_15 rfl (lv_at hl 0 rfl) ?_
  refine va_get (D := D) (ci := 9) (v := .ref rn) (C := RX10) (T := TX10) (N := 10) hx hb hts in_X10_followTimes_X10 hown hK hP 0 rfl rfl 2 (by decide) (hts (.fieldLink RX10 19 "PowerRails" "run" "LPowerRails$Run;") (by decide +kernel)) (fun _ h9 => h9) rfl dX10_followTimes_16 ?_
  refine va_get (D := D) (ci := 4) (v := .ref rt) (C := RX5) (T := TX5) (N := 14) hx hb hts in_X10_followTimes_X5 hown hK hP 2 rfl rfl 4 (by decide) (hts (.fieldLink RX10 150 "PowerRails$Run" "takes" "[I") (by decide +kernel)) (fun _ h9 => h9) rfl dX10_followTimes_19 ?_
  have hPc := hP.sub (ws' := [(co, .inr (0, [.ref cw, .ref ct, .ref cr, .ref cg, .ref cx, .int 0, .int 0, .int 0, .int 0])), (ct, .inl (cI, 8, .inl (fun _ => 0))), (rt, .inl (cI, 8, .inl (fun _ => 0)))]) [4, 1, 3] rfl
  have hDc := hD.sub (ws' := [(co, .inr (0, [.ref cw, .ref ct, .ref cr, .ref cg, .ref cx, .int 0, .int 0, .int 0, .int 0])), (ct, .inl (cI, 8, .inl (fun _ => 0))), (rt, .inl (cI, 8, .inl (fun _ => 0)))]) [4, 1, 3] (by decide) rfl
  have hFc := va_free (wc := [(co, .inr (0, [.ref cw, .ref ct, .ref cr, .ref cg, .ref cx, .int 0, .int 0, .int 0, .int 0])), (ct, .inl (cI, 8, .inl (fun _ => 0))), (rt, .inl (cI, 8, .inl (fun _ => 0)))]) hD hS hA [4, 1, 3] rfl
  refine va_callv (va_runV (As := [.ref rt]) (rest := []) ⟨hx, hb, hml, hown, hts⟩ (c_copyTakes0 l D cI cJ cZ cG cH H.size co rt cw ct cr cg cx) (cwV 1 hts gX10_followTimes_X0_copyTakes rfl rfl rfl (by decide +kernel) ⟨Nat.le_of_ble_eq_true rfl, Nat.le_of_ble_eq_true rfl⟩) ⟨xPc_blind, va_recv hK hPc (ci := 0) (q0 := 0) rfl rfl, xPc_pre hPc hK hDc⟩ rfl rfl hl.1 rfl (lv_room (Nat.le_of_ble_eq_true rfl)) dX10_followTimes_22 ⟨Nat.le_of_ble_eq_true rfl, Nat.le_of_ble_eq_true rfl⟩) hS (fun q _ h => hFc q h) hFc (fun u t H1 locs ht hvm hw2 hB hz1 hk1 hS => ?_)
  obtain ⟨f_3, hP1, hK1, hD1⟩ := hB
  rw [ht] at hP1
  obtain ⟨hP, hD⟩ := va_join (wr := [(xo, .inr (9, [.ref tp, .ref rd, .ref rn, .ref co, .ref wy, .ref sg, .ref sh, .ref pl, .ref sp, .int 0])), (rn, .inr (4, [.ref hy, .ref rs, .ref ri, .ref ra, .ref rt, .ref rg, .int 0, .int 0, .int 0, .int 0, .int 0, .int 0, .int 0, .int 0])), (pl, .inr (2, [.ref pn, .ref pt, .int 0, .int 999, .int 0, .int 5]))]) (w1 := [(co, .inr (0, [.ref cw, .ref ct, .ref cr, .ref cg, .ref cx, .int 0, .int 0, .int 0, .int 0])), (ct, .inl (cI, 8, .inl f_3)), (rt, .inl (cI, 8, .inl (fun _ => 0)))]) hP hD [4, 1, 3] [0, 2, 5] rfl rfl (by decide) (by decide) hk1 hFc hP1 hD1
  generalize H1 = H at hP hS ⊢
  have hP : va_P D vwCl [(xo, .inr (9, [.ref tp, .ref rd, .ref rn, .ref co, .ref wy, .ref sg, .ref sh, .ref pl, .ref sp, .int 0])), (rn, .inr (4, [.ref hy, .ref rs, .ref ri, .ref ra, .ref rt, .ref rg, .int 0, .int 0, .int 0, .int 0, .int 0, .int 0, .int 0, .int 0])), (pl, .inr (2, [.ref pn, .ref pt, .int 0, .int 999, .int 0, .int 5])), (co, .inr (0, [.ref cw, .ref ct, .ref cr, .ref cg, .ref cx, .int 0, .int 0, .int 0, .int 0])), (ct, .inl (cI, 8, .inl f_3)), (rt, .inl (cI, 8, .inl (fun _ => 0)))] H := hP
  have hD : va_D A [(xo, .inr (9, [.ref tp, .ref rd, .ref rn, .ref co, .ref wy, .ref sg, .ref sh, .ref pl, .ref sp, .int 0])), (rn, .inr (4, [.ref hy, .ref rs, .ref ri, .ref ra, .ref rt, .ref rg, .int 0, .int 0, .int 0, .int 0, .int 0, .int 0, .int 0, .int 0])), (pl, .inr (2, [.ref pn, .ref pt, .int 0, .int 999, .int 0, .int 5])), (co, .inr (0, [.ref cw, .ref ct, .ref cr, .ref cg, .ref cx, .int 0, .int 0, .int 0, .int 0])), (ct, .inl (cI, 8, .inl f_3)), (rt, .inl (cI, 8, .inl (fun _ => 0)))] := hD
  refine lv_aload_n hx hb dX10_followTimes_25 rfl (lv_at hl 0 rfl) ?_
  refine va_get (D := D) (ci := 9) (v := .ref co) (C := RX10) (T := TX10) (N := 10) hx hb hts in_X10_followTimes_X10 hown hK hP 0 rfl rfl 3 (by decide) (hts (.fieldLink RX10 26 "PowerRails" "course" "LPowerRails$Course;") (by decide +kernel)) (fun _ h9 => h9) rfl dX10_followTimes_26 ?_
  refine lv_aload_n hx hb dX10_followTimes_29 rfl (lv_at hl 0 rfl) ?_
  refine va_get (D := D) (ci := 9) (v := .ref pl) (C := RX10) (T := TX10) (N := 10) hx hb hts in_X10_followTimes_X10 hown hK hP 0 rfl rfl 7 (by decide) (hts (.fieldLink RX10 56 "PowerRails" "plan" "LPowerRails$Plan;") (by decide +kernel)) (fun _ h9 => h9) rfl dX10_followTimes_30 ?_
  refine lv_aload_n hx hb dX10_followTimes_33 rfl (lv_at hl 0 rfl) ?_
  have hPc := hP.sub (ws' := [(xo, .inr (9, [.ref tp, .ref rd, .ref rn, .ref co, .ref wy, .ref sg, .ref sh, .ref pl, .ref sp, .int 0])), (pl, .inr (2, [.ref pn, .ref pt, .int 0, .int 999, .int 0, .int 5])), (rn, .inr (4, [.ref hy, .ref rs, .ref ri, .ref ra, .ref rt, .ref rg, .int 0, .int 0, .int 0, .int 0, .int 0, .int 0, .int 0, .int 0]))]) [0, 2, 1] rfl
  have hDc := hD.sub (ws' := [(xo, .inr (9, [.ref tp, .ref rd, .ref rn, .ref co, .ref wy, .ref sg, .ref sh, .ref pl, .ref sp, .int 0])), (pl, .inr (2, [.ref pn, .ref pt, .int 0, .int 999, .int 0, .int 5])), (rn, .inr (4, [.ref hy, .ref rs, .ref ri, .ref ra, .ref rt, .ref rg, .int 0, .int 0, .int 0, .int 0, .int 0, .int 0, .int 0, .int 0]))]) [0, 2, 1] (by decide) rfl
  have hFc := va_free (wc := [(xo, .inr (9, [.ref tp, .ref rd, .ref rn, .ref co, .ref wy, .ref sg, .ref sh, .ref pl, .ref sp, .int 0])), (pl, .inr (2, [.ref pn, .ref pt, .int 0, .int 999, .int 0, .int 5])), (rn, .inr (4, [.ref hy, .ref rs, .ref ri, .ref ra, .ref rt, .ref rg, .int 0, .int 0, .int 0, .int 0, .int 0, .int 0, .int 0, .int 0]))]) hD hS hA [0, 2, 1] rfl
  refine va_calli (va_runV (As := []) (rest := [.ref pl, .ref co]) ⟨hx, hb, hml, hown, hts⟩ (c_alive0 l D cI cJ cZ cG cH H.size xo tp rd rn co wy sg sh pl sp pn pt hy rs ri ra rt rg) (cwV 0 hts gX10_followTimes_X10_alive rfl rfl rfl (by decide +kernel) ⟨Nat.le_of_ble_eq_true rfl, Nat.le_of_ble_eq_true rfl⟩) ⟨xPc_blind, va_recv hK hPc (ci := 9) (q0 := 0) rfl rfl, xPc_pre hPc hK hDc⟩ rfl rfl hl.1 rfl (lv_room (Nat.le_of_ble_eq_true rfl)) dX10_followTimes_34 ⟨Nat.le_of_ble_eq_true rfl, Nat.le_of_ble_eq_true rfl⟩) hS (fun q _ h => hFc q h) hFc (fun r4 u t H1 locs ht hvm hw4 hB hz1 hk1 hS => ?_)
  obtain ⟨hP1, hK1, hD1⟩ := hB
  rw [ht] at hP1
  obtain ⟨hP, hD⟩ := va_join (wr := [(co, .inr (0, [.ref cw, .ref ct, .ref cr, .ref cg, .ref cx, .int 0, .int 0, .int 0, .int 0])), (ct, .inl (cI, 8, .inl f_3)), (rt, .inl (cI, 8, .inl (fun _ => 0)))]) (w1 := [(xo, .inr (9, [.ref tp, .ref rd, .ref rn, .ref co, .ref wy, .ref sg, .ref sh, .ref pl, .ref sp, .int 0])), (pl, .inr (2, [.ref pn, .ref pt, .int 0, .int 999, .int 0, .int 5])), (rn, .inr (4, [.ref hy, .ref rs, .ref ri, .ref ra, .ref rt, .ref rg, .int 0, .int 0, .int 0, .int 0, .int 0, .int 0, .int 0, .int 0]))]) hP hD [0, 2, 1] [3, 4, 5] rfl rfl (by decide) (by decide) hk1 hFc hP1 hD1
  generalize H1 = H at hP hS ⊢
  have hP : va_P D vwCl [(co, .inr (0, [.ref cw, .ref ct, .ref cr, .ref cg, .ref cx, .int 0, .int 0, .int 0, .int 0])), (ct, .inl (cI, 8, .inl f_3)), (rt, .inl (cI, 8, .inl (fun _ => 0))), (xo, .inr (9, [.ref tp, .ref rd, .ref rn, .ref co, .ref wy, .ref sg, .ref sh, .ref pl, .ref sp, .int 0])), (pl, .inr (2, [.ref pn, .ref pt, .int 0, .int 999, .int 0, .int 5])), (rn, .inr (4, [.ref hy, .ref rs, .ref ri, .ref ra, .ref rt, .ref rg, .int 0, .int 0, .int 0, .int 0, .int 0, .int 0, .int 0, .int 0]))] H := hP
  have hD : va_D A [(co, .inr (0, [.ref cw, .ref ct, .ref cr, .ref cg, .ref cx, .int 0, .int 0, .int 0, .int 0])), (ct, .inl (cI, 8, .inl f_3)), (rt, .inl (cI, 8, .inl (fun _ => 0))), (xo, .inr (9, [.ref tp, .ref rd, .ref rn, .ref co, .ref wy, .ref sg, .ref sh, .ref pl, .ref sp, .int 0])), (pl, .inr (2, [.ref pn, .ref pt, .int 0, .int 999, .int 0, .int 5])), (rn, .inr (4, [.ref hy, .ref rs, .ref ri, .ref ra, .ref rt, .ref rg, .int 0, .int 0, .int 0, .int 0, .int 0, .int 0, .int 0, .int 0]))] := hD
  obtain rfl : r4 = 0 := hw4
  have hPc := hP.sub (ws' := [(co, .inr (0, [.ref cw, .ref ct, .ref cr, .ref cg, .ref cx, .int 0, .int 0, .int 0, .int 0])), (pl, .inr (2, [.ref pn, .ref pt, .int 0, .int 999, .int 0, .int 5]))]) [0, 4] rfl
  have hDc := hD.sub (ws' := [(co, .inr (0, [.ref cw, .ref ct, .ref cr, .ref cg, .ref cx, .int 0, .int 0, .int 0, .int 0])), (pl, .inr (2, [.ref pn, .ref pt, .int 0, .int 999, .int 0, .int 5]))]) [0, 4] (by decide) rfl
  have hFc := va_free (wc := [(co, .inr (0, [.ref cw, .ref ct, .ref cr, .ref cg, .ref cx, .int 0, .int 0, .int 0, .int 0])), (pl, .inr (2, [.ref pn, .ref pt, .int 0, .int 999, .int 0, .int 5]))]) hD hS hA [0, 4] rfl
  refine va_callv (va_runV (As := [.ref pl, .int 0]) (rest := []) ⟨hx, hb, hml, hown, hts⟩ (c_follow0 l D cI cJ cZ cG cH H.size co pl (0 : Int32) cw ct cr cg cx pn pt) (cwV 2 hts gX10_followTimes_X0_follow rfl rfl rfl (by decide +kernel) ⟨Nat.le_of_ble_eq_true rfl, Nat.le_of_ble_eq_true rfl⟩) ⟨xPc_blind, va_recv hK hPc (ci := 0) (q0 := 0) rfl rfl, xPc_pre hPc hK hDc⟩ rfl rfl hl.1 rfl (lv_room (Nat.le_of_ble_eq_true rfl)) dX10_followTimes_37 ⟨Nat.le_of_ble_eq_true rfl, Nat.le_of_ble_eq_true rfl⟩) hS (fun q _ h => hFc q h) hFc (fun u t H1 locs ht hvm hw5 hB hz1 hk1 hS => ?_)
  obtain ⟨hP1, hK1, hD1⟩ := hB
  rw [ht] at hP1
  obtain ⟨hP, hD⟩ := va_join (wr := [(ct, .inl (cI, 8, .inl f_3)), (rt, .inl (cI, 8, .inl (fun _ => 0))), (xo, .inr (9, [.ref tp, .ref rd, .ref rn, .ref co, .ref wy, .ref sg, .ref sh, .ref pl, .ref sp, .int 0])), (rn, .inr (4, [.ref hy, .ref rs, .ref ri, .ref ra, .ref rt, .ref rg, .int 0, .int 0, .int 0, .int 0, .int 0, .int 0, .int 0, .int 0]))]) (w1 := [(co, .inr (0, [.ref cw, .ref ct, .ref cr, .ref cg, .ref cx, .int 0, .int 0, .int 0, .int 0])), (pl, .inr (2, [.ref pn, .ref pt, .int 0, .int 999, .int 0, .int 5]))]) hP hD [0, 4] [1, 2, 3, 5] rfl rfl (by decide) (by decide) hk1 hFc hP1 hD1
  generalize H1 = H at hP hS ⊢
  have hP : va_P D vwCl [(ct, .inl (cI, 8, .inl f_3)), (rt, .inl (cI, 8, .inl (fun _ => 0))), (xo, .inr (9, [.ref tp, .ref rd, .ref rn, .ref co, .ref wy, .ref sg, .ref sh, .ref pl, .ref sp, .int 0])), (rn, .inr (4, [.ref hy, .ref rs, .ref ri, .ref ra, .ref rt, .ref rg, .int 0, .int 0, .int 0, .int 0, .int 0, .int 0, .int 0, .int 0])), (co, .inr (0, [.ref cw, .ref ct, .ref cr, .ref cg, .ref cx, .int 0, .int 0, .int 0, .int 0])), (pl, .inr (2, [.ref pn, .ref pt, .int 0, .int 999, .int 0, .int 5]))] H := hP
  have hD : va_D A [(ct, .inl (cI, 8, .inl f_3)), (rt, .inl (cI, 8, .inl (fun _ => 0))), (xo, .inr (9, [.ref tp, .ref rd, .ref rn, .ref co, .ref wy, .ref sg, .ref sh, .ref pl, .ref sp, .int 0])), (rn, .inr (4, [.ref hy, .ref rs, .ref ri, .ref ra, .ref rt, .ref rg, .int 0, .int 0, .int 0, .int 0, .int 0, .int 0, .int 0, .int 0])), (co, .inr (0, [.ref cw, .ref ct, .ref cr, .ref cg, .ref cx, .int 0, .int 0, .int 0, .int 0])), (pl, .inr (2, [.ref pn, .ref pt, .int 0, .int 999, .int 0, .int 5]))] := hD
  refine W.widen (k := 0) (n := 0) (by decide) (by decide) ?_
  have hP9 := hP.sub (ws' := [(xo, .inr (9, [.ref tp, .ref rd, .ref rn, .ref co, .ref wy, .ref sg, .ref sh, .ref pl, .ref sp, .int 0])), (pl, .inr (2, [.ref pn, .ref pt, .int 0, .int 999, .int 0, .int 5])), (co, .inr (0, [.ref cw, .ref ct, .ref cr, .ref cg, .ref cx, .int 0, .int 0, .int 0, .int 0]))]) [2, 5, 4] rfl
  have hD9 := hD.sub (ws' := [(xo, .inr (9, [.ref tp, .ref rd, .ref rn, .ref co, .ref wy, .ref sg, .ref sh, .ref pl, .ref sp, .int 0])), (pl, .inr (2, [.ref pn, .ref pt, .int 0, .int 999, .int 0, .int 5])), (co, .inr (0, [.ref cw, .ref ct, .ref cr, .ref cg, .ref cx, .int 0, .int 0, .int 0, .int 0]))]) [2, 5, 4] (by decide) rfl
  exact W.vret hx hb hr (fun t ht hW => ⟨⟨(), rfl, trivial, xB_of ht hW hP9 hK hD9⟩, hS.F ht⟩) hS.2.2 dX10_followTimes_40
theorem in_X9_forget_X9 : ∀ w ∈ wsX90, w ∈ wsX9_forget := by decide +kernel
abbrev W_forget0 (cI cJ cZ cG cH : ClassId) (wy : Nat) (co : Nat) (wb : Nat) (wk : Nat) : va_W := [(wy, .inr (8, [.ref co, .ref wb, .ref wk, .int 0, .int 0, .int 0])), (wk, .inl (cZ, 64, .inl (fun _ => 0)))]
abbrev Q_forget0 (D : va_G) (cI cJ cZ cG cH : ClassId) (wy : Nat) (co : Nat) (wb : Nat) (wk : Nat) (A : Nat → Prop) : Array Value → State → Outcome → State → Prop := va_Qv (fun (_ : Unit) => True) (fun _ t => True) A
abbrev rm_forget0 : Room := { frames := 0, cells := 0, slots := 0, locals := 0 }
set_option maxRecDepth 100000 in
set_option maxHeartbeats 4000000 in
theorem c_forget0 (l : Launch) (D : va_G) (cI cJ cZ cG cH : ClassId) (sz : Nat) (wy : Nat) (co : Nat) (wb : Nat) (wk : Nat) : Met l yX9_forget wsX9_forget rm_forget0 (xPc [.ref wy] D (tyL cI cJ cZ cG cH) (W_forget0 cI cJ cZ cG cH wy co wb wk) sz) (Q_forget0 D cI cJ cZ cG cH wy co wb wk (va_A (W_forget0 cI cJ cZ cG cH wy co wb wk) sz)) 0 0 (va_A (W_forget0 cI cJ cZ cG cH wy co wb wk) sz) := by
  refine xMet (cc := cX9_forget) (maxL := 2) (ret := none) (Qf := Q_forget0 D cI cJ cZ cG cH wy co wb wk) (by decide) rfl (Nat.le_of_ble_eq_true rfl) ?_
  intro p e s m below meth c ls A hx hb hr hml hts hown hlocks hnm hsz hP hK hD hA hS hl
  have hown : s.vm.findClass RX9 = some m.cls := hown
  have hP : va_P D vwCl [(wy, .inr (8, [.ref co, .ref wb, .ref wk, .int 0, .int 0, .int 0])), (wk, .inl (cZ, 64, .inl (fun _ => 0)))] s.heap := hP
  have hD : va_D A [(wy, .inr (8, [.ref co, .ref wb, .ref wk, .int 0, .int 0, .int 0])), (wk, .inl (cZ, 64, .inl (fun _ => 0)))] := hD
  have hl : lv_has ls 2 [(0, .ref wy)] := hl
  refine lv_aload_n hx hb dX9_forget_0 rfl (lv_at hl 0 rfl) ?_
  refine lv_iconst (v := 0) hx hb dX9_forget_1 (by decide) ?_
  refine va_put (D := D) (ci := 8) (v := .int 0) (ty := .boolean) (C := RX9) (T := TX9) (N := 6) hx hb hts in_X9_forget_X9 tyX9 tyX9_ok nmX9 hown hK hP hD hS 0 rfl rfl 3 (by decide) (hts (.fieldLink RX9 23 "PowerRails$Ways" "peaksKnown" "Z") (by decide +kernel)) (fun _ h9 => h9) rfl (by decide +kernel) (by decide) rfl (Nat.le_of_ble_eq_true rfl) dX9_forget_2 (fun H locs hP hD hS => ?_)
  have hP : va_P D vwCl [(wy, .inr (8, [.ref co, .ref wb, .ref wk, .int 0, .int 0, .int 0])), (wk, .inl (cZ, 64, .inl (fun _ => 0)))] H := hP
  have hD : va_D A [(wy, .inr (8, [.ref co, .ref wb, .ref wk, .int 0, .int 0, .int 0])), (wk, .inl (cZ, 64, .inl (fun _ => 0)))] := hD
  refine lv_iconst (v := 0) hx hb dX9_forget_5 (by decide) ?_
  refine lv_istore_n (lv' := [(1, .int 0), (0, .ref wy)]) hx hb dX9_forget_6 rfl hl (by decide) rfl (fun ls hl => ?_)
  have hl7 : ∀ (n7 : Nat) (i : Nat) (g1 : Nat → Int32), (64 - i < n7) → (hi : i ≤ 64) → ∀ (H : Heap) (locs : List Loc), va_P D vwCl [(wy, .inr (8, [.ref co, .ref wb, .ref wk, .int 0, .int 0, .int 0])), (wk, .inl (cZ, 64, .inl g1))] H → va_D A [(wy, .inr (8, [.ref co, .ref wb, .ref wk, .int 0, .int 0, .int 0])), (wk, .inl (cZ, 64, .inl g1))] → va_S A s.heap H locs → ∀ (ls : Array Slot), lv_has ls 2 [(1, .int (nI i)), (0, .ref wy)] → W p l e rm_forget0 s m [Value.ref wy].toArray below meth c H locs 0 0 (MQ below ((Q_forget0 D cI cJ cZ cG cH wy co wb wk) A) [Value.ref wy].toArray s 0 0 A) (F0 m 7 ls []) := by
    intro n7
    induction n7 with
    | zero =>
      intro i g1 hm7
      exact absurd hm7 (Nat.not_lt_zero _)
    | succ n7 ih7 =>
      intro i g1 hm7 hi H locs hP hD hS ls hl
      refine lv_iload_n hx hb dX9_forget_7 rfl (lv_at hl 0 rfl) ?_
      refine lv_bipush (v := 64) hx hb dX9_forget_8 (by decide) ?_
      refine lv_icmp_ge (tgt := 26) hx hb dX9_forget_10 (by decide) (fun c_1 => ?_) (fun c_1 => ?_)
      · skip
        have i_1 : 64 ≤ ((i : Nat) : Int) := (ile (by decide) (nI_toInt (by omega))).mp c_1
        refine W.widen (k := 0) (n := 0) (by decide) (by decide) ?_
        exact W.vret hx hb hr (fun t ht hW => ⟨⟨(), rfl, trivial, trivial⟩, hS.F ht⟩) hS.2.2 dX9_forget_26
      · skip
        have i_1 : ¬ (64 ≤ ((i : Nat) : Int)) := fun h9 => c_1 ((ile (by decide) (nI_toInt (by omega))).mpr h9)
        refine lv_aload_n hx hb dX9_forget_13 rfl (lv_at hl 1 rfl) ?_
        refine va_get (D := D) (ci := 8) (v := .ref wk) (C := RX9) (T := TX9) (N := 6) hx hb hts in_X9_forget_X9 hown hK hP 0 rfl rfl 2 (by decide) (hts (.fieldLink RX9 19 "PowerRails$Ways" "behindKnown" "[Z") (by decide +kernel)) (fun _ h9 => h9) rfl dX9_forget_14 ?_
        refine lv_iload_n hx hb dX9_forget_17 rfl (lv_at hl 0 rfl) ?_
        refine lv_iconst (v := 0) hx hb dX9_forget_18 (by decide) ?_
        refine va_zast hx hb hK hP hD hS 1 2 rfl rfl (vp_in_nI (by omega) (by omega)) dX9_forget_19 (fun H locs hP hD hS => ?_)
        obtain ⟨f2, ef2⟩ : ∃ fz9 : Nat → Int32, fz9 = upd g1 ((nI i) : Int32).toNatClampNeg (vp_nar .boolean 0) := ⟨_, rfl⟩
        have hP : va_P D vwCl [(wy, .inr (8, [.ref co, .ref wb, .ref wk, .int 0, .int 0, .int 0])), (wk, .inl (cZ, 64, .inl f2))] H := by rw [ef2]; exact hP
        have hD : va_D A [(wy, .inr (8, [.ref co, .ref wb, .ref wk, .int 0, .int 0, .int 0])), (wk, .inl (cZ, 64, .inl f2))] := by rw [ef2]; exact hD
        refine lv_iinc (v := (nI (i + 1))) (lv' := [(1, .int (nI (i + 1))), (0, .ref wy)]) hx hb dX9_forget_20 hl (k := 0) rfl ((show (nI i) + Int32.ofInt 1 = (nI i) + 1 from rfl).trans (nI_1 _)) (by decide) rfl (fun ls hl => ?_)
        refine lv_goto (tgt := 7) hx hb dX9_forget_23 (by decide) ?_
        exact ih7 (i + 1) f2 (by omega) (by omega) _ _ hP hD hS ls (lv_sub hl [0, 1] rfl)
  exact hl7 _ 0 (fun _ => 0) (Nat.lt_succ_self _) (by omega) _ _ hP hD hS ls (lv_sub hl [0, 1] rfl)
theorem in_X10_forgetReckoned_X10 : ∀ w ∈ wsX100, w ∈ wsX10_forgetReckoned := by decide +kernel
theorem in_X10_forgetReckoned_X7 : ∀ w ∈ wsX70, w ∈ wsX10_forgetReckoned := by decide +kernel
abbrev W_forgetReckoned0 (cI cJ cZ cG cH : ClassId) (xo : Nat) (tp : Nat) (rd : Nat) (rn : Nat) (co : Nat) (wy : Nat) (sg : Nat) (sh : Nat) (pl : Nat) (sp : Nat) (wb : Nat) (wk : Nat) (sr : Nat) : va_W := [(xo, .inr (9, [.ref tp, .ref rd, .ref rn, .ref co, .ref wy, .ref sg, .ref sh, .ref pl, .ref sp, .int 0])), (wy, .inr (8, [.ref co, .ref wb, .ref wk, .int 0, .int 0, .int 0])), (wk, .inl (cZ, 64, .inl (fun _ => 0))), (sg, .inr (6, [.ref co, .ref sr, .int 0, .int (-4)]))]
abbrev Q_forgetReckoned0 (D : va_G) (cI cJ cZ cG cH : ClassId) (xo : Nat) (tp : Nat) (rd : Nat) (rn : Nat) (co : Nat) (wy : Nat) (sg : Nat) (sh : Nat) (pl : Nat) (sp : Nat) (wb : Nat) (wk : Nat) (sr : Nat) (A : Nat → Prop) : Array Value → State → Outcome → State → Prop := va_Qv (fun (_ : Unit) => True) (fun _ t => True) A
abbrev rm_forgetReckoned0 : Room := { frames := 1, cells := 0, slots := 0, locals := 21 }
set_option maxRecDepth 100000 in
set_option maxHeartbeats 4000000 in
theorem c_forgetReckoned0 (l : Launch) (D : va_G) (cI cJ cZ cG cH : ClassId) (sz : Nat) (xo : Nat) (tp : Nat) (rd : Nat) (rn : Nat) (co : Nat) (wy : Nat) (sg : Nat) (sh : Nat) (pl : Nat) (sp : Nat) (wb : Nat) (wk : Nat) (sr : Nat) : Met l yX10_forgetReckoned wsX10_forgetReckoned rm_forgetReckoned0 (xPc [.ref xo] D (tyL cI cJ cZ cG cH) (W_forgetReckoned0 cI cJ cZ cG cH xo tp rd rn co wy sg sh pl sp wb wk sr) sz) (Q_forgetReckoned0 D cI cJ cZ cG cH xo tp rd rn co wy sg sh pl sp wb wk sr (va_A (W_forgetReckoned0 cI cJ cZ cG cH xo tp rd rn co wy sg sh pl sp wb wk sr) sz)) 0 0 (va_A (W_forgetReckoned0 cI cJ cZ cG cH xo tp rd rn co wy sg sh pl sp wb wk sr) sz) := by
  refine xMet (cc := cX10_forgetReckoned) (maxL := 1) (ret := none) (Qf := Q_forgetReckoned0 D cI cJ cZ cG cH xo tp rd rn co wy sg sh pl sp wb wk sr) (by decide) rfl (Nat.le_of_ble_eq_true rfl) ?_
  intro p e s m below meth c ls A hx hb hr hml hts hown hlocks hnm hsz hP hK hD hA hS hl
  have hown : s.vm.findClass RX10 = some m.cls := hown
  have hP : va_P D vwCl [(xo, .inr (9, [.ref tp, .ref rd, .ref rn, .ref co, .ref wy, .ref sg, .ref sh, .ref pl, .ref sp, .int 0])), (wy, .inr (8, [.ref co, .ref wb, .ref wk, .int 0, .int 0, .int 0])), (wk, .inl (cZ, 64, .inl (fun _ => 0))), (sg, .inr (6, [.ref co, .ref sr, .int 0, .int (-4)]))] s.heap := hP
  have hD : va_D A [(xo, .inr (9, [.ref tp, .ref rd, .ref rn, .ref co, .ref wy, .ref sg, .ref sh, .ref pl, .ref sp, .int 0])), (wy, .inr (8, [.ref co, .ref wb, .ref wk, .int 0, .int 0, .int 0])), (wk, .inl (cZ, 64, .inl (fun _ => 0))), (sg, .inr (6, [.ref co, .ref sr, .int 0, .int (-4)]))] := hD
  have hl : lv_has ls 1 [(0, .ref xo)] := hl
  refine lv_aload_n hx hb dX10_forgetReckoned_0 rfl (lv_at hl 0 rfl) ?_
  refine va_get (D := D) (ci := 9) (v := .ref wy) (C := RX10) (T := TX10) (N := 10) hx hb hts in_X10_forgetReckoned_X10 hown hK hP 0 rfl rfl 4 (by decide) (hts (.fieldLink RX10 35 "PowerRails" "ways" "LPowerRails$Ways;") (by decide +kernel)) (fun _ h9 => h9) rfl dX10_forgetReckoned_1 ?_
  have hPc := hP.sub (ws' := [(wy, .inr (8, [.ref co, .ref wb, .ref wk, .int 0, .int 0, .int 0])), (wk, .inl (cZ, 64, .inl (fun _ => 0)))]) [1, 2] rfl
  have hDc := hD.sub (ws' := [(wy, .inr (8, [.ref co, .ref wb, .ref wk, .int 0, .int 0, .int 0])), (wk, .inl (cZ, 64, .inl (fun _ => 0)))]) [1, 2] (by decide) rfl
  have hFc := va_free (wc := [(wy, .inr (8, [.ref co, .ref wb, .ref wk, .int 0, .int 0, .int 0])), (wk, .inl (cZ, 64, .inl (fun _ => 0)))]) hD hS hA [1, 2] rfl
  refine va_callv (va_runV (As := []) (rest := []) ⟨hx, hb, hml, hown, hts⟩ (c_forget0 l D cI cJ cZ cG cH s.heap.size wy co wb wk) (cwV 0 hts gX10_forgetReckoned_X9_forget rfl rfl rfl (by decide +kernel) ⟨Nat.le_of_ble_eq_true rfl, Nat.le_of_ble_eq_true rfl⟩) ⟨xPc_blind, va_recv hK hPc (ci := 8) (q0 := 0) rfl rfl, xPc_pre hPc hK hDc⟩ rfl rfl hl.1 rfl (lv_room (Nat.le_of_ble_eq_true rfl)) dX10_forgetReckoned_4 ⟨Nat.le_of_ble_eq_true rfl, Nat.le_of_ble_eq_true rfl⟩) hS (fun q _ h => hFc q h) hFc (fun u t H1 locs ht hvm hw1 hB hz1 hk1 hS => ?_)
  obtain ⟨hP, hD⟩ := va_join (wr := [(xo, .inr (9, [.ref tp, .ref rd, .ref rn, .ref co, .ref wy, .ref sg, .ref sh, .ref pl, .ref sp, .int 0])), (sg, .inr (6, [.ref co, .ref sr, .int 0, .int (-4)]))]) (w1 := []) hP hD [1, 2] [0, 3] rfl rfl (by decide) (by decide) hk1 hFc (xP0 D H1) (xD0 _)
  generalize H1 = H at hP hS ⊢
  have hP : va_P D vwCl [(xo, .inr (9, [.ref tp, .ref rd, .ref rn, .ref co, .ref wy, .ref sg, .ref sh, .ref pl, .ref sp, .int 0])), (sg, .inr (6, [.ref co, .ref sr, .int 0, .int (-4)]))] H := hP
  have hD : va_D A [(xo, .inr (9, [.ref tp, .ref rd, .ref rn, .ref co, .ref wy, .ref sg, .ref sh, .ref pl, .ref sp, .int 0])), (sg, .inr (6, [.ref co, .ref sr, .int 0, .int (-4)]))] := hD
  refine lv_aload_n hx hb dX10_forgetReckoned_7 rfl (lv_at hl 0 rfl) ?_
  refine va_get (D := D) (ci := 9) (v := .ref sg) (C := RX10) (T := TX10) (N := 10) hx hb hts in_X10_forgetReckoned_X10 hown hK hP 0 rfl rfl 5 (by decide) (hts (.fieldLink RX10 42 "PowerRails" "staggering" "LPowerRails$Stagger;") (by decide +kernel)) (fun _ h9 => h9) rfl dX10_forgetReckoned_8 ?_
  refine lv_iconst (v := 0) hx hb dX10_forgetReckoned_11 (by decide) ?_
  refine va_put (D := D) (ci := 6) (v := .int 0) (ty := .boolean) (C := RX7) (T := TX7) (N := 4) hx hb hts in_X10_forgetReckoned_X7 tyX7 tyX7_ok nmX7 hown hK hP hD hS 1 rfl rfl 2 (by decide) (hts (.fieldLink RX10 324 "PowerRails$Stagger" "known" "Z") (by decide +kernel)) (fun _ h9 => h9) rfl (by decide +kernel) (by decide) rfl (Nat.le_of_ble_eq_true rfl) dX10_forgetReckoned_12 (fun H locs hP hD hS => ?_)
  have hP : va_P D vwCl [(xo, .inr (9, [.ref tp, .ref rd, .ref rn, .ref co, .ref wy, .ref sg, .ref sh, .ref pl, .ref sp, .int 0])), (sg, .inr (6, [.ref co, .ref sr, .int 0, .int (-4)]))] H := hP
  have hD : va_D A [(xo, .inr (9, [.ref tp, .ref rd, .ref rn, .ref co, .ref wy, .ref sg, .ref sh, .ref pl, .ref sp, .int 0])), (sg, .inr (6, [.ref co, .ref sr, .int 0, .int (-4)]))] := hD
  refine W.widen (k := 0) (n := 0) (by decide) (by decide) ?_
  exact W.vret hx hb hr (fun t ht hW => ⟨⟨(), rfl, trivial, trivial⟩, hS.F ht⟩) hS.2.2 dX10_forgetReckoned_15
theorem in_X7_findRow_X7 : ∀ w ∈ wsX70, w ∈ wsX7_findRow := by decide +kernel
theorem in_X7_findRow_X0 : ∀ w ∈ wsX00, w ∈ wsX7_findRow := by decide +kernel
abbrev W_findRow0 (cI cJ cZ cG cH : ClassId) (sg : Nat) (pl : Nat) (p0 : Int32) (rt : Nat) (co : Nat) (sr : Nat) (cw : Nat) (ct : Nat) (cr : Nat) (cg : Nat) (cx : Nat) (pn : Nat) (pt : Nat) : va_W := [(sg, .inr (6, [.ref co, .ref sr, .int 0, .int (-4)])), (sr, .inl (cI, 8, .inl (fun _ => 0))), (co, .inr (0, [.ref cw, .ref ct, .ref cr, .ref cg, .ref cx, .int 0, .int 0, .int 0, .int 0])), (cw, .inl (cI, 8, .inl (fun _ => 0))), (ct, .inl (cI, 8, .inl (fun _ => 0))), (pl, .inr (2, [.ref pn, .ref pt, .int 0, .int 999, .int 0, .int 5])), (rt, .inl (cI, 8, .inl (fun _ => 0)))]
abbrev Q_findRow0 (D : va_G) (cI cJ cZ cG cH : ClassId) (sg : Nat) (pl : Nat) (p0 : Int32) (rt : Nat) (co : Nat) (sr : Nat) (cw : Nat) (ct : Nat) (cr : Nat) (cg : Nat) (cx : Nat) (pn : Nat) (pt : Nat) (A : Nat → Prop) : Array Value → State → Outcome → State → Prop := va_Qv (fun (_ : Unit) => True) (fun _ t => xB D (tyL cI cJ cZ cG cH) [(sg, .inr (6, [.ref co, .ref sr, .int 1, .int (-4)])), (pl, .inr (2, [.ref pn, .ref pt, .int 0, .int 999, .int 0, .int 5]))] A t) A
abbrev rm_findRow0 : Room := { frames := 2, cells := 0, slots := 0, locals := 61 }
set_option maxRecDepth 100000 in
set_option maxHeartbeats 4000000 in
theorem c_findRow0 (l : Launch) (D : va_G) (cI cJ cZ cG cH : ClassId) (sz : Nat) (sg : Nat) (pl : Nat) (p0 : Int32) (rt : Nat) (co : Nat) (sr : Nat) (cw : Nat) (ct : Nat) (cr : Nat) (cg : Nat) (cx : Nat) (pn : Nat) (pt : Nat) : Met l yX7_findRow wsX7_findRow rm_findRow0 (xPc [.ref sg, .ref pl, .int p0, .ref rt] D (tyL cI cJ cZ cG cH) (W_findRow0 cI cJ cZ cG cH sg pl p0 rt co sr cw ct cr cg cx pn pt) sz) (Q_findRow0 D cI cJ cZ cG cH sg pl p0 rt co sr cw ct cr cg cx pn pt (va_A (W_findRow0 cI cJ cZ cG cH sg pl p0 rt co sr cw ct cr cg cx pn pt) sz)) 0 0 (va_A (W_findRow0 cI cJ cZ cG cH sg pl p0 rt co sr cw ct cr cg cx pn pt) sz) := by
  refine xMet (cc := cX7_findRow) (maxL := 8) (ret := none) (Qf := Q_findRow0 D cI cJ cZ cG cH sg pl p0 rt co sr cw ct cr cg cx pn pt) (by decide) rfl (Nat.le_of_ble_eq_true rfl) ?_
  intro p e s m below meth c ls A hx hb hr hml hts hown hlocks hnm hsz hP hK hD hA hS hl
  have hown : s.vm.findClass RX7 = some m.cls := hown
  have hP : va_P D vwCl [(sg, .inr (6, [.ref co, .ref sr, .int 0, .int (-4)])), (sr, .inl (cI, 8, .inl (fun _ => 0))), (co, .inr (0, [.ref cw, .ref ct, .ref cr, .ref cg, .ref cx, .int 0, .int 0, .int 0, .int 0])), (cw, .inl (cI, 8, .inl (fun _ => 0))), (ct, .inl (cI, 8, .inl (fun _ => 0))), (pl, .inr (2, [.ref pn, .ref pt, .int 0, .int 999, .int 0, .int 5])), (rt, .inl (cI, 8, .inl (fun _ => 0)))] s.heap := hP
  have hD : va_D A [(sg, .inr (6, [.ref co, .ref sr, .int 0, .int (-4)])), (sr, .inl (cI, 8, .inl (fun _ => 0))), (co, .inr (0, [.ref cw, .ref ct, .ref cr, .ref cg, .ref cx, .int 0, .int 0, .int 0, .int 0])), (cw, .inl (cI, 8, .inl (fun _ => 0))), (ct, .inl (cI, 8, .inl (fun _ => 0))), (pl, .inr (2, [.ref pn, .ref pt, .int 0, .int 999, .int 0, .int 5])), (rt, .inl (cI, 8, .inl (fun _ => 0)))] := hD
  have hl : lv_has ls 8 [(0, .ref sg), (1, .ref pl), (2, .int p0), (3, .ref rt)] := hl
  refine lv_aload_n hx hb dX7_findRow_0 rfl (lv_at hl 0 rfl) ?_
  refine va_get (D := D) (ci := 6) (v := .int 0) (C := RX7) (T := TX7) (N := 4) hx hb hts in_X7_findRow_X7 hown hK hP 0 rfl rfl 2 (by decide) (hts (.fieldLink RX7 19 "PowerRails$Stagger" "known" "Z") (by decide +kernel)) (fun _ h9 => h9) rfl dX7_findRow_1 ?_
  refine lv_if_eq (tgt := 8) hx hb dX7_findRow_4 (by decide) (fun _ => ?_) (fun c9 => absurd c9 (by decide))
  refine lv_aload_n hx hb dX7_findRow_8 rfl (lv_at hl 0 rfl) ?_
  refine lv_iconst (v := 1) hx hb dX7_findRow_9 (by decide) ?_
  refine va_put (D := D) (ci := 6) (v := .int 1) (ty := .boolean) (C := RX7) (T := TX7) (N := 4) hx hb hts in_X7_findRow_X7 tyX7 tyX7_ok nmX7 hown hK hP hD hS 0 rfl rfl 2 (by decide) (hts (.fieldLink RX7 19 "PowerRails$Stagger" "known" "Z") (by decide +kernel)) (fun _ h9 => h9) rfl (by decide +kernel) (by decide) rfl (Nat.le_of_ble_eq_true rfl) dX7_findRow_10 (fun H locs hP hD hS => ?_)
  have hP : va_P D vwCl [(sg, .inr (6, [.ref co, .ref sr, .int 1, .int (-4)])), (sr, .inl (cI, 8, .inl (fun _ => 0))), (co, .inr (0, [.ref cw, .ref ct, .ref cr, .ref cg, .ref cx, .int 0, .int 0, .int 0, .int 0])), (cw, .inl (cI, 8, .inl (fun _ => 0))), (ct, .inl (cI, 8, .inl (fun _ => 0))), (pl, .inr (2, [.ref pn, .ref pt, .int 0, .int 999, .int 0, .int 5])), (rt, .inl (cI, 8, .inl (fun _ => 0)))] H := hP
  have hD : va_D A [(sg, .inr (6, [.ref co, .ref sr, .int 1, .int (-4)])), (sr, .inl (cI, 8, .inl (fun _ => 0))), (co, .inr (0, [.ref cw, .ref ct, .ref cr, .ref cg, .ref cx, .int 0, .int 0, .int 0, .int 0])), (cw, .inl (cI, 8, .inl (fun _ => 0))), (ct, .inl (cI, 8, .inl (fun _ => 0))), (pl, .inr (2, [.ref pn, .ref pt, .int 0, .int 999, .int 0, .int 5])), (rt, .inl (cI, 8, .inl (fun _ => 0)))] := hD
  refine lv_aload_n hx hb dX7_findRow_13 rfl (lv_at hl 0 rfl) ?_
  refine lv_bipush (v := (-4)) hx hb dX7_findRow_14 (by decide) ?_
  refine va_put (D := D) (ci := 6) (v := .int (-4)) (ty := .int) (C := RX7) (T := TX7) (N := 4) hx hb hts in_X7_findRow_X7 tyX7 tyX7_ok nmX7 hown hK hP hD hS 0 rfl rfl 3 (by decide) (hts (.fieldLink RX7 23 "PowerRails$Stagger" "last" "I") (by decide +kernel)) (fun _ h9 => h9) rfl (by decide +kernel) rfl rfl (Nat.le_of_ble_eq_true rfl) dX7_findRow_16 (fun H locs hP hD hS => ?_)
  have hP : va_P D vwCl [(sg, .inr (6, [.ref co, .ref sr, .int 1, .int (-4)])), (sr, .inl (cI, 8, .inl (fun _ => 0))), (co, .inr (0, [.ref cw, .ref ct, .ref cr, .ref cg, .ref cx, .int 0, .int 0, .int 0, .int 0])), (cw, .inl (cI, 8, .inl (fun _ => 0))), (ct, .inl (cI, 8, .inl (fun _ => 0))), (pl, .inr (2, [.ref pn, .ref pt, .int 0, .int 999, .int 0, .int 5])), (rt, .inl (cI, 8, .inl (fun _ => 0)))] H := hP
  have hD : va_D A [(sg, .inr (6, [.ref co, .ref sr, .int 1, .int (-4)])), (sr, .inl (cI, 8, .inl (fun _ => 0))), (co, .inr (0, [.ref cw, .ref ct, .ref cr, .ref cg, .ref cx, .int 0, .int 0, .int 0, .int 0])), (cw, .inl (cI, 8, .inl (fun _ => 0))), (ct, .inl (cI, 8, .inl (fun _ => 0))), (pl, .inr (2, [.ref pn, .ref pt, .int 0, .int 999, .int 0, .int 5])), (rt, .inl (cI, 8, .inl (fun _ => 0)))] := hD
  refine lv_aload_n hx hb dX7_findRow_19 rfl (lv_at hl 0 rfl) ?_
  refine va_get (D := D) (ci := 6) (v := .ref sr) (C := RX7) (T := TX7) (N := 4) hx hb hts in_X7_findRow_X7 hown hK hP 0 rfl rfl 1 (by decide) (hts (.fieldLink RX7 15 "PowerRails$Stagger" "row" "[I") (by decide +kernel)) (fun _ h9 => h9) rfl dX7_findRow_20 ?_
  refine lv_iconst (v := 0) hx hb dX7_findRow_23 (by decide) ?_
  have hPc := hP.sub (ws' := [(sr, .inl (cI, 8, .inl (fun _ => 0)))]) [1] rfl
  have hDc := hD.sub (ws' := [(sr, .inl (cI, 8, .inl (fun _ => 0)))]) [1] (by decide) rfl
  have hFc := va_free (wc := [(sr, .inl (cI, 8, .inl (fun _ => 0)))]) hD hS hA [1] rfl
  refine va_callv (va_runS (As := [.ref sr, .int 0]) (rest := []) ⟨hx, hb, hml, hown, hts⟩ (c_fillI l D cI cJ cZ cG cH H.size sr (0 : Int32) 8 (fun _ => 0) (by first | assumption | decide | omega)) (va_cwS 2 hts gX7_findRow_J7_fill_53178 rfl rfl rfl (by decide +kernel) ⟨Nat.le_of_ble_eq_true rfl, Nat.le_of_ble_eq_true rfl⟩) ⟨xPc_blind, xPc_pre hPc hK hDc⟩ rfl rfl hl.1 rfl (lv_room (Nat.le_of_ble_eq_true rfl)) dX7_findRow_24 ⟨Nat.le_of_ble_eq_true rfl, Nat.le_of_ble_eq_true rfl⟩) hS (fun q _ h => hFc q h) hFc (fun u t H1 locs ht hvm hw1 hB hz1 hk1 hS => ?_)
  obtain ⟨g_2, hf2_0, hP1, hK1, hD1⟩ := hB
  rw [ht] at hP1
  obtain ⟨hP, hD⟩ := va_join (wr := [(sg, .inr (6, [.ref co, .ref sr, .int 1, .int (-4)])), (co, .inr (0, [.ref cw, .ref ct, .ref cr, .ref cg, .ref cx, .int 0, .int 0, .int 0, .int 0])), (cw, .inl (cI, 8, .inl (fun _ => 0))), (ct, .inl (cI, 8, .inl (fun _ => 0))), (pl, .inr (2, [.ref pn, .ref pt, .int 0, .int 999, .int 0, .int 5])), (rt, .inl (cI, 8, .inl (fun _ => 0)))]) (w1 := [(sr, .inl (cI, 8, .inl g_2))]) hP hD [1] [0, 2, 3, 4, 5, 6] rfl rfl (by decide) (by decide) hk1 hFc hP1 hD1
  generalize H1 = H at hP hS ⊢
  have hP : va_P D vwCl [(sg, .inr (6, [.ref co, .ref sr, .int 1, .int (-4)])), (co, .inr (0, [.ref cw, .ref ct, .ref cr, .ref cg, .ref cx, .int 0, .int 0, .int 0, .int 0])), (cw, .inl (cI, 8, .inl (fun _ => 0))), (ct, .inl (cI, 8, .inl (fun _ => 0))), (pl, .inr (2, [.ref pn, .ref pt, .int 0, .int 999, .int 0, .int 5])), (rt, .inl (cI, 8, .inl (fun _ => 0))), (sr, .inl (cI, 8, .inl g_2))] H := hP
  have hD : va_D A [(sg, .inr (6, [.ref co, .ref sr, .int 1, .int (-4)])), (co, .inr (0, [.ref cw, .ref ct, .ref cr, .ref cg, .ref cx, .int 0, .int 0, .int 0, .int 0])), (cw, .inl (cI, 8, .inl (fun _ => 0))), (ct, .inl (cI, 8, .inl (fun _ => 0))), (pl, .inr (2, [.ref pn, .ref pt, .int 0, .int 999, .int 0, .int 5])), (rt, .inl (cI, 8, .inl (fun _ => 0))), (sr, .inl (cI, 8, .inl g_2))] := hD
  have hf2_0 : ∀ j, j < 8 → g_2 j = (0 : Int32) := hf2_0
  refine lv_aload_n hx hb dX7_findRow_27 rfl (lv_at hl 0 rfl) ?_
  refine va_get (D := D) (ci := 6) (v := .ref co) (C := RX7) (T := TX7) (N := 4) hx hb hts in_X7_findRow_X7 hown hK hP 0 rfl rfl 0 (by decide) (hts (.fieldLink RX7 9 "PowerRails$Stagger" "course" "LPowerRails$Course;") (by decide +kernel)) (fun _ h9 => h9) rfl dX7_findRow_28 ?_
  refine va_get (D := D) (ci := 0) (v := .ref cw) (C := RX0) (T := TX0) (N := 9) hx hb hts in_X7_findRow_X0 hown hK hP 1 rfl rfl 0 (by decide) (hts (.fieldLink RX7 33 "PowerRails$Course" "waits" "[I") (by decide +kernel)) (fun _ h9 => h9) rfl dX7_findRow_31 ?_
  refine lv_iconst (v := 0) hx hb dX7_findRow_34 (by decide) ?_
  have hPc := hP.sub (ws' := [(cw, .inl (cI, 8, .inl (fun _ => 0)))]) [2] rfl
  have hDc := hD.sub (ws' := [(cw, .inl (cI, 8, .inl (fun _ => 0)))]) [2] (by decide) rfl
  have hFc := va_free (wc := [(cw, .inl (cI, 8, .inl (fun _ => 0)))]) hD hS hA [2] rfl
  refine va_callv (va_runS (As := [.ref cw, .int 0]) (rest := []) ⟨hx, hb, hml, hown, hts⟩ (c_fillI l D cI cJ cZ cG cH H.size cw (0 : Int32) 8 (fun _ => 0) (by first | assumption | decide | omega)) (va_cwS 2 hts gX7_findRow_J7_fill_53178 rfl rfl rfl (by decide +kernel) ⟨Nat.le_of_ble_eq_true rfl, Nat.le_of_ble_eq_true rfl⟩) ⟨xPc_blind, xPc_pre hPc hK hDc⟩ rfl rfl hl.1 rfl (lv_room (Nat.le_of_ble_eq_true rfl)) dX7_findRow_35 ⟨Nat.le_of_ble_eq_true rfl, Nat.le_of_ble_eq_true rfl⟩) hS (fun q _ h => hFc q h) hFc (fun u t H1 locs ht hvm hw3 hB hz1 hk1 hS => ?_)
  obtain ⟨g_4, hf4_0, hP1, hK1, hD1⟩ := hB
  rw [ht] at hP1
  obtain ⟨hP, hD⟩ := va_join (wr := [(sg, .inr (6, [.ref co, .ref sr, .int 1, .int (-4)])), (co, .inr (0, [.ref cw, .ref ct, .ref cr, .ref cg, .ref cx, .int 0, .int 0, .int 0, .int 0])), (ct, .inl (cI, 8, .inl (fun _ => 0))), (pl, .inr (2, [.ref pn, .ref pt, .int 0, .int 999, .int 0, .int 5])), (rt, .inl (cI, 8, .inl (fun _ => 0))), (sr, .inl (cI, 8, .inl g_2))]) (w1 := [(cw, .inl (cI, 8, .inl g_4))]) hP hD [2] [0, 1, 3, 4, 5, 6] rfl rfl (by decide) (by decide) hk1 hFc hP1 hD1
  generalize H1 = H at hP hS ⊢
  have hP : va_P D vwCl [(sg, .inr (6, [.ref co, .ref sr, .int 1, .int (-4)])), (co, .inr (0, [.ref cw, .ref ct, .ref cr, .ref cg, .ref cx, .int 0, .int 0, .int 0, .int 0])), (ct, .inl (cI, 8, .inl (fun _ => 0))), (pl, .inr (2, [.ref pn, .ref pt, .int 0, .int 999, .int 0, .int 5])), (rt, .inl (cI, 8, .inl (fun _ => 0))), (sr, .inl (cI, 8, .inl g_2)), (cw, .inl (cI, 8, .inl g_4))] H := hP
  have hD : va_D A [(sg, .inr (6, [.ref co, .ref sr, .int 1, .int (-4)])), (co, .inr (0, [.ref cw, .ref ct, .ref cr, .ref cg, .ref cx, .int 0, .int 0, .int 0, .int 0])), (ct, .inl (cI, 8, .inl (fun _ => 0))), (pl, .inr (2, [.ref pn, .ref pt, .int 0, .int 999, .int 0, .int 5])), (rt, .inl (cI, 8, .inl (fun _ => 0))), (sr, .inl (cI, 8, .inl g_2)), (cw, .inl (cI, 8, .inl g_4))] := hD
  have hf4_0 : ∀ j, j < 8 → g_4 j = (0 : Int32) := hf4_0
  refine lv_aload_n hx hb dX7_findRow_38 rfl (lv_at hl 0 rfl) ?_
  refine va_get (D := D) (ci := 6) (v := .ref co) (C := RX7) (T := TX7) (N := 4) hx hb hts in_X7_findRow_X7 hown hK hP 0 rfl rfl 0 (by decide) (hts (.fieldLink RX7 9 "PowerRails$Stagger" "course" "LPowerRails$Course;") (by decide +kernel)) (fun _ h9 => h9) rfl dX7_findRow_39 ?_
  refine lv_aload_n hx hb dX7_findRow_42 rfl (lv_at hl 3 rfl) ?_
  have hPc := hP.sub (ws' := [(co, .inr (0, [.ref cw, .ref ct, .ref cr, .ref cg, .ref cx, .int 0, .int 0, .int 0, .int 0])), (ct, .inl (cI, 8, .inl (fun _ => 0))), (rt, .inl (cI, 8, .inl (fun _ => 0)))]) [1, 2, 4] rfl
  have hDc := hD.sub (ws' := [(co, .inr (0, [.ref cw, .ref ct, .ref cr, .ref cg, .ref cx, .int 0, .int 0, .int 0, .int 0])), (ct, .inl (cI, 8, .inl (fun _ => 0))), (rt, .inl (cI, 8, .inl (fun _ => 0)))]) [1, 2, 4] (by decide) rfl
  have hFc := va_free (wc := [(co, .inr (0, [.ref cw, .ref ct, .ref cr, .ref cg, .ref cx, .int 0, .int 0, .int 0, .int 0])), (ct, .inl (cI, 8, .inl (fun _ => 0))), (rt, .inl (cI, 8, .inl (fun _ => 0)))]) hD hS hA [1, 2, 4] rfl
  refine va_callv (va_runV (As := [.ref rt]) (rest := []) ⟨hx, hb, hml, hown, hts⟩ (c_copyTakes0 l D cI cJ cZ cG cH H.size co rt cw ct cr cg cx) (cwV 1 hts gX7_findRow_X0_copyTakes rfl rfl rfl (by decide +kernel) ⟨Nat.le_of_ble_eq_true rfl, Nat.le_of_ble_eq_true rfl⟩) ⟨xPc_blind, va_recv hK hPc (ci := 0) (q0 := 0) rfl rfl, xPc_pre hPc hK hDc⟩ rfl rfl hl.1 rfl (lv_room (Nat.le_of_ble_eq_true rfl)) dX7_findRow_43 ⟨Nat.le_of_ble_eq_true rfl, Nat.le_of_ble_eq_true rfl⟩) hS (fun q _ h => hFc q h) hFc (fun u t H1 locs ht hvm hw5 hB hz1 hk1 hS => ?_)
  obtain ⟨f_6, hP1, hK1, hD1⟩ := hB
  rw [ht] at hP1
  obtain ⟨hP, hD⟩ := va_join (wr := [(sg, .inr (6, [.ref co, .ref sr, .int 1, .int (-4)])), (pl, .inr (2, [.ref pn, .ref pt, .int 0, .int 999, .int 0, .int 5])), (sr, .inl (cI, 8, .inl g_2)), (cw, .inl (cI, 8, .inl g_4))]) (w1 := [(co, .inr (0, [.ref cw, .ref ct, .ref cr, .ref cg, .ref cx, .int 0, .int 0, .int 0, .int 0])), (ct, .inl (cI, 8, .inl f_6)), (rt, .inl (cI, 8, .inl (fun _ => 0)))]) hP hD [1, 2, 4] [0, 3, 5, 6] rfl rfl (by decide) (by decide) hk1 hFc hP1 hD1
  generalize H1 = H at hP hS ⊢
  have hP : va_P D vwCl [(sg, .inr (6, [.ref co, .ref sr, .int 1, .int (-4)])), (pl, .inr (2, [.ref pn, .ref pt, .int 0, .int 999, .int 0, .int 5])), (sr, .inl (cI, 8, .inl g_2)), (cw, .inl (cI, 8, .inl g_4)), (co, .inr (0, [.ref cw, .ref ct, .ref cr, .ref cg, .ref cx, .int 0, .int 0, .int 0, .int 0])), (ct, .inl (cI, 8, .inl f_6)), (rt, .inl (cI, 8, .inl (fun _ => 0)))] H := hP
  have hD : va_D A [(sg, .inr (6, [.ref co, .ref sr, .int 1, .int (-4)])), (pl, .inr (2, [.ref pn, .ref pt, .int 0, .int 999, .int 0, .int 5])), (sr, .inl (cI, 8, .inl g_2)), (cw, .inl (cI, 8, .inl g_4)), (co, .inr (0, [.ref cw, .ref ct, .ref cr, .ref cg, .ref cx, .int 0, .int 0, .int 0, .int 0])), (ct, .inl (cI, 8, .inl f_6)), (rt, .inl (cI, 8, .inl (fun _ => 0)))] := hD
  refine lv_aload_n hx hb dX7_findRow_46 rfl (lv_at hl 0 rfl) ?_
  refine va_get (D := D) (ci := 6) (v := .ref co) (C := RX7) (T := TX7) (N := 4) hx hb hts in_X7_findRow_X7 hown hK hP 0 rfl rfl 0 (by decide) (hts (.fieldLink RX7 9 "PowerRails$Stagger" "course" "LPowerRails$Course;") (by decide +kernel)) (fun _ h9 => h9) rfl dX7_findRow_47 ?_
  refine lv_aload_n hx hb dX7_findRow_50 rfl (lv_at hl 1 rfl) ?_
  refine lv_iload_n hx hb dX7_findRow_51 rfl (lv_at hl 2 rfl) ?_
  have hPc := hP.sub (ws' := [(co, .inr (0, [.ref cw, .ref ct, .ref cr, .ref cg, .ref cx, .int 0, .int 0, .int 0, .int 0])), (pl, .inr (2, [.ref pn, .ref pt, .int 0, .int 999, .int 0, .int 5]))]) [4, 1] rfl
  have hDc := hD.sub (ws' := [(co, .inr (0, [.ref cw, .ref ct, .ref cr, .ref cg, .ref cx, .int 0, .int 0, .int 0, .int 0])), (pl, .inr (2, [.ref pn, .ref pt, .int 0, .int 999, .int 0, .int 5]))]) [4, 1] (by decide) rfl
  have hFc := va_free (wc := [(co, .inr (0, [.ref cw, .ref ct, .ref cr, .ref cg, .ref cx, .int 0, .int 0, .int 0, .int 0])), (pl, .inr (2, [.ref pn, .ref pt, .int 0, .int 999, .int 0, .int 5]))]) hD hS hA [4, 1] rfl
  refine va_callv (va_runV (As := [.ref pl, .int p0]) (rest := []) ⟨hx, hb, hml, hown, hts⟩ (c_follow0 l D cI cJ cZ cG cH H.size co pl p0 cw ct cr cg cx pn pt) (cwV 2 hts gX7_findRow_X0_follow rfl rfl rfl (by decide +kernel) ⟨Nat.le_of_ble_eq_true rfl, Nat.le_of_ble_eq_true rfl⟩) ⟨xPc_blind, va_recv hK hPc (ci := 0) (q0 := 0) rfl rfl, xPc_pre hPc hK hDc⟩ rfl rfl hl.1 rfl (lv_room (Nat.le_of_ble_eq_true rfl)) dX7_findRow_52 ⟨Nat.le_of_ble_eq_true rfl, Nat.le_of_ble_eq_true rfl⟩) hS (fun q _ h => hFc q h) hFc (fun u t H1 locs ht hvm hw7 hB hz1 hk1 hS => ?_)
  obtain ⟨hP1, hK1, hD1⟩ := hB
  rw [ht] at hP1
  obtain ⟨hP, hD⟩ := va_join (wr := [(sg, .inr (6, [.ref co, .ref sr, .int 1, .int (-4)])), (sr, .inl (cI, 8, .inl g_2)), (cw, .inl (cI, 8, .inl g_4)), (ct, .inl (cI, 8, .inl f_6)), (rt, .inl (cI, 8, .inl (fun _ => 0)))]) (w1 := [(co, .inr (0, [.ref cw, .ref ct, .ref cr, .ref cg, .ref cx, .int 0, .int 0, .int 0, .int 0])), (pl, .inr (2, [.ref pn, .ref pt, .int 0, .int 999, .int 0, .int 5]))]) hP hD [4, 1] [0, 2, 3, 5, 6] rfl rfl (by decide) (by decide) hk1 hFc hP1 hD1
  generalize H1 = H at hP hS ⊢
  have hP : va_P D vwCl [(sg, .inr (6, [.ref co, .ref sr, .int 1, .int (-4)])), (sr, .inl (cI, 8, .inl g_2)), (cw, .inl (cI, 8, .inl g_4)), (ct, .inl (cI, 8, .inl f_6)), (rt, .inl (cI, 8, .inl (fun _ => 0))), (co, .inr (0, [.ref cw, .ref ct, .ref cr, .ref cg, .ref cx, .int 0, .int 0, .int 0, .int 0])), (pl, .inr (2, [.ref pn, .ref pt, .int 0, .int 999, .int 0, .int 5]))] H := hP
  have hD : va_D A [(sg, .inr (6, [.ref co, .ref sr, .int 1, .int (-4)])), (sr, .inl (cI, 8, .inl g_2)), (cw, .inl (cI, 8, .inl g_4)), (ct, .inl (cI, 8, .inl f_6)), (rt, .inl (cI, 8, .inl (fun _ => 0))), (co, .inr (0, [.ref cw, .ref ct, .ref cr, .ref cg, .ref cx, .int 0, .int 0, .int 0, .int 0])), (pl, .inr (2, [.ref pn, .ref pt, .int 0, .int 999, .int 0, .int 5]))] := hD
  refine lv_aload_n hx hb dX7_findRow_55 rfl (lv_at hl 0 rfl) ?_
  refine va_get (D := D) (ci := 6) (v := .ref co) (C := RX7) (T := TX7) (N := 4) hx hb hts in_X7_findRow_X7 hown hK hP 0 rfl rfl 0 (by decide) (hts (.fieldLink RX7 9 "PowerRails$Stagger" "course" "LPowerRails$Course;") (by decide +kernel)) (fun _ h9 => h9) rfl dX7_findRow_56 ?_
  refine va_get (D := D) (ci := 0) (v := .int 0) (C := RX0) (T := TX0) (N := 9) hx hb hts in_X7_findRow_X0 hown hK hP 5 rfl rfl 5 (by decide) (hts (.fieldLink RX7 46 "PowerRails$Course" "up" "I") (by decide +kernel)) (fun _ h9 => h9) rfl dX7_findRow_59 ?_
  refine lv_istore (lv' := [(4, .int 0), (0, .ref sg), (1, .ref pl), (2, .int p0), (3, .ref rt)]) hx hb dX7_findRow_62 hl (by decide) rfl (fun ls hl => ?_)
  refine lv_iload hx hb dX7_findRow_64 (lv_at hl 0 rfl) ?_
  refine lv_if_ne (tgt := 70) hx hb dX7_findRow_66 (by decide) (fun c9 => absurd c9 (by decide)) (fun _ => ?_)
  refine W.widen (k := 0) (n := 0) (by decide) (by decide) ?_
  have hP9 := hP.sub (ws' := [(sg, .inr (6, [.ref co, .ref sr, .int 1, .int (-4)])), (pl, .inr (2, [.ref pn, .ref pt, .int 0, .int 999, .int 0, .int 5]))]) [0, 6] rfl
  have hD9 := hD.sub (ws' := [(sg, .inr (6, [.ref co, .ref sr, .int 1, .int (-4)])), (pl, .inr (2, [.ref pn, .ref pt, .int 0, .int 999, .int 0, .int 5]))]) [0, 6] (by decide) rfl
  exact W.vret hx hb hr (fun t ht hW => ⟨⟨(), rfl, trivial, xB_of ht hW hP9 hK hD9⟩, hS.F ht⟩) hS.2.2 dX7_findRow_69
theorem in_X4_step_X4 : ∀ w ∈ wsX40, w ∈ wsX4_step := by decide +kernel
theorem in_X4_step_X8 : ∀ w ∈ wsX80, w ∈ wsX4_step := by decide +kernel
abbrev W_step0 (cI cJ cZ cG cH : ClassId) (rd : Nat) (tp : Nat) (rf : Nat) (ry : Nat) (rl : Nat) (sp : Nat) (tb : Nat) : va_W := [(rd, .inr (3, [.ref tp, .ref rf, .ref ry, .ref rl, .ref sp, .int 0, .int 0, .int 0, .int 0, .int 0, .int 0, .int 0, .int 0])), (tp, .inr (7, [.ref tb, .int 0]))]
abbrev Q_step0 (D : va_G) (cI cJ cZ cG cH : ClassId) (rd : Nat) (tp : Nat) (rf : Nat) (ry : Nat) (rl : Nat) (sp : Nat) (tb : Nat) (A : Nat → Prop) : Array Value → State → Outcome → State → Prop := va_Qv (fun (_ : Unit) => True) (fun _ t => xB D (tyL cI cJ cZ cG cH) [(rd, .inr (3, [.ref tp, .ref rf, .ref ry, .ref rl, .ref sp, .int 0, .int 0, .int 0, .int 0, .int 0, .int 0, .int 0, .int 0])), (tp, .inr (7, [.ref tb, .int 0]))] A t) A
abbrev rm_step0 : Room := { frames := 0, cells := 0, slots := 0, locals := 0 }
set_option maxRecDepth 100000 in
set_option maxHeartbeats 4000000 in
theorem c_step0 (l : Launch) (D : va_G) (cI cJ cZ cG cH : ClassId) (sz : Nat) (rd : Nat) (tp : Nat) (rf : Nat) (ry : Nat) (rl : Nat) (sp : Nat) (tb : Nat) : Met l yX4_step wsX4_step rm_step0 (xPc [.ref rd] D (tyL cI cJ cZ cG cH) (W_step0 cI cJ cZ cG cH rd tp rf ry rl sp tb) sz) (Q_step0 D cI cJ cZ cG cH rd tp rf ry rl sp tb (va_A (W_step0 cI cJ cZ cG cH rd tp rf ry rl sp tb) sz)) 0 0 (va_A (W_step0 cI cJ cZ cG cH rd tp rf ry rl sp tb) sz) := by
  refine xMet (cc := cX4_step) (maxL := 2) (ret := none) (Qf := Q_step0 D cI cJ cZ cG cH rd tp rf ry rl sp tb) (by decide) rfl (Nat.le_of_ble_eq_true rfl) ?_
  intro p e s m below meth c ls A hx hb hr hml hts hown hlocks hnm hsz hP hK hD hA hS hl
  have hown : s.vm.findClass RX4 = some m.cls := hown
  have hP : va_P D vwCl [(rd, .inr (3, [.ref tp, .ref rf, .ref ry, .ref rl, .ref sp, .int 0, .int 0, .int 0, .int 0, .int 0, .int 0, .int 0, .int 0])), (tp, .inr (7, [.ref tb, .int 0]))] s.heap := hP
  have hD : va_D A [(rd, .inr (3, [.ref tp, .ref rf, .ref ry, .ref rl, .ref sp, .int 0, .int 0, .int 0, .int 0, .int 0, .int 0, .int 0, .int 0])), (tp, .inr (7, [.ref tb, .int 0]))] := hD
  have hl : lv_has ls 2 [(0, .ref rd)] := hl
  refine lv_aload_n hx hb dX4_step_0 rfl (lv_at hl 0 rfl) ?_
  refine va_get (D := D) (ci := 3) (v := .int 0) (C := RX4) (T := TX4) (N := 13) hx hb hts in_X4_step_X4 hown hK hP 0 rfl rfl 5 (by decide) (hts (.fieldLink RX4 36 "PowerRails$Reader" "place" "I") (by decide +kernel)) (fun _ h9 => h9) rfl dX4_step_1 ?_
  refine lv_aload_n hx hb dX4_step_4 rfl (lv_at hl 0 rfl) ?_
  refine va_get (D := D) (ci := 3) (v := .ref tp) (C := RX4) (T := TX4) (N := 13) hx hb hts in_X4_step_X4 hown hK hP 0 rfl rfl 0 (by decide) (hts (.fieldLink RX4 9 "PowerRails$Reader" "tape" "LPowerRails$Tape;") (by decide +kernel)) (fun _ h9 => h9) rfl dX4_step_5 ?_
  refine va_get (D := D) (ci := 7) (v := .int 0) (C := RX8) (T := TX8) (N := 2) hx hb hts in_X4_step_X8 hown hK hP 1 rfl rfl 1 (by decide) (hts (.fieldLink RX4 82 "PowerRails$Tape" "length" "I") (by decide +kernel)) (fun _ h9 => h9) rfl dX4_step_8 ?_
  refine lv_icmp_ge (tgt := 44) hx hb dX4_step_11 (by decide) (fun _ => ?_) (fun c9 => absurd c9 (by decide))
  refine lv_aload_n hx hb dX4_step_44 rfl (lv_at hl 0 rfl) ?_
  refine lv_aload_n hx hb dX4_step_45 rfl (lv_at hl 0 rfl) ?_
  refine va_get (D := D) (ci := 3) (v := .int 0) (C := RX4) (T := TX4) (N := 13) hx hb hts in_X4_step_X4 hown hK hP 0 rfl rfl 5 (by decide) (hts (.fieldLink RX4 36 "PowerRails$Reader" "place" "I") (by decide +kernel)) (fun _ h9 => h9) rfl dX4_step_46 ?_
  refine va_put (D := D) (ci := 3) (v := .int 0) (ty := .int) (C := RX4) (T := TX4) (N := 13) hx hb hts in_X4_step_X4 tyX4 tyX4_ok nmX4 hown hK hP hD hS 0 rfl rfl 7 (by decide) (hts (.fieldLink RX4 88 "PowerRails$Reader" "from" "I") (by decide +kernel)) (fun _ h9 => h9) rfl (by decide +kernel) rfl rfl (Nat.le_of_ble_eq_true rfl) dX4_step_49 (fun H locs hP hD hS => ?_)
  have hP : va_P D vwCl [(rd, .inr (3, [.ref tp, .ref rf, .ref ry, .ref rl, .ref sp, .int 0, .int 0, .int 0, .int 0, .int 0, .int 0, .int 0, .int 0])), (tp, .inr (7, [.ref tb, .int 0]))] H := hP
  have hD : va_D A [(rd, .inr (3, [.ref tp, .ref rf, .ref ry, .ref rl, .ref sp, .int 0, .int 0, .int 0, .int 0, .int 0, .int 0, .int 0, .int 0])), (tp, .inr (7, [.ref tb, .int 0]))] := hD
  refine lv_aload_n hx hb dX4_step_52 rfl (lv_at hl 0 rfl) ?_
  refine lv_iconst (v := 0) hx hb dX4_step_53 (by decide) ?_
  refine va_put (D := D) (ci := 3) (v := .int 0) (ty := .int) (C := RX4) (T := TX4) (N := 13) hx hb hts in_X4_step_X4 tyX4 tyX4_ok nmX4 hown hK hP hD hS 0 rfl rfl 8 (by decide) (hts (.fieldLink RX4 91 "PowerRails$Reader" "value" "I") (by decide +kernel)) (fun _ h9 => h9) rfl (by decide +kernel) rfl rfl (Nat.le_of_ble_eq_true rfl) dX4_step_54 (fun H locs hP hD hS => ?_)
  have hP : va_P D vwCl [(rd, .inr (3, [.ref tp, .ref rf, .ref ry, .ref rl, .ref sp, .int 0, .int 0, .int 0, .int 0, .int 0, .int 0, .int 0, .int 0])), (tp, .inr (7, [.ref tb, .int 0]))] H := hP
  have hD : va_D A [(rd, .inr (3, [.ref tp, .ref rf, .ref ry, .ref rl, .ref sp, .int 0, .int 0, .int 0, .int 0, .int 0, .int 0, .int 0, .int 0])), (tp, .inr (7, [.ref tb, .int 0]))] := hD
  refine lv_aload_n hx hb dX4_step_57 rfl (lv_at hl 0 rfl) ?_
  refine va_get (D := D) (ci := 3) (v := .int 0) (C := RX4) (T := TX4) (N := 13) hx hb hts in_X4_step_X4 hown hK hP 0 rfl rfl 5 (by decide) (hts (.fieldLink RX4 36 "PowerRails$Reader" "place" "I") (by decide +kernel)) (fun _ h9 => h9) rfl dX4_step_58 ?_
  refine lv_aload_n hx hb dX4_step_61 rfl (lv_at hl 0 rfl) ?_
  refine va_get (D := D) (ci := 3) (v := .ref tp) (C := RX4) (T := TX4) (N := 13) hx hb hts in_X4_step_X4 hown hK hP 0 rfl rfl 0 (by decide) (hts (.fieldLink RX4 9 "PowerRails$Reader" "tape" "LPowerRails$Tape;") (by decide +kernel)) (fun _ h9 => h9) rfl dX4_step_62 ?_
  refine va_get (D := D) (ci := 7) (v := .int 0) (C := RX8) (T := TX8) (N := 2) hx hb hts in_X4_step_X8 hown hK hP 1 rfl rfl 1 (by decide) (hts (.fieldLink RX4 82 "PowerRails$Tape" "length" "I") (by decide +kernel)) (fun _ h9 => h9) rfl dX4_step_65 ?_
  refine lv_icmp_lt (tgt := 77) hx hb dX4_step_68 (by decide) (fun c9 => absurd c9 (by decide)) (fun _ => ?_)
  refine lv_aload_n hx hb dX4_step_71 rfl (lv_at hl 0 rfl) ?_
  refine lv_iconst (v := 0) hx hb dX4_step_72 (by decide) ?_
  refine va_put (D := D) (ci := 3) (v := .int 0) (ty := .int) (C := RX4) (T := TX4) (N := 13) hx hb hts in_X4_step_X4 tyX4 tyX4_ok nmX4 hown hK hP hD hS 0 rfl rfl 6 (by decide) (hts (.fieldLink RX4 60 "PowerRails$Reader" "kind" "I") (by decide +kernel)) (fun _ h9 => h9) rfl (by decide +kernel) rfl rfl (Nat.le_of_ble_eq_true rfl) dX4_step_73 (fun H locs hP hD hS => ?_)
  have hP : va_P D vwCl [(rd, .inr (3, [.ref tp, .ref rf, .ref ry, .ref rl, .ref sp, .int 0, .int 0, .int 0, .int 0, .int 0, .int 0, .int 0, .int 0])), (tp, .inr (7, [.ref tb, .int 0]))] H := hP
  have hD : va_D A [(rd, .inr (3, [.ref tp, .ref rf, .ref ry, .ref rl, .ref sp, .int 0, .int 0, .int 0, .int 0, .int 0, .int 0, .int 0, .int 0])), (tp, .inr (7, [.ref tb, .int 0]))] := hD
  refine W.widen (k := 0) (n := 0) (by decide) (by decide) ?_
  have hP9 := hP.sub (ws' := [(rd, .inr (3, [.ref tp, .ref rf, .ref ry, .ref rl, .ref sp, .int 0, .int 0, .int 0, .int 0, .int 0, .int 0, .int 0, .int 0])), (tp, .inr (7, [.ref tb, .int 0]))]) [0, 1] rfl
  have hD9 := hD.sub (ws' := [(rd, .inr (3, [.ref tp, .ref rf, .ref ry, .ref rl, .ref sp, .int 0, .int 0, .int 0, .int 0, .int 0, .int 0, .int 0, .int 0])), (tp, .inr (7, [.ref tb, .int 0]))]) [0, 1] (by decide) rfl
  exact W.vret hx hb hr (fun t ht hW => ⟨⟨(), rfl, trivial, xB_of ht hW hP9 hK hD9⟩, hS.F ht⟩) hS.2.2 dX4_step_76
theorem in_X4_findNotTold_X4 : ∀ w ∈ wsX40, w ∈ wsX4_findNotTold := by decide +kernel
theorem in_X4_findNotTold_X3 : ∀ w ∈ wsX30, w ∈ wsX4_findNotTold := by decide +kernel
abbrev W_findNotTold0 (cI cJ cZ cG cH : ClassId) (rd : Nat) (tp : Nat) (rf : Nat) (ry : Nat) (rl : Nat) (sp : Nat) (fu : Nat → Int32) (sn : Nat) (st : Nat) : va_W := [(rd, .inr (3, [.ref tp, .ref rf, .ref ry, .ref rl, .ref sp, .int 0, .int 0, .int 0, .int 0, .int 0, .int 0, .int 0, .int 0])), (rf, .inl (cI, 8, .inl fu)), (sp, .inr (2, [.ref sn, .ref st, .int 0, .int 999, .int 0, .int 5]))]
abbrev Q_findNotTold0 (D : va_G) (cI cJ cZ cG cH : ClassId) (rd : Nat) (tp : Nat) (rf : Nat) (ry : Nat) (rl : Nat) (sp : Nat) (fu : Nat → Int32) (sn : Nat) (st : Nat) (A : Nat → Prop) : Array Value → State → Outcome → State → Prop := va_Qv (fun (_ : Unit) => True) (fun _ t => xB D (tyL cI cJ cZ cG cH) [(rd, .inr (3, [.ref tp, .ref rf, .ref ry, .ref rl, .ref sp, .int 0, .int 0, .int 0, .int 0, .int 0, .int 0, .int 0, .int 0])), (rf, .inl (cI, 8, .inl fu)), (sp, .inr (2, [.ref sn, .ref st, .int 0, .int 999, .int 0, .int 5]))] A t) A
abbrev rm_findNotTold0 : Room := { frames := 0, cells := 0, slots := 0, locals := 0 }
set_option maxRecDepth 100000 in
set_option maxHeartbeats 4000000 in
theorem c_findNotTold0 (l : Launch) (D : va_G) (cI cJ cZ cG cH : ClassId) (sz : Nat) (rd : Nat) (tp : Nat) (rf : Nat) (ry : Nat) (rl : Nat) (sp : Nat) (fu : Nat → Int32) (sn : Nat) (st : Nat) (hfu : ∀ j, j < 8 → fu j = -4) : Met l yX4_findNotTold wsX4_findNotTold rm_findNotTold0 (xPc [.ref rd] D (tyL cI cJ cZ cG cH) (W_findNotTold0 cI cJ cZ cG cH rd tp rf ry rl sp fu sn st) sz) (Q_findNotTold0 D cI cJ cZ cG cH rd tp rf ry rl sp fu sn st (va_A (W_findNotTold0 cI cJ cZ cG cH rd tp rf ry rl sp fu sn st) sz)) 0 0 (va_A (W_findNotTold0 cI cJ cZ cG cH rd tp rf ry rl sp fu sn st) sz) := by
  refine xMet (cc := cX4_findNotTold) (maxL := 3) (ret := none) (Qf := Q_findNotTold0 D cI cJ cZ cG cH rd tp rf ry rl sp fu sn st) (by decide) rfl (Nat.le_of_ble_eq_true rfl) ?_
  intro p e s m below meth c ls A hx hb hr hml hts hown hlocks hnm hsz hP hK hD hA hS hl
  have hown : s.vm.findClass RX4 = some m.cls := hown
  have hP : va_P D vwCl [(rd, .inr (3, [.ref tp, .ref rf, .ref ry, .ref rl, .ref sp, .int 0, .int 0, .int 0, .int 0, .int 0, .int 0, .int 0, .int 0])), (rf, .inl (cI, 8, .inl fu)), (sp, .inr (2, [.ref sn, .ref st, .int 0, .int 999, .int 0, .int 5]))] s.heap := hP
  have hD : va_D A [(rd, .inr (3, [.ref tp, .ref rf, .ref ry, .ref rl, .ref sp, .int 0, .int 0, .int 0, .int 0, .int 0, .int 0, .int 0, .int 0])), (rf, .inl (cI, 8, .inl fu)), (sp, .inr (2, [.ref sn, .ref st, .int 0, .int 999, .int 0, .int 5]))] := hD
  have hl : lv_has ls 3 [(0, .ref rd)] := hl
  refine lv_sipush (v := 400) hx hb dX4_findNotTold_0 (by decide) ?_
  refine lv_istore_n (lv' := [(1, .int 400), (0, .ref rd)]) hx hb dX4_findNotTold_3 rfl hl (by decide) rfl (fun ls hl => ?_)
  refine lv_aload_n hx hb dX4_findNotTold_4 rfl (lv_at hl 1 rfl) ?_
  refine va_get (D := D) (ci := 3) (v := .ref sp) (C := RX4) (T := TX4) (N := 13) hx hb hts in_X4_findNotTold_X4 hown hK hP 0 rfl rfl 4 (by decide) (hts (.fieldLink RX4 15 "PowerRails$Reader" "plan" "LPowerRails$Plan;") (by decide +kernel)) (fun _ h9 => h9) rfl dX4_findNotTold_5 ?_
  refine va_get (D := D) (ci := 2) (v := .int 0) (C := RX3) (T := TX3) (N := 6) hx hb hts in_X4_findNotTold_X3 hown hK hP 2 rfl rfl 2 (by decide) (hts (.fieldLink RX4 138 "PowerRails$Plan" "rails" "I") (by decide +kernel)) (fun _ h9 => h9) rfl dX4_findNotTold_8 ?_
  refine lv_istore_n (lv' := [(2, .int 0), (1, .int 400), (0, .ref rd)]) hx hb dX4_findNotTold_11 rfl hl (by decide) rfl (fun ls hl => ?_)
  refine lv_iload_n hx hb dX4_findNotTold_12 rfl (lv_at hl 0 rfl) ?_
  refine lv_bipush (v := 8) hx hb dX4_findNotTold_13 (by decide) ?_
  refine lv_icmp_ge (tgt := 46) hx hb dX4_findNotTold_15 (by decide) (fun c9 => absurd c9 (by decide)) (fun _ => ?_)
  refine lv_aload_n hx hb dX4_findNotTold_18 rfl (lv_at hl 2 rfl) ?_
  refine va_get (D := D) (ci := 3) (v := .ref rf) (C := RX4) (T := TX4) (N := 13) hx hb hts in_X4_findNotTold_X4 hown hK hP 0 rfl rfl 1 (by decide) (hts (.fieldLink RX4 19 "PowerRails$Reader" "firstUse" "[I") (by decide +kernel)) (fun _ h9 => h9) rfl dX4_findNotTold_19 ?_
  refine lv_iload_n hx hb dX4_findNotTold_22 rfl (lv_at hl 0 rfl) ?_
  refine va_iald hx hb hK hP 1 0 rfl rfl (xin (by decide) (by decide)) dX4_findNotTold_23 ?_
  refine lv_topi (fun v1 ev1 => ?_)
  obtain rfl : v1 = (-4) := ev1.trans (hfu _ (Nat.not_le.mp fun q9 => (xin (by decide) (by decide)) (Or.inr q9)))
  refine lv_bipush (v := (-4)) hx hb dX4_findNotTold_24 (by decide) ?_
  refine lv_icmp_eq (tgt := 40) hx hb dX4_findNotTold_26 (by decide) (fun _ => ?_) (fun c9 => absurd c9 (by decide))
  refine lv_iinc (v := 1) (lv' := [(2, .int 1), (1, .int 400), (0, .ref rd)]) hx hb dX4_findNotTold_40 hl (k := 0) rfl (by decide) (by decide) rfl (fun ls hl => ?_)
  refine lv_goto (tgt := 12) hx hb dX4_findNotTold_43 (by decide) ?_
  refine lv_iload_n hx hb dX4_findNotTold_12 rfl (lv_at hl 0 rfl) ?_
  refine lv_bipush (v := 8) hx hb dX4_findNotTold_13 (by decide) ?_
  refine lv_icmp_ge (tgt := 46) hx hb dX4_findNotTold_15 (by decide) (fun c9 => absurd c9 (by decide)) (fun _ => ?_)
  refine lv_aload_n hx hb dX4_findNotTold_18 rfl (lv_at hl 2 rfl) ?_
  refine va_get (D := D) (ci := 3) (v := .ref rf) (C := RX4) (T := TX4) (N := 13) hx hb hts in_X4_findNotTold_X4 hown hK hP 0 rfl rfl 1 (by decide) (hts (.fieldLink RX4 19 "PowerRails$Reader" "firstUse" "[I") (by decide +kernel)) (fun _ h9 => h9) rfl dX4_findNotTold_19 ?_
  refine lv_iload_n hx hb dX4_findNotTold_22 rfl (lv_at hl 0 rfl) ?_
  refine va_iald hx hb hK hP 1 0 rfl rfl (xin (by decide) (by decide)) dX4_findNotTold_23 ?_
  refine lv_topi (fun v2 ev2 => ?_)
  obtain rfl : v2 = (-4) := ev2.trans (hfu _ (Nat.not_le.mp fun q9 => (xin (by decide) (by decide)) (Or.inr q9)))
  refine lv_bipush (v := (-4)) hx hb dX4_findNotTold_24 (by decide) ?_
  refine lv_icmp_eq (tgt := 40) hx hb dX4_findNotTold_26 (by decide) (fun _ => ?_) (fun c9 => absurd c9 (by decide))
  refine lv_iinc (v := 2) (lv' := [(2, .int 2), (1, .int 400), (0, .ref rd)]) hx hb dX4_findNotTold_40 hl (k := 0) rfl (by decide) (by decide) rfl (fun ls hl => ?_)
  refine lv_goto (tgt := 12) hx hb dX4_findNotTold_43 (by decide) ?_
  refine lv_iload_n hx hb dX4_findNotTold_12 rfl (lv_at hl 0 rfl) ?_
  refine lv_bipush (v := 8) hx hb dX4_findNotTold_13 (by decide) ?_
  refine lv_icmp_ge (tgt := 46) hx hb dX4_findNotTold_15 (by decide) (fun c9 => absurd c9 (by decide)) (fun _ => ?_)
  refine lv_aload_n hx hb dX4_findNotTold_18 rfl (lv_at hl 2 rfl) ?_
  refine va_get (D := D) (ci := 3) (v := .ref rf) (C := RX4) (T := TX4) (N := 13) hx hb hts in_X4_findNotTold_X4 hown hK hP 0 rfl rfl 1 (by decide) (hts (.fieldLink RX4 19 "PowerRails$Reader" "firstUse" "[I") (by decide +kernel)) (fun _ h9 => h9) rfl dX4_findNotTold_19 ?_
  refine lv_iload_n hx hb dX4_findNotTold_22 rfl (lv_at hl 0 rfl) ?_
  refine va_iald hx hb hK hP 1 0 rfl rfl (xin (by decide) (by decide)) dX4_findNotTold_23 ?_
  refine lv_topi (fun v3 ev3 => ?_)
  obtain rfl : v3 = (-4) := ev3.trans (hfu _ (Nat.not_le.mp fun q9 => (xin (by decide) (by decide)) (Or.inr q9)))
  refine lv_bipush (v := (-4)) hx hb dX4_findNotTold_24 (by decide) ?_
  refine lv_icmp_eq (tgt := 40) hx hb dX4_findNotTold_26 (by decide) (fun _ => ?_) (fun c9 => absurd c9 (by decide))
  refine lv_iinc (v := 3) (lv' := [(2, .int 3), (1, .int 400), (0, .ref rd)]) hx hb dX4_findNotTold_40 hl (k := 0) rfl (by decide) (by decide) rfl (fun ls hl => ?_)
  refine lv_goto (tgt := 12) hx hb dX4_findNotTold_43 (by decide) ?_
  refine lv_iload_n hx hb dX4_findNotTold_12 rfl (lv_at hl 0 rfl) ?_
  refine lv_bipush (v := 8) hx hb dX4_findNotTold_13 (by decide) ?_
  refine lv_icmp_ge (tgt := 46) hx hb dX4_findNotTold_15 (by decide) (fun c9 => absurd c9 (by decide)) (fun _ => ?_)
  refine lv_aload_n hx hb dX4_findNotTold_18 rfl (lv_at hl 2 rfl) ?_
  refine va_get (D := D) (ci := 3) (v := .ref rf) (C := RX4) (T := TX4) (N := 13) hx hb hts in_X4_findNotTold_X4 hown hK hP 0 rfl rfl 1 (by decide) (hts (.fieldLink RX4 19 "PowerRails$Reader" "firstUse" "[I") (by decide +kernel)) (fun _ h9 => h9) rfl dX4_findNotTold_19 ?_
  refine lv_iload_n hx hb dX4_findNotTold_22 rfl (lv_at hl 0 rfl) ?_
  refine va_iald hx hb hK hP 1 0 rfl rfl (xin (by decide) (by decide)) dX4_findNotTold_23 ?_
  refine lv_topi (fun v4 ev4 => ?_)
  obtain rfl : v4 = (-4) := ev4.trans (hfu _ (Nat.not_le.mp fun q9 => (xin (by decide) (by decide)) (Or.inr q9)))
  refine lv_bipush (v := (-4)) hx hb dX4_findNotTold_24 (by decide) ?_
  refine lv_icmp_eq (tgt := 40) hx hb dX4_findNotTold_26 (by decide) (fun _ => ?_) (fun c9 => absurd c9 (by decide))
  refine lv_iinc (v := 4) (lv' := [(2, .int 4), (1, .int 400), (0, .ref rd)]) hx hb dX4_findNotTold_40 hl (k := 0) rfl (by decide) (by decide) rfl (fun ls hl => ?_)
  refine lv_goto (tgt := 12) hx hb dX4_findNotTold_43 (by decide) ?_
  refine lv_iload_n hx hb dX4_findNotTold_12 rfl (lv_at hl 0 rfl) ?_
  refine lv_bipush (v := 8) hx hb dX4_findNotTold_13 (by decide) ?_
  refine lv_icmp_ge (tgt := 46) hx hb dX4_findNotTold_15 (by decide) (fun c9 => absurd c9 (by decide)) (fun _ => ?_)
  refine lv_aload_n hx hb dX4_findNotTold_18 rfl (lv_at hl 2 rfl) ?_
  refine va_get (D := D) (ci := 3) (v := .ref rf) (C := RX4) (T := TX4) (N := 13) hx hb hts in_X4_findNotTold_X4 hown hK hP 0 rfl rfl 1 (by decide) (hts (.fieldLink RX4 19 "PowerRails$Reader" "firstUse" "[I") (by decide +kernel)) (fun _ h9 => h9) rfl dX4_findNotTold_19 ?_
  refine lv_iload_n hx hb dX4_findNotTold_22 rfl (lv_at hl 0 rfl) ?_
  refine va_iald hx hb hK hP 1 0 rfl rfl (xin (by decide) (by decide)) dX4_findNotTold_23 ?_
  refine lv_topi (fun v5 ev5 => ?_)
  obtain rfl : v5 = (-4) := ev5.trans (hfu _ (Nat.not_le.mp fun q9 => (xin (by decide) (by decide)) (Or.inr q9)))
  refine lv_bipush (v := (-4)) hx hb dX4_findNotTold_24 (by decide) ?_
  refine lv_icmp_eq (tgt := 40) hx hb dX4_findNotTold_26 (by decide) (fun _ => ?_) (fun c9 => absurd c9 (by decide))
  refine lv_iinc (v := 5) (lv' := [(2, .int 5), (1, .int 400), (0, .ref rd)]) hx hb dX4_findNotTold_40 hl (k := 0) rfl (by decide) (by decide) rfl (fun ls hl => ?_)
  refine lv_goto (tgt := 12) hx hb dX4_findNotTold_43 (by decide) ?_
  refine lv_iload_n hx hb dX4_findNotTold_12 rfl (lv_at hl 0 rfl) ?_
  refine lv_bipush (v := 8) hx hb dX4_findNotTold_13 (by decide) ?_
  refine lv_icmp_ge (tgt := 46) hx hb dX4_findNotTold_15 (by decide) (fun c9 => absurd c9 (by decide)) (fun _ => ?_)
  refine lv_aload_n hx hb dX4_findNotTold_18 rfl (lv_at hl 2 rfl) ?_
  refine va_get (D := D) (ci := 3) (v := .ref rf) (C := RX4) (T := TX4) (N := 13) hx hb hts in_X4_findNotTold_X4 hown hK hP 0 rfl rfl 1 (by decide) (hts (.fieldLink RX4 19 "PowerRails$Reader" "firstUse" "[I") (by decide +kernel)) (fun _ h9 => h9) rfl dX4_findNotTold_19 ?_
  refine lv_iload_n hx hb dX4_findNotTold_22 rfl (lv_at hl 0 rfl) ?_
  refine va_iald hx hb hK hP 1 0 rfl rfl (xin (by decide) (by decide)) dX4_findNotTold_23 ?_
  refine lv_topi (fun v6 ev6 => ?_)
  obtain rfl : v6 = (-4) := ev6.trans (hfu _ (Nat.not_le.mp fun q9 => (xin (by decide) (by decide)) (Or.inr q9)))
  refine lv_bipush (v := (-4)) hx hb dX4_findNotTold_24 (by decide) ?_
  refine lv_icmp_eq (tgt := 40) hx hb dX4_findNotTold_26 (by decide) (fun _ => ?_) (fun c9 => absurd c9 (by decide))
  refine lv_iinc (v := 6) (lv' := [(2, .int 6), (1, .int 400), (0, .ref rd)]) hx hb dX4_findNotTold_40 hl (k := 0) rfl (by decide) (by decide) rfl (fun ls hl => ?_)
  refine lv_goto (tgt := 12) hx hb dX4_findNotTold_43 (by decide) ?_
  refine lv_iload_n hx hb dX4_findNotTold_12 rfl (lv_at hl 0 rfl) ?_
  refine lv_bipush (v := 8) hx hb dX4_findNotTold_13 (by decide) ?_
  refine lv_icmp_ge (tgt := 46) hx hb dX4_findNotTold_15 (by decide) (fun c9 => absurd c9 (by decide)) (fun _ => ?_)
  refine lv_aload_n hx hb dX4_findNotTold_18 rfl (lv_at hl 2 rfl) ?_
  refine va_get (D := D) (ci := 3) (v := .ref rf) (C := RX4) (T := TX4) (N := 13) hx hb hts in_X4_findNotTold_X4 hown hK hP 0 rfl rfl 1 (by decide) (hts (.fieldLink RX4 19 "PowerRails$Reader" "firstUse" "[I") (by decide +kernel)) (fun _ h9 => h9) rfl dX4_findNotTold_19 ?_
  refine lv_iload_n hx hb dX4_findNotTold_22 rfl (lv_at hl 0 rfl) ?_
  refine va_iald hx hb hK hP 1 0 rfl rfl (xin (by decide) (by decide)) dX4_findNotTold_23 ?_
  refine lv_topi (fun v7 ev7 => ?_)
  obtain rfl : v7 = (-4) := ev7.trans (hfu _ (Nat.not_le.mp fun q9 => (xin (by decide) (by decide)) (Or.inr q9)))
  refine lv_bipush (v := (-4)) hx hb dX4_findNotTold_24 (by decide) ?_
  refine lv_icmp_eq (tgt := 40) hx hb dX4_findNotTold_26 (by decide) (fun _ => ?_) (fun c9 => absurd c9 (by decide))
  refine lv_iinc (v := 7) (lv' := [(2, .int 7), (1, .int 400), (0, .ref rd)]) hx hb dX4_findNotTold_40 hl (k := 0) rfl (by decide) (by decide) rfl (fun ls hl => ?_)
  refine lv_goto (tgt := 12) hx hb dX4_findNotTold_43 (by decide) ?_
  refine lv_iload_n hx hb dX4_findNotTold_12 rfl (lv_at hl 0 rfl) ?_
  refine lv_bipush (v := 8) hx hb dX4_findNotTold_13 (by decide) ?_
  refine lv_icmp_ge (tgt := 46) hx hb dX4_findNotTold_15 (by decide) (fun c9 => absurd c9 (by decide)) (fun _ => ?_)
  refine lv_aload_n hx hb dX4_findNotTold_18 rfl (lv_at hl 2 rfl) ?_
  refine va_get (D := D) (ci := 3) (v := .ref rf) (C := RX4) (T := TX4) (N := 13) hx hb hts in_X4_findNotTold_X4 hown hK hP 0 rfl rfl 1 (by decide) (hts (.fieldLink RX4 19 "PowerRails$Reader" "firstUse" "[I") (by decide +kernel)) (fun _ h9 => h9) rfl dX4_findNotTold_19 ?_
  refine lv_iload_n hx hb dX4_findNotTold_22 rfl (lv_at hl 0 rfl) ?_
  refine va_iald hx hb hK hP 1 0 rfl rfl (xin (by decide) (by decide)) dX4_findNotTold_23 ?_
  refine lv_topi (fun v8 ev8 => ?_)
  obtain rfl : v8 = (-4) := ev8.trans (hfu _ (Nat.not_le.mp fun q9 => (xin (by decide) (by decide)) (Or.inr q9)))
  refine lv_bipush (v := (-4)) hx hb dX4_findNotTold_24 (by decide) ?_
  refine lv_icmp_eq (tgt := 40) hx hb dX4_findNotTold_26 (by decide) (fun _ => ?_) (fun c9 => absurd c9 (by decide))
  refine lv_iinc (v := 8) (lv' := [(2, .int 8), (1, .int 400), (0, .ref rd)]) hx hb dX4_findNotTold_40 hl (k := 0) rfl (by decide) (by decide) rfl (fun ls hl => ?_)
  refine lv_goto (tgt := 12) hx hb dX4_findNotTold_43 (by decide) ?_
  refine lv_iload_n hx hb dX4_findNotTold_12 rfl (lv_at hl 0 rfl) ?_
  refine lv_bipush (v := 8) hx hb dX4_findNotTold_13 (by decide) ?_
  refine lv_icmp_ge (tgt := 46) hx hb dX4_findNotTold_15 (by decide) (fun _ => ?_) (fun c9 => absurd c9 (by decide))
  refine lv_iload_n hx hb dX4_findNotTold_46 rfl (lv_at hl 1 rfl) ?_
  refine lv_sipush (v := 400) hx hb dX4_findNotTold_47 (by decide) ?_
  refine lv_icmp_ge (tgt := 60) hx hb dX4_findNotTold_50 (by decide) (fun _ => ?_) (fun c9 => absurd c9 (by decide))
  refine W.widen (k := 0) (n := 0) (by decide) (by decide) ?_
  have hP9 := hP.sub (ws' := [(rd, .inr (3, [.ref tp, .ref rf, .ref ry, .ref rl, .ref sp, .int 0, .int 0, .int 0, .int 0, .int 0, .int 0, .int 0, .int 0])), (rf, .inl (cI, 8, .inl fu)), (sp, .inr (2, [.ref sn, .ref st, .int 0, .int 999, .int 0, .int 5]))]) [0, 1, 2] rfl
  have hD9 := hD.sub (ws' := [(rd, .inr (3, [.ref tp, .ref rf, .ref ry, .ref rl, .ref sp, .int 0, .int 0, .int 0, .int 0, .int 0, .int 0, .int 0, .int 0])), (rf, .inl (cI, 8, .inl fu)), (sp, .inr (2, [.ref sn, .ref st, .int 0, .int 999, .int 0, .int 5]))]) [0, 1, 2] (by decide) rfl
  exact W.vret hx hb hr (fun t ht hW => ⟨⟨(), rfl, trivial, xB_of ht hW hP9 hK hD9⟩, hS.F ht⟩) hS.2.2 dX4_findNotTold_60
theorem in_X4_readText_X4 : ∀ w ∈ wsX40, w ∈ wsX4_readText := by decide +kernel
abbrev W_readText0 (cI cJ cZ cG cH : ClassId) (rd : Nat) (sp : Nat) (tp : Nat) (rf : Nat) (ry : Nat) (rl : Nat) (tb : Nat) (sn : Nat) (st : Nat) : va_W := [(rd, .inr (3, [.ref tp, .ref rf, .ref ry, .ref rl, .ref sp, .int 0, .int 0, .int 0, .int 0, .int 0, .int 0, .int 0, .int 0])), (rf, .inl (cI, 8, .inl (fun _ => 0))), (tp, .inr (7, [.ref tb, .int 0])), (sp, .inr (2, [.ref sn, .ref st, .int 0, .int 999, .int 0, .int 5]))]
abbrev Q_readText0 (D : va_G) (cI cJ cZ cG cH : ClassId) (rd : Nat) (sp : Nat) (tp : Nat) (rf : Nat) (ry : Nat) (rl : Nat) (tb : Nat) (sn : Nat) (st : Nat) (A : Nat → Prop) : Array Value → State → Outcome → State → Prop := va_Qi (fun (r : Int32) (_ : Unit) => r = 0) (fun _ t => xB D (tyL cI cJ cZ cG cH) [(rd, .inr (3, [.ref tp, .ref rf, .ref ry, .ref rl, .ref sp, .int 0, .int 0, .int 0, .int 0, .int 0, .int 0, .int 0, .int 0])), (sp, .inr (2, [.ref sn, .ref st, .int 0, .int 999, .int 0, .int 5])), (tp, .inr (7, [.ref tb, .int 0]))] A t) A
abbrev rm_readText0 : Room := { frames := 1, cells := 0, slots := 0, locals := 23 }
set_option maxRecDepth 100000 in
set_option maxHeartbeats 4000000 in
theorem c_readText0 (l : Launch) (D : va_G) (cI cJ cZ cG cH : ClassId) (sz : Nat) (rd : Nat) (sp : Nat) (tp : Nat) (rf : Nat) (ry : Nat) (rl : Nat) (tb : Nat) (sn : Nat) (st : Nat) : Met l yX4_readText wsX4_readText rm_readText0 (xPc [.ref rd, .ref sp] D (tyL cI cJ cZ cG cH) (W_readText0 cI cJ cZ cG cH rd sp tp rf ry rl tb sn st) sz) (Q_readText0 D cI cJ cZ cG cH rd sp tp rf ry rl tb sn st (va_A (W_readText0 cI cJ cZ cG cH rd sp tp rf ry rl tb sn st) sz)) 0 0 (va_A (W_readText0 cI cJ cZ cG cH rd sp tp rf ry rl tb sn st) sz) := by
  refine xMet (cc := cX4_readText) (maxL := 4) (ret := (some .int)) (Qf := Q_readText0 D cI cJ cZ cG cH rd sp tp rf ry rl tb sn st) (by decide) rfl (Nat.le_of_ble_eq_true rfl) ?_
  intro p e s m below meth c ls A hx hb hr hml hts hown hlocks hnm hsz hP hK hD hA hS hl
  have hown : s.vm.findClass RX4 = some m.cls := hown
  have hP : va_P D vwCl [(rd, .inr (3, [.ref tp, .ref rf, .ref ry, .ref rl, .ref sp, .int 0, .int 0, .int 0, .int 0, .int 0, .int 0, .int 0, .int 0])), (rf, .inl (cI, 8, .inl (fun _ => 0))), (tp, .inr (7, [.ref tb, .int 0])), (sp, .inr (2, [.ref sn, .ref st, .int 0, .int 999, .int 0, .int 5]))] s.heap := hP
  have hD : va_D A [(rd, .inr (3, [.ref tp, .ref rf, .ref ry, .ref rl, .ref sp, .int 0, .int 0, .int 0, .int 0, .int 0, .int 0, .int 0, .int 0])), (rf, .inl (cI, 8, .inl (fun _ => 0))), (tp, .inr (7, [.ref tb, .int 0])), (sp, .inr (2, [.ref sn, .ref st, .int 0, .int 999, .int 0, .int 5]))] := hD
  have hl : lv_has ls 4 [(0, .ref rd), (1, .ref sp)] := hl
  refine lv_aload_n hx hb dX4_readText_0 rfl (lv_at hl 0 rfl) ?_
  refine lv_aload_n hx hb dX4_readText_1 rfl (lv_at hl 1 rfl) ?_
  refine va_put (D := D) (ci := 3) (v := .ref sp) (ty := (.object "PowerRails$Plan")) (C := RX4) (T := TX4) (N := 13) hx hb hts in_X4_readText_X4 tyX4 tyX4_ok nmX4 hown hK hP hD hS 0 rfl rfl 4 (by decide) (hts (.fieldLink RX4 15 "PowerRails$Reader" "plan" "LPowerRails$Plan;") (by decide +kernel)) (fun _ h9 => h9) rfl (by decide +kernel) rfl rfl (Nat.le_of_ble_eq_true rfl) dX4_readText_2 (fun H locs hP hD hS => ?_)
  have hP : va_P D vwCl [(rd, .inr (3, [.ref tp, .ref rf, .ref ry, .ref rl, .ref sp, .int 0, .int 0, .int 0, .int 0, .int 0, .int 0, .int 0, .int 0])), (rf, .inl (cI, 8, .inl (fun _ => 0))), (tp, .inr (7, [.ref tb, .int 0])), (sp, .inr (2, [.ref sn, .ref st, .int 0, .int 999, .int 0, .int 5]))] H := hP
  have hD : va_D A [(rd, .inr (3, [.ref tp, .ref rf, .ref ry, .ref rl, .ref sp, .int 0, .int 0, .int 0, .int 0, .int 0, .int 0, .int 0, .int 0])), (rf, .inl (cI, 8, .inl (fun _ => 0))), (tp, .inr (7, [.ref tb, .int 0])), (sp, .inr (2, [.ref sn, .ref st, .int 0, .int 999, .int 0, .int 5]))] := hD
  refine lv_aload_n hx hb dX4_readText_5 rfl (lv_at hl 0 rfl) ?_
  refine va_get (D := D) (ci := 3) (v := .ref sp) (C := RX4) (T := TX4) (N := 13) hx hb hts in_X4_readText_X4 hown hK hP 0 rfl rfl 4 (by decide) (hts (.fieldLink RX4 15 "PowerRails$Reader" "plan" "LPowerRails$Plan;") (by decide +kernel)) (fun _ h9 => h9) rfl dX4_readText_6 ?_
  have hPc := hP.sub (ws' := [(sp, .inr (2, [.ref sn, .ref st, .int 0, .int 999, .int 0, .int 5]))]) [3] rfl
  have hDc := hD.sub (ws' := [(sp, .inr (2, [.ref sn, .ref st, .int 0, .int 999, .int 0, .int 5]))]) [3] (by decide) rfl
  have hFc := va_free (wc := [(sp, .inr (2, [.ref sn, .ref st, .int 0, .int 999, .int 0, .int 5]))]) hD hS hA [3] rfl
  refine va_callv (va_runV (As := []) (rest := []) ⟨hx, hb, hml, hown, hts⟩ (c_Plan_reset l D cI cJ cZ cG cH H.size sp sn st) (cwV 0 hts gX4_readText_X3_reset rfl rfl rfl (by decide +kernel) ⟨Nat.le_of_ble_eq_true rfl, Nat.le_of_ble_eq_true rfl⟩) ⟨xPc_blind, va_recv hK hPc (ci := 2) (q0 := 0) rfl rfl, xPc_pre hPc hK hDc⟩ rfl rfl hl.1 rfl (lv_room (Nat.le_of_ble_eq_true rfl)) dX4_readText_9 ⟨Nat.le_of_ble_eq_true rfl, Nat.le_of_ble_eq_true rfl⟩) hS (fun q _ h => hFc q h) hFc (fun u t H1 locs ht hvm hw1 hB hz1 hk1 hS => ?_)
  obtain ⟨hP1, hK1, hD1⟩ := hB
  rw [ht] at hP1
  obtain ⟨hP, hD⟩ := va_join (wr := [(rd, .inr (3, [.ref tp, .ref rf, .ref ry, .ref rl, .ref sp, .int 0, .int 0, .int 0, .int 0, .int 0, .int 0, .int 0, .int 0])), (rf, .inl (cI, 8, .inl (fun _ => 0))), (tp, .inr (7, [.ref tb, .int 0]))]) (w1 := [(sp, .inr (2, [.ref sn, .ref st, .int 0, .int 999, .int 0, .int 5]))]) hP hD [3] [0, 1, 2] rfl rfl (by decide) (by decide) hk1 hFc hP1 hD1
  generalize H1 = H at hP hS ⊢
  have hP : va_P D vwCl [(rd, .inr (3, [.ref tp, .ref rf, .ref ry, .ref rl, .ref sp, .int 0, .int 0, .int 0, .int 0, .int 0, .int 0, .int 0, .int 0])), (rf, .inl (cI, 8, .inl (fun _ => 0))), (tp, .inr (7, [.ref tb, .int 0])), (sp, .inr (2, [.ref sn, .ref st, .int 0, .int 999, .int 0, .int 5]))] H := hP
  have hD : va_D A [(rd, .inr (3, [.ref tp, .ref rf, .ref ry, .ref rl, .ref sp, .int 0, .int 0, .int 0, .int 0, .int 0, .int 0, .int 0, .int 0])), (rf, .inl (cI, 8, .inl (fun _ => 0))), (tp, .inr (7, [.ref tb, .int 0])), (sp, .inr (2, [.ref sn, .ref st, .int 0, .int 999, .int 0, .int 5]))] := hD
  refine lv_aload_n hx hb dX4_readText_12 rfl (lv_at hl 0 rfl) ?_
  refine lv_iconst (v := 0) hx hb dX4_readText_13 (by decide) ?_
  refine va_put (D := D) (ci := 3) (v := .int 0) (ty := .int) (C := RX4) (T := TX4) (N := 13) hx hb hts in_X4_readText_X4 tyX4 tyX4_ok nmX4 hown hK hP hD hS 0 rfl rfl 5 (by decide) (hts (.fieldLink RX4 36 "PowerRails$Reader" "place" "I") (by decide +kernel)) (fun _ h9 => h9) rfl (by decide +kernel) rfl rfl (Nat.le_of_ble_eq_true rfl) dX4_readText_14 (fun H locs hP hD hS => ?_)
  have hP : va_P D vwCl [(rd, .inr (3, [.ref tp, .ref rf, .ref ry, .ref rl, .ref sp, .int 0, .int 0, .int 0, .int 0, .int 0, .int 0, .int 0, .int 0])), (rf, .inl (cI, 8, .inl (fun _ => 0))), (tp, .inr (7, [.ref tb, .int 0])), (sp, .inr (2, [.ref sn, .ref st, .int 0, .int 999, .int 0, .int 5]))] H := hP
  have hD : va_D A [(rd, .inr (3, [.ref tp, .ref rf, .ref ry, .ref rl, .ref sp, .int 0, .int 0, .int 0, .int 0, .int 0, .int 0, .int 0, .int 0])), (rf, .inl (cI, 8, .inl (fun _ => 0))), (tp, .inr (7, [.ref tb, .int 0])), (sp, .inr (2, [.ref sn, .ref st, .int 0, .int 999, .int 0, .int 5]))] := hD
  refine lv_aload_n hx hb dX4_readText_17 rfl (lv_at hl 0 rfl) ?_
  refine lv_iconst (v := 0) hx hb dX4_readText_18 (by decide) ?_
  refine va_put (D := D) (ci := 3) (v := .int 0) (ty := .int) (C := RX4) (T := TX4) (N := 13) hx hb hts in_X4_readText_X4 tyX4 tyX4_ok nmX4 hown hK hP hD hS 0 rfl rfl 9 (by decide) (hts (.fieldLink RX4 40 "PowerRails$Reader" "told" "I") (by decide +kernel)) (fun _ h9 => h9) rfl (by decide +kernel) rfl rfl (Nat.le_of_ble_eq_true rfl) dX4_readText_19 (fun H locs hP hD hS => ?_)
  have hP : va_P D vwCl [(rd, .inr (3, [.ref tp, .ref rf, .ref ry, .ref rl, .ref sp, .int 0, .int 0, .int 0, .int 0, .int 0, .int 0, .int 0, .int 0])), (rf, .inl (cI, 8, .inl (fun _ => 0))), (tp, .inr (7, [.ref tb, .int 0])), (sp, .inr (2, [.ref sn, .ref st, .int 0, .int 999, .int 0, .int 5]))] H := hP
  have hD : va_D A [(rd, .inr (3, [.ref tp, .ref rf, .ref ry, .ref rl, .ref sp, .int 0, .int 0, .int 0, .int 0, .int 0, .int 0, .int 0, .int 0])), (rf, .inl (cI, 8, .inl (fun _ => 0))), (tp, .inr (7, [.ref tb, .int 0])), (sp, .inr (2, [.ref sn, .ref st, .int 0, .int 999, .int 0, .int 5]))] := hD
  refine lv_aload_n hx hb dX4_readText_22 rfl (lv_at hl 0 rfl) ?_
  refine lv_iconst (v := 0) hx hb dX4_readText_23 (by decide) ?_
  refine va_put (D := D) (ci := 3) (v := .int 0) (ty := .int) (C := RX4) (T := TX4) (N := 13) hx hb hts in_X4_readText_X4 tyX4 tyX4_ok nmX4 hown hK hP hD hS 0 rfl rfl 11 (by decide) (hts (.fieldLink RX4 43 "PowerRails$Reader" "fault" "I") (by decide +kernel)) (fun _ h9 => h9) rfl (by decide +kernel) rfl rfl (Nat.le_of_ble_eq_true rfl) dX4_readText_24 (fun H locs hP hD hS => ?_)
  have hP : va_P D vwCl [(rd, .inr (3, [.ref tp, .ref rf, .ref ry, .ref rl, .ref sp, .int 0, .int 0, .int 0, .int 0, .int 0, .int 0, .int 0, .int 0])), (rf, .inl (cI, 8, .inl (fun _ => 0))), (tp, .inr (7, [.ref tb, .int 0])), (sp, .inr (2, [.ref sn, .ref st, .int 0, .int 999, .int 0, .int 5]))] H := hP
  have hD : va_D A [(rd, .inr (3, [.ref tp, .ref rf, .ref ry, .ref rl, .ref sp, .int 0, .int 0, .int 0, .int 0, .int 0, .int 0, .int 0, .int 0])), (rf, .inl (cI, 8, .inl (fun _ => 0))), (tp, .inr (7, [.ref tb, .int 0])), (sp, .inr (2, [.ref sn, .ref st, .int 0, .int 999, .int 0, .int 5]))] := hD
  refine lv_aload_n hx hb dX4_readText_27 rfl (lv_at hl 0 rfl) ?_
  refine lv_iconst (v := 0) hx hb dX4_readText_28 (by decide) ?_
  refine va_put (D := D) (ci := 3) (v := .int 0) (ty := .int) (C := RX4) (T := TX4) (N := 13) hx hb hts in_X4_readText_X4 tyX4 tyX4_ok nmX4 hown hK hP hD hS 0 rfl rfl 12 (by decide) (hts (.fieldLink RX4 46 "PowerRails$Reader" "faultPlace" "I") (by decide +kernel)) (fun _ h9 => h9) rfl (by decide +kernel) rfl rfl (Nat.le_of_ble_eq_true rfl) dX4_readText_29 (fun H locs hP hD hS => ?_)
  have hP : va_P D vwCl [(rd, .inr (3, [.ref tp, .ref rf, .ref ry, .ref rl, .ref sp, .int 0, .int 0, .int 0, .int 0, .int 0, .int 0, .int 0, .int 0])), (rf, .inl (cI, 8, .inl (fun _ => 0))), (tp, .inr (7, [.ref tb, .int 0])), (sp, .inr (2, [.ref sn, .ref st, .int 0, .int 999, .int 0, .int 5]))] H := hP
  have hD : va_D A [(rd, .inr (3, [.ref tp, .ref rf, .ref ry, .ref rl, .ref sp, .int 0, .int 0, .int 0, .int 0, .int 0, .int 0, .int 0, .int 0])), (rf, .inl (cI, 8, .inl (fun _ => 0))), (tp, .inr (7, [.ref tb, .int 0])), (sp, .inr (2, [.ref sn, .ref st, .int 0, .int 999, .int 0, .int 5]))] := hD
  refine lv_aload_n hx hb dX4_readText_32 rfl (lv_at hl 0 rfl) ?_
  refine va_get (D := D) (ci := 3) (v := .ref rf) (C := RX4) (T := TX4) (N := 13) hx hb hts in_X4_readText_X4 hown hK hP 0 rfl rfl 1 (by decide) (hts (.fieldLink RX4 19 "PowerRails$Reader" "firstUse" "[I") (by decide +kernel)) (fun _ h9 => h9) rfl dX4_readText_33 ?_
  refine lv_bipush (v := (-4)) hx hb dX4_readText_36 (by decide) ?_
  have hPc := hP.sub (ws' := [(rf, .inl (cI, 8, .inl (fun _ => 0)))]) [1] rfl
  have hDc := hD.sub (ws' := [(rf, .inl (cI, 8, .inl (fun _ => 0)))]) [1] (by decide) rfl
  have hFc := va_free (wc := [(rf, .inl (cI, 8, .inl (fun _ => 0)))]) hD hS hA [1] rfl
  refine va_callv (va_runS (As := [.ref rf, .int (-4)]) (rest := []) ⟨hx, hb, hml, hown, hts⟩ (c_fillI l D cI cJ cZ cG cH H.size rf (-4 : Int32) 8 (fun _ => 0) (by first | assumption | decide | omega)) (va_cwS 2 hts gX4_readText_J7_fill_53178 rfl rfl rfl (by decide +kernel) ⟨Nat.le_of_ble_eq_true rfl, Nat.le_of_ble_eq_true rfl⟩) ⟨xPc_blind, xPc_pre hPc hK hDc⟩ rfl rfl hl.1 rfl (lv_room (Nat.le_of_ble_eq_true rfl)) dX4_readText_38 ⟨Nat.le_of_ble_eq_true rfl, Nat.le_of_ble_eq_true rfl⟩) hS (fun q _ h => hFc q h) hFc (fun u t H1 locs ht hvm hw2 hB hz1 hk1 hS => ?_)
  obtain ⟨g_3, hf3_0, hP1, hK1, hD1⟩ := hB
  rw [ht] at hP1
  obtain ⟨hP, hD⟩ := va_join (wr := [(rd, .inr (3, [.ref tp, .ref rf, .ref ry, .ref rl, .ref sp, .int 0, .int 0, .int 0, .int 0, .int 0, .int 0, .int 0, .int 0])), (tp, .inr (7, [.ref tb, .int 0])), (sp, .inr (2, [.ref sn, .ref st, .int 0, .int 999, .int 0, .int 5]))]) (w1 := [(rf, .inl (cI, 8, .inl g_3))]) hP hD [1] [0, 2, 3] rfl rfl (by decide) (by decide) hk1 hFc hP1 hD1
  generalize H1 = H at hP hS ⊢
  have hP : va_P D vwCl [(rd, .inr (3, [.ref tp, .ref rf, .ref ry, .ref rl, .ref sp, .int 0, .int 0, .int 0, .int 0, .int 0, .int 0, .int 0, .int 0])), (tp, .inr (7, [.ref tb, .int 0])), (sp, .inr (2, [.ref sn, .ref st, .int 0, .int 999, .int 0, .int 5])), (rf, .inl (cI, 8, .inl g_3))] H := hP
  have hD : va_D A [(rd, .inr (3, [.ref tp, .ref rf, .ref ry, .ref rl, .ref sp, .int 0, .int 0, .int 0, .int 0, .int 0, .int 0, .int 0, .int 0])), (tp, .inr (7, [.ref tb, .int 0])), (sp, .inr (2, [.ref sn, .ref st, .int 0, .int 999, .int 0, .int 5])), (rf, .inl (cI, 8, .inl g_3))] := hD
  have hf3_0 : ∀ j, j < 8 → g_3 j = (-4 : Int32) := hf3_0
  refine lv_aload_n hx hb dX4_readText_41 rfl (lv_at hl 0 rfl) ?_
  have hPc := hP.sub (ws' := [(rd, .inr (3, [.ref tp, .ref rf, .ref ry, .ref rl, .ref sp, .int 0, .int 0, .int 0, .int 0, .int 0, .int 0, .int 0, .int 0])), (tp, .inr (7, [.ref tb, .int 0]))]) [0, 1] rfl
  have hDc := hD.sub (ws' := [(rd, .inr (3, [.ref tp, .ref rf, .ref ry, .ref rl, .ref sp, .int 0, .int 0, .int 0, .int 0, .int 0, .int 0, .int 0, .int 0])), (tp, .inr (7, [.ref tb, .int 0]))]) [0, 1] (by decide) rfl
  have hFc := va_free (wc := [(rd, .inr (3, [.ref tp, .ref rf, .ref ry, .ref rl, .ref sp, .int 0, .int 0, .int 0, .int 0, .int 0, .int 0, .int 0, .int 0])), (tp, .inr (7, [.ref tb, .int 0]))]) hD hS hA [0, 1] rfl
  refine va_callv (va_runV (As := []) (rest := []) ⟨hx, hb, hml, hown, hts⟩ (c_step0 l D cI cJ cZ cG cH H.size rd tp rf ry rl sp tb) (cwV 0 hts gX4_readText_X4_step rfl rfl rfl (by decide +kernel) ⟨Nat.le_of_ble_eq_true rfl, Nat.le_of_ble_eq_true rfl⟩) ⟨xPc_blind, va_recv hK hPc (ci := 3) (q0 := 0) rfl rfl, xPc_pre hPc hK hDc⟩ rfl rfl hl.1 rfl (lv_room (Nat.le_of_ble_eq_true rfl)) dX4_readText_42 ⟨Nat.le_of_ble_eq_true rfl, Nat.le_of_ble_eq_true rfl⟩) hS (fun q _ h => hFc q h) hFc (fun u t H1 locs ht hvm hw4 hB hz1 hk1 hS => ?_)
  obtain ⟨hP1, hK1, hD1⟩ := hB
  rw [ht] at hP1
  obtain ⟨hP, hD⟩ := va_join (wr := [(sp, .inr (2, [.ref sn, .ref st, .int 0, .int 999, .int 0, .int 5])), (rf, .inl (cI, 8, .inl g_3))]) (w1 := [(rd, .inr (3, [.ref tp, .ref rf, .ref ry, .ref rl, .ref sp, .int 0, .int 0, .int 0, .int 0, .int 0, .int 0, .int 0, .int 0])), (tp, .inr (7, [.ref tb, .int 0]))]) hP hD [0, 1] [2, 3] rfl rfl (by decide) (by decide) hk1 hFc hP1 hD1
  generalize H1 = H at hP hS ⊢
  have hP : va_P D vwCl [(sp, .inr (2, [.ref sn, .ref st, .int 0, .int 999, .int 0, .int 5])), (rf, .inl (cI, 8, .inl g_3)), (rd, .inr (3, [.ref tp, .ref rf, .ref ry, .ref rl, .ref sp, .int 0, .int 0, .int 0, .int 0, .int 0, .int 0, .int 0, .int 0])), (tp, .inr (7, [.ref tb, .int 0]))] H := hP
  have hD : va_D A [(sp, .inr (2, [.ref sn, .ref st, .int 0, .int 999, .int 0, .int 5])), (rf, .inl (cI, 8, .inl g_3)), (rd, .inr (3, [.ref tp, .ref rf, .ref ry, .ref rl, .ref sp, .int 0, .int 0, .int 0, .int 0, .int 0, .int 0, .int 0, .int 0])), (tp, .inr (7, [.ref tb, .int 0]))] := hD
  refine lv_iconst (v := 0) hx hb dX4_readText_45 (by decide) ?_
  refine lv_istore_n (lv' := [(2, .int 0), (0, .ref rd), (1, .ref sp)]) hx hb dX4_readText_46 rfl hl (by decide) rfl (fun ls hl => ?_)
  refine lv_iconst (v := 0) hx hb dX4_readText_47 (by decide) ?_
  refine lv_istore_n (lv' := [(3, .int 0), (2, .int 0), (0, .ref rd), (1, .ref sp)]) hx hb dX4_readText_48 rfl hl (by decide) rfl (fun ls hl => ?_)
  refine lv_iload_n hx hb dX4_readText_49 rfl (lv_at hl 0 rfl) ?_
  refine lv_sipush (v := 400) hx hb dX4_readText_50 (by decide) ?_
  refine lv_icmp_ge (tgt := 105) hx hb dX4_readText_53 (by decide) (fun c9 => absurd c9 (by decide)) (fun _ => ?_)
  refine lv_aload_n hx hb dX4_readText_56 rfl (lv_at hl 2 rfl) ?_
  refine va_get (D := D) (ci := 3) (v := .int 0) (C := RX4) (T := TX4) (N := 13) hx hb hts in_X4_readText_X4 hown hK hP 2 rfl rfl 11 (by decide) (hts (.fieldLink RX4 43 "PowerRails$Reader" "fault" "I") (by decide +kernel)) (fun _ h9 => h9) rfl dX4_readText_57 ?_
  refine lv_if_ne (tgt := 105) hx hb dX4_readText_60 (by decide) (fun c9 => absurd c9 (by decide)) (fun _ => ?_)
  refine lv_aload_n hx hb dX4_readText_63 rfl (lv_at hl 2 rfl) ?_
  refine va_get (D := D) (ci := 3) (v := .int 0) (C := RX4) (T := TX4) (N := 13) hx hb hts in_X4_readText_X4 hown hK hP 2 rfl rfl 6 (by decide) (hts (.fieldLink RX4 60 "PowerRails$Reader" "kind" "I") (by decide +kernel)) (fun _ h9 => h9) rfl dX4_readText_64 ?_
  refine lv_if_eq (tgt := 105) hx hb dX4_readText_67 (by decide) (fun _ => ?_) (fun c9 => absurd c9 (by decide))
  refine lv_aload_n hx hb dX4_readText_105 rfl (lv_at hl 2 rfl) ?_
  have hPc := hP.sub (ws' := [(rd, .inr (3, [.ref tp, .ref rf, .ref ry, .ref rl, .ref sp, .int 0, .int 0, .int 0, .int 0, .int 0, .int 0, .int 0, .int 0])), (rf, .inl (cI, 8, .inl g_3)), (sp, .inr (2, [.ref sn, .ref st, .int 0, .int 999, .int 0, .int 5]))]) [2, 1, 0] rfl
  have hDc := hD.sub (ws' := [(rd, .inr (3, [.ref tp, .ref rf, .ref ry, .ref rl, .ref sp, .int 0, .int 0, .int 0, .int 0, .int 0, .int 0, .int 0, .int 0])), (rf, .inl (cI, 8, .inl g_3)), (sp, .inr (2, [.ref sn, .ref st, .int 0, .int 999, .int 0, .int 5]))]) [2, 1, 0] (by decide) rfl
  have hFc := va_free (wc := [(rd, .inr (3, [.ref tp, .ref rf, .ref ry, .ref rl, .ref sp, .int 0, .int 0, .int 0, .int 0, .int 0, .int 0, .int 0, .int 0])), (rf, .inl (cI, 8, .inl g_3)), (sp, .inr (2, [.ref sn, .ref st, .int 0, .int 999, .int 0, .int 5]))]) hD hS hA [2, 1, 0] rfl
  refine va_callv (va_runV (As := []) (rest := []) ⟨hx, hb, hml, hown, hts⟩ (c_findNotTold0 l D cI cJ cZ cG cH H.size rd tp rf ry rl sp g_3 sn st hf3_0) (cwV 0 hts gX4_readText_X4_findNotTold rfl rfl rfl (by decide +kernel) ⟨Nat.le_of_ble_eq_true rfl, Nat.le_of_ble_eq_true rfl⟩) ⟨xPc_blind, va_recv hK hPc (ci := 3) (q0 := 0) rfl rfl, xPc_pre hPc hK hDc⟩ rfl rfl hl.1 rfl (lv_room (Nat.le_of_ble_eq_true rfl)) dX4_readText_106 ⟨Nat.le_of_ble_eq_true rfl, Nat.le_of_ble_eq_true rfl⟩) hS (fun q _ h => hFc q h) hFc (fun u t H1 locs ht hvm hw5 hB hz1 hk1 hS => ?_)
  obtain ⟨hP1, hK1, hD1⟩ := hB
  rw [ht] at hP1
  obtain ⟨hP, hD⟩ := va_join (wr := [(tp, .inr (7, [.ref tb, .int 0]))]) (w1 := [(rd, .inr (3, [.ref tp, .ref rf, .ref ry, .ref rl, .ref sp, .int 0, .int 0, .int 0, .int 0, .int 0, .int 0, .int 0, .int 0])), (rf, .inl (cI, 8, .inl g_3)), (sp, .inr (2, [.ref sn, .ref st, .int 0, .int 999, .int 0, .int 5]))]) hP hD [2, 1, 0] [3] rfl rfl (by decide) (by decide) hk1 hFc hP1 hD1
  generalize H1 = H at hP hS ⊢
  have hP : va_P D vwCl [(tp, .inr (7, [.ref tb, .int 0])), (rd, .inr (3, [.ref tp, .ref rf, .ref ry, .ref rl, .ref sp, .int 0, .int 0, .int 0, .int 0, .int 0, .int 0, .int 0, .int 0])), (rf, .inl (cI, 8, .inl g_3)), (sp, .inr (2, [.ref sn, .ref st, .int 0, .int 999, .int 0, .int 5]))] H := hP
  have hD : va_D A [(tp, .inr (7, [.ref tb, .int 0])), (rd, .inr (3, [.ref tp, .ref rf, .ref ry, .ref rl, .ref sp, .int 0, .int 0, .int 0, .int 0, .int 0, .int 0, .int 0, .int 0])), (rf, .inl (cI, 8, .inl g_3)), (sp, .inr (2, [.ref sn, .ref st, .int 0, .int 999, .int 0, .int 5]))] := hD
  refine lv_iload_n hx hb dX4_readText_109 rfl (lv_at hl 1 rfl) ?_
  refine W.widen (k := 0) (n := 0) (by decide) (by decide) ?_
  have hP9 := hP.sub (ws' := [(rd, .inr (3, [.ref tp, .ref rf, .ref ry, .ref rl, .ref sp, .int 0, .int 0, .int 0, .int 0, .int 0, .int 0, .int 0, .int 0])), (sp, .inr (2, [.ref sn, .ref st, .int 0, .int 999, .int 0, .int 5])), (tp, .inr (7, [.ref tb, .int 0]))]) [1, 3, 0] rfl
  have hD9 := hD.sub (ws' := [(rd, .inr (3, [.ref tp, .ref rf, .ref ry, .ref rl, .ref sp, .int 0, .int 0, .int 0, .int 0, .int 0, .int 0, .int 0, .int 0])), (sp, .inr (2, [.ref sn, .ref st, .int 0, .int 999, .int 0, .int 5])), (tp, .inr (7, [.ref tb, .int 0]))]) [1, 3, 0] (by decide) rfl
  exact W.iret (v := 0) hx hb hr (fun t ht hW => ⟨⟨0, (), rfl, rfl, xB_of ht hW hP9 hK hD9⟩, hS.F ht⟩) hS.2.2 dX4_readText_110
