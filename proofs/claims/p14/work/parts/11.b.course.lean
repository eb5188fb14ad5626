def K_cSetWaits_3 (f17 : Nat → Int32) : (Nat → Int32) := (f17)
def K_cSetWaits_5 (rec_2 : (Int32) → (Nat → Int32) → ((Nat → Int32))) (x16 : Int32) (f17 : Nat → Int32) (r20 : Int32) : (Nat → Int32) := (rec_2 (x16 + 1) (upd f17 (x16 : Int32).toNatClampNeg r20))
def K_cSetWaits_4 (rec_2 : (Int32) → (Nat → Int32) → ((Nat → Int32))) (x16 : Int32) (f17 : Nat → Int32) (pn : Nat → Int32) : (Nat → Int32) := ((fun t9 => (K_cSetWaits_5 rec_2 x16 f17 t9)) (M_number pn x16 (5 : Int32)))
def K_cSetWaits_2 (rails : Int32) (x16 : Int32) (f17 : Nat → Int32) (rec_2 : (Int32) → (Nat → Int32) → ((Nat → Int32))) (pn : Nat → Int32) : (Nat → Int32) := (if rails.toInt ≤ x16.toInt then (K_cSetWaits_3 f17) else (K_cSetWaits_4 rec_2 x16 f17 pn))
def K_cSetWaits_L2 (rails : Int32) (pn : Nat → Int32) : Nat → (Int32) → (Nat → Int32) → (Nat → Int32)
  | 0, _, _ => (fun _ => 0)
  | n9 + 1, x16, f17 => (K_cSetWaits_2 rails x16 f17 (K_cSetWaits_L2 rails pn n9) pn)
def K_cSetWaits_1 (rails : Int32) (pn : Nat → Int32) (fw : Nat → Int32) : (Nat → Int32) := (K_cSetWaits_L2 rails pn 100000 (0 : Int32) fw)
def M_cSetWaits (rails : Int32) (pn : Nat → Int32) (fw : Nat → Int32) : (Nat → Int32) := (K_cSetWaits_1 rails pn fw)
abbrev W_cSetWaits (cI cJ cZ cG cH : ClassId) (co : Nat) (pl : Nat) (fwa : Nat) (fta : Nat) (fra : Nat) (fga : Nat) (cxa : Nat) (cup : Int32) (clast : Int32) (cpeak : Int32) (cptick : Int32) (fw : Nat → Int32) (pna : Nat) (pta : Nat) (rails : Int32) (limit : Int32) (retry : Int32) (behind : Int32) (pn : Nat → Int32) : va_W := [oX0 co fwa fta fra fga cxa cup clast cpeak cptick, oAI fwa cI 8 fw, oX3 pl pna pta rails limit retry behind, oAI pna cI 64 pn]
abbrev Q_cSetWaits (D : va_G) (cI cJ cZ cG cH : ClassId) (co : Nat) (pl : Nat) (fwa : Nat) (fta : Nat) (fra : Nat) (fga : Nat) (cxa : Nat) (cup : Int32) (clast : Int32) (cpeak : Int32) (cptick : Int32) (fw : Nat → Int32) (pna : Nat) (pta : Nat) (rails : Int32) (limit : Int32) (retry : Int32) (behind : Int32) (pn : Nat → Int32) (A : Nat → Prop) : Array Value → State → Outcome → State → Prop := va_Qv (fun (_ : Unit) => True) (fun _ t => ∃ (fw9 : Nat → Int32), (∀ j, j < 8 → 0 ≤ (fw9 j).toInt ∧ (fw9 j).toInt ≤ 511) ∧ (M_cSetWaits rails pn fw = (fw9)) ∧ xB D (tyL cI cJ cZ cG cH) [oX0 co fwa fta fra fga cxa cup clast cpeak cptick, oAI fwa cI 8 fw9, oX3 pl pna pta rails limit retry behind, oAI pna cI 64 pn] A t) A
abbrev rm_cSetWaits : Room := { frames := 1, cells := 0, slots := 0, locals := 22 }
set_option maxRecDepth 100000 in
set_option maxHeartbeats 40000000 in
theorem c_cSetWaits (l : Launch) (D : va_G) (cI cJ cZ cG cH : ClassId) (sz : Nat) (co : Nat) (pl : Nat) (fwa : Nat) (fta : Nat) (fra : Nat) (fga : Nat) (cxa : Nat) (cup : Int32) (clast : Int32) (cpeak : Int32) (cptick : Int32) (fw : Nat → Int32) (pna : Nat) (pta : Nat) (rails : Int32) (limit : Int32) (retry : Int32) (behind : Int32) (pn : Nat → Int32) (h_clast : 0 ≤ clast.toInt ∧ clast.toInt ≤ 144) (h_fw : ∀ j, j < 8 → 0 ≤ (fw j).toInt ∧ (fw j).toInt ≤ 511) (h_rails : 0 ≤ rails.toInt ∧ rails.toInt ≤ 8) (h_pn : ∀ j, j < 64 → 0 ≤ (pn j).toInt ∧ (pn j).toInt ≤ 511) : Met l yX0_setWaits (wt yX0_setWaits cX0_setWaits 3 none) rm_cSetWaits (xPc [.ref co, .ref pl] D (tyL cI cJ cZ cG cH) (W_cSetWaits cI cJ cZ cG cH co pl fwa fta fra fga cxa cup clast cpeak cptick fw pna pta rails limit retry behind pn) sz) (Q_cSetWaits D cI cJ cZ cG cH co pl fwa fta fra fga cxa cup clast cpeak cptick fw pna pta rails limit retry behind pn (va_A (W_cSetWaits cI cJ cZ cG cH co pl fwa fta fra fga cxa cup clast cpeak cptick fw pna pta rails limit retry behind pn) sz)) 0 0 (va_A (W_cSetWaits cI cJ cZ cG cH co pl fwa fta fra fga cxa cup clast cpeak cptick fw pna pta rails limit retry behind pn) sz) := by
  refine xMet (cc := cX0_setWaits) (maxL := 3) (ret := none) (Qf := Q_cSetWaits D cI cJ cZ cG cH co pl fwa fta fra fga cxa cup clast cpeak cptick fw pna pta rails limit retry behind pn) (by decide) rfl (Nat.le_of_ble_eq_true rfl) ?_
  intro p e s m below meth c ls A hx hb hr hml hts hown hlocks hnm hsz hP hK hD hA hS hl
  have hown : s.vm.findClass RX0 = some m.cls := hown
  have hP : va_P D vwCl [oX0 co fwa fta fra fga cxa cup clast cpeak cptick, oAI fwa cI 8 fw, oX3 pl pna pta rails limit retry behind, oAI pna cI 64 pn] s.heap := hP
  have hD : va_D A [oX0 co fwa fta fra fga cxa cup clast cpeak cptick, oAI fwa cI 8 fw, oX3 pl pna pta rails limit retry behind, oAI pna cI 64 pn] := hD
  have hl : lv_has ls 3 [(0, .ref co), (1, .ref pl)] := hl
  have hM : M_cSetWaits rails pn fw = (K_cSetWaits_1 rails pn fw) := rfl
  refine lv_iconst (v := 0) hx hb dX0_setWaits_0 (by decide) ?_
  refine lv_istore_n (lv' := [(2, .int 0), (0, .ref co), (1, .ref pl)]) hx hb dX0_setWaits_1 rfl hl (by decide) rfl (fun ls hl => ?_)
  have hl18 : ∀ (nhl18 : Nat) (x16 : Int32) (f17 : Nat → Int32), ((8 - x16.toInt).toNat < nhl18) → (hx16 : 0 ≤ x16.toInt ∧ x16.toInt ≤ 8) → (hf17 : ∀ j, j < 8 → 0 ≤ (f17 j).toInt ∧ (f17 j).toInt ≤ 511) → (hM : M_cSetWaits rails pn fw = (K_cSetWaits_L2 rails pn nhl18 x16 f17)) → ∀ (H : Heap) (locs : List Loc), va_P D vwCl [oX0 co fwa fta fra fga cxa cup clast cpeak cptick, oAI fwa cI 8 f17, oX3 pl pna pta rails limit retry behind, oAI pna cI 64 pn] H → va_D A [oX0 co fwa fta fra fga cxa cup clast cpeak cptick, oAI fwa cI 8 f17, oX3 pl pna pta rails limit retry behind, oAI pna cI 64 pn] → va_S A s.heap H locs → ∀ (ls : Array Slot), lv_has ls 3 [(2, .int x16), (0, .ref co), (1, .ref pl)] → W p l e rm_cSetWaits s m [Value.ref co, Value.ref pl].toArray below meth c H locs 0 0 (MQ below ((Q_cSetWaits D cI cJ cZ cG cH co pl fwa fta fra fga cxa cup clast cpeak cptick fw pna pta rails limit retry behind pn) A) [Value.ref co, Value.ref pl].toArray s 0 0 A) (F0 m 2 ls []) := by
    intro nhl18
    induction nhl18 with
    | zero =>
      intro x16 f17 hmhl18
      exact absurd hmhl18 (Nat.not_lt_zero _)
    | succ nhl18 ihhl18 =>
      intro x16 f17 hmhl18 hx16 hf17 hM H locs hP hD hS ls hl
      have hM : M_cSetWaits rails pn fw = (K_cSetWaits_2 rails x16 f17 (K_cSetWaits_L2 rails pn nhl18) pn) := hM
      refine lv_iload_n hx hb dX0_setWaits_2 rfl (lv_at hl 0 rfl) ?_
      refine lv_aload_n hx hb dX0_setWaits_3 rfl (lv_at hl 2 rfl) ?_
      refine va_get (D := D) (ci := 2) (v := .int rails) (C := RX3) (T := TX3) (N := 6) hx hb hts (fun w h => tbC w (tbfX3 w h)) hown hK hP 2 rfl rfl 2 (by decide) (hts (.fieldLink RX0 27 "PowerRails$Plan" "rails" "I") (tbC _ wd206)) (fun _ h9 => h9) rfl dX0_setWaits_4 ?_
      refine lv_icmp_ge (tgt := 28) hx hb dX0_setWaits_7 (by decide) (fun c_19 => ?_) (fun c_19 => ?_)
      · skip
        have i_19 : rails.toInt ≤ x16.toInt := (ile rfl rfl).mp c_19
        have hM : M_cSetWaits rails pn fw = (K_cSetWaits_3 f17) := (show M_cSetWaits rails pn fw = (if rails.toInt ≤ x16.toInt then (K_cSetWaits_3 f17) else (K_cSetWaits_4 (K_cSetWaits_L2 rails pn nhl18) x16 f17 pn)) from hM).trans (if_pos i_19)
        refine W.widen (k := 0) (n := 0) (by decide) (by decide) ?_
        exact W.vret hx hb hr (fun t ht hW => ⟨⟨(), rfl, trivial, ⟨f17, (xwk_rng hf17 (by decide) (by decide)), hM, xB_of9 ht hW hP hK hD [0, 1, 2, 3] (by decide +kernel) rfl⟩⟩, hS.F ht⟩) hS.2.2 dX0_setWaits_28
      · skip
        have i_19 : ¬ (rails.toInt ≤ x16.toInt) := fun h9 => c_19 ((ile rfl rfl).mpr h9)
        have hM : M_cSetWaits rails pn fw = (K_cSetWaits_4 (K_cSetWaits_L2 rails pn nhl18) x16 f17 pn) := (show M_cSetWaits rails pn fw = (if rails.toInt ≤ x16.toInt then (K_cSetWaits_3 f17) else (K_cSetWaits_4 (K_cSetWaits_L2 rails pn nhl18) x16 f17 pn)) from hM).trans (if_neg i_19)
        refine lv_aload_n hx hb dX0_setWaits_10 rfl (lv_at hl 1 rfl) ?_
        refine va_get (D := D) (ci := 0) (v := .ref fwa) (C := RX0) (T := TX0) (N := 9) hx hb hts (fun w h => tbC w (tbfX0 w h)) hown hK hP 0 rfl rfl 0 (by decide) (hts (.fieldLink RX0 9 "PowerRails$Course" "waits" "[I") (tbC _ wd138)) (fun _ h9 => h9) rfl dX0_setWaits_11 ?_
        refine lv_iload_n hx hb dX0_setWaits_14 rfl (lv_at hl 0 rfl) ?_
        refine lv_aload_n hx hb dX0_setWaits_15 rfl (lv_at hl 2 rfl) ?_
        refine lv_iload_n hx hb dX0_setWaits_16 rfl (lv_at hl 0 rfl) ?_
        refine lv_iconst (v := 5) hx hb dX0_setWaits_17 (by decide) ?_
        obtain ⟨hPc, hDc, hFc, hC9⟩ := xpk (wc := W_number cI cJ cZ cG cH pl x16 (5 : Int32) pna pta rails limit retry behind pn) hP hD hS hA [2, 3] (by decide +kernel) rfl
        refine va_calli (va_runV (As := [.int x16, .int 5]) (rest := [.int x16, .ref fwa]) ⟨hx, hb, hml, hown, hts⟩ (c_number l D cI cJ cZ cG cH H.size pl x16 (5 : Int32) pna pta rails limit retry behind pn (xrng rfl (by omega) (by omega)) ⟨by decide, by decide⟩ (xrng rfl (by omega) (by omega)) (xwk_rng h_pn (by decide) (by decide))) (cwV 2 hts (xGV tbC wd518 wd368 wd369 wd59 wd996) rfl rfl rfl (by decide +kernel) ⟨Nat.le_of_ble_eq_true rfl, Nat.le_of_ble_eq_true rfl⟩) ⟨xPc_blind, va_recv hK hPc (ci := 2) (q0 := 0) rfl rfl, xPc_pre hPc hK hDc⟩ rfl rfl hl.1 rfl (lv_room (Nat.le_of_ble_eq_true rfl)) dX0_setWaits_18 ⟨Nat.le_of_ble_eq_true rfl, Nat.le_of_ble_eq_true rfl⟩) hS (fun q _ h => hFc q h) hFc (fun r20 u t H1 locs ht hvm hw20 hB hz1 hk1 hS => ?_)
        obtain ⟨hru9, hw20⟩ := hw20
        subst hru9
        obtain ⟨hf20_0, hP1, hK1, hD1⟩ := hB
        rw [ht] at hP1
        obtain ⟨hP, hD⟩ : xPD D A [oX0 co fwa fta fra fga cxa cup clast cpeak cptick, oAI fwa cI 8 f17, oX3 pl pna pta rails limit retry behind, oAI pna cI 64 pn] H1 := xjn 2 hP hD [2, 3] [0, 1] hC9 rfl (by decide +kernel) (by decide +kernel) hk1 hFc hP1 hD1
        generalize H1 = H at hP hS ⊢
        have hf20_0 : M_number pn x16 (5 : Int32) = (r20) := hf20_0
        have hw20 : 0 ≤ r20.toInt ∧ r20.toInt ≤ 511 := hw20
        have h9M := congrArg (fun t9 => (K_cSetWaits_5 (K_cSetWaits_L2 rails pn nhl18) x16 f17 t9)) hf20_0
        have hM : M_cSetWaits rails pn fw = (K_cSetWaits_5 (K_cSetWaits_L2 rails pn nhl18) x16 f17 r20) := (show M_cSetWaits rails pn fw = ((fun t9 => (K_cSetWaits_5 (K_cSetWaits_L2 rails pn nhl18) x16 f17 t9)) (M_number pn x16 (5 : Int32))) from hM).trans h9M
        refine va_iast hx hb hK hP hD hS 1 0 rfl rfl (vp_in_iff.mpr ⟨by omega, by omega⟩) dX0_setWaits_21 (fun H locs hP hD hS => ?_)
        obtain ⟨f21, ef21⟩ : ∃ fz9 : Nat → Int32, fz9 = upd f17 (x16 : Int32).toNatClampNeg r20 := ⟨_, rfl⟩
        have hP : va_P D vwCl [oX0 co fwa fta fra fga cxa cup clast cpeak cptick, oAI fwa cI 8 f21, oX3 pl pna pta rails limit retry behind, oAI pna cI 64 pn] H := by rw [ef21]; exact hP
        have hD : va_D A [oX0 co fwa fta fra fga cxa cup clast cpeak cptick, oAI fwa cI 8 f21, oX3 pl pna pta rails limit retry behind, oAI pna cI 64 pn] := by rw [ef21]; exact hD
        have rf21 : ∀ j, j < 8 → 0 ≤ (f21 j).toInt ∧ (f21 j).toInt ≤ 511 := by rw [ef21]; exact xup_rng (xwk_rng hf17 (by decide) (by decide)) (xrng rfl (by omega) (by omega))
        obtain ⟨x22, ex22⟩ : ∃ y : Int32, y = x16 + 1 := ⟨_, rfl⟩
        have tx22 : x22.toInt = (x16.toInt + 1) := (congrArg Int32.toInt ex22).trans (xadd rfl (by decide) (by omega) (by omega))
        refine lv_iinc (v := x22) (lv' := [(2, .int x22), (0, .ref co), (1, .ref pl)]) hx hb dX0_setWaits_22 hl (k := 0) rfl (by rw [ex22]; rfl) (by decide) rfl (fun ls hl => ?_)
        refine lv_goto (tgt := 2) hx hb dX0_setWaits_25 (by decide) ?_
        exact ihhl18 x22 f21 (by omega) (xrng tx22 (by omega) (by omega)) (xwk_rng rf21 (by decide) (by decide)) (by rw [ex22, ef21]; exact hM) _ _ hP hD hS ls (lv_sub hl [0, 1, 2] rfl)
  exact hl18 100000 0 fw (by have z9_0 : (0 : Int32).toInt = 0 := (by decide); omega) ⟨by decide, by decide⟩ (xwk_rng h_fw (by decide) (by decide)) hM _ _ hP hD hS ls (lv_sub hl [0, 1, 2] rfl)
def K_cSetTakes_3 (f17 : Nat → Int32) : (Nat → Int32) := (f17)
def K_cSetTakes_5 (rec_2 : (Int32) → (Nat → Int32) → ((Nat → Int32))) (x16 : Int32) (f17 : Nat → Int32) (r20 : Int32) : (Nat → Int32) := (rec_2 (x16 + 1) (upd f17 (x16 : Int32).toNatClampNeg r20))
def K_cSetTakes_4 (rec_2 : (Int32) → (Nat → Int32) → ((Nat → Int32))) (x16 : Int32) (f17 : Nat → Int32) (pn : Nat → Int32) (w0 : Int32) : (Nat → Int32) := ((fun t9 => (K_cSetTakes_5 rec_2 x16 f17 t9)) (M_number pn x16 w0))
def K_cSetTakes_2 (rails : Int32) (x16 : Int32) (f17 : Nat → Int32) (rec_2 : (Int32) → (Nat → Int32) → ((Nat → Int32))) (pn : Nat → Int32) (w0 : Int32) : (Nat → Int32) := (if rails.toInt ≤ x16.toInt then (K_cSetTakes_3 f17) else (K_cSetTakes_4 rec_2 x16 f17 pn w0))
def K_cSetTakes_L2 (rails : Int32) (pn : Nat → Int32) (w0 : Int32) : Nat → (Int32) → (Nat → Int32) → (Nat → Int32)
  | 0, _, _ => (fun _ => 0)
  | n9 + 1, x16, f17 => (K_cSetTakes_2 rails x16 f17 (K_cSetTakes_L2 rails pn w0 n9) pn w0)
def K_cSetTakes_1 (rails : Int32) (pn : Nat → Int32) (w0 : Int32) (ft : Nat → Int32) : (Nat → Int32) := (K_cSetTakes_L2 rails pn w0 100000 (0 : Int32) ft)
def M_cSetTakes (rails : Int32) (pn : Nat → Int32) (w0 : Int32) (ft : Nat → Int32) : (Nat → Int32) := (K_cSetTakes_1 rails pn w0 ft)
abbrev W_cSetTakes (cI cJ cZ cG cH : ClassId) (co : Nat) (pl : Nat) (w0 : Int32) (fwa : Nat) (fta : Nat) (fra : Nat) (fga : Nat) (cxa : Nat) (cup : Int32) (clast : Int32) (cpeak : Int32) (cptick : Int32) (ft : Nat → Int32) (pna : Nat) (pta : Nat) (rails : Int32) (limit : Int32) (retry : Int32) (behind : Int32) (pn : Nat → Int32) : va_W := [oX0 co fwa fta fra fga cxa cup clast cpeak cptick, oAI fta cI 8 ft, oX3 pl pna pta rails limit retry behind, oAI pna cI 64 pn]
abbrev Q_cSetTakes (D : va_G) (cI cJ cZ cG cH : ClassId) (co : Nat) (pl : Nat) (w0 : Int32) (fwa : Nat) (fta : Nat) (fra : Nat) (fga : Nat) (cxa : Nat) (cup : Int32) (clast : Int32) (cpeak : Int32) (cptick : Int32) (ft : Nat → Int32) (pna : Nat) (pta : Nat) (rails : Int32) (limit : Int32) (retry : Int32) (behind : Int32) (pn : Nat → Int32) (A : Nat → Prop) : Array Value → State → Outcome → State → Prop := va_Qv (fun (_ : Unit) => True) (fun _ t => ∃ (ft9 : Nat → Int32), (∀ j, j < 8 → 0 ≤ (ft9 j).toInt ∧ (ft9 j).toInt ≤ 511) ∧ (M_cSetTakes rails pn w0 ft = (ft9)) ∧ xB D (tyL cI cJ cZ cG cH) [oX0 co fwa fta fra fga cxa cup clast cpeak cptick, oAI fta cI 8 ft9, oX3 pl pna pta rails limit retry behind, oAI pna cI 64 pn] A t) A
abbrev rm_cSetTakes : Room := { frames := 1, cells := 0, slots := 0, locals := 22 }
set_option maxRecDepth 100000 in
set_option maxHeartbeats 40000000 in
theorem c_cSetTakes (l : Launch) (D : va_G) (cI cJ cZ cG cH : ClassId) (sz : Nat) (co : Nat) (pl : Nat) (w0 : Int32) (fwa : Nat) (fta : Nat) (fra : Nat) (fga : Nat) (cxa : Nat) (cup : Int32) (clast : Int32) (cpeak : Int32) (cptick : Int32) (ft : Nat → Int32) (pna : Nat) (pta : Nat) (rails : Int32) (limit : Int32) (retry : Int32) (behind : Int32) (pn : Nat → Int32) (h_w0 : 0 ≤ w0.toInt ∧ w0.toInt ≤ 7) (h_clast : 0 ≤ clast.toInt ∧ clast.toInt ≤ 144) (h_ft : ∀ j, j < 8 → 0 ≤ (ft j).toInt ∧ (ft j).toInt ≤ 511) (h_rails : 0 ≤ rails.toInt ∧ rails.toInt ≤ 8) (h_pn : ∀ j, j < 64 → 0 ≤ (pn j).toInt ∧ (pn j).toInt ≤ 511) : Met l yX0_setTakes (wt yX0_setTakes cX0_setTakes 4 none) rm_cSetTakes (xPc [.ref co, .ref pl, .int w0] D (tyL cI cJ cZ cG cH) (W_cSetTakes cI cJ cZ cG cH co pl w0 fwa fta fra fga cxa cup clast cpeak cptick ft pna pta rails limit retry behind pn) sz) (Q_cSetTakes D cI cJ cZ cG cH co pl w0 fwa fta fra fga cxa cup clast cpeak cptick ft pna pta rails limit retry behind pn (va_A (W_cSetTakes cI cJ cZ cG cH co pl w0 fwa fta fra fga cxa cup clast cpeak cptick ft pna pta rails limit retry behind pn) sz)) 0 0 (va_A (W_cSetTakes cI cJ cZ cG cH co pl w0 fwa fta fra fga cxa cup clast cpeak cptick ft pna pta rails limit retry behind pn) sz) := by
  refine xMet (cc := cX0_setTakes) (maxL := 4) (ret := none) (Qf := Q_cSetTakes D cI cJ cZ cG cH co pl w0 fwa fta fra fga cxa cup clast cpeak cptick ft pna pta rails limit retry behind pn) (by decide) rfl (Nat.le_of_ble_eq_true rfl) ?_
  intro p e s m below meth c ls A hx hb hr hml hts hown hlocks hnm hsz hP hK hD hA hS hl
  have hown : s.vm.findClass RX0 = some m.cls := hown
  have hP : va_P D vwCl [oX0 co fwa fta fra fga cxa cup clast cpeak cptick, oAI fta cI 8 ft, oX3 pl pna pta rails limit retry behind, oAI pna cI 64 pn] s.heap := hP
  have hD : va_D A [oX0 co fwa fta fra fga cxa cup clast cpeak cptick, oAI fta cI 8 ft, oX3 pl pna pta rails limit retry behind, oAI pna cI 64 pn] := hD
  have hl : lv_has ls 4 [(0, .ref co), (1, .ref pl), (2, .int w0)] := hl
  have hM : M_cSetTakes rails pn w0 ft = (K_cSetTakes_1 rails pn w0 ft) := rfl
  refine lv_iconst (v := 0) hx hb dX0_setTakes_0 (by decide) ?_
  refine lv_istore_n (lv' := [(3, .int 0), (0, .ref co), (1, .ref pl), (2, .int w0)]) hx hb dX0_setTakes_1 rfl hl (by decide) rfl (fun ls hl => ?_)
  have hl18 : ∀ (nhl18 : Nat) (x16 : Int32) (f17 : Nat → Int32), ((8 - x16.toInt).toNat < nhl18) → (hx16 : 0 ≤ x16.toInt ∧ x16.toInt ≤ 8) → (hf17 : ∀ j, j < 8 → 0 ≤ (f17 j).toInt ∧ (f17 j).toInt ≤ 511) → (hM : M_cSetTakes rails pn w0 ft = (K_cSetTakes_L2 rails pn w0 nhl18 x16 f17)) → ∀ (H : Heap) (locs : List Loc), va_P D vwCl [oX0 co fwa fta fra fga cxa cup clast cpeak cptick, oAI fta cI 8 f17, oX3 pl pna pta rails limit retry behind, oAI pna cI 64 pn] H → va_D A [oX0 co fwa fta fra fga cxa cup clast cpeak cptick, oAI fta cI 8 f17, oX3 pl pna pta rails limit retry behind, oAI pna cI 64 pn] → va_S A s.heap H locs → ∀ (ls : Array Slot), lv_has ls 4 [(3, .int x16), (0, .ref co), (1, .ref pl), (2, .int w0)] → W p l e rm_cSetTakes s m [Value.ref co, Value.ref pl, Value.int w0].toArray below meth c H locs 0 0 (MQ below ((Q_cSetTakes D cI cJ cZ cG cH co pl w0 fwa fta fra fga cxa cup clast cpeak cptick ft pna pta rails limit retry behind pn) A) [Value.ref co, Value.ref pl, Value.int w0].toArray s 0 0 A) (F0 m 2 ls []) := by
    intro nhl18
    induction nhl18 with
    | zero =>
      intro x16 f17 hmhl18
      exact absurd hmhl18 (Nat.not_lt_zero _)
    | succ nhl18 ihhl18 =>
      intro x16 f17 hmhl18 hx16 hf17 hM H locs hP hD hS ls hl
      have hM : M_cSetTakes rails pn w0 ft = (K_cSetTakes_2 rails x16 f17 (K_cSetTakes_L2 rails pn w0 nhl18) pn w0) := hM
      refine lv_iload_n hx hb dX0_setTakes_2 rfl (lv_at hl 0 rfl) ?_
      refine lv_aload_n hx hb dX0_setTakes_3 rfl (lv_at hl 2 rfl) ?_
      refine va_get (D := D) (ci := 2) (v := .int rails) (C := RX3) (T := TX3) (N := 6) hx hb hts (fun w h => tbC w (tbfX3 w h)) hown hK hP 2 rfl rfl 2 (by decide) (hts (.fieldLink RX0 27 "PowerRails$Plan" "rails" "I") (tbC _ wd206)) (fun _ h9 => h9) rfl dX0_setTakes_4 ?_
      refine lv_icmp_ge (tgt := 28) hx hb dX0_setTakes_7 (by decide) (fun c_19 => ?_) (fun c_19 => ?_)
      · skip
        have i_19 : rails.toInt ≤ x16.toInt := (ile rfl rfl).mp c_19
        have hM : M_cSetTakes rails pn w0 ft = (K_cSetTakes_3 f17) := (show M_cSetTakes rails pn w0 ft = (if rails.toInt ≤ x16.toInt then (K_cSetTakes_3 f17) else (K_cSetTakes_4 (K_cSetTakes_L2 rails pn w0 nhl18) x16 f17 pn w0)) from hM).trans (if_pos i_19)
        refine W.widen (k := 0) (n := 0) (by decide) (by decide) ?_
        exact W.vret hx hb hr (fun t ht hW => ⟨⟨(), rfl, trivial, ⟨f17, (xwk_rng hf17 (by decide) (by decide)), hM, xB_of9 ht hW hP hK hD [0, 1, 2, 3] (by decide +kernel) rfl⟩⟩, hS.F ht⟩) hS.2.2 dX0_setTakes_28
      · skip
        have i_19 : ¬ (rails.toInt ≤ x16.toInt) := fun h9 => c_19 ((ile rfl rfl).mpr h9)
        have hM : M_cSetTakes rails pn w0 ft = (K_cSetTakes_4 (K_cSetTakes_L2 rails pn w0 nhl18) x16 f17 pn w0) := (show M_cSetTakes rails pn w0 ft = (if rails.toInt ≤ x16.toInt then (K_cSetTakes_3 f17) else (K_cSetTakes_4 (K_cSetTakes_L2 rails pn w0 nhl18) x16 f17 pn w0)) from hM).trans (if_neg i_19)
        refine lv_aload_n hx hb dX0_setTakes_10 rfl (lv_at hl 1 rfl) ?_
        refine va_get (D := D) (ci := 0) (v := .ref fta) (C := RX0) (T := TX0) (N := 9) hx hb hts (fun w h => tbC w (tbfX0 w h)) hown hK hP 0 rfl rfl 1 (by decide) (hts (.fieldLink RX0 15 "PowerRails$Course" "takes" "[I") (tbC _ wd140)) (fun _ h9 => h9) rfl dX0_setTakes_11 ?_
        refine lv_iload_n hx hb dX0_setTakes_14 rfl (lv_at hl 0 rfl) ?_
        refine lv_aload_n hx hb dX0_setTakes_15 rfl (lv_at hl 2 rfl) ?_
        refine lv_iload_n hx hb dX0_setTakes_16 rfl (lv_at hl 0 rfl) ?_
        refine lv_iload_n hx hb dX0_setTakes_17 rfl (lv_at hl 3 rfl) ?_
        obtain ⟨hPc, hDc, hFc, hC9⟩ := xpk (wc := W_number cI cJ cZ cG cH pl x16 w0 pna pta rails limit retry behind pn) hP hD hS hA [2, 3] (by decide +kernel) rfl
        refine va_calli (va_runV (As := [.int x16, .int w0]) (rest := [.int x16, .ref fta]) ⟨hx, hb, hml, hown, hts⟩ (c_number l D cI cJ cZ cG cH H.size pl x16 w0 pna pta rails limit retry behind pn (xrng rfl (by omega) (by omega)) (xrng rfl (by omega) (by omega)) (xrng rfl (by omega) (by omega)) (xwk_rng h_pn (by decide) (by decide))) (cwV 2 hts (xGV tbC wd518 wd368 wd369 wd59 wd996) rfl rfl rfl (by decide +kernel) ⟨Nat.le_of_ble_eq_true rfl, Nat.le_of_ble_eq_true rfl⟩) ⟨xPc_blind, va_recv hK hPc (ci := 2) (q0 := 0) rfl rfl, xPc_pre hPc hK hDc⟩ rfl rfl hl.1 rfl (lv_room (Nat.le_of_ble_eq_true rfl)) dX0_setTakes_18 ⟨Nat.le_of_ble_eq_true rfl, Nat.le_of_ble_eq_true rfl⟩) hS (fun q _ h => hFc q h) hFc (fun r20 u t H1 locs ht hvm hw20 hB hz1 hk1 hS => ?_)
        obtain ⟨hru9, hw20⟩ := hw20
        subst hru9
        obtain ⟨hf20_0, hP1, hK1, hD1⟩ := hB
        rw [ht] at hP1
        obtain ⟨hP, hD⟩ : xPD D A [oX0 co fwa fta fra fga cxa cup clast cpeak cptick, oAI fta cI 8 f17, oX3 pl pna pta rails limit retry behind, oAI pna cI 64 pn] H1 := xjn 2 hP hD [2, 3] [0, 1] hC9 rfl (by decide +kernel) (by decide +kernel) hk1 hFc hP1 hD1
        generalize H1 = H at hP hS ⊢
        have hf20_0 : M_number pn x16 w0 = (r20) := hf20_0
        have hw20 : 0 ≤ r20.toInt ∧ r20.toInt ≤ 511 := hw20
        have h9M := congrArg (fun t9 => (K_cSetTakes_5 (K_cSetTakes_L2 rails pn w0 nhl18) x16 f17 t9)) hf20_0
        have hM : M_cSetTakes rails pn w0 ft = (K_cSetTakes_5 (K_cSetTakes_L2 rails pn w0 nhl18) x16 f17 r20) := (show M_cSetTakes rails pn w0 ft = ((fun t9 => (K_cSetTakes_5 (K_cSetTakes_L2 rails pn w0 nhl18) x16 f17 t9)) (M_number pn x16 w0)) from hM).trans h9M
        refine va_iast hx hb hK hP hD hS 1 0 rfl rfl (vp_in_iff.mpr ⟨by omega, by omega⟩) dX0_setTakes_21 (fun H locs hP hD hS => ?_)
        obtain ⟨f21, ef21⟩ : ∃ fz9 : Nat → Int32, fz9 = upd f17 (x16 : Int32).toNatClampNeg r20 := ⟨_, rfl⟩
        have hP : va_P D vwCl [oX0 co fwa fta fra fga cxa cup clast cpeak cptick, oAI fta cI 8 f21, oX3 pl pna pta rails limit retry behind, oAI pna cI 64 pn] H := by rw [ef21]; exact hP
        have hD : va_D A [oX0 co fwa fta fra fga cxa cup clast cpeak cptick, oAI fta cI 8 f21, oX3 pl pna pta rails limit retry behind, oAI pna cI 64 pn] := by rw [ef21]; exact hD
        have rf21 : ∀ j, j < 8 → 0 ≤ (f21 j).toInt ∧ (f21 j).toInt ≤ 511 := by rw [ef21]; exact xup_rng (xwk_rng hf17 (by decide) (by decide)) (xrng rfl (by omega) (by omega))
        obtain ⟨x22, ex22⟩ : ∃ y : Int32, y = x16 + 1 := ⟨_, rfl⟩
        have tx22 : x22.toInt = (x16.toInt + 1) := (congrArg Int32.toInt ex22).trans (xadd rfl (by decide) (by omega) (by omega))
        refine lv_iinc (v := x22) (lv' := [(3, .int x22), (0, .ref co), (1, .ref pl), (2, .int w0)]) hx hb dX0_setTakes_22 hl (k := 0) rfl (by rw [ex22]; rfl) (by decide) rfl (fun ls hl => ?_)
        refine lv_goto (tgt := 2) hx hb dX0_setTakes_25 (by decide) ?_
        exact ihhl18 x22 f21 (by omega) (xrng tx22 (by omega) (by omega)) (xwk_rng rf21 (by decide) (by decide)) (by rw [ex22, ef21]; exact hM) _ _ hP hD hS ls (lv_sub hl [0, 1, 2, 3] rfl)
  exact hl18 100000 0 ft (by have z9_0 : (0 : Int32).toInt = 0 := (by decide); omega) ⟨by decide, by decide⟩ (xwk_rng h_ft (by decide) (by decide)) hM _ _ hP hD hS ls (lv_sub hl [0, 1, 2, 3] rfl)
def K_copyTakes_1 (rt : Nat → Int32) (ft : Nat → Int32) : (Nat → Int32) := ((va_cpy rt ft (0 : Int32).toNatClampNeg (0 : Int32).toNatClampNeg (8 : Int32).toNatClampNeg))
def M_copyTakes (rt : Nat → Int32) (ft : Nat → Int32) : (Nat → Int32) := (K_copyTakes_1 rt ft)
abbrev W_copyTakes (cI cJ cZ cG cH : ClassId) (co : Nat) (rta : Nat) (fwa : Nat) (fta : Nat) (fra : Nat) (fga : Nat) (cxa : Nat) (cup : Int32) (clast : Int32) (cpeak : Int32) (cptick : Int32) (ft : Nat → Int32) (rt : Nat → Int32) : va_W := [oX0 co fwa fta fra fga cxa cup clast cpeak cptick, oAI fta cI 8 ft, oAI rta cI 8 rt]
abbrev Q_copyTakes (D : va_G) (cI cJ cZ cG cH : ClassId) (co : Nat) (rta : Nat) (fwa : Nat) (fta : Nat) (fra : Nat) (fga : Nat) (cxa : Nat) (cup : Int32) (clast : Int32) (cpeak : Int32) (cptick : Int32) (ft : Nat → Int32) (rt : Nat → Int32) (A : Nat → Prop) : Array Value → State → Outcome → State → Prop := va_Qv (fun (_ : Unit) => True) (fun _ t => ∃ (ft9 : Nat → Int32), (∀ j, j < 8 → 0 ≤ (ft9 j).toInt ∧ (ft9 j).toInt ≤ 511) ∧ (M_copyTakes rt ft = (ft9)) ∧ xB D (tyL cI cJ cZ cG cH) [oX0 co fwa fta fra fga cxa cup clast cpeak cptick, oAI fta cI 8 ft9, oAI rta cI 8 rt] A t) A
abbrev rm_copyTakes : Room := { frames := 1, cells := 0, slots := 0, locals := 40 }
set_option maxRecDepth 100000 in
set_option maxHeartbeats 40000000 in
theorem c_copyTakes (l : Launch) (D : va_G) (cI cJ cZ cG cH : ClassId) (sz : Nat) (co : Nat) (rta : Nat) (fwa : Nat) (fta : Nat) (fra : Nat) (fga : Nat) (cxa : Nat) (cup : Int32) (clast : Int32) (cpeak : Int32) (cptick : Int32) (ft : Nat → Int32) (rt : Nat → Int32) (h_clast : 0 ≤ clast.toInt ∧ clast.toInt ≤ 144) (h_ft : ∀ j, j < 8 → 0 ≤ (ft j).toInt ∧ (ft j).toInt ≤ 511) (h_rt : ∀ j, j < 8 → 0 ≤ (rt j).toInt ∧ (rt j).toInt ≤ 511) : Met l yX0_copyTakes (wt yX0_copyTakes cX0_copyTakes 2 none) rm_copyTakes (xPc [.ref co, .ref rta] D (tyL cI cJ cZ cG cH) (W_copyTakes cI cJ cZ cG cH co rta fwa fta fra fga cxa cup clast cpeak cptick ft rt) sz) (Q_copyTakes D cI cJ cZ cG cH co rta fwa fta fra fga cxa cup clast cpeak cptick ft rt (va_A (W_copyTakes cI cJ cZ cG cH co rta fwa fta fra fga cxa cup clast cpeak cptick ft rt) sz)) 0 0 (va_A (W_copyTakes cI cJ cZ cG cH co rta fwa fta fra fga cxa cup clast cpeak cptick ft rt) sz) := by
  refine xMet (cc := cX0_copyTakes) (maxL := 2) (ret := none) (Qf := Q_copyTakes D cI cJ cZ cG cH co rta fwa fta fra fga cxa cup clast cpeak cptick ft rt) (by decide) rfl (Nat.le_of_ble_eq_true rfl) ?_
  intro p e s m below meth c ls A hx hb hr hml hts hown hlocks hnm hsz hP hK hD hA hS hl
  have hown : s.vm.findClass RX0 = some m.cls := hown
  have hP : va_P D vwCl [oX0 co fwa fta fra fga cxa cup clast cpeak cptick, oAI fta cI 8 ft, oAI rta cI 8 rt] s.heap := hP
  have hD : va_D A [oX0 co fwa fta fra fga cxa cup clast cpeak cptick, oAI fta cI 8 ft, oAI rta cI 8 rt] := hD
  have hl : lv_has ls 2 [(0, .ref co), (1, .ref rta)] := hl
  have hM : M_copyTakes rt ft = (K_copyTakes_1 rt ft) := rfl
  refine lv_aload_n hx hb dX0_copyTakes_0 rfl (lv_at hl 1 rfl) ?_
  refine lv_iconst (v := 0) hx hb dX0_copyTakes_1 (by decide) ?_
  refine lv_aload_n hx hb dX0_copyTakes_2 rfl (lv_at hl 0 rfl) ?_
  refine va_get (D := D) (ci := 0) (v := .ref fta) (C := RX0) (T := TX0) (N := 9) hx hb hts (fun w h => tbC w (tbfX0 w h)) hown hK hP 0 rfl rfl 1 (by decide) (hts (.fieldLink RX0 15 "PowerRails$Course" "takes" "[I") (tbC _ wd140)) (fun _ h9 => h9) rfl dX0_copyTakes_3 ?_
  refine lv_iconst (v := 0) hx hb dX0_copyTakes_6 (by decide) ?_
  refine lv_bipush (v := 8) hx hb dX0_copyTakes_7 (by decide) ?_
  refine va_copyi hx hb (hml.trans hl.1.symm) hown (hts (.methodLink RX0 37 arraycopyName) (tbC _ wd522)) (hts (.native arraycopyName) (tbC _ wd382)) (hts (.static arraycopyName) (tbC _ wd381)) (hts (.initialized "java/lang/System") (tbC _ wd66)) hK hP hD hS 2 1 0 0 rfl rfl rfl rfl rfl (by decide) (by decide) (by decide) (by decide) (by decide) (fun _ _ => rfl) (Nat.le_of_ble_eq_true rfl) (Nat.le_of_ble_eq_true rfl) dX0_copyTakes_9 (fun H locs hP hD hS => ?_)
  obtain ⟨f1, ef1⟩ : ∃ fz9 : Nat → Int32, fz9 = va_cpy rt ft (0 : Int32).toNatClampNeg (0 : Int32).toNatClampNeg (8 : Int32).toNatClampNeg := ⟨_, rfl⟩
  have hP : va_P D vwCl [oX0 co fwa fta fra fga cxa cup clast cpeak cptick, oAI fta cI 8 f1, oAI rta cI 8 rt] H := by rw [ef1]; exact hP
  have hD : va_D A [oX0 co fwa fta fra fga cxa cup clast cpeak cptick, oAI fta cI 8 f1, oAI rta cI 8 rt] := by rw [ef1]; exact hD
  have rf1 : ∀ j, j < 8 → 0 ≤ (f1 j).toInt ∧ (f1 j).toInt ≤ 511 := by rw [ef1]; exact xcp_rng (xwk_rng h_rt (by decide) (by decide)) (xwk_rng h_ft (by decide) (by decide)) (by decide)
  refine W.widen (k := 0) (n := 0) (by decide) (by decide) ?_
  exact W.vret hx hb hr (fun t ht hW => ⟨⟨(), rfl, trivial, ⟨f1, (xwk_rng rf1 (by decide) (by decide)), (by rw [ef1]; exact hM), xB_of9 ht hW hP hK hD [0, 1, 2] (by decide +kernel) rfl⟩⟩, hS.F ht⟩) hS.2.2 dX0_copyTakes_12
def K_isUp_3  : (Int32) := ((1 : Int32))
def K_isUp_2  : (Int32) := ((0 : Int32))
def K_isUp_1 (cup : Int32) (r0 : Int32) : (Int32) := (if ((cup >>> (r0 &&& 31)) &&& (1 : Int32)).toInt = 1 then (K_isUp_3) else (K_isUp_2))
def M_isUp (cup : Int32) (r0 : Int32) : (Int32) := (K_isUp_1 cup r0)
abbrev W_isUp (cI cJ cZ cG cH : ClassId) (co : Nat) (r0 : Int32) (fwa : Nat) (fta : Nat) (fra : Nat) (fga : Nat) (cxa : Nat) (cup : Int32) (clast : Int32) (cpeak : Int32) (cptick : Int32) : va_W := [oX0 co fwa fta fra fga cxa cup clast cpeak cptick]
abbrev Q_isUp (D : va_G) (cI cJ cZ cG cH : ClassId) (co : Nat) (r0 : Int32) (fwa : Nat) (fta : Nat) (fra : Nat) (fga : Nat) (cxa : Nat) (cup : Int32) (clast : Int32) (cpeak : Int32) (cptick : Int32) (A : Nat → Prop) : Array Value → State → Outcome → State → Prop := va_Qi (fun (r : Int32) (u9 : Int32) => r = u9 ∧ (0 ≤ r.toInt ∧ r.toInt ≤ 1)) (fun u9 t => (M_isUp cup r0 = (u9)) ∧ xB D (tyL cI cJ cZ cG cH) [oX0 co fwa fta fra fga cxa cup clast cpeak cptick] A t) A
abbrev rm_isUp : Room := { frames := 0, cells := 0, slots := 0, locals := 0 }
set_option maxRecDepth 100000 in
set_option maxHeartbeats 40000000 in
theorem c_isUp (l : Launch) (D : va_G) (cI cJ cZ cG cH : ClassId) (sz : Nat) (co : Nat) (r0 : Int32) (fwa : Nat) (fta : Nat) (fra : Nat) (fga : Nat) (cxa : Nat) (cup : Int32) (clast : Int32) (cpeak : Int32) (cptick : Int32) (h_clast : 0 ≤ clast.toInt ∧ clast.toInt ≤ 144) : Met l yX0_isUp (wt yX0_isUp cX0_isUp 2 (some .boolean)) rm_isUp (xPc [.ref co, .int r0] D (tyL cI cJ cZ cG cH) (W_isUp cI cJ cZ cG cH co r0 fwa fta fra fga cxa cup clast cpeak cptick) sz) (Q_isUp D cI cJ cZ cG cH co r0 fwa fta fra fga cxa cup clast cpeak cptick (va_A (W_isUp cI cJ cZ cG cH co r0 fwa fta fra fga cxa cup clast cpeak cptick) sz)) 0 0 (va_A (W_isUp cI cJ cZ cG cH co r0 fwa fta fra fga cxa cup clast cpeak cptick) sz) := by
  refine xMet (cc := cX0_isUp) (maxL := 2) (ret := (some .boolean)) (Qf := Q_isUp D cI cJ cZ cG cH co r0 fwa fta fra fga cxa cup clast cpeak cptick) (by decide) rfl (Nat.le_of_ble_eq_true rfl) ?_
  intro p e s m below meth c ls A hx hb hr hml hts hown hlocks hnm hsz hP hK hD hA hS hl
  have hown : s.vm.findClass RX0 = some m.cls := hown
  have hP : va_P D vwCl [oX0 co fwa fta fra fga cxa cup clast cpeak cptick] s.heap := hP
  have hD : va_D A [oX0 co fwa fta fra fga cxa cup clast cpeak cptick] := hD
  have hl : lv_has ls 2 [(0, .ref co), (1, .int r0)] := hl
  have hM : M_isUp cup r0 = (K_isUp_1 cup r0) := rfl
  refine lv_aload_n hx hb dX0_isUp_0 rfl (lv_at hl 0 rfl) ?_
  refine va_get (D := D) (ci := 0) (v := .int cup) (C := RX0) (T := TX0) (N := 9) hx hb hts (fun w h => tbC w (tbfX0 w h)) hown hK hP 0 rfl rfl 5 (by decide) (hts (.fieldLink RX0 43 "PowerRails$Course" "up" "I") (tbC _ wd148)) (fun _ h9 => h9) rfl dX0_isUp_1 ?_
  refine lv_iload_n hx hb dX0_isUp_4 rfl (lv_at hl 1 rfl) ?_
  refine lv_ishr hx hb dX0_isUp_5 ?_
  refine lv_topi (fun v1 ev1 => ?_)
  refine lv_iconst (v := 1) hx hb dX0_isUp_6 (by decide) ?_
  refine lv_iand hx hb dX0_isUp_7 ?_
  refine lv_topi (fun v2 ev2 => ?_)
  have rv2 : 0 ≤ v2.toInt ∧ v2.toInt ≤ 1 := xandL ev2 (show (1 : Int32).toInt = 1 from (by decide)) (by omega)
  refine lv_iconst (v := 1) hx hb dX0_isUp_8 (by decide) ?_
  refine lv_icmp_ne (tgt := 16) hx hb dX0_isUp_9 (by decide) (fun c_3 => ?_) (fun c_3 => ?_)
  · skip
    have i_3 : ¬ (v2.toInt = 1) := fun h9 => c_3 ((ieq rfl (by decide)).mpr h9)
    have hM : M_isUp cup r0 = (K_isUp_2) := (show M_isUp cup r0 = (if v2.toInt = 1 then (K_isUp_3) else (K_isUp_2)) from (by rw [ev2, ev1]; exact hM)).trans (if_neg i_3)
    refine lv_iconst (v := 0) hx hb dX0_isUp_16 (by decide) ?_
    refine W.widen (k := 0) (n := 0) (by decide) (by decide) ?_
    exact W.zret (v := 0) hx hb hr (by decide) (fun t ht hW => ⟨⟨0, 0, rfl, ⟨rfl, ⟨by decide, by decide⟩⟩, ⟨hM, xB_of9 ht hW hP hK hD [0] (by decide +kernel) rfl⟩⟩, hS.F ht⟩) hS.2.2 dX0_isUp_17
  · skip
    have i_3 : v2.toInt = 1 := (ieq rfl (by decide)).mp c_3
    have hM : M_isUp cup r0 = (K_isUp_3) := (show M_isUp cup r0 = (if v2.toInt = 1 then (K_isUp_3) else (K_isUp_2)) from (by rw [ev2, ev1]; exact hM)).trans (if_pos i_3)
    refine lv_iconst (v := 1) hx hb dX0_isUp_12 (by decide) ?_
    refine lv_goto (tgt := 17) hx hb dX0_isUp_13 (by decide) ?_
    refine W.widen (k := 0) (n := 0) (by decide) (by decide) ?_
    exact W.zret (v := 1) hx hb hr (by decide) (fun t ht hW => ⟨⟨1, 1, rfl, ⟨rfl, ⟨by decide, by decide⟩⟩, ⟨hM, xB_of9 ht hW hP hK hD [0] (by decide +kernel) rfl⟩⟩, hS.F ht⟩) hS.2.2 dX0_isUp_17
def K_soonest_3 (x27 : Int32) : (Int32) := (x27)
def K_soonest_6 (rec_2 : (Int32) → (Int32) → ((Int32))) (x26 : Int32) (fg : Nat → Int32) (x27 : Int32) : (Int32) := (rec_2 (x26 + 1) (if (fg x26.toNatClampNeg) < x27 then (fg x26.toNatClampNeg) else x27))
def K_soonest_5 (rec_2 : (Int32) → (Int32) → ((Int32))) (x26 : Int32) (x27 : Int32) : (Int32) := (rec_2 (x26 + 1) x27)
def K_soonest_4 (s0 : Int32) (x26 : Int32) (rec_2 : (Int32) → (Int32) → ((Int32))) (fg : Nat → Int32) (x27 : Int32) : (Int32) := (if ((s0 >>> (x26 &&& 31)) &&& (1 : Int32)).toInt = 1 then (K_soonest_6 rec_2 x26 fg x27) else (K_soonest_5 rec_2 x26 x27))
def K_soonest_2 (x26 : Int32) (x27 : Int32) (s0 : Int32) (rec_2 : (Int32) → (Int32) → ((Int32))) (fg : Nat → Int32) : (Int32) := (if 8 ≤ x26.toInt then (K_soonest_3 x27) else (K_soonest_4 s0 x26 rec_2 fg x27))
def K_soonest_L2 (s0 : Int32) (fg : Nat → Int32) : Nat → (Int32) → (Int32) → (Int32)
  | 0, _, _ => (0)
  | n9 + 1, x26, x27 => (K_soonest_2 x26 x27 s0 (K_soonest_L2 s0 fg n9) fg)
def K_soonest_1 (s0 : Int32) (fg : Nat → Int32) : (Int32) := (K_soonest_L2 s0 fg 100000 (0 : Int32) (144 : Int32))
def M_soonest (s0 : Int32) (fg : Nat → Int32) : (Int32) := (K_soonest_1 s0 fg)
abbrev W_soonest (cI cJ cZ cG cH : ClassId) (co : Nat) (s0 : Int32) (fwa : Nat) (fta : Nat) (fra : Nat) (fga : Nat) (cxa : Nat) (cup : Int32) (clast : Int32) (cpeak : Int32) (cptick : Int32) (fg : Nat → Int32) : va_W := [oX0 co fwa fta fra fga cxa cup clast cpeak cptick, oAI fga cI 8 fg]
abbrev Q_soonest (D : va_G) (cI cJ cZ cG cH : ClassId) (co : Nat) (s0 : Int32) (fwa : Nat) (fta : Nat) (fra : Nat) (fga : Nat) (cxa : Nat) (cup : Int32) (clast : Int32) (cpeak : Int32) (cptick : Int32) (fg : Nat → Int32) (A : Nat → Prop) : Array Value → State → Outcome → State → Prop := va_Qi (fun (r : Int32) (u9 : Int32) => r = u9 ∧ (0 ≤ r.toInt ∧ r.toInt ≤ 144)) (fun u9 t => (M_soonest s0 fg = (u9)) ∧ xB D (tyL cI cJ cZ cG cH) [oX0 co fwa fta fra fga cxa cup clast cpeak cptick, oAI fga cI 8 fg] A t) A
abbrev rm_soonest : Room := { frames := 1, cells := 0, slots := 0, locals := 13 }
set_option maxRecDepth 100000 in
set_option maxHeartbeats 40000000 in
theorem c_soonest (l : Launch) (D : va_G) (cI cJ cZ cG cH : ClassId) (sz : Nat) (co : Nat) (s0 : Int32) (fwa : Nat) (fta : Nat) (fra : Nat) (fga : Nat) (cxa : Nat) (cup : Int32) (clast : Int32) (cpeak : Int32) (cptick : Int32) (fg : Nat → Int32) (h_clast : 0 ≤ clast.toInt ∧ clast.toInt ≤ 144) (h_fg : ∀ j, j < 8 → 0 ≤ (fg j).toInt ∧ (fg j).toInt ≤ 1166) : Met l yX0_soonest (wt yX0_soonest cX0_soonest 4 (some .int)) rm_soonest (xPc [.ref co, .int s0] D (tyL cI cJ cZ cG cH) (W_soonest cI cJ cZ cG cH co s0 fwa fta fra fga cxa cup clast cpeak cptick fg) sz) (Q_soonest D cI cJ cZ cG cH co s0 fwa fta fra fga cxa cup clast cpeak cptick fg (va_A (W_soonest cI cJ cZ cG cH co s0 fwa fta fra fga cxa cup clast cpeak cptick fg) sz)) 0 0 (va_A (W_soonest cI cJ cZ cG cH co s0 fwa fta fra fga cxa cup clast cpeak cptick fg) sz) := by
  refine xMet (cc := cX0_soonest) (maxL := 4) (ret := (some .int)) (Qf := Q_soonest D cI cJ cZ cG cH co s0 fwa fta fra fga cxa cup clast cpeak cptick fg) (by decide) rfl (Nat.le_of_ble_eq_true rfl) ?_
  intro p e s m below meth c ls A hx hb hr hml hts hown hlocks hnm hsz hP hK hD hA hS hl
  have hown : s.vm.findClass RX0 = some m.cls := hown
  have hP : va_P D vwCl [oX0 co fwa fta fra fga cxa cup clast cpeak cptick, oAI fga cI 8 fg] s.heap := hP
  have hD : va_D A [oX0 co fwa fta fra fga cxa cup clast cpeak cptick, oAI fga cI 8 fg] := hD
  have hl : lv_has ls 4 [(0, .ref co), (1, .int s0)] := hl
  have hM : M_soonest s0 fg = (K_soonest_1 s0 fg) := rfl
  refine lv_sipush (v := 144) hx hb dX0_soonest_0 (by decide) ?_
  refine lv_istore_n (lv' := [(2, .int 144), (0, .ref co), (1, .int s0)]) hx hb dX0_soonest_3 rfl hl (by decide) rfl (fun ls hl => ?_)
  refine lv_iconst (v := 0) hx hb dX0_soonest_4 (by decide) ?_
  refine lv_istore_n (lv' := [(3, .int 0), (2, .int 144), (0, .ref co), (1, .int s0)]) hx hb dX0_soonest_5 rfl hl (by decide) rfl (fun ls hl => ?_)
  have hl28 : ∀ (nhl28 : Nat) (x26 : Int32) (x27 : Int32), ((8 - x26.toInt).toNat < nhl28) → (hx26 : 0 ≤ x26.toInt ∧ x26.toInt ≤ 8) → (hx27 : 0 ≤ x27.toInt ∧ x27.toInt ≤ 144) → (hM : M_soonest s0 fg = (K_soonest_L2 s0 fg nhl28 x26 x27)) → ∀ (H : Heap) (locs : List Loc), va_P D vwCl [oX0 co fwa fta fra fga cxa cup clast cpeak cptick, oAI fga cI 8 fg] H → va_D A [oX0 co fwa fta fra fga cxa cup clast cpeak cptick, oAI fga cI 8 fg] → va_S A s.heap H locs → ∀ (ls : Array Slot), lv_has ls 4 [(3, .int x26), (2, .int x27), (0, .ref co), (1, .int s0)] → W p l e rm_soonest s m [Value.ref co, Value.int s0].toArray below meth c H locs 0 0 (MQ below ((Q_soonest D cI cJ cZ cG cH co s0 fwa fta fra fga cxa cup clast cpeak cptick fg) A) [Value.ref co, Value.int s0].toArray s 0 0 A) (F0 m 6 ls []) := by
    intro nhl28
    induction nhl28 with
    | zero =>
      intro x26 x27 hmhl28
      exact absurd hmhl28 (Nat.not_lt_zero _)
    | succ nhl28 ihhl28 =>
      intro x26 x27 hmhl28 hx26 hx27 hM H locs hP hD hS ls hl
      have hM : M_soonest s0 fg = (K_soonest_2 x26 x27 s0 (K_soonest_L2 s0 fg nhl28) fg) := hM
      refine lv_iload_n hx hb dX0_soonest_6 rfl (lv_at hl 0 rfl) ?_
      refine lv_bipush (v := 8) hx hb dX0_soonest_7 (by decide) ?_
      refine lv_icmp_ge (tgt := 38) hx hb dX0_soonest_9 (by decide) (fun c_29 => ?_) (fun c_29 => ?_)
      · skip
        have i_29 : 8 ≤ x26.toInt := (ile (by decide) rfl).mp c_29
        have hM : M_soonest s0 fg = (K_soonest_3 x27) := (show M_soonest s0 fg = (if 8 ≤ x26.toInt then (K_soonest_3 x27) else (K_soonest_4 s0 x26 (K_soonest_L2 s0 fg nhl28) fg x27)) from hM).trans (if_pos i_29)
        refine lv_iload_n hx hb dX0_soonest_38 rfl (lv_at hl 1 rfl) ?_
        refine W.widen (k := 0) (n := 0) (by decide) (by decide) ?_
        exact W.iret (v := x27) hx hb hr (fun t ht hW => ⟨⟨x27, x27, rfl, ⟨rfl, (xrng rfl (by omega) (by omega))⟩, ⟨hM, xB_of9 ht hW hP hK hD [0, 1] (by decide +kernel) rfl⟩⟩, hS.F ht⟩) hS.2.2 dX0_soonest_39
      · skip
        have i_29 : ¬ (8 ≤ x26.toInt) := fun h9 => c_29 ((ile (by decide) rfl).mpr h9)
        have hM : M_soonest s0 fg = (K_soonest_4 s0 x26 (K_soonest_L2 s0 fg nhl28) fg x27) := (show M_soonest s0 fg = (if 8 ≤ x26.toInt then (K_soonest_3 x27) else (K_soonest_4 s0 x26 (K_soonest_L2 s0 fg nhl28) fg x27)) from hM).trans (if_neg i_29)
        refine lv_iload_n hx hb dX0_soonest_12 rfl (lv_at hl 3 rfl) ?_
        refine lv_iload_n hx hb dX0_soonest_13 rfl (lv_at hl 0 rfl) ?_
        refine lv_ishr hx hb dX0_soonest_14 ?_
        refine lv_topi (fun v30 ev30 => ?_)
        refine lv_iconst (v := 1) hx hb dX0_soonest_15 (by decide) ?_
        refine lv_iand hx hb dX0_soonest_16 ?_
        refine lv_topi (fun v31 ev31 => ?_)
        have rv31 : 0 ≤ v31.toInt ∧ v31.toInt ≤ 1 := xandL ev31 (show (1 : Int32).toInt = 1 from (by decide)) (by omega)
        refine lv_iconst (v := 1) hx hb dX0_soonest_17 (by decide) ?_
        refine lv_icmp_ne (tgt := 32) hx hb dX0_soonest_18 (by decide) (fun c_32 => ?_) (fun c_32 => ?_)
        · skip
          have i_32 : ¬ (v31.toInt = 1) := fun h9 => c_32 ((ieq rfl (by decide)).mpr h9)
          have hM : M_soonest s0 fg = (K_soonest_5 (K_soonest_L2 s0 fg nhl28) x26 x27) := (show M_soonest s0 fg = (if v31.toInt = 1 then (K_soonest_6 (K_soonest_L2 s0 fg nhl28) x26 fg x27) else (K_soonest_5 (K_soonest_L2 s0 fg nhl28) x26 x27)) from (by rw [ev31, ev30]; exact hM)).trans (if_neg i_32)
          obtain ⟨x33, ex33⟩ : ∃ y : Int32, y = x26 + 1 := ⟨_, rfl⟩
          have tx33 : x33.toInt = (x26.toInt + 1) := (congrArg Int32.toInt ex33).trans (xadd rfl (by decide) (by omega) (by omega))
          refine lv_iinc (v := x33) (lv' := [(3, .int x33), (2, .int x27), (0, .ref co), (1, .int s0)]) hx hb dX0_soonest_32 hl (k := 0) rfl (by rw [ex33]; rfl) (by decide) rfl (fun ls hl => ?_)
          refine lv_goto (tgt := 6) hx hb dX0_soonest_35 (by decide) ?_
          exact ihhl28 x33 x27 (by omega) (xrng tx33 (by omega) (by omega)) (xrng rfl (by omega) (by omega)) (by rw [ex33]; exact hM) _ _ hP hD hS ls (lv_sub hl [0, 1, 2, 3] rfl)
        · skip
          have i_32 : v31.toInt = 1 := (ieq rfl (by decide)).mp c_32
          have hM : M_soonest s0 fg = (K_soonest_6 (K_soonest_L2 s0 fg nhl28) x26 fg x27) := (show M_soonest s0 fg = (if v31.toInt = 1 then (K_soonest_6 (K_soonest_L2 s0 fg nhl28) x26 fg x27) else (K_soonest_5 (K_soonest_L2 s0 fg nhl28) x26 x27)) from (by rw [ev31, ev30]; exact hM)).trans (if_pos i_32)
          refine lv_iload_n hx hb dX0_soonest_21 rfl (lv_at hl 1 rfl) ?_
          refine lv_aload_n hx hb dX0_soonest_22 rfl (lv_at hl 2 rfl) ?_
          refine va_get (D := D) (ci := 0) (v := .ref fga) (C := RX0) (T := TX0) (N := 9) hx hb hts (fun w h => tbC w (tbfX0 w h)) hown hK hP 0 rfl rfl 3 (by decide) (hts (.fieldLink RX0 21 "PowerRails$Course" "goodAt" "[I") (tbC _ wd143)) (fun _ h9 => h9) rfl dX0_soonest_23 ?_
          refine lv_iload_n hx hb dX0_soonest_26 rfl (lv_at hl 0 rfl) ?_
          refine va_iald hx hb hK hP 1 0 rfl rfl (vp_in_iff.mpr ⟨by omega, by omega⟩) dX0_soonest_27 ?_
          refine lv_topi (fun v34 ev34 => ?_)
          have rv34 : 0 ≤ v34.toInt ∧ v34.toInt ≤ 1166 := xrd ev34 h_fg (xinK (vp_in_iff.mpr ⟨by omega, by omega⟩))
          refine va_mmin hx hb (hml.trans hl.1.symm) hown (hts (.methodLink RX0 61 Lib.Math.min.name) (tbC _ wd535)) (hts (.static Lib.Math.min.name) (tbC _ wd393)) (hts (.initialized "java/lang/Math") (tbC _ wd67)) (hts (.code Lib.Math.min.name Lib.Math.min.code 2 (some .int)) (tbC _ wd1003)) (Nat.le_of_ble_eq_true rfl) (Nat.le_of_ble_eq_true rfl) (Nat.le_of_ble_eq_true rfl) (Nat.le_of_ble_eq_true rfl) dX0_soonest_28 ?_
          refine lv_topi (fun v35 ev35 => ?_)
          have rv35 : (v35.toInt = x27.toInt ∨ v35.toInt = v34.toInt) ∧ v35.toInt ≤ x27.toInt ∧ v35.toInt ≤ v34.toInt := xminL ev35 (show (x27 : Int32).toInt = x27.toInt from rfl) (show (v34 : Int32).toInt = v34.toInt from rfl)
          refine lv_istore_n (lv' := [(2, .int v35), (3, .int x26), (0, .ref co), (1, .int s0)]) hx hb dX0_soonest_31 rfl hl (by decide) rfl (fun ls hl => ?_)
          obtain ⟨x36, ex36⟩ : ∃ y : Int32, y = x26 + 1 := ⟨_, rfl⟩
          have tx36 : x36.toInt = (x26.toInt + 1) := (congrArg Int32.toInt ex36).trans (xadd rfl (by decide) (by omega) (by omega))
          refine lv_iinc (v := x36) (lv' := [(3, .int x36), (2, .int v35), (0, .ref co), (1, .int s0)]) hx hb dX0_soonest_32 hl (k := 1) rfl (by rw [ex36]; rfl) (by decide) rfl (fun ls hl => ?_)
          refine lv_goto (tgt := 6) hx hb dX0_soonest_35 (by decide) ?_
          exact ihhl28 x36 v35 (by omega) (xrng tx36 (by omega) (by omega)) (xrng rfl (by omega) (by omega)) (by rw [ex36, ev35, ev34]; exact hM) _ _ hP hD hS ls (lv_sub hl [0, 1, 2, 3] rfl)
  exact hl28 100000 0 144 (by have z9_0 : (0 : Int32).toInt = 0 := (by decide); have z9_1 : (144 : Int32).toInt = 144 := (by decide); omega) ⟨by decide, by decide⟩ ⟨by decide, by decide⟩ hM _ _ hP hD hS ls (lv_sub hl [0, 1, 2, 3] rfl)
def K_begin_3 (x64 : Int32) (f65 : Nat → Int32) (f66 : Nat → Int32) : (Int32) × (Nat → Int32) × (Nat → Int32) := (x64, f65, f66)
def K_begin_8 (rec_2 : (Int32) → (Int32) → (Nat → Int32) → (Nat → Int32) → ((Int32) × (Nat → Int32) × (Nat → Int32))) (x63 : Int32) (x64 : Int32) (f65 : Nat → Int32) (f66 : Nat → Int32) : (Int32) × (Nat → Int32) × (Nat → Int32) := (rec_2 (x63 + 1) x64 f65 f66)
def K_begin_9 (rec_2 : (Int32) → (Int32) → (Nat → Int32) → (Nat → Int32) → ((Int32) × (Nat → Int32) × (Nat → Int32))) (x63 : Int32) (x64 : Int32) (f65 : Nat → Int32) (clast : Int32) (fw : Nat → Int32) (f66 : Nat → Int32) (ft : Nat → Int32) : (Int32) × (Nat → Int32) × (Nat → Int32) := (rec_2 (x63 + 1) (x64 ||| ((1 : Int32) <<< (x63 &&& 31))) (upd f65 (x63 : Int32).toNatClampNeg (clast + (fw x63.toNatClampNeg))) (upd f66 (x63 : Int32).toNatClampNeg (((upd f65 (x63 : Int32).toNatClampNeg (clast + (fw x63.toNatClampNeg))) x63.toNatClampNeg) + (ft x63.toNatClampNeg))))
def K_begin_7 (r74 : Int32) (rec_2 : (Int32) → (Int32) → (Nat → Int32) → (Nat → Int32) → ((Int32) × (Nat → Int32) × (Nat → Int32))) (x63 : Int32) (x64 : Int32) (f65 : Nat → Int32) (f66 : Nat → Int32) (clast : Int32) (fw : Nat → Int32) (ft : Nat → Int32) : (Int32) × (Nat → Int32) × (Nat → Int32) := (if r74.toInt = 0 then (K_begin_8 rec_2 x63 x64 f65 f66) else (K_begin_9 rec_2 x63 x64 f65 clast fw f66 ft))
def K_begin_6 (rec_2 : (Int32) → (Int32) → (Nat → Int32) → (Nat → Int32) → ((Int32) × (Nat → Int32) × (Nat → Int32))) (x63 : Int32) (x64 : Int32) (f65 : Nat → Int32) (f66 : Nat → Int32) (clast : Int32) (fw : Nat → Int32) (ft : Nat → Int32) (pt : Nat → Int64) (cup : Int32) : (Int32) × (Nat → Int32) × (Nat → Int32) := ((fun t9 => (K_begin_7 t9 rec_2 x63 x64 f65 f66 clast fw ft)) (M_holdsWith pt x63 (cup ||| (256 : Int32))))
def K_begin_5 (rec_2 : (Int32) → (Int32) → (Nat → Int32) → (Nat → Int32) → ((Int32) × (Nat → Int32) × (Nat → Int32))) (x63 : Int32) (x64 : Int32) (f65 : Nat → Int32) (f66 : Nat → Int32) : (Int32) × (Nat → Int32) × (Nat → Int32) := (rec_2 (x63 + 1) x64 f65 f66)
def K_begin_4 (s0 : Int32) (x63 : Int32) (rec_2 : (Int32) → (Int32) → (Nat → Int32) → (Nat → Int32) → ((Int32) × (Nat → Int32) × (Nat → Int32))) (x64 : Int32) (f65 : Nat → Int32) (f66 : Nat → Int32) (clast : Int32) (fw : Nat → Int32) (ft : Nat → Int32) (pt : Nat → Int64) (cup : Int32) : (Int32) × (Nat → Int32) × (Nat → Int32) := (if ((s0 >>> (x63 &&& 31)) &&& (1 : Int32)).toInt = 1 then (K_begin_6 rec_2 x63 x64 f65 f66 clast fw ft pt cup) else (K_begin_5 rec_2 x63 x64 f65 f66))
def K_begin_2 (rails : Int32) (x63 : Int32) (x64 : Int32) (f65 : Nat → Int32) (f66 : Nat → Int32) (s0 : Int32) (rec_2 : (Int32) → (Int32) → (Nat → Int32) → (Nat → Int32) → ((Int32) × (Nat → Int32) × (Nat → Int32))) (clast : Int32) (fw : Nat → Int32) (ft : Nat → Int32) (pt : Nat → Int64) (cup : Int32) : (Int32) × (Nat → Int32) × (Nat → Int32) := (if rails.toInt ≤ x63.toInt then (K_begin_3 x64 f65 f66) else (K_begin_4 s0 x63 rec_2 x64 f65 f66 clast fw ft pt cup))
def K_begin_L2 (rails : Int32) (s0 : Int32) (clast : Int32) (fw : Nat → Int32) (ft : Nat → Int32) (pt : Nat → Int64) (cup : Int32) : Nat → (Int32) → (Int32) → (Nat → Int32) → (Nat → Int32) → (Int32) × (Nat → Int32) × (Nat → Int32)
  | 0, _, _, _, _ => (0, fun _ => 0, fun _ => 0)
  | n9 + 1, x63, x64, f65, f66 => (K_begin_2 rails x63 x64 f65 f66 s0 (K_begin_L2 rails s0 clast fw ft pt cup n9) clast fw ft pt cup)
def K_begin_1 (rails : Int32) (s0 : Int32) (clast : Int32) (fw : Nat → Int32) (ft : Nat → Int32) (pt : Nat → Int64) (cup : Int32) (fr : Nat → Int32) (fg : Nat → Int32) : (Int32) × (Nat → Int32) × (Nat → Int32) := (K_begin_L2 rails s0 clast fw ft pt cup 100000 (0 : Int32) (0 : Int32) fr fg)
def M_begin (rails : Int32) (s0 : Int32) (clast : Int32) (fw : Nat → Int32) (ft : Nat → Int32) (pt : Nat → Int64) (cup : Int32) (fr : Nat → Int32) (fg : Nat → Int32) : (Int32) × (Nat → Int32) × (Nat → Int32) := (K_begin_1 rails s0 clast fw ft pt cup fr fg)
abbrev W_begin (cI cJ cZ cG cH : ClassId) (co : Nat) (pl : Nat) (s0 : Int32) (fwa : Nat) (fta : Nat) (fra : Nat) (fga : Nat) (cxa : Nat) (cup : Int32) (clast : Int32) (cpeak : Int32) (cptick : Int32) (fw : Nat → Int32) (ft : Nat → Int32) (fr : Nat → Int32) (fg : Nat → Int32) (pna : Nat) (pta : Nat) (rails : Int32) (limit : Int32) (retry : Int32) (behind : Int32) (pt : Nat → Int64) : va_W := [oX0 co fwa fta fra fga cxa cup clast cpeak cptick, oAI fwa cI 8 fw, oAI fta cI 8 ft, oAI fra cI 8 fr, oAI fga cI 8 fg, oX3 pl pna pta rails limit retry behind, oAJ pta cJ 64 pt]
abbrev Q_begin (D : va_G) (cI cJ cZ cG cH : ClassId) (co : Nat) (pl : Nat) (s0 : Int32) (fwa : Nat) (fta : Nat) (fra : Nat) (fga : Nat) (cxa : Nat) (cup : Int32) (clast : Int32) (cpeak : Int32) (cptick : Int32) (fw : Nat → Int32) (ft : Nat → Int32) (fr : Nat → Int32) (fg : Nat → Int32) (pna : Nat) (pta : Nat) (rails : Int32) (limit : Int32) (retry : Int32) (behind : Int32) (pt : Nat → Int64) (A : Nat → Prop) : Array Value → State → Outcome → State → Prop := va_Qi (fun (r : Int32) (u9 : Int32) => r = u9 ∧ (0 ≤ r.toInt ∧ r.toInt ≤ 255)) (fun u9 t => ∃ (fr9 : Nat → Int32) (fg9 : Nat → Int32), (∀ j, j < 8 → 0 ≤ (fr9 j).toInt ∧ (fr9 j).toInt ≤ 655) ∧ (∀ j, j < 8 → 0 ≤ (fg9 j).toInt ∧ (fg9 j).toInt ≤ 1166) ∧ (M_begin rails s0 clast fw ft pt cup fr fg = (u9, fr9, fg9)) ∧ (∀ j, j < 8 → (fr9 j).toInt ≤ (fg9 j).toInt) ∧ xB D (tyL cI cJ cZ cG cH) [oX0 co fwa fta fra fga cxa cup clast cpeak cptick, oAI fwa cI 8 fw, oAI fta cI 8 ft, oAI fra cI 8 fr9, oAI fga cI 8 fg9, oX3 pl pna pta rails limit retry behind, oAJ pta cJ 64 pt] A t) A
abbrev rm_begin : Room := { frames := 1, cells := 0, slots := 0, locals := 22 }
set_option maxRecDepth 100000 in
set_option maxHeartbeats 40000000 in
theorem c_begin (l : Launch) (D : va_G) (cI cJ cZ cG cH : ClassId) (sz : Nat) (co : Nat) (pl : Nat) (s0 : Int32) (fwa : Nat) (fta : Nat) (fra : Nat) (fga : Nat) (cxa : Nat) (cup : Int32) (clast : Int32) (cpeak : Int32) (cptick : Int32) (fw : Nat → Int32) (ft : Nat → Int32) (fr : Nat → Int32) (fg : Nat → Int32) (pna : Nat) (pta : Nat) (rails : Int32) (limit : Int32) (retry : Int32) (behind : Int32) (pt : Nat → Int64) (h_clast : 0 ≤ clast.toInt ∧ clast.toInt ≤ 144) (h_fw : ∀ j, j < 8 → 0 ≤ (fw j).toInt ∧ (fw j).toInt ≤ 511) (h_ft : ∀ j, j < 8 → 0 ≤ (ft j).toInt ∧ (ft j).toInt ≤ 511) (h_fr : ∀ j, j < 8 → 0 ≤ (fr j).toInt ∧ (fr j).toInt ≤ 655) (h_fg : ∀ j, j < 8 → 0 ≤ (fg j).toInt ∧ (fg j).toInt ≤ 1166) (h_rails : 0 ≤ rails.toInt ∧ rails.toInt ≤ 8) (h_le : ∀ j, j < 8 → (fr j).toInt ≤ (fg j).toInt) : Met l yX0_begin (wt yX0_begin cX0_begin 5 (some .int)) rm_begin (xPc [.ref co, .ref pl, .int s0] D (tyL cI cJ cZ cG cH) (W_begin cI cJ cZ cG cH co pl s0 fwa fta fra fga cxa cup clast cpeak cptick fw ft fr fg pna pta rails limit retry behind pt) sz) (Q_begin D cI cJ cZ cG cH co pl s0 fwa fta fra fga cxa cup clast cpeak cptick fw ft fr fg pna pta rails limit retry behind pt (va_A (W_begin cI cJ cZ cG cH co pl s0 fwa fta fra fga cxa cup clast cpeak cptick fw ft fr fg pna pta rails limit retry behind pt) sz)) 0 0 (va_A (W_begin cI cJ cZ cG cH co pl s0 fwa fta fra fga cxa cup clast cpeak cptick fw ft fr fg pna pta rails limit retry behind pt) sz) := by
  refine xMet (cc := cX0_begin) (maxL := 5) (ret := (some .int)) (Qf := Q_begin D cI cJ cZ cG cH co pl s0 fwa fta fra fga cxa cup clast cpeak cptick fw ft fr fg pna pta rails limit retry behind pt) (by decide) rfl (Nat.le_of_ble_eq_true rfl) ?_
  intro p e s m below meth c ls A hx hb hr hml hts hown hlocks hnm hsz hP hK hD hA hS hl
  have hown : s.vm.findClass RX0 = some m.cls := hown
  have hP : va_P D vwCl [oX0 co fwa fta fra fga cxa cup clast cpeak cptick, oAI fwa cI 8 fw, oAI fta cI 8 ft, oAI fra cI 8 fr, oAI fga cI 8 fg, oX3 pl pna pta rails limit retry behind, oAJ pta cJ 64 pt] s.heap := hP
  have hD : va_D A [oX0 co fwa fta fra fga cxa cup clast cpeak cptick, oAI fwa cI 8 fw, oAI fta cI 8 ft, oAI fra cI 8 fr, oAI fga cI 8 fg, oX3 pl pna pta rails limit retry behind, oAJ pta cJ 64 pt] := hD
  have hl : lv_has ls 5 [(0, .ref co), (1, .ref pl), (2, .int s0)] := hl
  have hM : M_begin rails s0 clast fw ft pt cup fr fg = (K_begin_1 rails s0 clast fw ft pt cup fr fg) := rfl
  refine lv_iconst (v := 0) hx hb dX0_begin_0 (by decide) ?_
  refine lv_istore_n (lv' := [(3, .int 0), (0, .ref co), (1, .ref pl), (2, .int s0)]) hx hb dX0_begin_1 rfl hl (by decide) rfl (fun ls hl => ?_)
  refine lv_iconst (v := 0) hx hb dX0_begin_2 (by decide) ?_
  refine lv_istore (lv' := [(4, .int 0), (3, .int 0), (0, .ref co), (1, .ref pl), (2, .int s0)]) hx hb dX0_begin_3 hl (by decide) rfl (fun ls hl => ?_)
  have hl67 : ∀ (nhl67 : Nat) (x63 : Int32) (x64 : Int32) (f65 : Nat → Int32) (f66 : Nat → Int32), ((8 - x63.toInt).toNat < nhl67) → (hx63 : 0 ≤ x63.toInt ∧ x63.toInt ≤ 8) → (hx64 : 0 ≤ x64.toInt ∧ x64.toInt ≤ 255) → (hf65 : ∀ j, j < 8 → 0 ≤ (f65 j).toInt ∧ (f65 j).toInt ≤ 655) → (hf66 : ∀ j, j < 8 → 0 ≤ (f66 j).toInt ∧ (f66 j).toInt ≤ 1166) → (hle_f65_f66 : ∀ j, j < 8 → (f65 j).toInt ≤ (f66 j).toInt) → (hM : M_begin rails s0 clast fw ft pt cup fr fg = (K_begin_L2 rails s0 clast fw ft pt cup nhl67 x63 x64 f65 f66)) → ∀ (H : Heap) (locs : List Loc), va_P D vwCl [oX0 co fwa fta fra fga cxa cup clast cpeak cptick, oAI fwa cI 8 fw, oAI fta cI 8 ft, oAI fra cI 8 f65, oAI fga cI 8 f66, oX3 pl pna pta rails limit retry behind, oAJ pta cJ 64 pt] H → va_D A [oX0 co fwa fta fra fga cxa cup clast cpeak cptick, oAI fwa cI 8 fw, oAI fta cI 8 ft, oAI fra cI 8 f65, oAI fga cI 8 f66, oX3 pl pna pta rails limit retry behind, oAJ pta cJ 64 pt] → va_S A s.heap H locs → ∀ (ls : Array Slot), lv_has ls 5 [(4, .int x63), (3, .int x64), (0, .ref co), (1, .ref pl), (2, .int s0)] → W p l e rm_begin s m [Value.ref co, Value.ref pl, Value.int s0].toArray below meth c H locs 0 0 (MQ below ((Q_begin D cI cJ cZ cG cH co pl s0 fwa fta fra fga cxa cup clast cpeak cptick fw ft fr fg pna pta rails limit retry behind pt) A) [Value.ref co, Value.ref pl, Value.int s0].toArray s 0 0 A) (F0 m 5 ls []) := by
    intro nhl67
    induction nhl67 with
    | zero =>
      intro x63 x64 f65 f66 hmhl67
      exact absurd hmhl67 (Nat.not_lt_zero _)
    | succ nhl67 ihhl67 =>
      intro x63 x64 f65 f66 hmhl67 hx63 hx64 hf65 hf66 hle_f65_f66 hM H locs hP hD hS ls hl
      have hM : M_begin rails s0 clast fw ft pt cup fr fg = (K_begin_2 rails x63 x64 f65 f66 s0 (K_begin_L2 rails s0 clast fw ft pt cup nhl67) clast fw ft pt cup) := hM
      refine lv_iload hx hb dX0_begin_5 (lv_at hl 0 rfl) ?_
      refine lv_aload_n hx hb dX0_begin_7 rfl (lv_at hl 3 rfl) ?_
      refine va_get (D := D) (ci := 2) (v := .int rails) (C := RX3) (T := TX3) (N := 6) hx hb hts (fun w h => tbC w (tbfX3 w h)) hown hK hP 5 rfl rfl 2 (by decide) (hts (.fieldLink RX0 27 "PowerRails$Plan" "rails" "I") (tbC _ wd206)) (fun _ h9 => h9) rfl dX0_begin_8 ?_
      refine lv_icmp_ge (tgt := 95) hx hb dX0_begin_11 (by decide) (fun c_68 => ?_) (fun c_68 => ?_)
      · skip
        have i_68 : rails.toInt ≤ x63.toInt := (ile rfl rfl).mp c_68
        have hM : M_begin rails s0 clast fw ft pt cup fr fg = (K_begin_3 x64 f65 f66) := (show M_begin rails s0 clast fw ft pt cup fr fg = (if rails.toInt ≤ x63.toInt then (K_begin_3 x64 f65 f66) else (K_begin_4 s0 x63 (K_begin_L2 rails s0 clast fw ft pt cup nhl67) x64 f65 f66 clast fw ft pt cup)) from hM).trans (if_pos i_68)
        refine lv_iload_n hx hb dX0_begin_95 rfl (lv_at hl 1 rfl) ?_
        refine W.widen (k := 0) (n := 0) (by decide) (by decide) ?_
        exact W.iret (v := x64) hx hb hr (fun t ht hW => ⟨⟨x64, x64, rfl, ⟨rfl, (xrng rfl (by omega) (by omega))⟩, ⟨f65, f66, (xwk_rng hf65 (by decide) (by decide)), (xwk_rng hf66 (by decide) (by decide)), hM, hle_f65_f66, xB_of9 ht hW hP hK hD [0, 1, 2, 3, 4, 5, 6] (by decide +kernel) rfl⟩⟩, hS.F ht⟩) hS.2.2 dX0_begin_96
      · skip
        have i_68 : ¬ (rails.toInt ≤ x63.toInt) := fun h9 => c_68 ((ile rfl rfl).mpr h9)
        have hM : M_begin rails s0 clast fw ft pt cup fr fg = (K_begin_4 s0 x63 (K_begin_L2 rails s0 clast fw ft pt cup nhl67) x64 f65 f66 clast fw ft pt cup) := (show M_begin rails s0 clast fw ft pt cup fr fg = (if rails.toInt ≤ x63.toInt then (K_begin_3 x64 f65 f66) else (K_begin_4 s0 x63 (K_begin_L2 rails s0 clast fw ft pt cup nhl67) x64 f65 f66 clast fw ft pt cup)) from hM).trans (if_neg i_68)
        refine lv_iload_n hx hb dX0_begin_14 rfl (lv_at hl 4 rfl) ?_
        refine lv_iload hx hb dX0_begin_15 (lv_at hl 0 rfl) ?_
        refine lv_ishr hx hb dX0_begin_17 ?_
        refine lv_topi (fun v69 ev69 => ?_)
        refine lv_iconst (v := 1) hx hb dX0_begin_18 (by decide) ?_
        refine lv_iand hx hb dX0_begin_19 ?_
        refine lv_topi (fun v70 ev70 => ?_)
        have rv70 : 0 ≤ v70.toInt ∧ v70.toInt ≤ 1 := xandL ev70 (show (1 : Int32).toInt = 1 from (by decide)) (by omega)
        refine lv_iconst (v := 1) hx hb dX0_begin_20 (by decide) ?_
        refine lv_icmp_ne (tgt := 89) hx hb dX0_begin_21 (by decide) (fun c_71 => ?_) (fun c_71 => ?_)
        · skip
          have i_71 : ¬ (v70.toInt = 1) := fun h9 => c_71 ((ieq rfl (by decide)).mpr h9)
          have hM : M_begin rails s0 clast fw ft pt cup fr fg = (K_begin_5 (K_begin_L2 rails s0 clast fw ft pt cup nhl67) x63 x64 f65 f66) := (show M_begin rails s0 clast fw ft pt cup fr fg = (if v70.toInt = 1 then (K_begin_6 (K_begin_L2 rails s0 clast fw ft pt cup nhl67) x63 x64 f65 f66 clast fw ft pt cup) else (K_begin_5 (K_begin_L2 rails s0 clast fw ft pt cup nhl67) x63 x64 f65 f66)) from (by rw [ev70, ev69]; exact hM)).trans (if_neg i_71)
          obtain ⟨x72, ex72⟩ : ∃ y : Int32, y = x63 + 1 := ⟨_, rfl⟩
          have tx72 : x72.toInt = (x63.toInt + 1) := (congrArg Int32.toInt ex72).trans (xadd rfl (by decide) (by omega) (by omega))
          refine lv_iinc (v := x72) (lv' := [(4, .int x72), (3, .int x64), (0, .ref co), (1, .ref pl), (2, .int s0)]) hx hb dX0_begin_89 hl (k := 0) rfl (by rw [ex72]; rfl) (by decide) rfl (fun ls hl => ?_)
          refine lv_goto (tgt := 5) hx hb dX0_begin_92 (by decide) ?_
          exact ihhl67 x72 x64 f65 f66 (by omega) (xrng tx72 (by omega) (by omega)) (xrng rfl (by omega) (by omega)) (xwk_rng hf65 (by decide) (by decide)) (xwk_rng hf66 (by decide) (by decide)) hle_f65_f66 (by rw [ex72]; exact hM) _ _ hP hD hS ls (lv_sub hl [0, 1, 2, 3, 4] rfl)
        · skip
          have i_71 : v70.toInt = 1 := (ieq rfl (by decide)).mp c_71
          have hM : M_begin rails s0 clast fw ft pt cup fr fg = (K_begin_6 (K_begin_L2 rails s0 clast fw ft pt cup nhl67) x63 x64 f65 f66 clast fw ft pt cup) := (show M_begin rails s0 clast fw ft pt cup fr fg = (if v70.toInt = 1 then (K_begin_6 (K_begin_L2 rails s0 clast fw ft pt cup nhl67) x63 x64 f65 f66 clast fw ft pt cup) else (K_begin_5 (K_begin_L2 rails s0 clast fw ft pt cup nhl67) x63 x64 f65 f66)) from (by rw [ev70, ev69]; exact hM)).trans (if_pos i_71)
          refine lv_aload_n hx hb dX0_begin_24 rfl (lv_at hl 3 rfl) ?_
          refine lv_iload hx hb dX0_begin_25 (lv_at hl 0 rfl) ?_
          refine lv_aload_n hx hb dX0_begin_27 rfl (lv_at hl 2 rfl) ?_
          refine va_get (D := D) (ci := 0) (v := .int cup) (C := RX0) (T := TX0) (N := 9) hx hb hts (fun w h => tbC w (tbfX0 w h)) hown hK hP 0 rfl rfl 5 (by decide) (hts (.fieldLink RX0 43 "PowerRails$Course" "up" "I") (tbC _ wd148)) (fun _ h9 => h9) rfl dX0_begin_28 ?_
          refine lv_sipush (v := 256) hx hb dX0_begin_31 (by decide) ?_
          refine lv_ior hx hb dX0_begin_34 ?_
          refine lv_topi (fun v73 ev73 => ?_)
          obtain ⟨hPc, hDc, hFc, hC9⟩ := xpk (wc := W_holdsWith cI cJ cZ cG cH pl x63 v73 pna pta rails limit retry behind pt) hP hD hS hA [5, 6] (by decide +kernel) rfl
          refine va_calli (va_runV (As := [.int x63, .int v73]) (rest := []) ⟨hx, hb, hml, hown, hts⟩ (c_holdsWith l D cI cJ cZ cG cH H.size pl x63 v73 pna pta rails limit retry behind pt (xrng rfl (by omega) (by omega)) (xrng rfl (by omega) (by omega))) (cwV 2 hts (xGV tbC wd531 wd423 wd424 wd59 wd1013) rfl rfl rfl (by decide +kernel) ⟨Nat.le_of_ble_eq_true rfl, Nat.le_of_ble_eq_true rfl⟩) ⟨xPc_blind, va_recv hK hPc (ci := 2) (q0 := 0) rfl rfl, xPc_pre hPc hK hDc⟩ rfl rfl hl.1 rfl (lv_room (Nat.le_of_ble_eq_true rfl)) dX0_begin_35 ⟨Nat.le_of_ble_eq_true rfl, Nat.le_of_ble_eq_true rfl⟩) hS (fun q _ h => hFc q h) hFc (fun r74 u t H1 locs ht hvm hw74 hB hz1 hk1 hS => ?_)
          obtain ⟨hru9, hw74⟩ := hw74
          subst hru9
          obtain ⟨hf74_0, hP1, hK1, hD1⟩ := hB
          rw [ht] at hP1
          obtain ⟨hP, hD⟩ : xPD D A [oX0 co fwa fta fra fga cxa cup clast cpeak cptick, oAI fwa cI 8 fw, oAI fta cI 8 ft, oAI fra cI 8 f65, oAI fga cI 8 f66, oX3 pl pna pta rails limit retry behind, oAJ pta cJ 64 pt] H1 := xjn 5 hP hD [5, 6] [0, 1, 2, 3, 4] hC9 rfl (by decide +kernel) (by decide +kernel) hk1 hFc hP1 hD1
          generalize H1 = H at hP hS ⊢
          have hf74_0 : M_holdsWith pt x63 v73 = (r74) := hf74_0
          have hw74 : 0 ≤ r74.toInt ∧ r74.toInt ≤ 1 := hw74
          have h9M := congrArg (fun t9 => (K_begin_7 t9 (K_begin_L2 rails s0 clast fw ft pt cup nhl67) x63 x64 f65 f66 clast fw ft)) hf74_0
          have hM : M_begin rails s0 clast fw ft pt cup fr fg = (K_begin_7 r74 (K_begin_L2 rails s0 clast fw ft pt cup nhl67) x63 x64 f65 f66 clast fw ft) := (show M_begin rails s0 clast fw ft pt cup fr fg = ((fun t9 => (K_begin_7 t9 (K_begin_L2 rails s0 clast fw ft pt cup nhl67) x63 x64 f65 f66 clast fw ft)) (M_holdsWith pt x63 v73)) from (by rw [ev73]; exact hM)).trans h9M
          refine lv_if_eq (tgt := 89) hx hb dX0_begin_38 (by decide) (fun c_75 => ?_) (fun c_75 => ?_)
          · skip
            have i_75 : r74.toInt = 0 := (ieq rfl (by decide)).mp c_75
            have hM : M_begin rails s0 clast fw ft pt cup fr fg = (K_begin_8 (K_begin_L2 rails s0 clast fw ft pt cup nhl67) x63 x64 f65 f66) := (show M_begin rails s0 clast fw ft pt cup fr fg = (if r74.toInt = 0 then (K_begin_8 (K_begin_L2 rails s0 clast fw ft pt cup nhl67) x63 x64 f65 f66) else (K_begin_9 (K_begin_L2 rails s0 clast fw ft pt cup nhl67) x63 x64 f65 clast fw f66 ft)) from hM).trans (if_pos i_75)
            obtain ⟨x76, ex76⟩ : ∃ y : Int32, y = x63 + 1 := ⟨_, rfl⟩
            have tx76 : x76.toInt = (x63.toInt + 1) := (congrArg Int32.toInt ex76).trans (xadd rfl (by decide) (by omega) (by omega))
            refine lv_iinc (v := x76) (lv' := [(4, .int x76), (3, .int x64), (0, .ref co), (1, .ref pl), (2, .int s0)]) hx hb dX0_begin_89 hl (k := 0) rfl (by rw [ex76]; rfl) (by decide) rfl (fun ls hl => ?_)
            refine lv_goto (tgt := 5) hx hb dX0_begin_92 (by decide) ?_
            exact ihhl67 x76 x64 f65 f66 (by omega) (xrng tx76 (by omega) (by omega)) (xrng rfl (by omega) (by omega)) (xwk_rng hf65 (by decide) (by decide)) (xwk_rng hf66 (by decide) (by decide)) hle_f65_f66 (by rw [ex76]; exact hM) _ _ hP hD hS ls (lv_sub hl [0, 1, 2, 3, 4] rfl)
          · skip
            have i_75 : ¬ (r74.toInt = 0) := fun h9 => c_75 ((ieq rfl (by decide)).mpr h9)
            have hM : M_begin rails s0 clast fw ft pt cup fr fg = (K_begin_9 (K_begin_L2 rails s0 clast fw ft pt cup nhl67) x63 x64 f65 clast fw f66 ft) := (show M_begin rails s0 clast fw ft pt cup fr fg = (if r74.toInt = 0 then (K_begin_8 (K_begin_L2 rails s0 clast fw ft pt cup nhl67) x63 x64 f65 f66) else (K_begin_9 (K_begin_L2 rails s0 clast fw ft pt cup nhl67) x63 x64 f65 clast fw f66 ft)) from hM).trans (if_neg i_75)
            refine lv_iload_n hx hb dX0_begin_41 rfl (lv_at hl 1 rfl) ?_
            refine lv_iconst (v := 1) hx hb dX0_begin_42 (by decide) ?_
            refine lv_iload hx hb dX0_begin_43 (lv_at hl 0 rfl) ?_
            refine lv_ishl hx hb dX0_begin_45 ?_
            refine lv_topi (fun v77 ev77 => ?_)
            have rv77 : 1 ≤ v77.toInt ∧ v77.toInt ≤ 128 := xshl1 7 ev77 (show (x63 : Int32).toInt = x63.toInt from rfl) (by omega) (by omega) (by decide)
            refine lv_ior hx hb dX0_begin_46 ?_
            refine lv_topi (fun v78 ev78 => ?_)
            have rv78 : 0 ≤ v78.toInt ∧ v78.toInt ≤ 255 := xorL 8 ev78 (show (x64 : Int32).toInt = x64.toInt from rfl) (show (v77 : Int32).toInt = v77.toInt from rfl) (by decide) (by decide) (by omega) (by omega) (by omega) (by omega)
            refine lv_istore_n (lv' := [(3, .int v78), (4, .int x63), (0, .ref co), (1, .ref pl), (2, .int s0)]) hx hb dX0_begin_47 rfl hl (by decide) rfl (fun ls hl => ?_)
            refine lv_aload_n hx hb dX0_begin_48 rfl (lv_at hl 2 rfl) ?_
            refine va_get (D := D) (ci := 0) (v := .ref fra) (C := RX0) (T := TX0) (N := 9) hx hb hts (fun w h => tbC w (tbfX0 w h)) hown hK hP 0 rfl rfl 2 (by decide) (hts (.fieldLink RX0 18 "PowerRails$Course" "risesAt" "[I") (tbC _ wd142)) (fun _ h9 => h9) rfl dX0_begin_49 ?_
            refine lv_iload hx hb dX0_begin_52 (lv_at hl 1 rfl) ?_
            refine lv_aload_n hx hb dX0_begin_54 rfl (lv_at hl 2 rfl) ?_
            refine va_get (D := D) (ci := 0) (v := .int clast) (C := RX0) (T := TX0) (N := 9) hx hb hts (fun w h => tbC w (tbfX0 w h)) hown hK hP 0 rfl rfl 6 (by decide) (hts (.fieldLink RX0 46 "PowerRails$Course" "last" "I") (tbC _ wd150)) (fun _ h9 => h9) rfl dX0_begin_55 ?_
            refine lv_aload_n hx hb dX0_begin_58 rfl (lv_at hl 2 rfl) ?_
            refine va_get (D := D) (ci := 0) (v := .ref fwa) (C := RX0) (T := TX0) (N := 9) hx hb hts (fun w h => tbC w (tbfX0 w h)) hown hK hP 0 rfl rfl 0 (by decide) (hts (.fieldLink RX0 9 "PowerRails$Course" "waits" "[I") (tbC _ wd138)) (fun _ h9 => h9) rfl dX0_begin_59 ?_
            refine lv_iload hx hb dX0_begin_62 (lv_at hl 1 rfl) ?_
            refine va_iald hx hb hK hP 1 0 rfl rfl (vp_in_iff.mpr ⟨by omega, by omega⟩) dX0_begin_64 ?_
            refine lv_topi (fun v79 ev79 => ?_)
            have rv79 : 0 ≤ v79.toInt ∧ v79.toInt ≤ 511 := xrd ev79 h_fw (xinK (vp_in_iff.mpr ⟨by omega, by omega⟩))
            refine lv_iadd hx hb dX0_begin_65 ?_
            refine lv_topi (fun v80 ev80 => ?_)
            have tv80 : v80.toInt = (clast.toInt + v79.toInt) := (congrArg Int32.toInt ev80).trans (xadd rfl rfl (by omega) (by omega))
            refine va_iast hx hb hK hP hD hS 3 0 rfl rfl (vp_in_iff.mpr ⟨by omega, by omega⟩) dX0_begin_66 (fun H locs hP hD hS => ?_)
            obtain ⟨f81, ef81⟩ : ∃ fz9 : Nat → Int32, fz9 = upd f65 (x63 : Int32).toNatClampNeg v80 := ⟨_, rfl⟩
            have hP : va_P D vwCl [oX0 co fwa fta fra fga cxa cup clast cpeak cptick, oAI fwa cI 8 fw, oAI fta cI 8 ft, oAI fra cI 8 f81, oAI fga cI 8 f66, oX3 pl pna pta rails limit retry behind, oAJ pta cJ 64 pt] H := by rw [ef81]; exact hP
            have hD : va_D A [oX0 co fwa fta fra fga cxa cup clast cpeak cptick, oAI fwa cI 8 fw, oAI fta cI 8 ft, oAI fra cI 8 f81, oAI fga cI 8 f66, oX3 pl pna pta rails limit retry behind, oAJ pta cJ 64 pt] := by rw [ef81]; exact hD
            have rf81 : ∀ j, j < 8 → 0 ≤ (f81 j).toInt ∧ (f81 j).toInt ≤ 655 := by rw [ef81]; exact xup_rng (xwk_rng hf65 (by decide) (by decide)) (xrng tv80 (by omega) (by omega))
            refine lv_aload_n hx hb dX0_begin_67 rfl (lv_at hl 2 rfl) ?_
            refine va_get (D := D) (ci := 0) (v := .ref fga) (C := RX0) (T := TX0) (N := 9) hx hb hts (fun w h => tbC w (tbfX0 w h)) hown hK hP 0 rfl rfl 3 (by decide) (hts (.fieldLink RX0 21 "PowerRails$Course" "goodAt" "[I") (tbC _ wd143)) (fun _ h9 => h9) rfl dX0_begin_68 ?_
            refine lv_iload hx hb dX0_begin_71 (lv_at hl 1 rfl) ?_
            refine lv_aload_n hx hb dX0_begin_73 rfl (lv_at hl 2 rfl) ?_
            refine va_get (D := D) (ci := 0) (v := .ref fra) (C := RX0) (T := TX0) (N := 9) hx hb hts (fun w h => tbC w (tbfX0 w h)) hown hK hP 0 rfl rfl 2 (by decide) (hts (.fieldLink RX0 18 "PowerRails$Course" "risesAt" "[I") (tbC _ wd142)) (fun _ h9 => h9) rfl dX0_begin_74 ?_
            refine lv_iload hx hb dX0_begin_77 (lv_at hl 1 rfl) ?_
            refine va_iald hx hb hK hP 3 0 rfl rfl (vp_in_iff.mpr ⟨by omega, by omega⟩) dX0_begin_79 ?_
            refine lv_topi (fun v82 ev82 => ?_)
            have rv82 : 0 ≤ v82.toInt ∧ v82.toInt ≤ 655 := xrd ev82 rf81 (xinK (vp_in_iff.mpr ⟨by omega, by omega⟩))
            have q79v82 : v82 = v80 := by rw [ev82, ef81]; exact xupd_s
            refine lv_aload_n hx hb dX0_begin_80 rfl (lv_at hl 2 rfl) ?_
            refine va_get (D := D) (ci := 0) (v := .ref fta) (C := RX0) (T := TX0) (N := 9) hx hb hts (fun w h => tbC w (tbfX0 w h)) hown hK hP 0 rfl rfl 1 (by decide) (hts (.fieldLink RX0 15 "PowerRails$Course" "takes" "[I") (tbC _ wd140)) (fun _ h9 => h9) rfl dX0_begin_81 ?_
            refine lv_iload hx hb dX0_begin_84 (lv_at hl 1 rfl) ?_
            refine va_iald hx hb hK hP 2 0 rfl rfl (vp_in_iff.mpr ⟨by omega, by omega⟩) dX0_begin_86 ?_
            refine lv_topi (fun v83 ev83 => ?_)
            have rv83 : 0 ≤ v83.toInt ∧ v83.toInt ≤ 511 := xrd ev83 h_ft (xinK (vp_in_iff.mpr ⟨by omega, by omega⟩))
            refine lv_iadd hx hb dX0_begin_87 ?_
            refine lv_topi (fun v84 ev84 => ?_)
            have tv84 : v84.toInt = (v82.toInt + v83.toInt) := (congrArg Int32.toInt ev84).trans (xadd rfl rfl (by omega) (by omega))
            refine va_iast hx hb hK hP hD hS 4 0 rfl rfl (vp_in_iff.mpr ⟨by omega, by omega⟩) dX0_begin_88 (fun H locs hP hD hS => ?_)
            obtain ⟨f85, ef85⟩ : ∃ fz9 : Nat → Int32, fz9 = upd f66 (x63 : Int32).toNatClampNeg v84 := ⟨_, rfl⟩
            have hP : va_P D vwCl [oX0 co fwa fta fra fga cxa cup clast cpeak cptick, oAI fwa cI 8 fw, oAI fta cI 8 ft, oAI fra cI 8 f81, oAI fga cI 8 f85, oX3 pl pna pta rails limit retry behind, oAJ pta cJ 64 pt] H := by rw [ef85]; exact hP
            have hD : va_D A [oX0 co fwa fta fra fga cxa cup clast cpeak cptick, oAI fwa cI 8 fw, oAI fta cI 8 ft, oAI fra cI 8 f81, oAI fga cI 8 f85, oX3 pl pna pta rails limit retry behind, oAJ pta cJ 64 pt] := by rw [ef85]; exact hD
            have hlef85 : ∀ j, j < 8 → (f81 j).toInt ≤ (f85 j).toInt := by rw [ef81, ef85]; exact xle_upd hle_f65_f66 (by rw [tv84, ← q79v82]; omega)
            have rf85 : ∀ j, j < 8 → 0 ≤ (f85 j).toInt ∧ (f85 j).toInt ≤ 1166 := by rw [ef85]; exact xup_rng (xwk_rng hf66 (by decide) (by decide)) (xrng tv84 (by omega) (by omega))
            obtain ⟨x86, ex86⟩ : ∃ y : Int32, y = x63 + 1 := ⟨_, rfl⟩
            have tx86 : x86.toInt = (x63.toInt + 1) := (congrArg Int32.toInt ex86).trans (xadd rfl (by decide) (by omega) (by omega))
            refine lv_iinc (v := x86) (lv' := [(4, .int x86), (3, .int v78), (0, .ref co), (1, .ref pl), (2, .int s0)]) hx hb dX0_begin_89 hl (k := 1) rfl (by rw [ex86]; rfl) (by decide) rfl (fun ls hl => ?_)
            refine lv_goto (tgt := 5) hx hb dX0_begin_92 (by decide) ?_
            exact ihhl67 x86 v78 f81 f85 (by omega) (xrng tx86 (by omega) (by omega)) (xrng rfl (by omega) (by omega)) (xwk_rng rf81 (by decide) (by decide)) (xwk_rng rf85 (by decide) (by decide)) hlef85 (by rw [ex86, ef85, ev84, ev83, ev82, ef81, ev80, ev79, ev78, ev77]; exact hM) _ _ hP hD hS ls (lv_sub hl [0, 1, 2, 3, 4] rfl)
  exact hl67 100000 0 0 fr fg (by have z9_0 : (0 : Int32).toInt = 0 := (by decide); omega) ⟨by decide, by decide⟩ ⟨by decide, by decide⟩ (xwk_rng h_fr (by decide) (by decide)) (xwk_rng h_fg (by decide) (by decide)) h_le hM _ _ hP hD hS ls (lv_sub hl [0, 1, 2, 3, 4] rfl)
def K_follow_3 (x190 : Int32) (x191 : Int32) (f192 : Nat → Int32) (f193 : Nat → Int32) : (Int32) × (Int32) × (Nat → Int32) × (Nat → Int32) := (x190, x191, f192, f193)
def K_follow_7 (x190 : Int32) (x191 : Int32) (fr_199 : Nat → Int32) (fg_200 : Nat → Int32) : (Int32) × (Int32) × (Nat → Int32) × (Nat → Int32) := (x190, x191, fr_199, fg_200)
def K_follow_10 (rec_2 : (Int32) → (Int32) → (Int32) → (Int32) → (Nat → Int32) → (Nat → Int32) → ((Int32) × (Int32) × (Nat → Int32) × (Nat → Int32))) (x188 : Int32) (v201 : Int32) (x240 : Int32) (r205 : Int32) (fr_199 : Nat → Int32) (fg_200 : Nat → Int32) : (Int32) × (Int32) × (Nat → Int32) × (Nat → Int32) := (rec_2 (x188 + 1) v201 x240 r205 fr_199 fg_200)
def K_follow_15 (rec_9 : (Int32) → (Int32) → ((Int32) × (Int32) × (Nat → Int32) × (Nat → Int32))) (x239 : Int32) (x240 : Int32) : (Int32) × (Int32) × (Nat → Int32) × (Nat → Int32) := (rec_9 (x239 + 1) (x240 ||| ((1 : Int32) <<< (x239 &&& 31))))
def K_follow_14 (rec_9 : (Int32) → (Int32) → ((Int32) × (Int32) × (Nat → Int32) × (Nat → Int32))) (x239 : Int32) (x240 : Int32) : (Int32) × (Int32) × (Nat → Int32) × (Nat → Int32) := (rec_9 (x239 + 1) x240)
def K_follow_13 (fg_200 : Nat → Int32) (x239 : Int32) (r205 : Int32) (rec_9 : (Int32) → (Int32) → ((Int32) × (Int32) × (Nat → Int32) × (Nat → Int32))) (x240 : Int32) : (Int32) × (Int32) × (Nat → Int32) × (Nat → Int32) := (if (fg_200 x239.toNatClampNeg).toInt = r205.toInt then (K_follow_15 rec_9 x239 x240) else (K_follow_14 rec_9 x239 x240))
def K_follow_12 (rec_9 : (Int32) → (Int32) → ((Int32) × (Int32) × (Nat → Int32) × (Nat → Int32))) (x239 : Int32) (x240 : Int32) : (Int32) × (Int32) × (Nat → Int32) × (Nat → Int32) := (rec_9 (x239 + 1) x240)
def K_follow_11 (v203 : Int32) (x239 : Int32) (fg_200 : Nat → Int32) (r205 : Int32) (rec_9 : (Int32) → (Int32) → ((Int32) × (Int32) × (Nat → Int32) × (Nat → Int32))) (x240 : Int32) : (Int32) × (Int32) × (Nat → Int32) × (Nat → Int32) := (if ((v203 >>> (x239 &&& 31)) &&& (1 : Int32)).toInt = 1 then (K_follow_13 fg_200 x239 r205 rec_9 x240) else (K_follow_12 rec_9 x239 x240))
def K_follow_9 (x239 : Int32) (rec_2 : (Int32) → (Int32) → (Int32) → (Int32) → (Nat → Int32) → (Nat → Int32) → ((Int32) × (Int32) × (Nat → Int32) × (Nat → Int32))) (x188 : Int32) (v201 : Int32) (x240 : Int32) (r205 : Int32) (fr_199 : Nat → Int32) (fg_200 : Nat → Int32) (v203 : Int32) (rec_9 : (Int32) → (Int32) → ((Int32) × (Int32) × (Nat → Int32) × (Nat → Int32))) : (Int32) × (Int32) × (Nat → Int32) × (Nat → Int32) := (if 8 ≤ x239.toInt then (K_follow_10 rec_2 x188 v201 x240 r205 fr_199 fg_200) else (K_follow_11 v203 x239 fg_200 r205 rec_9 x240))
def K_follow_L9 (rec_2 : (Int32) → (Int32) → (Int32) → (Int32) → (Nat → Int32) → (Nat → Int32) → ((Int32) × (Int32) × (Nat → Int32) × (Nat → Int32))) (x188 : Int32) (v201 : Int32) (r205 : Int32) (fr_199 : Nat → Int32) (fg_200 : Nat → Int32) (v203 : Int32) : Nat → (Int32) → (Int32) → (Int32) × (Int32) × (Nat → Int32) × (Nat → Int32)
  | 0, _, _ => (0, 0, fun _ => 0, fun _ => 0)
  | n9 + 1, x239, x240 => (K_follow_9 x239 rec_2 x188 v201 x240 r205 fr_199 fg_200 v203 (K_follow_L9 rec_2 x188 v201 r205 fr_199 fg_200 v203 n9))
def K_follow_8 (rec_2 : (Int32) → (Int32) → (Int32) → (Int32) → (Nat → Int32) → (Nat → Int32) → ((Int32) × (Int32) × (Nat → Int32) × (Nat → Int32))) (x188 : Int32) (v201 : Int32) (r205 : Int32) (fr_199 : Nat → Int32) (fg_200 : Nat → Int32) (v203 : Int32) (x190 : Int32) : (Int32) × (Int32) × (Nat → Int32) × (Nat → Int32) := (K_follow_L9 rec_2 x188 v201 r205 fr_199 fg_200 v203 100000 (0 : Int32) x190)
def K_follow_6 (rec_2 : (Int32) → (Int32) → (Int32) → (Int32) → (Nat → Int32) → (Nat → Int32) → ((Int32) × (Int32) × (Nat → Int32) × (Nat → Int32))) (x188 : Int32) (v201 : Int32) (fr_199 : Nat → Int32) (fg_200 : Nat → Int32) (v203 : Int32) (x190 : Int32) : (Int32) × (Int32) × (Nat → Int32) × (Nat → Int32) := ((fun t9 => (K_follow_8 rec_2 x188 v201 t9 fr_199 fg_200 v203 x190)) (M_soonest v203 fg_200))
def K_follow_5 (x189 : Int32) (r198 : Int32) (x190 : Int32) (x191 : Int32) (fr_199 : Nat → Int32) (fg_200 : Nat → Int32) (rec_2 : (Int32) → (Int32) → (Int32) → (Int32) → (Nat → Int32) → (Nat → Int32) → ((Int32) × (Int32) × (Nat → Int32) × (Nat → Int32))) (x188 : Int32) : (Int32) × (Int32) × (Nat → Int32) × (Nat → Int32) := (if ((x189 ||| r198) &&& (x190 ^^^ (-1 : Int32))).toInt = 0 then (K_follow_7 x190 x191 fr_199 fg_200) else (K_follow_6 rec_2 x188 (x189 ||| r198) fr_199 fg_200 ((x189 ||| r198) &&& (x190 ^^^ (-1 : Int32))) x190))
def K_follow_4 (x189 : Int32) (x190 : Int32) (x191 : Int32) (rec_2 : (Int32) → (Int32) → (Int32) → (Int32) → (Nat → Int32) → (Nat → Int32) → ((Int32) × (Int32) × (Nat → Int32) × (Nat → Int32))) (x188 : Int32) (rails : Int32) (s0 : Int32) (fw : Nat → Int32) (ft : Nat → Int32) (pt : Nat → Int64) (f192 : Nat → Int32) (f193 : Nat → Int32) : (Int32) × (Int32) × (Nat → Int32) × (Nat → Int32) := ((fun t9 => (K_follow_5 x189 t9.1 x190 x191 t9.2.1 t9.2.2 rec_2 x188)) (M_begin rails (s0 &&& (x189 ^^^ (-1 : Int32))) x191 fw ft pt x190 f192 f193))
def K_follow_2 (x188 : Int32) (x190 : Int32) (x191 : Int32) (f192 : Nat → Int32) (f193 : Nat → Int32) (x189 : Int32) (rec_2 : (Int32) → (Int32) → (Int32) → (Int32) → (Nat → Int32) → (Nat → Int32) → ((Int32) × (Int32) × (Nat → Int32) × (Nat → Int32))) (rails : Int32) (s0 : Int32) (fw : Nat → Int32) (ft : Nat → Int32) (pt : Nat → Int64) : (Int32) × (Int32) × (Nat → Int32) × (Nat → Int32) := (if 8 < x188.toInt then (K_follow_3 x190 x191 f192 f193) else (K_follow_4 x189 x190 x191 rec_2 x188 rails s0 fw ft pt f192 f193))
def K_follow_L2 (rails : Int32) (s0 : Int32) (fw : Nat → Int32) (ft : Nat → Int32) (pt : Nat → Int64) : Nat → (Int32) → (Int32) → (Int32) → (Int32) → (Nat → Int32) → (Nat → Int32) → (Int32) × (Int32) × (Nat → Int32) × (Nat → Int32)
  | 0, _, _, _, _, _, _ => (0, 0, fun _ => 0, fun _ => 0)
  | n9 + 1, x188, x189, x190, x191, f192, f193 => (K_follow_2 x188 x190 x191 f192 f193 x189 (K_follow_L2 rails s0 fw ft pt n9) rails s0 fw ft pt)
def K_follow_1 (rails : Int32) (s0 : Int32) (fw : Nat → Int32) (ft : Nat → Int32) (pt : Nat → Int64) (fr : Nat → Int32) (fg : Nat → Int32) : (Int32) × (Int32) × (Nat → Int32) × (Nat → Int32) := (K_follow_L2 rails s0 fw ft pt 100000 (0 : Int32) (0 : Int32) (0 : Int32) (0 : Int32) fr fg)
def M_follow (rails : Int32) (s0 : Int32) (fw : Nat → Int32) (ft : Nat → Int32) (pt : Nat → Int64) (fr : Nat → Int32) (fg : Nat → Int32) : (Int32) × (Int32) × (Nat → Int32) × (Nat → Int32) := (K_follow_1 rails s0 fw ft pt fr fg)
abbrev W_follow (cI cJ cZ cG cH : ClassId) (co : Nat) (pl : Nat) (s0 : Int32) (fwa : Nat) (fta : Nat) (fra : Nat) (fga : Nat) (cxa : Nat) (cup : Int32) (clast : Int32) (cpeak : Int32) (cptick : Int32) (fw : Nat → Int32) (ft : Nat → Int32) (fr : Nat → Int32) (fg : Nat → Int32) (pna : Nat) (pta : Nat) (rails : Int32) (limit : Int32) (retry : Int32) (behind : Int32) (pt : Nat → Int64) : va_W := [oX0 co fwa fta fra fga cxa cup clast cpeak cptick, oAI fwa cI 8 fw, oAI fta cI 8 ft, oAI fra cI 8 fr, oAI fga cI 8 fg, oX3 pl pna pta rails limit retry behind, oAJ pta cJ 64 pt]
abbrev Q_follow (D : va_G) (cI cJ cZ cG cH : ClassId) (co : Nat) (pl : Nat) (s0 : Int32) (fwa : Nat) (fta : Nat) (fra : Nat) (fga : Nat) (cxa : Nat) (cup : Int32) (clast : Int32) (cpeak : Int32) (cptick : Int32) (fw : Nat → Int32) (ft : Nat → Int32) (fr : Nat → Int32) (fg : Nat → Int32) (pna : Nat) (pta : Nat) (rails : Int32) (limit : Int32) (retry : Int32) (behind : Int32) (pt : Nat → Int64) (A : Nat → Prop) : Array Value → State → Outcome → State → Prop := va_Qv (fun (_ : Unit) => True) (fun _ t => ∃ (cup9 : Int32) (clast9 : Int32) (fr9 : Nat → Int32) (fg9 : Nat → Int32), (0 ≤ cup9.toInt ∧ cup9.toInt ≤ 255) ∧ (0 ≤ clast9.toInt ∧ clast9.toInt ≤ 144) ∧ (∀ j, j < 8 → 0 ≤ (fr9 j).toInt ∧ (fr9 j).toInt ≤ 655) ∧ (∀ j, j < 8 → 0 ≤ (fg9 j).toInt ∧ (fg9 j).toInt ≤ 1166) ∧ (M_follow rails s0 fw ft pt fr fg = (cup9, clast9, fr9, fg9)) ∧ (∀ j, j < 8 → (fr9 j).toInt ≤ (fg9 j).toInt) ∧ xB D (tyL cI cJ cZ cG cH) [oX0 co fwa fta fra fga cxa cup9 clast9 cpeak cptick, oAI fwa cI 8 fw, oAI fta cI 8 ft, oAI fra cI 8 fr9, oAI fga cI 8 fg9, oX3 pl pna pta rails limit retry behind, oAJ pta cJ 64 pt] A t) A
abbrev rm_follow : Room := { frames := 2, cells := 0, slots := 0, locals := 46 }
set_option maxRecDepth 100000 in
set_option maxHeartbeats 40000000 in
theorem c_follow (l : Launch) (D : va_G) (cI cJ cZ cG cH : ClassId) (sz : Nat) (co : Nat) (pl : Nat) (s0 : Int32) (fwa : Nat) (fta : Nat) (fra : Nat) (fga : Nat) (cxa : Nat) (cup : Int32) (clast : Int32) (cpeak : Int32) (cptick : Int32) (fw : Nat → Int32) (ft : Nat → Int32) (fr : Nat → Int32) (fg : Nat → Int32) (pna : Nat) (pta : Nat) (rails : Int32) (limit : Int32) (retry : Int32) (behind : Int32) (pt : Nat → Int64) (h_clast : 0 ≤ clast.toInt ∧ clast.toInt ≤ 144) (h_fw : ∀ j, j < 8 → 0 ≤ (fw j).toInt ∧ (fw j).toInt ≤ 511) (h_ft : ∀ j, j < 8 → 0 ≤ (ft j).toInt ∧ (ft j).toInt ≤ 511) (h_fr : ∀ j, j < 8 → 0 ≤ (fr j).toInt ∧ (fr j).toInt ≤ 655) (h_fg : ∀ j, j < 8 → 0 ≤ (fg j).toInt ∧ (fg j).toInt ≤ 1166) (h_rails : 0 ≤ rails.toInt ∧ rails.toInt ≤ 8) (h_le : ∀ j, j < 8 → (fr j).toInt ≤ (fg j).toInt) : Met l yX0_follow (wt yX0_follow cX0_follow 7 none) rm_follow (xPc [.ref co, .ref pl, .int s0] D (tyL cI cJ cZ cG cH) (W_follow cI cJ cZ cG cH co pl s0 fwa fta fra fga cxa cup clast cpeak cptick fw ft fr fg pna pta rails limit retry behind pt) sz) (Q_follow D cI cJ cZ cG cH co pl s0 fwa fta fra fga cxa cup clast cpeak cptick fw ft fr fg pna pta rails limit retry behind pt (va_A (W_follow cI cJ cZ cG cH co pl s0 fwa fta fra fga cxa cup clast cpeak cptick fw ft fr fg pna pta rails limit retry behind pt) sz)) 0 0 (va_A (W_follow cI cJ cZ cG cH co pl s0 fwa fta fra fga cxa cup clast cpeak cptick fw ft fr fg pna pta rails limit retry behind pt) sz) := by
  refine xMet (cc := cX0_follow) (maxL := 7) (ret := none) (Qf := Q_follow D cI cJ cZ cG cH co pl s0 fwa fta fra fga cxa cup clast cpeak cptick fw ft fr fg pna pta rails limit retry behind pt) (by decide) rfl (Nat.le_of_ble_eq_true rfl) ?_
  intro p e s m below meth c ls A hx hb hr hml hts hown hlocks hnm hsz hP hK hD hA hS hl
  have hown : s.vm.findClass RX0 = some m.cls := hown
  have hP : va_P D vwCl [oX0 co fwa fta fra fga cxa cup clast cpeak cptick, oAI fwa cI 8 fw, oAI fta cI 8 ft, oAI fra cI 8 fr, oAI fga cI 8 fg, oX3 pl pna pta rails limit retry behind, oAJ pta cJ 64 pt] s.heap := hP
  have hD : va_D A [oX0 co fwa fta fra fga cxa cup clast cpeak cptick, oAI fwa cI 8 fw, oAI fta cI 8 ft, oAI fra cI 8 fr, oAI fga cI 8 fg, oX3 pl pna pta rails limit retry behind, oAJ pta cJ 64 pt] := hD
  have hl : lv_has ls 7 [(0, .ref co), (1, .ref pl), (2, .int s0)] := hl
  have hM : M_follow rails s0 fw ft pt fr fg = (K_follow_1 rails s0 fw ft pt fr fg) := rfl
  refine lv_iconst (v := 0) hx hb dX0_follow_0 (by decide) ?_
  refine lv_istore_n (lv' := [(3, .int 0), (0, .ref co), (1, .ref pl), (2, .int s0)]) hx hb dX0_follow_1 rfl hl (by decide) rfl (fun ls hl => ?_)
  refine lv_aload_n hx hb dX0_follow_2 rfl (lv_at hl 1 rfl) ?_
  refine lv_iconst (v := 0) hx hb dX0_follow_3 (by decide) ?_
  refine va_put (D := D) (ci := 0) (v := .int 0) (ty := .int) (C := RX0) (T := TX0) (N := 9) hx hb hts (fun w h => tbC w (tbfX0 w h)) tyX0 tyX0_ok nmX0 hown hK hP hD hS 0 rfl rfl 5 (by decide) (hts (.fieldLink RX0 43 "PowerRails$Course" "up" "I") (tbC _ wd148)) (fun _ h9 => h9) rfl (by decide +kernel) rfl rfl (Nat.le_of_ble_eq_true rfl) dX0_follow_4 (fun H locs hP hD hS => ?_)
  obtain ⟨hP, hD⟩ : xPD D A [oX0 co fwa fta fra fga cxa 0 clast cpeak cptick, oAI fwa cI 8 fw, oAI fta cI 8 ft, oAI fra cI 8 fr, oAI fga cI 8 fg, oX3 pl pna pta rails limit retry behind, oAJ pta cJ 64 pt] H := ⟨hP, hD⟩
  refine lv_aload_n hx hb dX0_follow_7 rfl (lv_at hl 1 rfl) ?_
  refine lv_iconst (v := 0) hx hb dX0_follow_8 (by decide) ?_
  refine va_put (D := D) (ci := 0) (v := .int 0) (ty := .int) (C := RX0) (T := TX0) (N := 9) hx hb hts (fun w h => tbC w (tbfX0 w h)) tyX0 tyX0_ok nmX0 hown hK hP hD hS 0 rfl rfl 6 (by decide) (hts (.fieldLink RX0 46 "PowerRails$Course" "last" "I") (tbC _ wd150)) (fun _ h9 => h9) rfl (by decide +kernel) rfl rfl (Nat.le_of_ble_eq_true rfl) dX0_follow_9 (fun H locs hP hD hS => ?_)
  obtain ⟨hP, hD⟩ : xPD D A [oX0 co fwa fta fra fga cxa 0 0 cpeak cptick, oAI fwa cI 8 fw, oAI fta cI 8 ft, oAI fra cI 8 fr, oAI fga cI 8 fg, oX3 pl pna pta rails limit retry behind, oAJ pta cJ 64 pt] H := ⟨hP, hD⟩
  refine lv_iconst (v := 0) hx hb dX0_follow_12 (by decide) ?_
  refine lv_istore (lv' := [(4, .int 0), (3, .int 0), (0, .ref co), (1, .ref pl), (2, .int s0)]) hx hb dX0_follow_13 hl (by decide) rfl (fun ls hl => ?_)
  have hl194 : ∀ (nhl194 : Nat) (x188 : Int32) (x189 : Int32) (x190 : Int32) (x191 : Int32) (f192 : Nat → Int32) (f193 : Nat → Int32), ((9 - x188.toInt).toNat < nhl194) → (hx188 : 0 ≤ x188.toInt ∧ x188.toInt ≤ 9) → (hx189 : 0 ≤ x189.toInt ∧ x189.toInt ≤ 255) → (hx190 : 0 ≤ x190.toInt ∧ x190.toInt ≤ 255) → (hx191 : 0 ≤ x191.toInt ∧ x191.toInt ≤ 144) → (hf192 : ∀ j, j < 8 → 0 ≤ (f192 j).toInt ∧ (f192 j).toInt ≤ 655) → (hf193 : ∀ j, j < 8 → 0 ≤ (f193 j).toInt ∧ (f193 j).toInt ≤ 1166) → (hle_f192_f193 : ∀ j, j < 8 → (f192 j).toInt ≤ (f193 j).toInt) → (hM : M_follow rails s0 fw ft pt fr fg = (K_follow_L2 rails s0 fw ft pt nhl194 x188 x189 x190 x191 f192 f193)) → ∀ (H : Heap) (locs : List Loc), va_P D vwCl [oX0 co fwa fta fra fga cxa x190 x191 cpeak cptick, oAI fwa cI 8 fw, oAI fta cI 8 ft, oAI fra cI 8 f192, oAI fga cI 8 f193, oX3 pl pna pta rails limit retry behind, oAJ pta cJ 64 pt] H → va_D A [oX0 co fwa fta fra fga cxa x190 x191 cpeak cptick, oAI fwa cI 8 fw, oAI fta cI 8 ft, oAI fra cI 8 f192, oAI fga cI 8 f193, oX3 pl pna pta rails limit retry behind, oAJ pta cJ 64 pt] → va_S A s.heap H locs → ∀ (ls : Array Slot), lv_has ls 7 [(4, .int x188), (3, .int x189), (0, .ref co), (1, .ref pl), (2, .int s0)] → W p l e rm_follow s m [Value.ref co, Value.ref pl, Value.int s0].toArray below meth c H locs 0 0 (MQ below ((Q_follow D cI cJ cZ cG cH co pl s0 fwa fta fra fga cxa cup clast cpeak cptick fw ft fr fg pna pta rails limit retry behind pt) A) [Value.ref co, Value.ref pl, Value.int s0].toArray s 0 0 A) (F0 m 15 ls []) := by
    intro nhl194
    induction nhl194 with
    | zero =>
      intro x188 x189 x190 x191 f192 f193 hmhl194
      exact absurd hmhl194 (Nat.not_lt_zero _)
    | succ nhl194 ihhl194 =>
      intro x188 x189 x190 x191 f192 f193 hmhl194 hx188 hx189 hx190 hx191 hf192 hf193 hle_f192_f193 hM H locs hP hD hS ls hl
      have hM : M_follow rails s0 fw ft pt fr fg = (K_follow_2 x188 x190 x191 f192 f193 x189 (K_follow_L2 rails s0 fw ft pt nhl194) rails s0 fw ft pt) := hM
      refine lv_iload hx hb dX0_follow_15 (lv_at hl 0 rfl) ?_
      refine lv_bipush (v := 8) hx hb dX0_follow_17 (by decide) ?_
      refine lv_icmp_gt (tgt := 121) hx hb dX0_follow_19 (by decide) (fun c_195 => ?_) (fun c_195 => ?_)
      · skip
        have i_195 : 8 < x188.toInt := (ilt (by decide) rfl).mp c_195
        have hM : M_follow rails s0 fw ft pt fr fg = (K_follow_3 x190 x191 f192 f193) := (show M_follow rails s0 fw ft pt fr fg = (if 8 < x188.toInt then (K_follow_3 x190 x191 f192 f193) else (K_follow_4 x189 x190 x191 (K_follow_L2 rails s0 fw ft pt nhl194) x188 rails s0 fw ft pt f192 f193)) from hM).trans (if_pos i_195)
        refine W.widen (k := 0) (n := 0) (by decide) (by decide) ?_
        exact W.vret hx hb hr (fun t ht hW => ⟨⟨(), rfl, trivial, ⟨x190, x191, f192, f193, (xrng rfl (by omega) (by omega)), (xrng rfl (by omega) (by omega)), (xwk_rng hf192 (by decide) (by decide)), (xwk_rng hf193 (by decide) (by decide)), hM, hle_f192_f193, xB_of9 ht hW hP hK hD [0, 1, 2, 3, 4, 5, 6] (by decide +kernel) rfl⟩⟩, hS.F ht⟩) hS.2.2 dX0_follow_121
      · skip
        have i_195 : ¬ (8 < x188.toInt) := fun h9 => c_195 ((ilt (by decide) rfl).mpr h9)
        have hM : M_follow rails s0 fw ft pt fr fg = (K_follow_4 x189 x190 x191 (K_follow_L2 rails s0 fw ft pt nhl194) x188 rails s0 fw ft pt f192 f193) := (show M_follow rails s0 fw ft pt fr fg = (if 8 < x188.toInt then (K_follow_3 x190 x191 f192 f193) else (K_follow_4 x189 x190 x191 (K_follow_L2 rails s0 fw ft pt nhl194) x188 rails s0 fw ft pt f192 f193)) from hM).trans (if_neg i_195)
        refine lv_iload_n hx hb dX0_follow_22 rfl (lv_at hl 1 rfl) ?_
        refine lv_aload_n hx hb dX0_follow_23 rfl (lv_at hl 2 rfl) ?_
        refine lv_aload_n hx hb dX0_follow_24 rfl (lv_at hl 3 rfl) ?_
        refine lv_iload_n hx hb dX0_follow_25 rfl (lv_at hl 4 rfl) ?_
        refine lv_iload_n hx hb dX0_follow_26 rfl (lv_at hl 1 rfl) ?_
        refine lv_iconst (v := (-1)) hx hb dX0_follow_27 (by decide) ?_
        refine lv_ixor hx hb dX0_follow_28 ?_
        refine lv_topi (fun v196 ev196 => ?_)
        refine lv_iand hx hb dX0_follow_29 ?_
        refine lv_topi (fun v197 ev197 => ?_)
        obtain ⟨hPc, hDc, hFc, hC9⟩ := xpk (wc := W_begin cI cJ cZ cG cH co pl v197 fwa fta fra fga cxa x190 x191 cpeak cptick fw ft f192 f193 pna pta rails limit retry behind pt) hP hD hS hA [0, 1, 2, 3, 4, 5, 6] (by decide +kernel) rfl
        refine va_calli (va_runV (As := [.ref pl, .int v197]) (rest := [.int x189]) ⟨hx, hb, hml, hown, hts⟩ (c_begin l D cI cJ cZ cG cH H.size co pl v197 fwa fta fra fga cxa x190 x191 cpeak cptick fw ft f192 f193 pna pta rails limit retry behind pt (xrng rfl (by omega) (by omega)) (xwk_rng h_fw (by decide) (by decide)) (xwk_rng h_ft (by decide) (by decide)) (xwk_rng hf192 (by decide) (by decide)) (xwk_rng hf193 (by decide) (by decide)) (xrng rfl (by omega) (by omega)) hle_f192_f193) (cwV 2 hts (xGV tbC wd528 wd529 wd530 wd54 wd1048) rfl rfl rfl (by decide +kernel) ⟨Nat.le_of_ble_eq_true rfl, Nat.le_of_ble_eq_true rfl⟩) ⟨xPc_blind, va_recv hK hPc (ci := 0) (q0 := 0) rfl rfl, xPc_pre hPc hK hDc⟩ rfl rfl hl.1 rfl (lv_room (Nat.le_of_ble_eq_true rfl)) dX0_follow_30 ⟨Nat.le_of_ble_eq_true rfl, Nat.le_of_ble_eq_true rfl⟩) hS (fun q _ h => hFc q h) hFc (fun r198 u t H1 locs ht hvm hw198 hB hz1 hk1 hS => ?_)
        obtain ⟨hru9, hw198⟩ := hw198
        subst hru9
        obtain ⟨fr_199, fg_200, hf200_0, hf200_1, hf200_2, hf200_3, hP1, hK1, hD1⟩ := hB
        rw [ht] at hP1
        obtain ⟨hP, hD⟩ : xPD D A [oX0 co fwa fta fra fga cxa x190 x191 cpeak cptick, oAI fwa cI 8 fw, oAI fta cI 8 ft, oAI fra cI 8 fr_199, oAI fga cI 8 fg_200, oX3 pl pna pta rails limit retry behind, oAJ pta cJ 64 pt] H1 := xjn 0 hP hD [0, 1, 2, 3, 4, 5, 6] [] hC9 rfl (by decide +kernel) (by decide +kernel) hk1 hFc hP1 hD1
        generalize H1 = H at hP hS ⊢
        have hf200_0 : ∀ j, j < 8 → 0 ≤ (fr_199 j).toInt ∧ (fr_199 j).toInt ≤ 655 := hf200_0
        have hf200_1 : ∀ j, j < 8 → 0 ≤ (fg_200 j).toInt ∧ (fg_200 j).toInt ≤ 1166 := hf200_1
        have hf200_2 : M_begin rails v197 x191 fw ft pt x190 f192 f193 = (r198, fr_199, fg_200) := hf200_2
        have hf200_3 : ∀ j, j < 8 → (fr_199 j).toInt ≤ (fg_200 j).toInt := hf200_3
        have hw198 : 0 ≤ r198.toInt ∧ r198.toInt ≤ 255 := hw198
        have h9M := congrArg (fun t9 => (K_follow_5 x189 t9.1 x190 x191 t9.2.1 t9.2.2 (K_follow_L2 rails s0 fw ft pt nhl194) x188)) hf200_2
        have hM : M_follow rails s0 fw ft pt fr fg = (K_follow_5 x189 r198 x190 x191 fr_199 fg_200 (K_follow_L2 rails s0 fw ft pt nhl194) x188) := (show M_follow rails s0 fw ft pt fr fg = ((fun t9 => (K_follow_5 x189 t9.1 x190 x191 t9.2.1 t9.2.2 (K_follow_L2 rails s0 fw ft pt nhl194) x188)) (M_begin rails v197 x191 fw ft pt x190 f192 f193)) from (by rw [ev197, ev196]; exact hM)).trans h9M
        refine lv_ior hx hb dX0_follow_33 ?_
        refine lv_topi (fun v201 ev201 => ?_)
        have rv201 : 0 ≤ v201.toInt ∧ v201.toInt ≤ 255 := xorL 8 ev201 (show (x189 : Int32).toInt = x189.toInt from rfl) (show (r198 : Int32).toInt = r198.toInt from rfl) (by decide) (by decide) (by omega) (by omega) (by omega) (by omega)
        refine lv_istore_n (lv' := [(3, .int v201), (4, .int x188), (0, .ref co), (1, .ref pl), (2, .int s0)]) hx hb dX0_follow_34 rfl hl (by decide) rfl (fun ls hl => ?_)
        refine lv_iload_n hx hb dX0_follow_35 rfl (lv_at hl 0 rfl) ?_
        refine lv_aload_n hx hb dX0_follow_36 rfl (lv_at hl 2 rfl) ?_
        refine va_get (D := D) (ci := 0) (v := .int x190) (C := RX0) (T := TX0) (N := 9) hx hb hts (fun w h => tbC w (tbfX0 w h)) hown hK hP 0 rfl rfl 5 (by decide) (hts (.fieldLink RX0 43 "PowerRails$Course" "up" "I") (tbC _ wd148)) (fun _ h9 => h9) rfl dX0_follow_37 ?_
        refine lv_iconst (v := (-1)) hx hb dX0_follow_40 (by decide) ?_
        refine lv_ixor hx hb dX0_follow_41 ?_
        refine lv_topi (fun v202 ev202 => ?_)
        refine lv_iand hx hb dX0_follow_42 ?_
        refine lv_topi (fun v203 ev203 => ?_)
        have rv203 : 0 ≤ v203.toInt ∧ v203.toInt ≤ v201.toInt := xandL' ev203 (show (v201 : Int32).toInt = v201.toInt from rfl) (by omega)
        refine lv_istore (lv' := [(5, .int v203), (3, .int v201), (4, .int x188), (0, .ref co), (1, .ref pl), (2, .int s0)]) hx hb dX0_follow_43 hl (by decide) rfl (fun ls hl => ?_)
        refine lv_iload hx hb dX0_follow_45 (lv_at hl 0 rfl) ?_
        refine lv_if_ne (tgt := 51) hx hb dX0_follow_47 (by decide) (fun c_204 => ?_) (fun c_204 => ?_)
        · skip
          have i_204 : ¬ (v203.toInt = 0) := fun h9 => c_204 ((ieq rfl (by decide)).mpr h9)
          have hM : M_follow rails s0 fw ft pt fr fg = (K_follow_6 (K_follow_L2 rails s0 fw ft pt nhl194) x188 v201 fr_199 fg_200 v203 x190) := (show M_follow rails s0 fw ft pt fr fg = (if v203.toInt = 0 then (K_follow_7 x190 x191 fr_199 fg_200) else (K_follow_6 (K_follow_L2 rails s0 fw ft pt nhl194) x188 v201 fr_199 fg_200 v203 x190)) from (by rw [ev203, ev202, ev201]; exact hM)).trans (if_neg i_204)
          refine lv_aload_n hx hb dX0_follow_51 rfl (lv_at hl 3 rfl) ?_
          refine lv_aload_n hx hb dX0_follow_52 rfl (lv_at hl 3 rfl) ?_
          refine lv_iload hx hb dX0_follow_53 (lv_at hl 0 rfl) ?_
          obtain ⟨hPc, hDc, hFc, hC9⟩ := xpk (wc := W_soonest cI cJ cZ cG cH co v203 fwa fta fra fga cxa x190 x191 cpeak cptick fg_200) hP hD hS hA [0, 4] (by decide +kernel) rfl
          refine va_calli (va_runV (As := [.int v203]) (rest := [.ref co]) ⟨hx, hb, hml, hown, hts⟩ (c_soonest l D cI cJ cZ cG cH H.size co v203 fwa fta fra fga cxa x190 x191 cpeak cptick fg_200 (xrng rfl (by omega) (by omega)) (xwk_rng hf200_1 (by decide) (by decide))) (cwV 1 hts (xGV tbC wd532 wd533 wd534 wd54 wd1049) rfl rfl rfl (by decide +kernel) ⟨Nat.le_of_ble_eq_true rfl, Nat.le_of_ble_eq_true rfl⟩) ⟨xPc_blind, va_recv hK hPc (ci := 0) (q0 := 0) rfl rfl, xPc_pre hPc hK hDc⟩ rfl rfl hl.1 rfl (lv_room (Nat.le_of_ble_eq_true rfl)) dX0_follow_55 ⟨Nat.le_of_ble_eq_true rfl, Nat.le_of_ble_eq_true rfl⟩) hS (fun q _ h => hFc q h) hFc (fun r205 u t H1 locs ht hvm hw205 hB hz1 hk1 hS => ?_)
          obtain ⟨hru9, hw205⟩ := hw205
          subst hru9
          obtain ⟨hf205_0, hP1, hK1, hD1⟩ := hB
          rw [ht] at hP1
          obtain ⟨hP, hD⟩ : xPD D A [oAI fwa cI 8 fw, oAI fta cI 8 ft, oAI fra cI 8 fr_199, oX3 pl pna pta rails limit retry behind, oAJ pta cJ 64 pt, oX0 co fwa fta fra fga cxa x190 x191 cpeak cptick, oAI fga cI 8 fg_200] H1 := xjn 5 hP hD [0, 4] [1, 2, 3, 5, 6] hC9 rfl (by decide +kernel) (by decide +kernel) hk1 hFc hP1 hD1
          generalize H1 = H at hP hS ⊢
          have hf205_0 : M_soonest v203 fg_200 = (r205) := hf205_0
          have hw205 : 0 ≤ r205.toInt ∧ r205.toInt ≤ 144 := hw205
          have h9M := congrArg (fun t9 => (K_follow_8 (K_follow_L2 rails s0 fw ft pt nhl194) x188 v201 t9 fr_199 fg_200 v203 x190)) hf205_0
          have hM : M_follow rails s0 fw ft pt fr fg = (K_follow_8 (K_follow_L2 rails s0 fw ft pt nhl194) x188 v201 r205 fr_199 fg_200 v203 x190) := (show M_follow rails s0 fw ft pt fr fg = ((fun t9 => (K_follow_8 (K_follow_L2 rails s0 fw ft pt nhl194) x188 v201 t9 fr_199 fg_200 v203 x190)) (M_soonest v203 fg_200)) from hM).trans h9M
          refine va_put (D := D) (ci := 0) (v := .int r205) (ty := .int) (C := RX0) (T := TX0) (N := 9) hx hb hts (fun w h => tbC w (tbfX0 w h)) tyX0 tyX0_ok nmX0 hown hK hP hD hS 5 rfl rfl 6 (by decide) (hts (.fieldLink RX0 46 "PowerRails$Course" "last" "I") (tbC _ wd150)) (fun _ h9 => h9) rfl (by decide +kernel) rfl rfl (Nat.le_of_ble_eq_true rfl) dX0_follow_58 (fun H locs hP hD hS => ?_)
          obtain ⟨hP, hD⟩ : xPD D A [oAI fwa cI 8 fw, oAI fta cI 8 ft, oAI fra cI 8 fr_199, oX3 pl pna pta rails limit retry behind, oAJ pta cJ 64 pt, oX0 co fwa fta fra fga cxa x190 r205 cpeak cptick, oAI fga cI 8 fg_200] H := ⟨hP, hD⟩
          refine lv_iconst (v := 0) hx hb dX0_follow_61 (by decide) ?_
          refine lv_istore (lv' := [(6, .int 0), (5, .int v203), (3, .int v201), (4, .int x188), (0, .ref co), (1, .ref pl), (2, .int s0)]) hx hb dX0_follow_62 hl (by decide) rfl (fun ls hl => ?_)
          have hl241 : ∀ (nhl241 : Nat) (x239 : Int32) (x240 : Int32), ((8 - x239.toInt).toNat < nhl241) → (hx239 : 0 ≤ x239.toInt ∧ x239.toInt ≤ 8) → (hx240 : 0 ≤ x240.toInt ∧ x240.toInt ≤ 255) → (hM : M_follow rails s0 fw ft pt fr fg = (K_follow_L9 (K_follow_L2 rails s0 fw ft pt nhl194) x188 v201 r205 fr_199 fg_200 v203 nhl241 x239 x240)) → ∀ (H : Heap) (locs : List Loc), va_P D vwCl [oAI fwa cI 8 fw, oAI fta cI 8 ft, oAI fra cI 8 fr_199, oX3 pl pna pta rails limit retry behind, oAJ pta cJ 64 pt, oX0 co fwa fta fra fga cxa x240 r205 cpeak cptick, oAI fga cI 8 fg_200] H → va_D A [oAI fwa cI 8 fw, oAI fta cI 8 ft, oAI fra cI 8 fr_199, oX3 pl pna pta rails limit retry behind, oAJ pta cJ 64 pt, oX0 co fwa fta fra fga cxa x240 r205 cpeak cptick, oAI fga cI 8 fg_200] → va_S A s.heap H locs → ∀ (ls : Array Slot), lv_has ls 7 [(6, .int x239), (5, .int v203), (3, .int v201), (4, .int x188), (0, .ref co), (1, .ref pl), (2, .int s0)] → W p l e rm_follow s m [Value.ref co, Value.ref pl, Value.int s0].toArray below meth c H locs 0 0 (MQ below ((Q_follow D cI cJ cZ cG cH co pl s0 fwa fta fra fga cxa cup clast cpeak cptick fw ft fr fg pna pta rails limit retry behind pt) A) [Value.ref co, Value.ref pl, Value.int s0].toArray s 0 0 A) (F0 m 64 ls []) := by
            intro nhl241
            induction nhl241 with
            | zero =>
              intro x239 x240 hmhl241
              exact absurd hmhl241 (Nat.not_lt_zero _)
            | succ nhl241 ihhl241 =>
              intro x239 x240 hmhl241 hx239 hx240 hM H locs hP hD hS ls hl
              have hM : M_follow rails s0 fw ft pt fr fg = (K_follow_9 x239 (K_follow_L2 rails s0 fw ft pt nhl194) x188 v201 x240 r205 fr_199 fg_200 v203 (K_follow_L9 (K_follow_L2 rails s0 fw ft pt nhl194) x188 v201 r205 fr_199 fg_200 v203 nhl241)) := hM
              refine lv_iload hx hb dX0_follow_64 (lv_at hl 0 rfl) ?_
              refine lv_bipush (v := 8) hx hb dX0_follow_66 (by decide) ?_
              refine lv_icmp_ge (tgt := 115) hx hb dX0_follow_68 (by decide) (fun c_242 => ?_) (fun c_242 => ?_)
              · skip
                have i_242 : 8 ≤ x239.toInt := (ile (by decide) rfl).mp c_242
                have hM : M_follow rails s0 fw ft pt fr fg = (K_follow_10 (K_follow_L2 rails s0 fw ft pt nhl194) x188 v201 x240 r205 fr_199 fg_200) := (show M_follow rails s0 fw ft pt fr fg = (if 8 ≤ x239.toInt then (K_follow_10 (K_follow_L2 rails s0 fw ft pt nhl194) x188 v201 x240 r205 fr_199 fg_200) else (K_follow_11 v203 x239 fg_200 r205 (K_follow_L9 (K_follow_L2 rails s0 fw ft pt nhl194) x188 v201 r205 fr_199 fg_200 v203 nhl241) x240)) from hM).trans (if_pos i_242)
                obtain ⟨x243, ex243⟩ : ∃ y : Int32, y = x188 + 1 := ⟨_, rfl⟩
                have tx243 : x243.toInt = (x188.toInt + 1) := (congrArg Int32.toInt ex243).trans (xadd rfl (by decide) (by omega) (by omega))
                refine lv_iinc (v := x243) (lv' := [(4, .int x243), (6, .int x239), (5, .int v203), (3, .int v201), (0, .ref co), (1, .ref pl), (2, .int s0)]) hx hb dX0_follow_115 hl (k := 3) rfl (by rw [ex243]; rfl) (by decide) rfl (fun ls hl => ?_)
                refine lv_goto (tgt := 15) hx hb dX0_follow_118 (by decide) ?_
                obtain ⟨hP, hD⟩ := xsb (ws' := [oX0 co fwa fta fra fga cxa x240 r205 cpeak cptick, oAI fwa cI 8 fw, oAI fta cI 8 ft, oAI fra cI 8 fr_199, oAI fga cI 8 fg_200, oX3 pl pna pta rails limit retry behind, oAJ pta cJ 64 pt]) hP hD [5, 0, 1, 2, 6, 3, 4] (by decide +kernel) rfl
                exact ihhl194 x243 v201 x240 r205 fr_199 fg_200 (by omega) (xrng tx243 (by omega) (by omega)) (xrng rfl (by omega) (by omega)) (xrng rfl (by omega) (by omega)) (xrng rfl (by omega) (by omega)) (xwk_rng hf200_0 (by decide) (by decide)) (xwk_rng hf200_1 (by decide) (by decide)) hf200_3 (by rw [ex243]; exact hM) _ _ hP hD hS ls (lv_sub hl [0, 3, 4, 5, 6] rfl)
              · skip
                have i_242 : ¬ (8 ≤ x239.toInt) := fun h9 => c_242 ((ile (by decide) rfl).mpr h9)
                have hM : M_follow rails s0 fw ft pt fr fg = (K_follow_11 v203 x239 fg_200 r205 (K_follow_L9 (K_follow_L2 rails s0 fw ft pt nhl194) x188 v201 r205 fr_199 fg_200 v203 nhl241) x240) := (show M_follow rails s0 fw ft pt fr fg = (if 8 ≤ x239.toInt then (K_follow_10 (K_follow_L2 rails s0 fw ft pt nhl194) x188 v201 x240 r205 fr_199 fg_200) else (K_follow_11 v203 x239 fg_200 r205 (K_follow_L9 (K_follow_L2 rails s0 fw ft pt nhl194) x188 v201 r205 fr_199 fg_200 v203 nhl241) x240)) from hM).trans (if_neg i_242)
                refine lv_iload hx hb dX0_follow_71 (lv_at hl 1 rfl) ?_
                refine lv_iload hx hb dX0_follow_73 (lv_at hl 0 rfl) ?_
                refine lv_ishr hx hb dX0_follow_75 ?_
                refine lv_topi (fun v244 ev244 => ?_)
                refine lv_iconst (v := 1) hx hb dX0_follow_76 (by decide) ?_
                refine lv_iand hx hb dX0_follow_77 ?_
                refine lv_topi (fun v245 ev245 => ?_)
                have rv245 : 0 ≤ v245.toInt ∧ v245.toInt ≤ 1 := xandL ev245 (show (1 : Int32).toInt = 1 from (by decide)) (by omega)
                refine lv_iconst (v := 1) hx hb dX0_follow_78 (by decide) ?_
                refine lv_icmp_ne (tgt := 109) hx hb dX0_follow_79 (by decide) (fun c_246 => ?_) (fun c_246 => ?_)
                · skip
                  have i_246 : ¬ (v245.toInt = 1) := fun h9 => c_246 ((ieq rfl (by decide)).mpr h9)
                  have hM : M_follow rails s0 fw ft pt fr fg = (K_follow_12 (K_follow_L9 (K_follow_L2 rails s0 fw ft pt nhl194) x188 v201 r205 fr_199 fg_200 v203 nhl241) x239 x240) := (show M_follow rails s0 fw ft pt fr fg = (if v245.toInt = 1 then (K_follow_13 fg_200 x239 r205 (K_follow_L9 (K_follow_L2 rails s0 fw ft pt nhl194) x188 v201 r205 fr_199 fg_200 v203 nhl241) x240) else (K_follow_12 (K_follow_L9 (K_follow_L2 rails s0 fw ft pt nhl194) x188 v201 r205 fr_199 fg_200 v203 nhl241) x239 x240)) from (by rw [ev245, ev244]; exact hM)).trans (if_neg i_246)
                  obtain ⟨x247, ex247⟩ : ∃ y : Int32, y = x239 + 1 := ⟨_, rfl⟩
                  have tx247 : x247.toInt = (x239.toInt + 1) := (congrArg Int32.toInt ex247).trans (xadd rfl (by decide) (by omega) (by omega))
                  refine lv_iinc (v := x247) (lv' := [(6, .int x247), (5, .int v203), (3, .int v201), (4, .int x188), (0, .ref co), (1, .ref pl), (2, .int s0)]) hx hb dX0_follow_109 hl (k := 0) rfl (by rw [ex247]; rfl) (by decide) rfl (fun ls hl => ?_)
                  refine lv_goto (tgt := 64) hx hb dX0_follow_112 (by decide) ?_
                  exact ihhl241 x247 x240 (by omega) (xrng tx247 (by omega) (by omega)) (xrng rfl (by omega) (by omega)) (by rw [ex247]; exact hM) _ _ hP hD hS ls (lv_sub hl [0, 1, 2, 3, 4, 5, 6] rfl)
                · skip
                  have i_246 : v245.toInt = 1 := (ieq rfl (by decide)).mp c_246
                  have hM : M_follow rails s0 fw ft pt fr fg = (K_follow_13 fg_200 x239 r205 (K_follow_L9 (K_follow_L2 rails s0 fw ft pt nhl194) x188 v201 r205 fr_199 fg_200 v203 nhl241) x240) := (show M_follow rails s0 fw ft pt fr fg = (if v245.toInt = 1 then (K_follow_13 fg_200 x239 r205 (K_follow_L9 (K_follow_L2 rails s0 fw ft pt nhl194) x188 v201 r205 fr_199 fg_200 v203 nhl241) x240) else (K_follow_12 (K_follow_L9 (K_follow_L2 rails s0 fw ft pt nhl194) x188 v201 r205 fr_199 fg_200 v203 nhl241) x239 x240)) from (by rw [ev245, ev244]; exact hM)).trans (if_pos i_246)
                  refine lv_aload_n hx hb dX0_follow_82 rfl (lv_at hl 4 rfl) ?_
                  refine va_get (D := D) (ci := 0) (v := .ref fga) (C := RX0) (T := TX0) (N := 9) hx hb hts (fun w h => tbC w (tbfX0 w h)) hown hK hP 5 rfl rfl 3 (by decide) (hts (.fieldLink RX0 21 "PowerRails$Course" "goodAt" "[I") (tbC _ wd143)) (fun _ h9 => h9) rfl dX0_follow_83 ?_
                  refine lv_iload hx hb dX0_follow_86 (lv_at hl 0 rfl) ?_
                  refine va_iald hx hb hK hP 6 0 rfl rfl (vp_in_iff.mpr ⟨by omega, by omega⟩) dX0_follow_88 ?_
                  refine lv_topi (fun v248 ev248 => ?_)
                  have rv248 : 0 ≤ v248.toInt ∧ v248.toInt ≤ 1166 := xrd ev248 hf200_1 (xinK (vp_in_iff.mpr ⟨by omega, by omega⟩))
                  refine lv_aload_n hx hb dX0_follow_89 rfl (lv_at hl 4 rfl) ?_
                  refine va_get (D := D) (ci := 0) (v := .int r205) (C := RX0) (T := TX0) (N := 9) hx hb hts (fun w h => tbC w (tbfX0 w h)) hown hK hP 5 rfl rfl 6 (by decide) (hts (.fieldLink RX0 46 "PowerRails$Course" "last" "I") (tbC _ wd150)) (fun _ h9 => h9) rfl dX0_follow_90 ?_
                  refine lv_icmp_ne (tgt := 109) hx hb dX0_follow_93 (by decide) (fun c_249 => ?_) (fun c_249 => ?_)
                  · skip
                    have i_249 : ¬ (v248.toInt = r205.toInt) := fun h9 => c_249 ((ieq rfl rfl).mpr h9)
                    have hM : M_follow rails s0 fw ft pt fr fg = (K_follow_14 (K_follow_L9 (K_follow_L2 rails s0 fw ft pt nhl194) x188 v201 r205 fr_199 fg_200 v203 nhl241) x239 x240) := (show M_follow rails s0 fw ft pt fr fg = (if v248.toInt = r205.toInt then (K_follow_15 (K_follow_L9 (K_follow_L2 rails s0 fw ft pt nhl194) x188 v201 r205 fr_199 fg_200 v203 nhl241) x239 x240) else (K_follow_14 (K_follow_L9 (K_follow_L2 rails s0 fw ft pt nhl194) x188 v201 r205 fr_199 fg_200 v203 nhl241) x239 x240)) from (by rw [ev248]; exact hM)).trans (if_neg i_249)
                    obtain ⟨x250, ex250⟩ : ∃ y : Int32, y = x239 + 1 := ⟨_, rfl⟩
                    have tx250 : x250.toInt = (x239.toInt + 1) := (congrArg Int32.toInt ex250).trans (xadd rfl (by decide) (by omega) (by omega))
                    refine lv_iinc (v := x250) (lv' := [(6, .int x250), (5, .int v203), (3, .int v201), (4, .int x188), (0, .ref co), (1, .ref pl), (2, .int s0)]) hx hb dX0_follow_109 hl (k := 0) rfl (by rw [ex250]; rfl) (by decide) rfl (fun ls hl => ?_)
                    refine lv_goto (tgt := 64) hx hb dX0_follow_112 (by decide) ?_
                    exact ihhl241 x250 x240 (by omega) (xrng tx250 (by omega) (by omega)) (xrng rfl (by omega) (by omega)) (by rw [ex250]; exact hM) _ _ hP hD hS ls (lv_sub hl [0, 1, 2, 3, 4, 5, 6] rfl)
                  · skip
                    have i_249 : v248.toInt = r205.toInt := (ieq rfl rfl).mp c_249
                    have hM : M_follow rails s0 fw ft pt fr fg = (K_follow_15 (K_follow_L9 (K_follow_L2 rails s0 fw ft pt nhl194) x188 v201 r205 fr_199 fg_200 v203 nhl241) x239 x240) := (show M_follow rails s0 fw ft pt fr fg = (if v248.toInt = r205.toInt then (K_follow_15 (K_follow_L9 (K_follow_L2 rails s0 fw ft pt nhl194) x188 v201 r205 fr_199 fg_200 v203 nhl241) x239 x240) else (K_follow_14 (K_follow_L9 (K_follow_L2 rails s0 fw ft pt nhl194) x188 v201 r205 fr_199 fg_200 v203 nhl241) x239 x240)) from (by rw [ev248]; exact hM)).trans (if_pos i_249)
                    refine lv_aload_n hx hb dX0_follow_96 rfl (lv_at hl 4 rfl) ?_
                    refine lv_dup hx hb dX0_follow_97 rfl ?_
                    refine va_get (D := D) (ci := 0) (v := .int x240) (C := RX0) (T := TX0) (N := 9) hx hb hts (fun w h => tbC w (tbfX0 w h)) hown hK hP 5 rfl rfl 5 (by decide) (hts (.fieldLink RX0 43 "PowerRails$Course" "up" "I") (tbC _ wd148)) (fun _ h9 => h9) rfl dX0_follow_98 ?_
                    refine lv_iconst (v := 1) hx hb dX0_follow_101 (by decide) ?_
                    refine lv_iload hx hb dX0_follow_102 (lv_at hl 0 rfl) ?_
                    refine lv_ishl hx hb dX0_follow_104 ?_
                    refine lv_topi (fun v251 ev251 => ?_)
                    have rv251 : 1 ≤ v251.toInt ∧ v251.toInt ≤ 128 := xshl1 7 ev251 (show (x239 : Int32).toInt = x239.toInt from rfl) (by omega) (by omega) (by decide)
                    refine lv_ior hx hb dX0_follow_105 ?_
                    refine lv_topi (fun v252 ev252 => ?_)
                    have rv252 : 0 ≤ v252.toInt ∧ v252.toInt ≤ 255 := xorL 8 ev252 (show (x240 : Int32).toInt = x240.toInt from rfl) (show (v251 : Int32).toInt = v251.toInt from rfl) (by decide) (by decide) (by omega) (by omega) (by omega) (by omega)
                    refine va_put (D := D) (ci := 0) (v := .int v252) (ty := .int) (C := RX0) (T := TX0) (N := 9) hx hb hts (fun w h => tbC w (tbfX0 w h)) tyX0 tyX0_ok nmX0 hown hK hP hD hS 5 rfl rfl 5 (by decide) (hts (.fieldLink RX0 43 "PowerRails$Course" "up" "I") (tbC _ wd148)) (fun _ h9 => h9) rfl (by decide +kernel) rfl rfl (Nat.le_of_ble_eq_true rfl) dX0_follow_106 (fun H locs hP hD hS => ?_)
                    obtain ⟨hP, hD⟩ : xPD D A [oAI fwa cI 8 fw, oAI fta cI 8 ft, oAI fra cI 8 fr_199, oX3 pl pna pta rails limit retry behind, oAJ pta cJ 64 pt, oX0 co fwa fta fra fga cxa v252 r205 cpeak cptick, oAI fga cI 8 fg_200] H := ⟨hP, hD⟩
                    obtain ⟨x253, ex253⟩ : ∃ y : Int32, y = x239 + 1 := ⟨_, rfl⟩
                    have tx253 : x253.toInt = (x239.toInt + 1) := (congrArg Int32.toInt ex253).trans (xadd rfl (by decide) (by omega) (by omega))
                    refine lv_iinc (v := x253) (lv' := [(6, .int x253), (5, .int v203), (3, .int v201), (4, .int x188), (0, .ref co), (1, .ref pl), (2, .int s0)]) hx hb dX0_follow_109 hl (k := 0) rfl (by rw [ex253]; rfl) (by decide) rfl (fun ls hl => ?_)
                    refine lv_goto (tgt := 64) hx hb dX0_follow_112 (by decide) ?_
                    exact ihhl241 x253 v252 (by omega) (xrng tx253 (by omega) (by omega)) (xrng rfl (by omega) (by omega)) (by rw [ex253, ev252, ev251]; exact hM) _ _ hP hD hS ls (lv_sub hl [0, 1, 2, 3, 4, 5, 6] rfl)
          exact hl241 100000 0 x190 (by have z9_0 : (0 : Int32).toInt = 0 := (by decide); omega) ⟨by decide, by decide⟩ (xrng rfl (by omega) (by omega)) hM _ _ hP hD hS ls (lv_sub hl [0, 1, 2, 3, 4, 5, 6] rfl)
        · skip
          have i_204 : v203.toInt = 0 := (ieq rfl (by decide)).mp c_204
          have hM : M_follow rails s0 fw ft pt fr fg = (K_follow_7 x190 x191 fr_199 fg_200) := (show M_follow rails s0 fw ft pt fr fg = (if v203.toInt = 0 then (K_follow_7 x190 x191 fr_199 fg_200) else (K_follow_6 (K_follow_L2 rails s0 fw ft pt nhl194) x188 v201 fr_199 fg_200 v203 x190)) from (by rw [ev203, ev202, ev201]; exact hM)).trans (if_pos i_204)
          refine W.widen (k := 0) (n := 0) (by decide) (by decide) ?_
          exact W.vret hx hb hr (fun t ht hW => ⟨⟨(), rfl, trivial, ⟨x190, x191, fr_199, fg_200, (xrng rfl (by omega) (by omega)), (xrng rfl (by omega) (by omega)), (xwk_rng hf200_0 (by decide) (by decide)), (xwk_rng hf200_1 (by decide) (by decide)), hM, hf200_3, xB_of9 ht hW hP hK hD [0, 1, 2, 3, 4, 5, 6] (by decide +kernel) rfl⟩⟩, hS.F ht⟩) hS.2.2 dX0_follow_50
  exact hl194 100000 0 0 0 0 fr fg (by have z9_0 : (0 : Int32).toInt = 0 := (by decide); omega) ⟨by decide, by decide⟩ ⟨by decide, by decide⟩ ⟨by decide, by decide⟩ ⟨by decide, by decide⟩ (xwk_rng h_fr (by decide) (by decide)) (xwk_rng h_fg (by decide) (by decide)) h_le hM _ _ hP hD hS ls (lv_sub hl [0, 1, 2, 3, 4] rfl)
def K_drawnAt_3 (x47 : Int32) : (Int32) := (x47)
def K_drawnAt_7 (rec_2 : (Int32) → (Int32) → ((Int32))) (x46 : Int32) (x47 : Int32) : (Int32) := (rec_2 (x46 + 1) x47)
def K_drawnAt_10 (rec_2 : (Int32) → (Int32) → ((Int32))) (x46 : Int32) (x47 : Int32) : (Int32) := (rec_2 (x46 + 1) x47)
def K_drawnAt_12 (rec_2 : (Int32) → (Int32) → ((Int32))) (x46 : Int32) (x47 : Int32) (r57 : Int32) : (Int32) := (rec_2 (x46 + 1) (x47 + r57))
def K_drawnAt_11 (rec_2 : (Int32) → (Int32) → ((Int32))) (x46 : Int32) (x47 : Int32) (pn : Nat → Int32) : (Int32) := ((fun t9 => (K_drawnAt_12 rec_2 x46 x47 t9)) (M_number pn x46 (4 : Int32)))
def K_drawnAt_8 (t0 : Int32) (fr : Nat → Int32) (x46 : Int32) (rec_2 : (Int32) → (Int32) → ((Int32))) (x47 : Int32) (pn : Nat → Int32) : (Int32) := (if t0.toInt < (fr x46.toNatClampNeg).toInt then (K_drawnAt_10 rec_2 x46 x47) else (K_drawnAt_11 rec_2 x46 x47 pn))
def K_drawnAt_13 (rec_2 : (Int32) → (Int32) → ((Int32))) (x46 : Int32) (x47 : Int32) (r60 : Int32) : (Int32) := (rec_2 (x46 + 1) (x47 + r60))
def K_drawnAt_9 (rec_2 : (Int32) → (Int32) → ((Int32))) (x46 : Int32) (x47 : Int32) (pn : Nat → Int32) : (Int32) := ((fun t9 => (K_drawnAt_13 rec_2 x46 x47 t9)) (M_number pn x46 (3 : Int32)))
def K_drawnAt_6 (t0 : Int32) (fg : Nat → Int32) (x46 : Int32) (fr : Nat → Int32) (rec_2 : (Int32) → (Int32) → ((Int32))) (x47 : Int32) (pn : Nat → Int32) : (Int32) := (if t0.toInt < (fg x46.toNatClampNeg).toInt then (K_drawnAt_8 t0 fr x46 rec_2 x47 pn) else (K_drawnAt_9 rec_2 x46 x47 pn))
def K_drawnAt_5 (r50 : Int32) (rec_2 : (Int32) → (Int32) → ((Int32))) (x46 : Int32) (x47 : Int32) (t0 : Int32) (fg : Nat → Int32) (fr : Nat → Int32) (pn : Nat → Int32) : (Int32) := (if r50.toInt = 0 then (K_drawnAt_7 rec_2 x46 x47) else (K_drawnAt_6 t0 fg x46 fr rec_2 x47 pn))
def K_drawnAt_4 (rec_2 : (Int32) → (Int32) → ((Int32))) (x46 : Int32) (x47 : Int32) (t0 : Int32) (fg : Nat → Int32) (fr : Nat → Int32) (pn : Nat → Int32) (cup : Int32) : (Int32) := ((fun t9 => (K_drawnAt_5 t9 rec_2 x46 x47 t0 fg fr pn)) (M_isUp cup x46))
def K_drawnAt_2 (rails : Int32) (x46 : Int32) (x47 : Int32) (rec_2 : (Int32) → (Int32) → ((Int32))) (t0 : Int32) (fg : Nat → Int32) (fr : Nat → Int32) (pn : Nat → Int32) (cup : Int32) : (Int32) := (if rails.toInt ≤ x46.toInt then (K_drawnAt_3 x47) else (K_drawnAt_4 rec_2 x46 x47 t0 fg fr pn cup))
def K_drawnAt_L2 (rails : Int32) (t0 : Int32) (fg : Nat → Int32) (fr : Nat → Int32) (pn : Nat → Int32) (cup : Int32) : Nat → (Int32) → (Int32) → (Int32)
  | 0, _, _ => (0)
  | n9 + 1, x46, x47 => (K_drawnAt_2 rails x46 x47 (K_drawnAt_L2 rails t0 fg fr pn cup n9) t0 fg fr pn cup)
def K_drawnAt_1 (rails : Int32) (t0 : Int32) (fg : Nat → Int32) (fr : Nat → Int32) (pn : Nat → Int32) (cup : Int32) : (Int32) := (K_drawnAt_L2 rails t0 fg fr pn cup 100000 (0 : Int32) (0 : Int32))
def M_drawnAt (rails : Int32) (t0 : Int32) (fg : Nat → Int32) (fr : Nat → Int32) (pn : Nat → Int32) (cup : Int32) : (Int32) := (K_drawnAt_1 rails t0 fg fr pn cup)
abbrev W_drawnAt (cI cJ cZ cG cH : ClassId) (co : Nat) (pl : Nat) (t0 : Int32) (fwa : Nat) (fta : Nat) (fra : Nat) (fga : Nat) (cxa : Nat) (cup : Int32) (clast : Int32) (cpeak : Int32) (cptick : Int32) (fr : Nat → Int32) (fg : Nat → Int32) (pna : Nat) (pta : Nat) (rails : Int32) (limit : Int32) (retry : Int32) (behind : Int32) (pn : Nat → Int32) : va_W := [oX0 co fwa fta fra fga cxa cup clast cpeak cptick, oAI fra cI 8 fr, oAI fga cI 8 fg, oX3 pl pna pta rails limit retry behind, oAI pna cI 64 pn]
abbrev Q_drawnAt (D : va_G) (cI cJ cZ cG cH : ClassId) (co : Nat) (pl : Nat) (t0 : Int32) (fwa : Nat) (fta : Nat) (fra : Nat) (fga : Nat) (cxa : Nat) (cup : Int32) (clast : Int32) (cpeak : Int32) (cptick : Int32) (fr : Nat → Int32) (fg : Nat → Int32) (pna : Nat) (pta : Nat) (rails : Int32) (limit : Int32) (retry : Int32) (behind : Int32) (pn : Nat → Int32) (A : Nat → Prop) : Array Value → State → Outcome → State → Prop := va_Qi (fun (r : Int32) (u9 : Int32) => r = u9 ∧ (True)) (fun u9 t => (M_drawnAt rails t0 fg fr pn cup = (u9)) ∧ xB D (tyL cI cJ cZ cG cH) [oX0 co fwa fta fra fga cxa cup clast cpeak cptick, oAI fra cI 8 fr, oAI fga cI 8 fg, oX3 pl pna pta rails limit retry behind, oAI pna cI 64 pn] A t) A
abbrev rm_drawnAt : Room := { frames := 1, cells := 0, slots := 0, locals := 22 }
set_option maxRecDepth 100000 in
set_option maxHeartbeats 40000000 in
theorem c_drawnAt (l : Launch) (D : va_G) (cI cJ cZ cG cH : ClassId) (sz : Nat) (co : Nat) (pl : Nat) (t0 : Int32) (fwa : Nat) (fta : Nat) (fra : Nat) (fga : Nat) (cxa : Nat) (cup : Int32) (clast : Int32) (cpeak : Int32) (cptick : Int32) (fr : Nat → Int32) (fg : Nat → Int32) (pna : Nat) (pta : Nat) (rails : Int32) (limit : Int32) (retry : Int32) (behind : Int32) (pn : Nat → Int32) (h_clast : 0 ≤ clast.toInt ∧ clast.toInt ≤ 144) (h_fr : ∀ j, j < 8 → 0 ≤ (fr j).toInt ∧ (fr j).toInt ≤ 655) (h_fg : ∀ j, j < 8 → 0 ≤ (fg j).toInt ∧ (fg j).toInt ≤ 1166) (h_rails : 0 ≤ rails.toInt ∧ rails.toInt ≤ 8) (h_pn : ∀ j, j < 64 → 0 ≤ (pn j).toInt ∧ (pn j).toInt ≤ 511) (h_le : ∀ j, j < 8 → (fr j).toInt ≤ (fg j).toInt) : Met l yX0_drawnAt (wt yX0_drawnAt cX0_drawnAt 5 (some .int)) rm_drawnAt (xPc [.ref co, .ref pl, .int t0] D (tyL cI cJ cZ cG cH) (W_drawnAt cI cJ cZ cG cH co pl t0 fwa fta fra fga cxa cup clast cpeak cptick fr fg pna pta rails limit retry behind pn) sz) (Q_drawnAt D cI cJ cZ cG cH co pl t0 fwa fta fra fga cxa cup clast cpeak cptick fr fg pna pta rails limit retry behind pn (va_A (W_drawnAt cI cJ cZ cG cH co pl t0 fwa fta fra fga cxa cup clast cpeak cptick fr fg pna pta rails limit retry behind pn) sz)) 0 0 (va_A (W_drawnAt cI cJ cZ cG cH co pl t0 fwa fta fra fga cxa cup clast cpeak cptick fr fg pna pta rails limit retry behind pn) sz) := by
  refine xMet (cc := cX0_drawnAt) (maxL := 5) (ret := (some .int)) (Qf := Q_drawnAt D cI cJ cZ cG cH co pl t0 fwa fta fra fga cxa cup clast cpeak cptick fr fg pna pta rails limit retry behind pn) (by decide) rfl (Nat.le_of_ble_eq_true rfl) ?_
  intro p e s m below meth c ls A hx hb hr hml hts hown hlocks hnm hsz hP hK hD hA hS hl
  have hown : s.vm.findClass RX0 = some m.cls := hown
  have hP : va_P D vwCl [oX0 co fwa fta fra fga cxa cup clast cpeak cptick, oAI fra cI 8 fr, oAI fga cI 8 fg, oX3 pl pna pta rails limit retry behind, oAI pna cI 64 pn] s.heap := hP
  have hD : va_D A [oX0 co fwa fta fra fga cxa cup clast cpeak cptick, oAI fra cI 8 fr, oAI fga cI 8 fg, oX3 pl pna pta rails limit retry behind, oAI pna cI 64 pn] := hD
  have hl : lv_has ls 5 [(0, .ref co), (1, .ref pl), (2, .int t0)] := hl
  have hM : M_drawnAt rails t0 fg fr pn cup = (K_drawnAt_1 rails t0 fg fr pn cup) := rfl
  refine lv_iconst (v := 0) hx hb dX0_drawnAt_0 (by decide) ?_
  refine lv_istore_n (lv' := [(3, .int 0), (0, .ref co), (1, .ref pl), (2, .int t0)]) hx hb dX0_drawnAt_1 rfl hl (by decide) rfl (fun ls hl => ?_)
  refine lv_iconst (v := 0) hx hb dX0_drawnAt_2 (by decide) ?_
  refine lv_istore (lv' := [(4, .int 0), (3, .int 0), (0, .ref co), (1, .ref pl), (2, .int t0)]) hx hb dX0_drawnAt_3 hl (by decide) rfl (fun ls hl => ?_)
  have hl48 : ∀ (nhl48 : Nat) (x46 : Int32) (x47 : Int32), ((8 - x46.toInt).toNat < nhl48) → (hx46 : 0 ≤ x46.toInt ∧ x46.toInt ≤ 8) → (hM : M_drawnAt rails t0 fg fr pn cup = (K_drawnAt_L2 rails t0 fg fr pn cup nhl48 x46 x47)) → ∀ (H : Heap) (locs : List Loc), va_P D vwCl [oX0 co fwa fta fra fga cxa cup clast cpeak cptick, oAI fra cI 8 fr, oAI fga cI 8 fg, oX3 pl pna pta rails limit retry behind, oAI pna cI 64 pn] H → va_D A [oX0 co fwa fta fra fga cxa cup clast cpeak cptick, oAI fra cI 8 fr, oAI fga cI 8 fg, oX3 pl pna pta rails limit retry behind, oAI pna cI 64 pn] → va_S A s.heap H locs → ∀ (ls : Array Slot), lv_has ls 5 [(4, .int x46), (3, .int x47), (0, .ref co), (1, .ref pl), (2, .int t0)] → W p l e rm_drawnAt s m [Value.ref co, Value.ref pl, Value.int t0].toArray below meth c H locs 0 0 (MQ below ((Q_drawnAt D cI cJ cZ cG cH co pl t0 fwa fta fra fga cxa cup clast cpeak cptick fr fg pna pta rails limit retry behind pn) A) [Value.ref co, Value.ref pl, Value.int t0].toArray s 0 0 A) (F0 m 5 ls []) := by
    intro nhl48
    induction nhl48 with
    | zero =>
      intro x46 x47 hmhl48
      exact absurd hmhl48 (Nat.not_lt_zero _)
    | succ nhl48 ihhl48 =>
      intro x46 x47 hmhl48 hx46 hM H locs hP hD hS ls hl
      have hM : M_drawnAt rails t0 fg fr pn cup = (K_drawnAt_2 rails x46 x47 (K_drawnAt_L2 rails t0 fg fr pn cup nhl48) t0 fg fr pn cup) := hM
      refine lv_iload hx hb dX0_drawnAt_5 (lv_at hl 0 rfl) ?_
      refine lv_aload_n hx hb dX0_drawnAt_7 rfl (lv_at hl 3 rfl) ?_
      refine va_get (D := D) (ci := 2) (v := .int rails) (C := RX3) (T := TX3) (N := 6) hx hb hts (fun w h => tbC w (tbfX3 w h)) hown hK hP 3 rfl rfl 2 (by decide) (hts (.fieldLink RX0 27 "PowerRails$Plan" "rails" "I") (tbC _ wd206)) (fun _ h9 => h9) rfl dX0_drawnAt_8 ?_
      refine lv_icmp_ge (tgt := 77) hx hb dX0_drawnAt_11 (by decide) (fun c_49 => ?_) (fun c_49 => ?_)
      · skip
        have i_49 : rails.toInt ≤ x46.toInt := (ile rfl rfl).mp c_49
        have hM : M_drawnAt rails t0 fg fr pn cup = (K_drawnAt_3 x47) := (show M_drawnAt rails t0 fg fr pn cup = (if rails.toInt ≤ x46.toInt then (K_drawnAt_3 x47) else (K_drawnAt_4 (K_drawnAt_L2 rails t0 fg fr pn cup nhl48) x46 x47 t0 fg fr pn cup)) from hM).trans (if_pos i_49)
        refine lv_iload_n hx hb dX0_drawnAt_77 rfl (lv_at hl 1 rfl) ?_
        refine W.widen (k := 0) (n := 0) (by decide) (by decide) ?_
        exact W.iret (v := x47) hx hb hr (fun t ht hW => ⟨⟨x47, x47, rfl, ⟨rfl, trivial⟩, ⟨hM, xB_of9 ht hW hP hK hD [0, 1, 2, 3, 4] (by decide +kernel) rfl⟩⟩, hS.F ht⟩) hS.2.2 dX0_drawnAt_78
      · skip
        have i_49 : ¬ (rails.toInt ≤ x46.toInt) := fun h9 => c_49 ((ile rfl rfl).mpr h9)
        have hM : M_drawnAt rails t0 fg fr pn cup = (K_drawnAt_4 (K_drawnAt_L2 rails t0 fg fr pn cup nhl48) x46 x47 t0 fg fr pn cup) := (show M_drawnAt rails t0 fg fr pn cup = (if rails.toInt ≤ x46.toInt then (K_drawnAt_3 x47) else (K_drawnAt_4 (K_drawnAt_L2 rails t0 fg fr pn cup nhl48) x46 x47 t0 fg fr pn cup)) from hM).trans (if_neg i_49)
        refine lv_aload_n hx hb dX0_drawnAt_14 rfl (lv_at hl 2 rfl) ?_
        refine lv_iload hx hb dX0_drawnAt_15 (lv_at hl 0 rfl) ?_
        obtain ⟨hPc, hDc, hFc, hC9⟩ := xpk (wc := W_isUp cI cJ cZ cG cH co x46 fwa fta fra fga cxa cup clast cpeak cptick) hP hD hS hA [0] (by decide +kernel) rfl
        refine va_calli (va_runV (As := [.int x46]) (rest := []) ⟨hx, hb, hml, hown, hts⟩ (c_isUp l D cI cJ cZ cG cH H.size co x46 fwa fta fra fga cxa cup clast cpeak cptick (xrng rfl (by omega) (by omega))) (cwV 1 hts (xGV tbC wd574 wd540 wd541 wd54 wd1051) rfl rfl rfl (by decide +kernel) ⟨Nat.le_of_ble_eq_true rfl, Nat.le_of_ble_eq_true rfl⟩) ⟨xPc_blind, va_recv hK hPc (ci := 0) (q0 := 0) rfl rfl, xPc_pre hPc hK hDc⟩ rfl rfl hl.1 rfl (lv_room (Nat.le_of_ble_eq_true rfl)) dX0_drawnAt_17 ⟨Nat.le_of_ble_eq_true rfl, Nat.le_of_ble_eq_true rfl⟩) hS (fun q _ h => hFc q h) hFc (fun r50 u t H1 locs ht hvm hw50 hB hz1 hk1 hS => ?_)
        obtain ⟨hru9, hw50⟩ := hw50
        subst hru9
        obtain ⟨hf50_0, hP1, hK1, hD1⟩ := hB
        rw [ht] at hP1
        obtain ⟨hP, hD⟩ : xPD D A [oAI fra cI 8 fr, oAI fga cI 8 fg, oX3 pl pna pta rails limit retry behind, oAI pna cI 64 pn, oX0 co fwa fta fra fga cxa cup clast cpeak cptick] H1 := xjn 4 hP hD [0] [1, 2, 3, 4] hC9 rfl (by decide +kernel) (by decide +kernel) hk1 hFc hP1 hD1
        generalize H1 = H at hP hS ⊢
        have hf50_0 : M_isUp cup x46 = (r50) := hf50_0
        have hw50 : 0 ≤ r50.toInt ∧ r50.toInt ≤ 1 := hw50
        have h9M := congrArg (fun t9 => (K_drawnAt_5 t9 (K_drawnAt_L2 rails t0 fg fr pn cup nhl48) x46 x47 t0 fg fr pn)) hf50_0
        have hM : M_drawnAt rails t0 fg fr pn cup = (K_drawnAt_5 r50 (K_drawnAt_L2 rails t0 fg fr pn cup nhl48) x46 x47 t0 fg fr pn) := (show M_drawnAt rails t0 fg fr pn cup = ((fun t9 => (K_drawnAt_5 t9 (K_drawnAt_L2 rails t0 fg fr pn cup nhl48) x46 x47 t0 fg fr pn)) (M_isUp cup x46)) from hM).trans h9M
        refine lv_if_ne (tgt := 26) hx hb dX0_drawnAt_20 (by decide) (fun c_51 => ?_) (fun c_51 => ?_)
        · skip
          have i_51 : ¬ (r50.toInt = 0) := fun h9 => c_51 ((ieq rfl (by decide)).mpr h9)
          have hM : M_drawnAt rails t0 fg fr pn cup = (K_drawnAt_6 t0 fg x46 fr (K_drawnAt_L2 rails t0 fg fr pn cup nhl48) x47 pn) := (show M_drawnAt rails t0 fg fr pn cup = (if r50.toInt = 0 then (K_drawnAt_7 (K_drawnAt_L2 rails t0 fg fr pn cup nhl48) x46 x47) else (K_drawnAt_6 t0 fg x46 fr (K_drawnAt_L2 rails t0 fg fr pn cup nhl48) x47 pn)) from hM).trans (if_neg i_51)
          refine lv_iload_n hx hb dX0_drawnAt_26 rfl (lv_at hl 4 rfl) ?_
          refine lv_aload_n hx hb dX0_drawnAt_27 rfl (lv_at hl 2 rfl) ?_
          refine va_get (D := D) (ci := 0) (v := .ref fga) (C := RX0) (T := TX0) (N := 9) hx hb hts (fun w h => tbC w (tbfX0 w h)) hown hK hP 4 rfl rfl 3 (by decide) (hts (.fieldLink RX0 21 "PowerRails$Course" "goodAt" "[I") (tbC _ wd143)) (fun _ h9 => h9) rfl dX0_drawnAt_28 ?_
          refine lv_iload hx hb dX0_drawnAt_31 (lv_at hl 0 rfl) ?_
          refine va_iald hx hb hK hP 1 0 rfl rfl (vp_in_iff.mpr ⟨by omega, by omega⟩) dX0_drawnAt_33 ?_
          refine lv_topi (fun v52 ev52 => ?_)
          have rv52 : 0 ≤ v52.toInt ∧ v52.toInt ≤ 1166 := xrd ev52 h_fg (xinK (vp_in_iff.mpr ⟨by omega, by omega⟩))
          refine lv_icmp_lt (tgt := 50) hx hb dX0_drawnAt_34 (by decide) (fun c_53 => ?_) (fun c_53 => ?_)
          · skip
            have i_53 : t0.toInt < v52.toInt := (ilt rfl rfl).mp c_53
            have hM : M_drawnAt rails t0 fg fr pn cup = (K_drawnAt_8 t0 fr x46 (K_drawnAt_L2 rails t0 fg fr pn cup nhl48) x47 pn) := (show M_drawnAt rails t0 fg fr pn cup = (if t0.toInt < v52.toInt then (K_drawnAt_8 t0 fr x46 (K_drawnAt_L2 rails t0 fg fr pn cup nhl48) x47 pn) else (K_drawnAt_9 (K_drawnAt_L2 rails t0 fg fr pn cup nhl48) x46 x47 pn)) from (by rw [ev52]; exact hM)).trans (if_pos i_53)
            refine lv_iload_n hx hb dX0_drawnAt_50 rfl (lv_at hl 4 rfl) ?_
            refine lv_aload_n hx hb dX0_drawnAt_51 rfl (lv_at hl 2 rfl) ?_
            refine va_get (D := D) (ci := 0) (v := .ref fra) (C := RX0) (T := TX0) (N := 9) hx hb hts (fun w h => tbC w (tbfX0 w h)) hown hK hP 4 rfl rfl 2 (by decide) (hts (.fieldLink RX0 18 "PowerRails$Course" "risesAt" "[I") (tbC _ wd142)) (fun _ h9 => h9) rfl dX0_drawnAt_52 ?_
            refine lv_iload hx hb dX0_drawnAt_55 (lv_at hl 0 rfl) ?_
            refine va_iald hx hb hK hP 0 0 rfl rfl (vp_in_iff.mpr ⟨by omega, by omega⟩) dX0_drawnAt_57 ?_
            refine lv_topi (fun v54 ev54 => ?_)
            have rv54 : 0 ≤ v54.toInt ∧ v54.toInt ≤ 655 := xrd ev54 h_fr (xinK (vp_in_iff.mpr ⟨by omega, by omega⟩))
            refine lv_icmp_lt (tgt := 71) hx hb dX0_drawnAt_58 (by decide) (fun c_55 => ?_) (fun c_55 => ?_)
            · skip
              have i_55 : t0.toInt < v54.toInt := (ilt rfl rfl).mp c_55
              have hM : M_drawnAt rails t0 fg fr pn cup = (K_drawnAt_10 (K_drawnAt_L2 rails t0 fg fr pn cup nhl48) x46 x47) := (show M_drawnAt rails t0 fg fr pn cup = (if t0.toInt < v54.toInt then (K_drawnAt_10 (K_drawnAt_L2 rails t0 fg fr pn cup nhl48) x46 x47) else (K_drawnAt_11 (K_drawnAt_L2 rails t0 fg fr pn cup nhl48) x46 x47 pn)) from (by rw [ev54]; exact hM)).trans (if_pos i_55)
              obtain ⟨x56, ex56⟩ : ∃ y : Int32, y = x46 + 1 := ⟨_, rfl⟩
              have tx56 : x56.toInt = (x46.toInt + 1) := (congrArg Int32.toInt ex56).trans (xadd rfl (by decide) (by omega) (by omega))
              refine lv_iinc (v := x56) (lv' := [(4, .int x56), (3, .int x47), (0, .ref co), (1, .ref pl), (2, .int t0)]) hx hb dX0_drawnAt_71 hl (k := 0) rfl (by rw [ex56]; rfl) (by decide) rfl (fun ls hl => ?_)
              refine lv_goto (tgt := 5) hx hb dX0_drawnAt_74 (by decide) ?_
              obtain ⟨hP, hD⟩ := xsb (ws' := [oX0 co fwa fta fra fga cxa cup clast cpeak cptick, oAI fra cI 8 fr, oAI fga cI 8 fg, oX3 pl pna pta rails limit retry behind, oAI pna cI 64 pn]) hP hD [4, 0, 1, 2, 3] (by decide +kernel) rfl
              exact ihhl48 x56 x47 (by omega) (xrng tx56 (by omega) (by omega)) (by rw [ex56]; exact hM) _ _ hP hD hS ls (lv_sub hl [0, 1, 2, 3, 4] rfl)
            · skip
              have i_55 : ¬ (t0.toInt < v54.toInt) := fun h9 => c_55 ((ilt rfl rfl).mpr h9)
              have hM : M_drawnAt rails t0 fg fr pn cup = (K_drawnAt_11 (K_drawnAt_L2 rails t0 fg fr pn cup nhl48) x46 x47 pn) := (show M_drawnAt rails t0 fg fr pn cup = (if t0.toInt < v54.toInt then (K_drawnAt_10 (K_drawnAt_L2 rails t0 fg fr pn cup nhl48) x46 x47) else (K_drawnAt_11 (K_drawnAt_L2 rails t0 fg fr pn cup nhl48) x46 x47 pn)) from (by rw [ev54]; exact hM)).trans (if_neg i_55)
              refine lv_iload_n hx hb dX0_drawnAt_61 rfl (lv_at hl 1 rfl) ?_
              refine lv_aload_n hx hb dX0_drawnAt_62 rfl (lv_at hl 3 rfl) ?_
              refine lv_iload hx hb dX0_drawnAt_63 (lv_at hl 0 rfl) ?_
              refine lv_iconst (v := 4) hx hb dX0_drawnAt_65 (by decide) ?_
              obtain ⟨hPc, hDc, hFc, hC9⟩ := xpk (wc := W_number cI cJ cZ cG cH pl x46 (4 : Int32) pna pta rails limit retry behind pn) hP hD hS hA [2, 3] (by decide +kernel) rfl
              refine va_calli (va_runV (As := [.int x46, .int 4]) (rest := [.int x47]) ⟨hx, hb, hml, hown, hts⟩ (c_number l D cI cJ cZ cG cH H.size pl x46 (4 : Int32) pna pta rails limit retry behind pn (xrng rfl (by omega) (by omega)) ⟨by decide, by decide⟩ (xrng rfl (by omega) (by omega)) (xwk_rng h_pn (by decide) (by decide))) (cwV 2 hts (xGV tbC wd518 wd368 wd369 wd59 wd996) rfl rfl rfl (by decide +kernel) ⟨Nat.le_of_ble_eq_true rfl, Nat.le_of_ble_eq_true rfl⟩) ⟨xPc_blind, va_recv hK hPc (ci := 2) (q0 := 0) rfl rfl, xPc_pre hPc hK hDc⟩ rfl rfl hl.1 rfl (lv_room (Nat.le_of_ble_eq_true rfl)) dX0_drawnAt_66 ⟨Nat.le_of_ble_eq_true rfl, Nat.le_of_ble_eq_true rfl⟩) hS (fun q _ h => hFc q h) hFc (fun r57 u t H1 locs ht hvm hw57 hB hz1 hk1 hS => ?_)
              obtain ⟨hru9, hw57⟩ := hw57
              subst hru9
              obtain ⟨hf57_0, hP1, hK1, hD1⟩ := hB
              rw [ht] at hP1
              obtain ⟨hP, hD⟩ : xPD D A [oAI fra cI 8 fr, oAI fga cI 8 fg, oX0 co fwa fta fra fga cxa cup clast cpeak cptick, oX3 pl pna pta rails limit retry behind, oAI pna cI 64 pn] H1 := xjn 3 hP hD [2, 3] [0, 1, 4] hC9 rfl (by decide +kernel) (by decide +kernel) hk1 hFc hP1 hD1
              generalize H1 = H at hP hS ⊢
              have hf57_0 : M_number pn x46 (4 : Int32) = (r57) := hf57_0
              have hw57 : 0 ≤ r57.toInt ∧ r57.toInt ≤ 511 := hw57
              have h9M := congrArg (fun t9 => (K_drawnAt_12 (K_drawnAt_L2 rails t0 fg fr pn cup nhl48) x46 x47 t9)) hf57_0
              have hM : M_drawnAt rails t0 fg fr pn cup = (K_drawnAt_12 (K_drawnAt_L2 rails t0 fg fr pn cup nhl48) x46 x47 r57) := (show M_drawnAt rails t0 fg fr pn cup = ((fun t9 => (K_drawnAt_12 (K_drawnAt_L2 rails t0 fg fr pn cup nhl48) x46 x47 t9)) (M_number pn x46 (4 : Int32))) from hM).trans h9M
              refine lv_iadd hx hb dX0_drawnAt_69 ?_
              refine lv_topi (fun v58 ev58 => ?_)
              refine lv_istore_n (lv' := [(3, .int v58), (4, .int x46), (0, .ref co), (1, .ref pl), (2, .int t0)]) hx hb dX0_drawnAt_70 rfl hl (by decide) rfl (fun ls hl => ?_)
              obtain ⟨x59, ex59⟩ : ∃ y : Int32, y = x46 + 1 := ⟨_, rfl⟩
              have tx59 : x59.toInt = (x46.toInt + 1) := (congrArg Int32.toInt ex59).trans (xadd rfl (by decide) (by omega) (by omega))
              refine lv_iinc (v := x59) (lv' := [(4, .int x59), (3, .int v58), (0, .ref co), (1, .ref pl), (2, .int t0)]) hx hb dX0_drawnAt_71 hl (k := 1) rfl (by rw [ex59]; rfl) (by decide) rfl (fun ls hl => ?_)
              refine lv_goto (tgt := 5) hx hb dX0_drawnAt_74 (by decide) ?_
              obtain ⟨hP, hD⟩ := xsb (ws' := [oX0 co fwa fta fra fga cxa cup clast cpeak cptick, oAI fra cI 8 fr, oAI fga cI 8 fg, oX3 pl pna pta rails limit retry behind, oAI pna cI 64 pn]) hP hD [2, 0, 1, 3, 4] (by decide +kernel) rfl
              exact ihhl48 x59 v58 (by omega) (xrng tx59 (by omega) (by omega)) (by rw [ex59, ev58]; exact hM) _ _ hP hD hS ls (lv_sub hl [0, 1, 2, 3, 4] rfl)
          · skip
            have i_53 : ¬ (t0.toInt < v52.toInt) := fun h9 => c_53 ((ilt rfl rfl).mpr h9)
            have hM : M_drawnAt rails t0 fg fr pn cup = (K_drawnAt_9 (K_drawnAt_L2 rails t0 fg fr pn cup nhl48) x46 x47 pn) := (show M_drawnAt rails t0 fg fr pn cup = (if t0.toInt < v52.toInt then (K_drawnAt_8 t0 fr x46 (K_drawnAt_L2 rails t0 fg fr pn cup nhl48) x47 pn) else (K_drawnAt_9 (K_drawnAt_L2 rails t0 fg fr pn cup nhl48) x46 x47 pn)) from (by rw [ev52]; exact hM)).trans (if_neg i_53)
            refine lv_iload_n hx hb dX0_drawnAt_37 rfl (lv_at hl 1 rfl) ?_
            refine lv_aload_n hx hb dX0_drawnAt_38 rfl (lv_at hl 3 rfl) ?_
            refine lv_iload hx hb dX0_drawnAt_39 (lv_at hl 0 rfl) ?_
            refine lv_iconst (v := 3) hx hb dX0_drawnAt_41 (by decide) ?_
            obtain ⟨hPc, hDc, hFc, hC9⟩ := xpk (wc := W_number cI cJ cZ cG cH pl x46 (3 : Int32) pna pta rails limit retry behind pn) hP hD hS hA [2, 3] (by decide +kernel) rfl
            refine va_calli (va_runV (As := [.int x46, .int 3]) (rest := [.int x47]) ⟨hx, hb, hml, hown, hts⟩ (c_number l D cI cJ cZ cG cH H.size pl x46 (3 : Int32) pna pta rails limit retry behind pn (xrng rfl (by omega) (by omega)) ⟨by decide, by decide⟩ (xrng rfl (by omega) (by omega)) (xwk_rng h_pn (by decide) (by decide))) (cwV 2 hts (xGV tbC wd518 wd368 wd369 wd59 wd996) rfl rfl rfl (by decide +kernel) ⟨Nat.le_of_ble_eq_true rfl, Nat.le_of_ble_eq_true rfl⟩) ⟨xPc_blind, va_recv hK hPc (ci := 2) (q0 := 0) rfl rfl, xPc_pre hPc hK hDc⟩ rfl rfl hl.1 rfl (lv_room (Nat.le_of_ble_eq_true rfl)) dX0_drawnAt_42 ⟨Nat.le_of_ble_eq_true rfl, Nat.le_of_ble_eq_true rfl⟩) hS (fun q _ h => hFc q h) hFc (fun r60 u t H1 locs ht hvm hw60 hB hz1 hk1 hS => ?_)
            obtain ⟨hru9, hw60⟩ := hw60
            subst hru9
            obtain ⟨hf60_0, hP1, hK1, hD1⟩ := hB
            rw [ht] at hP1
            obtain ⟨hP, hD⟩ : xPD D A [oAI fra cI 8 fr, oAI fga cI 8 fg, oX0 co fwa fta fra fga cxa cup clast cpeak cptick, oX3 pl pna pta rails limit retry behind, oAI pna cI 64 pn] H1 := xjn 3 hP hD [2, 3] [0, 1, 4] hC9 rfl (by decide +kernel) (by decide +kernel) hk1 hFc hP1 hD1
            generalize H1 = H at hP hS ⊢
            have hf60_0 : M_number pn x46 (3 : Int32) = (r60) := hf60_0
            have hw60 : 0 ≤ r60.toInt ∧ r60.toInt ≤ 511 := hw60
            have h9M := congrArg (fun t9 => (K_drawnAt_13 (K_drawnAt_L2 rails t0 fg fr pn cup nhl48) x46 x47 t9)) hf60_0
            have hM : M_drawnAt rails t0 fg fr pn cup = (K_drawnAt_13 (K_drawnAt_L2 rails t0 fg fr pn cup nhl48) x46 x47 r60) := (show M_drawnAt rails t0 fg fr pn cup = ((fun t9 => (K_drawnAt_13 (K_drawnAt_L2 rails t0 fg fr pn cup nhl48) x46 x47 t9)) (M_number pn x46 (3 : Int32))) from hM).trans h9M
            refine lv_iadd hx hb dX0_drawnAt_45 ?_
            refine lv_topi (fun v61 ev61 => ?_)
            refine lv_istore_n (lv' := [(3, .int v61), (4, .int x46), (0, .ref co), (1, .ref pl), (2, .int t0)]) hx hb dX0_drawnAt_46 rfl hl (by decide) rfl (fun ls hl => ?_)
            refine lv_goto (tgt := 71) hx hb dX0_drawnAt_47 (by decide) ?_
            obtain ⟨x62, ex62⟩ : ∃ y : Int32, y = x46 + 1 := ⟨_, rfl⟩
            have tx62 : x62.toInt = (x46.toInt + 1) := (congrArg Int32.toInt ex62).trans (xadd rfl (by decide) (by omega) (by omega))
            refine lv_iinc (v := x62) (lv' := [(4, .int x62), (3, .int v61), (0, .ref co), (1, .ref pl), (2, .int t0)]) hx hb dX0_drawnAt_71 hl (k := 1) rfl (by rw [ex62]; rfl) (by decide) rfl (fun ls hl => ?_)
            refine lv_goto (tgt := 5) hx hb dX0_drawnAt_74 (by decide) ?_
            obtain ⟨hP, hD⟩ := xsb (ws' := [oX0 co fwa fta fra fga cxa cup clast cpeak cptick, oAI fra cI 8 fr, oAI fga cI 8 fg, oX3 pl pna pta rails limit retry behind, oAI pna cI 64 pn]) hP hD [2, 0, 1, 3, 4] (by decide +kernel) rfl
            exact ihhl48 x62 v61 (by omega) (xrng tx62 (by omega) (by omega)) (by rw [ex62, ev61]; exact hM) _ _ hP hD hS ls (lv_sub hl [0, 1, 2, 3, 4] rfl)
        · skip
          have i_51 : r50.toInt = 0 := (ieq rfl (by decide)).mp c_51
          have hM : M_drawnAt rails t0 fg fr pn cup = (K_drawnAt_7 (K_drawnAt_L2 rails t0 fg fr pn cup nhl48) x46 x47) := (show M_drawnAt rails t0 fg fr pn cup = (if r50.toInt = 0 then (K_drawnAt_7 (K_drawnAt_L2 rails t0 fg fr pn cup nhl48) x46 x47) else (K_drawnAt_6 t0 fg x46 fr (K_drawnAt_L2 rails t0 fg fr pn cup nhl48) x47 pn)) from hM).trans (if_pos i_51)
          refine lv_goto (tgt := 71) hx hb dX0_drawnAt_23 (by decide) ?_
          obtain ⟨x63, ex63⟩ : ∃ y : Int32, y = x46 + 1 := ⟨_, rfl⟩
          have tx63 : x63.toInt = (x46.toInt + 1) := (congrArg Int32.toInt ex63).trans (xadd rfl (by decide) (by omega) (by omega))
          refine lv_iinc (v := x63) (lv' := [(4, .int x63), (3, .int x47), (0, .ref co), (1, .ref pl), (2, .int t0)]) hx hb dX0_drawnAt_71 hl (k := 0) rfl (by rw [ex63]; rfl) (by decide) rfl (fun ls hl => ?_)
          refine lv_goto (tgt := 5) hx hb dX0_drawnAt_74 (by decide) ?_
          obtain ⟨hP, hD⟩ := xsb (ws' := [oX0 co fwa fta fra fga cxa cup clast cpeak cptick, oAI fra cI 8 fr, oAI fga cI 8 fg, oX3 pl pna pta rails limit retry behind, oAI pna cI 64 pn]) hP hD [4, 0, 1, 2, 3] (by decide +kernel) rfl
          exact ihhl48 x63 x47 (by omega) (xrng tx63 (by omega) (by omega)) (by rw [ex63]; exact hM) _ _ hP hD hS ls (lv_sub hl [0, 1, 2, 3, 4] rfl)
  exact hl48 100000 0 0 (by have z9_0 : (0 : Int32).toInt = 0 := (by decide); omega) ⟨by decide, by decide⟩ hM _ _ hP hD hS ls (lv_sub hl [0, 1, 2, 3, 4] rfl)
def K_findPeak_6 (x99 : Int32) (x100 : Int32) (f101 : Nat → Int32) : (Int32) × (Int32) × (Nat → Int32) := (x99, x100, f101)
def K_findPeak_8 (rec_5 : (Int32) → (Int32) → (Int32) → (Int32) → (Nat → Int32) → ((Int32) × (Int32) × (Nat → Int32))) (x97 : Int32) (v106 : Int32) (x99 : Int32) (x100 : Int32) (f107 : Nat → Int32) : (Int32) × (Int32) × (Nat → Int32) := (rec_5 (x97 + 1) v106 x99 x100 f107)
def K_findPeak_9 (rec_5 : (Int32) → (Int32) → (Int32) → (Int32) → (Nat → Int32) → ((Int32) × (Int32) × (Nat → Int32))) (x97 : Int32) (v106 : Int32) (f107 : Nat → Int32) : (Int32) × (Int32) × (Nat → Int32) := (rec_5 (x97 + 1) v106 v106 x97 f107)
def K_findPeak_7 (x98 : Int32) (f101 : Nat → Int32) (x97 : Int32) (x99 : Int32) (rec_5 : (Int32) → (Int32) → (Int32) → (Int32) → (Nat → Int32) → ((Int32) × (Int32) × (Nat → Int32))) (x100 : Int32) : (Int32) × (Int32) × (Nat → Int32) := (if (x98 + (f101 x97.toNatClampNeg)).toInt ≤ x99.toInt then (K_findPeak_8 rec_5 x97 (x98 + (f101 x97.toNatClampNeg)) x99 x100 (upd f101 (x97 : Int32).toNatClampNeg (0 : Int32))) else (K_findPeak_9 rec_5 x97 (x98 + (f101 x97.toNatClampNeg)) (upd f101 (x97 : Int32).toNatClampNeg (0 : Int32))))
def K_findPeak_5 (clast : Int32) (x97 : Int32) (x99 : Int32) (x100 : Int32) (f101 : Nat → Int32) (x98 : Int32) (rec_5 : (Int32) → (Int32) → (Int32) → (Int32) → (Nat → Int32) → ((Int32) × (Int32) × (Nat → Int32))) : (Int32) × (Int32) × (Nat → Int32) := (if clast.toInt < x97.toInt then (K_findPeak_6 x99 x100 f101) else (K_findPeak_7 x98 f101 x97 x99 rec_5 x100))
def K_findPeak_L5 (clast : Int32) : Nat → (Int32) → (Int32) → (Int32) → (Int32) → (Nat → Int32) → (Int32) × (Int32) × (Nat → Int32)
  | 0, _, _, _, _, _ => (0, 0, fun _ => 0)
  | n9 + 1, x97, x98, x99, x100, f101 => (K_findPeak_5 clast x97 x99 x100 f101 x98 (K_findPeak_L5 clast n9))
def K_findPeak_3 (clast : Int32) (f63 : Nat → Int32) : (Int32) × (Int32) × (Nat → Int32) := (K_findPeak_L5 clast 100000 (0 : Int32) (0 : Int32) (-4 : Int32) (-4 : Int32) f63)
def K_findPeak_11 (rec_2 : (Int32) → (Nat → Int32) → ((Int32) × (Int32) × (Nat → Int32))) (x62 : Int32) (f63 : Nat → Int32) : (Int32) × (Int32) × (Nat → Int32) := (rec_2 (x62 + 1) f63)
def K_findPeak_13 (rec_2 : (Int32) → (Nat → Int32) → ((Int32) × (Int32) × (Nat → Int32))) (x62 : Int32) (f63 : Nat → Int32) : (Int32) × (Int32) × (Nat → Int32) := (rec_2 (x62 + 1) f63)
def K_findPeak_17 (rec_2 : (Int32) → (Nat → Int32) → ((Int32) × (Int32) × (Nat → Int32))) (x62 : Int32) (f121 : Nat → Int32) (v122 : Int32) (v123 : Int32) (r124 : Int32) (r125 : Int32) : (Int32) × (Int32) × (Nat → Int32) := (rec_2 (x62 + 1) (upd f121 (v122 : Int32).toNatClampNeg (v123 + (r124 - r125))))
def K_findPeak_16 (rec_2 : (Int32) → (Nat → Int32) → ((Int32) × (Int32) × (Nat → Int32))) (x62 : Int32) (f121 : Nat → Int32) (v122 : Int32) (v123 : Int32) (r124 : Int32) (pn : Nat → Int32) : (Int32) × (Int32) × (Nat → Int32) := ((fun t9 => (K_findPeak_17 rec_2 x62 f121 v122 v123 r124 t9)) (M_number pn x62 (4 : Int32)))
def K_findPeak_15 (rec_2 : (Int32) → (Nat → Int32) → ((Int32) × (Int32) × (Nat → Int32))) (x62 : Int32) (f63 : Nat → Int32) (v117 : Int32) (v118 : Int32) (r119 : Int32) (fg : Nat → Int32) (pn : Nat → Int32) : (Int32) × (Int32) × (Nat → Int32) := ((fun t9 => (K_findPeak_16 rec_2 x62 (upd f63 (v117 : Int32).toNatClampNeg (v118 + r119)) (fg x62.toNatClampNeg) ((upd f63 (v117 : Int32).toNatClampNeg (v118 + r119)) (fg x62.toNatClampNeg).toNatClampNeg) t9 pn)) (M_number pn x62 (3 : Int32)))
def K_findPeak_14 (rec_2 : (Int32) → (Nat → Int32) → ((Int32) × (Int32) × (Nat → Int32))) (x62 : Int32) (f63 : Nat → Int32) (fr : Nat → Int32) (fg : Nat → Int32) (pn : Nat → Int32) : (Int32) × (Int32) × (Nat → Int32) := ((fun t9 => (K_findPeak_15 rec_2 x62 f63 (fr x62.toNatClampNeg) (f63 (fr x62.toNatClampNeg).toNatClampNeg) t9 fg pn)) (M_number pn x62 (4 : Int32)))
def K_findPeak_12 (fg : Nat → Int32) (x62 : Int32) (rec_2 : (Int32) → (Nat → Int32) → ((Int32) × (Int32) × (Nat → Int32))) (f63 : Nat → Int32) (fr : Nat → Int32) (pn : Nat → Int32) : (Int32) × (Int32) × (Nat → Int32) := (if 144 < (fg x62.toNatClampNeg).toInt then (K_findPeak_13 rec_2 x62 f63) else (K_findPeak_14 rec_2 x62 f63 fr fg pn))
def K_findPeak_10 (r111 : Int32) (rec_2 : (Int32) → (Nat → Int32) → ((Int32) × (Int32) × (Nat → Int32))) (x62 : Int32) (f63 : Nat → Int32) (fg : Nat → Int32) (fr : Nat → Int32) (pn : Nat → Int32) : (Int32) × (Int32) × (Nat → Int32) := (if r111.toInt = 0 then (K_findPeak_11 rec_2 x62 f63) else (K_findPeak_12 fg x62 rec_2 f63 fr pn))
def K_findPeak_4 (rec_2 : (Int32) → (Nat → Int32) → ((Int32) × (Int32) × (Nat → Int32))) (x62 : Int32) (f63 : Nat → Int32) (fg : Nat → Int32) (fr : Nat → Int32) (pn : Nat → Int32) (cup : Int32) : (Int32) × (Int32) × (Nat → Int32) := ((fun t9 => (K_findPeak_10 t9 rec_2 x62 f63 fg fr pn)) (M_isUp cup x62))
def K_findPeak_2 (rails : Int32) (x62 : Int32) (clast : Int32) (f63 : Nat → Int32) (rec_2 : (Int32) → (Nat → Int32) → ((Int32) × (Int32) × (Nat → Int32))) (fg : Nat → Int32) (fr : Nat → Int32) (pn : Nat → Int32) (cup : Int32) : (Int32) × (Int32) × (Nat → Int32) := (if rails.toInt ≤ x62.toInt then (K_findPeak_3 clast f63) else (K_findPeak_4 rec_2 x62 f63 fg fr pn cup))
def K_findPeak_L2 (rails : Int32) (clast : Int32) (fg : Nat → Int32) (fr : Nat → Int32) (pn : Nat → Int32) (cup : Int32) : Nat → (Int32) → (Nat → Int32) → (Int32) × (Int32) × (Nat → Int32)
  | 0, _, _ => (0, 0, fun _ => 0)
  | n9 + 1, x62, f63 => (K_findPeak_2 rails x62 clast f63 (K_findPeak_L2 rails clast fg fr pn cup n9) fg fr pn cup)
def K_findPeak_1 (rails : Int32) (clast : Int32) (fg : Nat → Int32) (fr : Nat → Int32) (pn : Nat → Int32) (cup : Int32) (cx : Nat → Int32) : (Int32) × (Int32) × (Nat → Int32) := (K_findPeak_L2 rails clast fg fr pn cup 100000 (0 : Int32) cx)
def M_findPeak (rails : Int32) (clast : Int32) (fg : Nat → Int32) (fr : Nat → Int32) (pn : Nat → Int32) (cup : Int32) (cx : Nat → Int32) : (Int32) × (Int32) × (Nat → Int32) := (K_findPeak_1 rails clast fg fr pn cup cx)
abbrev W_findPeak (cI cJ cZ cG cH : ClassId) (co : Nat) (pl : Nat) (fwa : Nat) (fta : Nat) (fra : Nat) (fga : Nat) (cxa : Nat) (cup : Int32) (clast : Int32) (cpeak : Int32) (cptick : Int32) (fr : Nat → Int32) (fg : Nat → Int32) (cx : Nat → Int32) (pna : Nat) (pta : Nat) (rails : Int32) (limit : Int32) (retry : Int32) (behind : Int32) (pn : Nat → Int32) : va_W := [oX0 co fwa fta fra fga cxa cup clast cpeak cptick, oAI fra cI 8 fr, oAI fga cI 8 fg, oAI cxa cI 145 cx, oX3 pl pna pta rails limit retry behind, oAI pna cI 64 pn]
abbrev Q_findPeak (D : va_G) (cI cJ cZ cG cH : ClassId) (co : Nat) (pl : Nat) (fwa : Nat) (fta : Nat) (fra : Nat) (fga : Nat) (cxa : Nat) (cup : Int32) (clast : Int32) (cpeak : Int32) (cptick : Int32) (fr : Nat → Int32) (fg : Nat → Int32) (cx : Nat → Int32) (pna : Nat) (pta : Nat) (rails : Int32) (limit : Int32) (retry : Int32) (behind : Int32) (pn : Nat → Int32) (A : Nat → Prop) : Array Value → State → Outcome → State → Prop := va_Qv (fun (_ : Unit) => True) (fun _ t => ∃ (cpeak9 : Int32) (cptick9 : Int32) (cx9 : Nat → Int32), ((-4) ≤ cptick9.toInt ∧ cptick9.toInt ≤ 144) ∧ (M_findPeak rails clast fg fr pn cup cx = (cpeak9, cptick9, cx9)) ∧ xB D (tyL cI cJ cZ cG cH) [oX0 co fwa fta fra fga cxa cup clast cpeak9 cptick9, oAI fra cI 8 fr, oAI fga cI 8 fg, oAI cxa cI 145 cx9, oX3 pl pna pta rails limit retry behind, oAI pna cI 64 pn] A t) A
abbrev rm_findPeak : Room := { frames := 1, cells := 0, slots := 0, locals := 22 }
set_option maxRecDepth 100000 in
set_option maxHeartbeats 40000000 in
theorem c_findPeak (l : Launch) (D : va_G) (cI cJ cZ cG cH : ClassId) (sz : Nat) (co : Nat) (pl : Nat) (fwa : Nat) (fta : Nat) (fra : Nat) (fga : Nat) (cxa : Nat) (cup : Int32) (clast : Int32) (cpeak : Int32) (cptick : Int32) (fr : Nat → Int32) (fg : Nat → Int32) (cx : Nat → Int32) (pna : Nat) (pta : Nat) (rails : Int32) (limit : Int32) (retry : Int32) (behind : Int32) (pn : Nat → Int32) (h_clast : 0 ≤ clast.toInt ∧ clast.toInt ≤ 144) (h_fr : ∀ j, j < 8 → 0 ≤ (fr j).toInt ∧ (fr j).toInt ≤ 655) (h_fg : ∀ j, j < 8 → 0 ≤ (fg j).toInt ∧ (fg j).toInt ≤ 1166) (h_rails : 0 ≤ rails.toInt ∧ rails.toInt ≤ 8) (h_pn : ∀ j, j < 64 → 0 ≤ (pn j).toInt ∧ (pn j).toInt ≤ 511) (h_le : ∀ j, j < 8 → (fr j).toInt ≤ (fg j).toInt) : Met l yX0_findPeak (wt yX0_findPeak cX0_findPeak 4 none) rm_findPeak (xPc [.ref co, .ref pl] D (tyL cI cJ cZ cG cH) (W_findPeak cI cJ cZ cG cH co pl fwa fta fra fga cxa cup clast cpeak cptick fr fg cx pna pta rails limit retry behind pn) sz) (Q_findPeak D cI cJ cZ cG cH co pl fwa fta fra fga cxa cup clast cpeak cptick fr fg cx pna pta rails limit retry behind pn (va_A (W_findPeak cI cJ cZ cG cH co pl fwa fta fra fga cxa cup clast cpeak cptick fr fg cx pna pta rails limit retry behind pn) sz)) 0 0 (va_A (W_findPeak cI cJ cZ cG cH co pl fwa fta fra fga cxa cup clast cpeak cptick fr fg cx pna pta rails limit retry behind pn) sz) := by
  refine xMet (cc := cX0_findPeak) (maxL := 4) (ret := none) (Qf := Q_findPeak D cI cJ cZ cG cH co pl fwa fta fra fga cxa cup clast cpeak cptick fr fg cx pna pta rails limit retry behind pn) (by decide) rfl (Nat.le_of_ble_eq_true rfl) ?_
  intro p e s m below meth c ls A hx hb hr hml hts hown hlocks hnm hsz hP hK hD hA hS hl
  have hown : s.vm.findClass RX0 = some m.cls := hown
  have hP : va_P D vwCl [oX0 co fwa fta fra fga cxa cup clast cpeak cptick, oAI fra cI 8 fr, oAI fga cI 8 fg, oAI cxa cI 145 cx, oX3 pl pna pta rails limit retry behind, oAI pna cI 64 pn] s.heap := hP
  have hD : va_D A [oX0 co fwa fta fra fga cxa cup clast cpeak cptick, oAI fra cI 8 fr, oAI fga cI 8 fg, oAI cxa cI 145 cx, oX3 pl pna pta rails limit retry behind, oAI pna cI 64 pn] := hD
  have hl : lv_has ls 4 [(0, .ref co), (1, .ref pl)] := hl
  have hM : M_findPeak rails clast fg fr pn cup cx = (K_findPeak_1 rails clast fg fr pn cup cx) := rfl
  refine lv_iconst (v := 0) hx hb dX0_findPeak_0 (by decide) ?_
  refine lv_istore_n (lv' := [(2, .int 0), (0, .ref co), (1, .ref pl)]) hx hb dX0_findPeak_1 rfl hl (by decide) rfl (fun ls hl => ?_)
  have hl64 : ∀ (nhl64 : Nat) (x62 : Int32) (f63 : Nat → Int32), ((8 - x62.toInt).toNat < nhl64) → (hx62 : 0 ≤ x62.toInt ∧ x62.toInt ≤ 8) → (hM : M_findPeak rails clast fg fr pn cup cx = (K_findPeak_L2 rails clast fg fr pn cup nhl64 x62 f63)) → ∀ (H : Heap) (locs : List Loc), va_P D vwCl [oX0 co fwa fta fra fga cxa cup clast cpeak cptick, oAI fra cI 8 fr, oAI fga cI 8 fg, oAI cxa cI 145 f63, oX3 pl pna pta rails limit retry behind, oAI pna cI 64 pn] H → va_D A [oX0 co fwa fta fra fga cxa cup clast cpeak cptick, oAI fra cI 8 fr, oAI fga cI 8 fg, oAI cxa cI 145 f63, oX3 pl pna pta rails limit retry behind, oAI pna cI 64 pn] → va_S A s.heap H locs → ∀ (ls : Array Slot), lv_has ls 4 [(2, .int x62), (0, .ref co), (1, .ref pl)] → W p l e rm_findPeak s m [Value.ref co, Value.ref pl].toArray below meth c H locs 0 0 (MQ below ((Q_findPeak D cI cJ cZ cG cH co pl fwa fta fra fga cxa cup clast cpeak cptick fr fg cx pna pta rails limit retry behind pn) A) [Value.ref co, Value.ref pl].toArray s 0 0 A) (F0 m 2 ls []) := by
    intro nhl64
    induction nhl64 with
    | zero =>
      intro x62 f63 hmhl64
      exact absurd hmhl64 (Nat.not_lt_zero _)
    | succ nhl64 ihhl64 =>
      intro x62 f63 hmhl64 hx62 hM H locs hP hD hS ls hl
      have hM : M_findPeak rails clast fg fr pn cup cx = (K_findPeak_2 rails x62 clast f63 (K_findPeak_L2 rails clast fg fr pn cup nhl64) fg fr pn cup) := hM
      refine lv_iload_n hx hb dX0_findPeak_2 rfl (lv_at hl 0 rfl) ?_
      refine lv_aload_n hx hb dX0_findPeak_3 rfl (lv_at hl 2 rfl) ?_
      refine va_get (D := D) (ci := 2) (v := .int rails) (C := RX3) (T := TX3) (N := 6) hx hb hts (fun w h => tbC w (tbfX3 w h)) hown hK hP 4 rfl rfl 2 (by decide) (hts (.fieldLink RX0 27 "PowerRails$Plan" "rails" "I") (tbC _ wd206)) (fun _ h9 => h9) rfl dX0_findPeak_4 ?_
      refine lv_icmp_ge (tgt := 83) hx hb dX0_findPeak_7 (by decide) (fun c_65 => ?_) (fun c_65 => ?_)
      · skip
        have i_65 : rails.toInt ≤ x62.toInt := (ile rfl rfl).mp c_65
        have hM : M_findPeak rails clast fg fr pn cup cx = (K_findPeak_3 clast f63) := (show M_findPeak rails clast fg fr pn cup cx = (if rails.toInt ≤ x62.toInt then (K_findPeak_3 clast f63) else (K_findPeak_4 (K_findPeak_L2 rails clast fg fr pn cup nhl64) x62 f63 fg fr pn cup)) from hM).trans (if_pos i_65)
        refine lv_aload_n hx hb dX0_findPeak_83 rfl (lv_at hl 1 rfl) ?_
        refine lv_bipush (v := (-4)) hx hb dX0_findPeak_84 (by decide) ?_
        refine va_put (D := D) (ci := 0) (v := .int (-4)) (ty := .int) (C := RX0) (T := TX0) (N := 9) hx hb hts (fun w h => tbC w (tbfX0 w h)) tyX0 tyX0_ok nmX0 hown hK hP hD hS 0 rfl rfl 7 (by decide) (hts (.fieldLink RX0 70 "PowerRails$Course" "peak" "I") (tbC _ wd153)) (fun _ h9 => h9) rfl (by decide +kernel) rfl rfl (Nat.le_of_ble_eq_true rfl) dX0_findPeak_86 (fun H locs hP hD hS => ?_)
        obtain ⟨hP, hD⟩ : xPD D A [oX0 co fwa fta fra fga cxa cup clast (-4) cptick, oAI fra cI 8 fr, oAI fga cI 8 fg, oAI cxa cI 145 f63, oX3 pl pna pta rails limit retry behind, oAI pna cI 64 pn] H := ⟨hP, hD⟩
        refine lv_aload_n hx hb dX0_findPeak_89 rfl (lv_at hl 1 rfl) ?_
        refine lv_bipush (v := (-4)) hx hb dX0_findPeak_90 (by decide) ?_
        refine va_put (D := D) (ci := 0) (v := .int (-4)) (ty := .int) (C := RX0) (T := TX0) (N := 9) hx hb hts (fun w h => tbC w (tbfX0 w h)) tyX0 tyX0_ok nmX0 hown hK hP hD hS 0 rfl rfl 8 (by decide) (hts (.fieldLink RX0 73 "PowerRails$Course" "peakTick" "I") (tbC _ wd155)) (fun _ h9 => h9) rfl (by decide +kernel) rfl rfl (Nat.le_of_ble_eq_true rfl) dX0_findPeak_92 (fun H locs hP hD hS => ?_)
        obtain ⟨hP, hD⟩ : xPD D A [oX0 co fwa fta fra fga cxa cup clast (-4) (-4), oAI fra cI 8 fr, oAI fga cI 8 fg, oAI cxa cI 145 f63, oX3 pl pna pta rails limit retry behind, oAI pna cI 64 pn] H := ⟨hP, hD⟩
        refine lv_iconst (v := 0) hx hb dX0_findPeak_95 (by decide) ?_
        refine lv_istore_n (lv' := [(2, .int 0), (0, .ref co), (1, .ref pl)]) hx hb dX0_findPeak_96 rfl hl (by decide) rfl (fun ls hl => ?_)
        refine lv_iconst (v := 0) hx hb dX0_findPeak_97 (by decide) ?_
        refine lv_istore_n (lv' := [(3, .int 0), (2, .int 0), (0, .ref co), (1, .ref pl)]) hx hb dX0_findPeak_98 rfl hl (by decide) rfl (fun ls hl => ?_)
        have hl102 : ∀ (nhl102 : Nat) (x97 : Int32) (x98 : Int32) (x99 : Int32) (x100 : Int32) (f101 : Nat → Int32), ((145 - x97.toInt).toNat < nhl102) → (hx97 : 0 ≤ x97.toInt ∧ x97.toInt ≤ 145) → (hx100 : (-4) ≤ x100.toInt ∧ x100.toInt ≤ 144) → (hM : M_findPeak rails clast fg fr pn cup cx = (K_findPeak_L5 clast nhl102 x97 x98 x99 x100 f101)) → ∀ (H : Heap) (locs : List Loc), va_P D vwCl [oX0 co fwa fta fra fga cxa cup clast x99 x100, oAI fra cI 8 fr, oAI fga cI 8 fg, oAI cxa cI 145 f101, oX3 pl pna pta rails limit retry behind, oAI pna cI 64 pn] H → va_D A [oX0 co fwa fta fra fga cxa cup clast x99 x100, oAI fra cI 8 fr, oAI fga cI 8 fg, oAI cxa cI 145 f101, oX3 pl pna pta rails limit retry behind, oAI pna cI 64 pn] → va_S A s.heap H locs → ∀ (ls : Array Slot), lv_has ls 4 [(3, .int x97), (2, .int x98), (0, .ref co), (1, .ref pl)] → W p l e rm_findPeak s m [Value.ref co, Value.ref pl].toArray below meth c H locs 0 0 (MQ below ((Q_findPeak D cI cJ cZ cG cH co pl fwa fta fra fga cxa cup clast cpeak cptick fr fg cx pna pta rails limit retry behind pn) A) [Value.ref co, Value.ref pl].toArray s 0 0 A) (F0 m 99 ls []) := by
          intro nhl102
          induction nhl102 with
          | zero =>
            intro x97 x98 x99 x100 f101 hmhl102
            exact absurd hmhl102 (Nat.not_lt_zero _)
          | succ nhl102 ihhl102 =>
            intro x97 x98 x99 x100 f101 hmhl102 hx97 hx100 hM H locs hP hD hS ls hl
            have hM : M_findPeak rails clast fg fr pn cup cx = (K_findPeak_5 clast x97 x99 x100 f101 x98 (K_findPeak_L5 clast nhl102)) := hM
            refine lv_iload_n hx hb dX0_findPeak_99 rfl (lv_at hl 0 rfl) ?_
            refine lv_aload_n hx hb dX0_findPeak_100 rfl (lv_at hl 2 rfl) ?_
            refine va_get (D := D) (ci := 0) (v := .int clast) (C := RX0) (T := TX0) (N := 9) hx hb hts (fun w h => tbC w (tbfX0 w h)) hown hK hP 0 rfl rfl 6 (by decide) (hts (.fieldLink RX0 46 "PowerRails$Course" "last" "I") (tbC _ wd150)) (fun _ h9 => h9) rfl dX0_findPeak_101 ?_
            refine lv_icmp_gt (tgt := 154) hx hb dX0_findPeak_104 (by decide) (fun c_103 => ?_) (fun c_103 => ?_)
            · skip
              have i_103 : clast.toInt < x97.toInt := (ilt rfl rfl).mp c_103
              have hM : M_findPeak rails clast fg fr pn cup cx = (K_findPeak_6 x99 x100 f101) := (show M_findPeak rails clast fg fr pn cup cx = (if clast.toInt < x97.toInt then (K_findPeak_6 x99 x100 f101) else (K_findPeak_7 x98 f101 x97 x99 (K_findPeak_L5 clast nhl102) x100)) from hM).trans (if_pos i_103)
              refine W.widen (k := 0) (n := 0) (by decide) (by decide) ?_
              exact W.vret hx hb hr (fun t ht hW => ⟨⟨(), rfl, trivial, ⟨x99, x100, f101, (xrng rfl (by omega) (by omega)), hM, xB_of9 ht hW hP hK hD [0, 1, 2, 3, 4, 5] (by decide +kernel) rfl⟩⟩, hS.F ht⟩) hS.2.2 dX0_findPeak_154
            · skip
              have i_103 : ¬ (clast.toInt < x97.toInt) := fun h9 => c_103 ((ilt rfl rfl).mpr h9)
              have hM : M_findPeak rails clast fg fr pn cup cx = (K_findPeak_7 x98 f101 x97 x99 (K_findPeak_L5 clast nhl102) x100) := (show M_findPeak rails clast fg fr pn cup cx = (if clast.toInt < x97.toInt then (K_findPeak_6 x99 x100 f101) else (K_findPeak_7 x98 f101 x97 x99 (K_findPeak_L5 clast nhl102) x100)) from hM).trans (if_neg i_103)
              refine lv_iload_n hx hb dX0_findPeak_107 rfl (lv_at hl 0 rfl) ?_
              refine lv_sipush (v := 144) hx hb dX0_findPeak_108 (by decide) ?_
              refine lv_icmp_gt (tgt := 154) hx hb dX0_findPeak_111 (by decide) (fun c_104 => ?_) (fun c_104 => ?_)
              · skip
                have i_104 : 144 < x97.toInt := (ilt (by decide) rfl).mp c_104
                exfalso
                omega
              · skip
                have i_104 : ¬ (144 < x97.toInt) := fun h9 => c_104 ((ilt (by decide) rfl).mpr h9)
                refine lv_iload_n hx hb dX0_findPeak_114 rfl (lv_at hl 1 rfl) ?_
                refine lv_aload_n hx hb dX0_findPeak_115 rfl (lv_at hl 2 rfl) ?_
                refine va_get (D := D) (ci := 0) (v := .ref cxa) (C := RX0) (T := TX0) (N := 9) hx hb hts (fun w h => tbC w (tbfX0 w h)) hown hK hP 0 rfl rfl 4 (by decide) (hts (.fieldLink RX0 24 "PowerRails$Course" "changes" "[I") (tbC _ wd146)) (fun _ h9 => h9) rfl dX0_findPeak_116 ?_
                refine lv_iload_n hx hb dX0_findPeak_119 rfl (lv_at hl 0 rfl) ?_
                refine va_iald hx hb hK hP 3 0 rfl rfl (vp_in_iff.mpr ⟨by omega, by omega⟩) dX0_findPeak_120 ?_
                refine lv_topi (fun v105 ev105 => ?_)
                refine lv_iadd hx hb dX0_findPeak_121 ?_
                refine lv_topi (fun v106 ev106 => ?_)
                refine lv_istore_n (lv' := [(2, .int v106), (3, .int x97), (0, .ref co), (1, .ref pl)]) hx hb dX0_findPeak_122 rfl hl (by decide) rfl (fun ls hl => ?_)
                refine lv_aload_n hx hb dX0_findPeak_123 rfl (lv_at hl 2 rfl) ?_
                refine va_get (D := D) (ci := 0) (v := .ref cxa) (C := RX0) (T := TX0) (N := 9) hx hb hts (fun w h => tbC w (tbfX0 w h)) hown hK hP 0 rfl rfl 4 (by decide) (hts (.fieldLink RX0 24 "PowerRails$Course" "changes" "[I") (tbC _ wd146)) (fun _ h9 => h9) rfl dX0_findPeak_124 ?_
                refine lv_iload_n hx hb dX0_findPeak_127 rfl (lv_at hl 1 rfl) ?_
                refine lv_iconst (v := 0) hx hb dX0_findPeak_128 (by decide) ?_
                refine va_iast hx hb hK hP hD hS 3 0 rfl rfl (vp_in_iff.mpr ⟨by omega, by omega⟩) dX0_findPeak_129 (fun H locs hP hD hS => ?_)
                obtain ⟨f107, ef107⟩ : ∃ fz9 : Nat → Int32, fz9 = upd f101 (x97 : Int32).toNatClampNeg 0 := ⟨_, rfl⟩
                have hP : va_P D vwCl [oX0 co fwa fta fra fga cxa cup clast x99 x100, oAI fra cI 8 fr, oAI fga cI 8 fg, oAI cxa cI 145 f107, oX3 pl pna pta rails limit retry behind, oAI pna cI 64 pn] H := by rw [ef107]; exact hP
                have hD : va_D A [oX0 co fwa fta fra fga cxa cup clast x99 x100, oAI fra cI 8 fr, oAI fga cI 8 fg, oAI cxa cI 145 f107, oX3 pl pna pta rails limit retry behind, oAI pna cI 64 pn] := by rw [ef107]; exact hD
                refine lv_iload_n hx hb dX0_findPeak_130 rfl (lv_at hl 0 rfl) ?_
                refine lv_aload_n hx hb dX0_findPeak_131 rfl (lv_at hl 2 rfl) ?_
                refine va_get (D := D) (ci := 0) (v := .int x99) (C := RX0) (T := TX0) (N := 9) hx hb hts (fun w h => tbC w (tbfX0 w h)) hown hK hP 0 rfl rfl 7 (by decide) (hts (.fieldLink RX0 70 "PowerRails$Course" "peak" "I") (tbC _ wd153)) (fun _ h9 => h9) rfl dX0_findPeak_132 ?_
                refine lv_icmp_le (tgt := 148) hx hb dX0_findPeak_135 (by decide) (fun c_108 => ?_) (fun c_108 => ?_)
                · skip
                  have i_108 : v106.toInt ≤ x99.toInt := (ile rfl rfl).mp c_108
                  have hM : M_findPeak rails clast fg fr pn cup cx = (K_findPeak_8 (K_findPeak_L5 clast nhl102) x97 v106 x99 x100 f107) := (show M_findPeak rails clast fg fr pn cup cx = (if v106.toInt ≤ x99.toInt then (K_findPeak_8 (K_findPeak_L5 clast nhl102) x97 v106 x99 x100 f107) else (K_findPeak_9 (K_findPeak_L5 clast nhl102) x97 v106 f107)) from (by rw [ef107, ev106, ev105]; exact hM)).trans (if_pos i_108)
                  obtain ⟨x109, ex109⟩ : ∃ y : Int32, y = x97 + 1 := ⟨_, rfl⟩
                  have tx109 : x109.toInt = (x97.toInt + 1) := (congrArg Int32.toInt ex109).trans (xadd rfl (by decide) (by omega) (by omega))
                  refine lv_iinc (v := x109) (lv' := [(3, .int x109), (2, .int v106), (0, .ref co), (1, .ref pl)]) hx hb dX0_findPeak_148 hl (k := 1) rfl (by rw [ex109]; rfl) (by decide) rfl (fun ls hl => ?_)
                  refine lv_goto (tgt := 99) hx hb dX0_findPeak_151 (by decide) ?_
                  exact ihhl102 x109 v106 x99 x100 f107 (by omega) (xrng tx109 (by omega) (by omega)) (xrng rfl (by omega) (by omega)) (by rw [ex109]; exact hM) _ _ hP hD hS ls (lv_sub hl [0, 1, 2, 3] rfl)
                · skip
                  have i_108 : ¬ (v106.toInt ≤ x99.toInt) := fun h9 => c_108 ((ile rfl rfl).mpr h9)
                  have hM : M_findPeak rails clast fg fr pn cup cx = (K_findPeak_9 (K_findPeak_L5 clast nhl102) x97 v106 f107) := (show M_findPeak rails clast fg fr pn cup cx = (if v106.toInt ≤ x99.toInt then (K_findPeak_8 (K_findPeak_L5 clast nhl102) x97 v106 x99 x100 f107) else (K_findPeak_9 (K_findPeak_L5 clast nhl102) x97 v106 f107)) from (by rw [ef107, ev106, ev105]; exact hM)).trans (if_neg i_108)
                  refine lv_aload_n hx hb dX0_findPeak_138 rfl (lv_at hl 2 rfl) ?_
                  refine lv_iload_n hx hb dX0_findPeak_139 rfl (lv_at hl 0 rfl) ?_
                  refine va_put (D := D) (ci := 0) (v := .int v106) (ty := .int) (C := RX0) (T := TX0) (N := 9) hx hb hts (fun w h => tbC w (tbfX0 w h)) tyX0 tyX0_ok nmX0 hown hK hP hD hS 0 rfl rfl 7 (by decide) (hts (.fieldLink RX0 70 "PowerRails$Course" "peak" "I") (tbC _ wd153)) (fun _ h9 => h9) rfl (by decide +kernel) rfl rfl (Nat.le_of_ble_eq_true rfl) dX0_findPeak_140 (fun H locs hP hD hS => ?_)
                  obtain ⟨hP, hD⟩ : xPD D A [oX0 co fwa fta fra fga cxa cup clast v106 x100, oAI fra cI 8 fr, oAI fga cI 8 fg, oAI cxa cI 145 f107, oX3 pl pna pta rails limit retry behind, oAI pna cI 64 pn] H := ⟨hP, hD⟩
                  refine lv_aload_n hx hb dX0_findPeak_143 rfl (lv_at hl 2 rfl) ?_
                  refine lv_iload_n hx hb dX0_findPeak_144 rfl (lv_at hl 1 rfl) ?_
                  refine va_put (D := D) (ci := 0) (v := .int x97) (ty := .int) (C := RX0) (T := TX0) (N := 9) hx hb hts (fun w h => tbC w (tbfX0 w h)) tyX0 tyX0_ok nmX0 hown hK hP hD hS 0 rfl rfl 8 (by decide) (hts (.fieldLink RX0 73 "PowerRails$Course" "peakTick" "I") (tbC _ wd155)) (fun _ h9 => h9) rfl (by decide +kernel) rfl rfl (Nat.le_of_ble_eq_true rfl) dX0_findPeak_145 (fun H locs hP hD hS => ?_)
                  obtain ⟨hP, hD⟩ : xPD D A [oX0 co fwa fta fra fga cxa cup clast v106 x97, oAI fra cI 8 fr, oAI fga cI 8 fg, oAI cxa cI 145 f107, oX3 pl pna pta rails limit retry behind, oAI pna cI 64 pn] H := ⟨hP, hD⟩
                  obtain ⟨x110, ex110⟩ : ∃ y : Int32, y = x97 + 1 := ⟨_, rfl⟩
                  have tx110 : x110.toInt = (x97.toInt + 1) := (congrArg Int32.toInt ex110).trans (xadd rfl (by decide) (by omega) (by omega))
                  refine lv_iinc (v := x110) (lv' := [(3, .int x110), (2, .int v106), (0, .ref co), (1, .ref pl)]) hx hb dX0_findPeak_148 hl (k := 1) rfl (by rw [ex110]; rfl) (by decide) rfl (fun ls hl => ?_)
                  refine lv_goto (tgt := 99) hx hb dX0_findPeak_151 (by decide) ?_
                  exact ihhl102 x110 v106 v106 x97 f107 (by omega) (xrng tx110 (by omega) (by omega)) (xrng rfl (by omega) (by omega)) (by rw [ex110]; exact hM) _ _ hP hD hS ls (lv_sub hl [0, 1, 2, 3] rfl)
        exact hl102 100000 0 0 (-4) (-4) f63 (by have z9_0 : (0 : Int32).toInt = 0 := (by decide); have z9_1 : (-4 : Int32).toInt = -4 := (by decide); omega) ⟨by decide, by decide⟩ ⟨by decide, by decide⟩ hM _ _ hP hD hS ls (lv_sub hl [0, 1, 2, 3] rfl)
      · skip
        have i_65 : ¬ (rails.toInt ≤ x62.toInt) := fun h9 => c_65 ((ile rfl rfl).mpr h9)
        have hM : M_findPeak rails clast fg fr pn cup cx = (K_findPeak_4 (K_findPeak_L2 rails clast fg fr pn cup nhl64) x62 f63 fg fr pn cup) := (show M_findPeak rails clast fg fr pn cup cx = (if rails.toInt ≤ x62.toInt then (K_findPeak_3 clast f63) else (K_findPeak_4 (K_findPeak_L2 rails clast fg fr pn cup nhl64) x62 f63 fg fr pn cup)) from hM).trans (if_neg i_65)
        refine lv_aload_n hx hb dX0_findPeak_10 rfl (lv_at hl 1 rfl) ?_
        refine lv_iload_n hx hb dX0_findPeak_11 rfl (lv_at hl 0 rfl) ?_
        obtain ⟨hPc, hDc, hFc, hC9⟩ := xpk (wc := W_isUp cI cJ cZ cG cH co x62 fwa fta fra fga cxa cup clast cpeak cptick) hP hD hS hA [0] (by decide +kernel) rfl
        refine va_calli (va_runV (As := [.int x62]) (rest := []) ⟨hx, hb, hml, hown, hts⟩ (c_isUp l D cI cJ cZ cG cH H.size co x62 fwa fta fra fga cxa cup clast cpeak cptick (xrng rfl (by omega) (by omega))) (cwV 1 hts (xGV tbC wd574 wd540 wd541 wd54 wd1051) rfl rfl rfl (by decide +kernel) ⟨Nat.le_of_ble_eq_true rfl, Nat.le_of_ble_eq_true rfl⟩) ⟨xPc_blind, va_recv hK hPc (ci := 0) (q0 := 0) rfl rfl, xPc_pre hPc hK hDc⟩ rfl rfl hl.1 rfl (lv_room (Nat.le_of_ble_eq_true rfl)) dX0_findPeak_12 ⟨Nat.le_of_ble_eq_true rfl, Nat.le_of_ble_eq_true rfl⟩) hS (fun q _ h => hFc q h) hFc (fun r111 u t H1 locs ht hvm hw111 hB hz1 hk1 hS => ?_)
        obtain ⟨hru9, hw111⟩ := hw111
        subst hru9
        obtain ⟨hf111_0, hP1, hK1, hD1⟩ := hB
        rw [ht] at hP1
        obtain ⟨hP, hD⟩ : xPD D A [oAI fra cI 8 fr, oAI fga cI 8 fg, oAI cxa cI 145 f63, oX3 pl pna pta rails limit retry behind, oAI pna cI 64 pn, oX0 co fwa fta fra fga cxa cup clast cpeak cptick] H1 := xjn 5 hP hD [0] [1, 2, 3, 4, 5] hC9 rfl (by decide +kernel) (by decide +kernel) hk1 hFc hP1 hD1
        generalize H1 = H at hP hS ⊢
        have hf111_0 : M_isUp cup x62 = (r111) := hf111_0
        have hw111 : 0 ≤ r111.toInt ∧ r111.toInt ≤ 1 := hw111
        have h9M := congrArg (fun t9 => (K_findPeak_10 t9 (K_findPeak_L2 rails clast fg fr pn cup nhl64) x62 f63 fg fr pn)) hf111_0
        have hM : M_findPeak rails clast fg fr pn cup cx = (K_findPeak_10 r111 (K_findPeak_L2 rails clast fg fr pn cup nhl64) x62 f63 fg fr pn) := (show M_findPeak rails clast fg fr pn cup cx = ((fun t9 => (K_findPeak_10 t9 (K_findPeak_L2 rails clast fg fr pn cup nhl64) x62 f63 fg fr pn)) (M_isUp cup x62)) from hM).trans h9M
        refine lv_if_eq (tgt := 77) hx hb dX0_findPeak_15 (by decide) (fun c_112 => ?_) (fun c_112 => ?_)
        · skip
          have i_112 : r111.toInt = 0 := (ieq rfl (by decide)).mp c_112
          have hM : M_findPeak rails clast fg fr pn cup cx = (K_findPeak_11 (K_findPeak_L2 rails clast fg fr pn cup nhl64) x62 f63) := (show M_findPeak rails clast fg fr pn cup cx = (if r111.toInt = 0 then (K_findPeak_11 (K_findPeak_L2 rails clast fg fr pn cup nhl64) x62 f63) else (K_findPeak_12 fg x62 (K_findPeak_L2 rails clast fg fr pn cup nhl64) f63 fr pn)) from hM).trans (if_pos i_112)
          obtain ⟨x113, ex113⟩ : ∃ y : Int32, y = x62 + 1 := ⟨_, rfl⟩
          have tx113 : x113.toInt = (x62.toInt + 1) := (congrArg Int32.toInt ex113).trans (xadd rfl (by decide) (by omega) (by omega))
          refine lv_iinc (v := x113) (lv' := [(2, .int x113), (0, .ref co), (1, .ref pl)]) hx hb dX0_findPeak_77 hl (k := 0) rfl (by rw [ex113]; rfl) (by decide) rfl (fun ls hl => ?_)
          refine lv_goto (tgt := 2) hx hb dX0_findPeak_80 (by decide) ?_
          obtain ⟨hP, hD⟩ := xsb (ws' := [oX0 co fwa fta fra fga cxa cup clast cpeak cptick, oAI fra cI 8 fr, oAI fga cI 8 fg, oAI cxa cI 145 f63, oX3 pl pna pta rails limit retry behind, oAI pna cI 64 pn]) hP hD [5, 0, 1, 2, 3, 4] (by decide +kernel) rfl
          exact ihhl64 x113 f63 (by omega) (xrng tx113 (by omega) (by omega)) (by rw [ex113]; exact hM) _ _ hP hD hS ls (lv_sub hl [0, 1, 2] rfl)
        · skip
          have i_112 : ¬ (r111.toInt = 0) := fun h9 => c_112 ((ieq rfl (by decide)).mpr h9)
          have hM : M_findPeak rails clast fg fr pn cup cx = (K_findPeak_12 fg x62 (K_findPeak_L2 rails clast fg fr pn cup nhl64) f63 fr pn) := (show M_findPeak rails clast fg fr pn cup cx = (if r111.toInt = 0 then (K_findPeak_11 (K_findPeak_L2 rails clast fg fr pn cup nhl64) x62 f63) else (K_findPeak_12 fg x62 (K_findPeak_L2 rails clast fg fr pn cup nhl64) f63 fr pn)) from hM).trans (if_neg i_112)
          refine lv_aload_n hx hb dX0_findPeak_18 rfl (lv_at hl 1 rfl) ?_
          refine va_get (D := D) (ci := 0) (v := .ref fga) (C := RX0) (T := TX0) (N := 9) hx hb hts (fun w h => tbC w (tbfX0 w h)) hown hK hP 5 rfl rfl 3 (by decide) (hts (.fieldLink RX0 21 "PowerRails$Course" "goodAt" "[I") (tbC _ wd143)) (fun _ h9 => h9) rfl dX0_findPeak_19 ?_
          refine lv_iload_n hx hb dX0_findPeak_22 rfl (lv_at hl 0 rfl) ?_
          refine va_iald hx hb hK hP 1 0 rfl rfl (vp_in_iff.mpr ⟨by omega, by omega⟩) dX0_findPeak_23 ?_
          refine lv_topi (fun v114 ev114 => ?_)
          have rv114 : 0 ≤ v114.toInt ∧ v114.toInt ≤ 1166 := xrd ev114 h_fg (xinK (vp_in_iff.mpr ⟨by omega, by omega⟩))
          refine lv_sipush (v := 144) hx hb dX0_findPeak_24 (by decide) ?_
          refine lv_icmp_gt (tgt := 77) hx hb dX0_findPeak_27 (by decide) (fun c_115 => ?_) (fun c_115 => ?_)
          · skip
            have i_115 : 144 < v114.toInt := (ilt (by decide) rfl).mp c_115
            have hM : M_findPeak rails clast fg fr pn cup cx = (K_findPeak_13 (K_findPeak_L2 rails clast fg fr pn cup nhl64) x62 f63) := (show M_findPeak rails clast fg fr pn cup cx = (if 144 < v114.toInt then (K_findPeak_13 (K_findPeak_L2 rails clast fg fr pn cup nhl64) x62 f63) else (K_findPeak_14 (K_findPeak_L2 rails clast fg fr pn cup nhl64) x62 f63 fr fg pn)) from (by rw [ev114]; exact hM)).trans (if_pos i_115)
            obtain ⟨x116, ex116⟩ : ∃ y : Int32, y = x62 + 1 := ⟨_, rfl⟩
            have tx116 : x116.toInt = (x62.toInt + 1) := (congrArg Int32.toInt ex116).trans (xadd rfl (by decide) (by omega) (by omega))
            refine lv_iinc (v := x116) (lv' := [(2, .int x116), (0, .ref co), (1, .ref pl)]) hx hb dX0_findPeak_77 hl (k := 0) rfl (by rw [ex116]; rfl) (by decide) rfl (fun ls hl => ?_)
            refine lv_goto (tgt := 2) hx hb dX0_findPeak_80 (by decide) ?_
            obtain ⟨hP, hD⟩ := xsb (ws' := [oX0 co fwa fta fra fga cxa cup clast cpeak cptick, oAI fra cI 8 fr, oAI fga cI 8 fg, oAI cxa cI 145 f63, oX3 pl pna pta rails limit retry behind, oAI pna cI 64 pn]) hP hD [5, 0, 1, 2, 3, 4] (by decide +kernel) rfl
            exact ihhl64 x116 f63 (by omega) (xrng tx116 (by omega) (by omega)) (by rw [ex116]; exact hM) _ _ hP hD hS ls (lv_sub hl [0, 1, 2] rfl)
          · skip
            have i_115 : ¬ (144 < v114.toInt) := fun h9 => c_115 ((ilt (by decide) rfl).mpr h9)
            have hM : M_findPeak rails clast fg fr pn cup cx = (K_findPeak_14 (K_findPeak_L2 rails clast fg fr pn cup nhl64) x62 f63 fr fg pn) := (show M_findPeak rails clast fg fr pn cup cx = (if 144 < v114.toInt then (K_findPeak_13 (K_findPeak_L2 rails clast fg fr pn cup nhl64) x62 f63) else (K_findPeak_14 (K_findPeak_L2 rails clast fg fr pn cup nhl64) x62 f63 fr fg pn)) from (by rw [ev114]; exact hM)).trans (if_neg i_115)
            refine lv_aload_n hx hb dX0_findPeak_30 rfl (lv_at hl 1 rfl) ?_
            refine va_get (D := D) (ci := 0) (v := .ref cxa) (C := RX0) (T := TX0) (N := 9) hx hb hts (fun w h => tbC w (tbfX0 w h)) hown hK hP 5 rfl rfl 4 (by decide) (hts (.fieldLink RX0 24 "PowerRails$Course" "changes" "[I") (tbC _ wd146)) (fun _ h9 => h9) rfl dX0_findPeak_31 ?_
            refine lv_aload_n hx hb dX0_findPeak_34 rfl (lv_at hl 1 rfl) ?_
            refine va_get (D := D) (ci := 0) (v := .ref fra) (C := RX0) (T := TX0) (N := 9) hx hb hts (fun w h => tbC w (tbfX0 w h)) hown hK hP 5 rfl rfl 2 (by decide) (hts (.fieldLink RX0 18 "PowerRails$Course" "risesAt" "[I") (tbC _ wd142)) (fun _ h9 => h9) rfl dX0_findPeak_35 ?_
            refine lv_iload_n hx hb dX0_findPeak_38 rfl (lv_at hl 0 rfl) ?_
            refine va_iald hx hb hK hP 0 0 rfl rfl (vp_in_iff.mpr ⟨by omega, by omega⟩) dX0_findPeak_39 ?_
            refine lv_topi (fun v117 ev117 => ?_)
            have rv117 : 0 ≤ v117.toInt ∧ v117.toInt ≤ 655 := xrd ev117 h_fr (xinK (vp_in_iff.mpr ⟨by omega, by omega⟩))
            have q39v117 : v117.toInt ≤ v114.toInt := by rw [ev117, ev114]; exact h_le _ (by first | decide | exact xinK (vp_in_iff.mpr ⟨by omega, by omega⟩))
            refine lv_dup2_11 hx hb dX0_findPeak_40 rfl rfl ?_
            refine va_iald hx hb hK hP 2 0 rfl rfl (vp_in_iff.mpr ⟨by omega, by omega⟩) dX0_findPeak_41 ?_
            refine lv_topi (fun v118 ev118 => ?_)
            refine lv_aload_n hx hb dX0_findPeak_42 rfl (lv_at hl 2 rfl) ?_
            refine lv_iload_n hx hb dX0_findPeak_43 rfl (lv_at hl 0 rfl) ?_
            refine lv_iconst (v := 4) hx hb dX0_findPeak_44 (by decide) ?_
            obtain ⟨hPc, hDc, hFc, hC9⟩ := xpk (wc := W_number cI cJ cZ cG cH pl x62 (4 : Int32) pna pta rails limit retry behind pn) hP hD hS hA [3, 4] (by decide +kernel) rfl
            refine va_calli (va_runV (As := [.int x62, .int 4]) (rest := [.int v118, .int v117, .ref cxa]) ⟨hx, hb, hml, hown, hts⟩ (c_number l D cI cJ cZ cG cH H.size pl x62 (4 : Int32) pna pta rails limit retry behind pn (xrng rfl (by omega) (by omega)) ⟨by decide, by decide⟩ (xrng rfl (by omega) (by omega)) (xwk_rng h_pn (by decide) (by decide))) (cwV 2 hts (xGV tbC wd518 wd368 wd369 wd59 wd996) rfl rfl rfl (by decide +kernel) ⟨Nat.le_of_ble_eq_true rfl, Nat.le_of_ble_eq_true rfl⟩) ⟨xPc_blind, va_recv hK hPc (ci := 2) (q0 := 0) rfl rfl, xPc_pre hPc hK hDc⟩ rfl rfl hl.1 rfl (lv_room (Nat.le_of_ble_eq_true rfl)) dX0_findPeak_45 ⟨Nat.le_of_ble_eq_true rfl, Nat.le_of_ble_eq_true rfl⟩) hS (fun q _ h => hFc q h) hFc (fun r119 u t H1 locs ht hvm hw119 hB hz1 hk1 hS => ?_)
            obtain ⟨hru9, hw119⟩ := hw119
            subst hru9
            obtain ⟨hf119_0, hP1, hK1, hD1⟩ := hB
            rw [ht] at hP1
            obtain ⟨hP, hD⟩ : xPD D A [oAI fra cI 8 fr, oAI fga cI 8 fg, oAI cxa cI 145 f63, oX0 co fwa fta fra fga cxa cup clast cpeak cptick, oX3 pl pna pta rails limit retry behind, oAI pna cI 64 pn] H1 := xjn 4 hP hD [3, 4] [0, 1, 2, 5] hC9 rfl (by decide +kernel) (by decide +kernel) hk1 hFc hP1 hD1
            generalize H1 = H at hP hS ⊢
            have hf119_0 : M_number pn x62 (4 : Int32) = (r119) := hf119_0
            have hw119 : 0 ≤ r119.toInt ∧ r119.toInt ≤ 511 := hw119
            have h9M := congrArg (fun t9 => (K_findPeak_15 (K_findPeak_L2 rails clast fg fr pn cup nhl64) x62 f63 v117 v118 t9 fg pn)) hf119_0
            have hM : M_findPeak rails clast fg fr pn cup cx = (K_findPeak_15 (K_findPeak_L2 rails clast fg fr pn cup nhl64) x62 f63 v117 v118 r119 fg pn) := (show M_findPeak rails clast fg fr pn cup cx = ((fun t9 => (K_findPeak_15 (K_findPeak_L2 rails clast fg fr pn cup nhl64) x62 f63 v117 v118 t9 fg pn)) (M_number pn x62 (4 : Int32))) from (by rw [ev118, ev117]; exact hM)).trans h9M
            refine lv_iadd hx hb dX0_findPeak_48 ?_
            refine lv_topi (fun v120 ev120 => ?_)
            refine va_iast hx hb hK hP hD hS 2 0 rfl rfl (vp_in_iff.mpr ⟨by omega, by omega⟩) dX0_findPeak_49 (fun H locs hP hD hS => ?_)
            obtain ⟨f121, ef121⟩ : ∃ fz9 : Nat → Int32, fz9 = upd f63 (v117 : Int32).toNatClampNeg v120 := ⟨_, rfl⟩
            have hP : va_P D vwCl [oAI fra cI 8 fr, oAI fga cI 8 fg, oAI cxa cI 145 f121, oX0 co fwa fta fra fga cxa cup clast cpeak cptick, oX3 pl pna pta rails limit retry behind, oAI pna cI 64 pn] H := by rw [ef121]; exact hP
            have hD : va_D A [oAI fra cI 8 fr, oAI fga cI 8 fg, oAI cxa cI 145 f121, oX0 co fwa fta fra fga cxa cup clast cpeak cptick, oX3 pl pna pta rails limit retry behind, oAI pna cI 64 pn] := by rw [ef121]; exact hD
            refine lv_aload_n hx hb dX0_findPeak_50 rfl (lv_at hl 1 rfl) ?_
            refine va_get (D := D) (ci := 0) (v := .ref cxa) (C := RX0) (T := TX0) (N := 9) hx hb hts (fun w h => tbC w (tbfX0 w h)) hown hK hP 3 rfl rfl 4 (by decide) (hts (.fieldLink RX0 24 "PowerRails$Course" "changes" "[I") (tbC _ wd146)) (fun _ h9 => h9) rfl dX0_findPeak_51 ?_
            refine lv_aload_n hx hb dX0_findPeak_54 rfl (lv_at hl 1 rfl) ?_
            refine va_get (D := D) (ci := 0) (v := .ref fga) (C := RX0) (T := TX0) (N := 9) hx hb hts (fun w h => tbC w (tbfX0 w h)) hown hK hP 3 rfl rfl 3 (by decide) (hts (.fieldLink RX0 21 "PowerRails$Course" "goodAt" "[I") (tbC _ wd143)) (fun _ h9 => h9) rfl dX0_findPeak_55 ?_
            refine lv_iload_n hx hb dX0_findPeak_58 rfl (lv_at hl 0 rfl) ?_
            refine va_iald hx hb hK hP 1 0 rfl rfl (vp_in_iff.mpr ⟨by omega, by omega⟩) dX0_findPeak_59 ?_
            refine lv_topi (fun v122 ev122 => ?_)
            have rv122 : 0 ≤ v122.toInt ∧ v122.toInt ≤ 1166 := xrd ev122 h_fg (xinK (vp_in_iff.mpr ⟨by omega, by omega⟩))
            have qv122 : v122.toInt = v114.toInt := by rw [ev122, ev114]
            have q59v122 : v122.toInt = v114.toInt := by rw [ev122, ev114]
            refine lv_dup2_11 hx hb dX0_findPeak_60 rfl rfl ?_
            refine va_iald hx hb hK hP 2 0 rfl rfl (vp_in_iff.mpr (by rw [qv122]; omega)) dX0_findPeak_61 ?_
            refine lv_topi (fun v123 ev123 => ?_)
            refine lv_aload_n hx hb dX0_findPeak_62 rfl (lv_at hl 2 rfl) ?_
            refine lv_iload_n hx hb dX0_findPeak_63 rfl (lv_at hl 0 rfl) ?_
            refine lv_iconst (v := 3) hx hb dX0_findPeak_64 (by decide) ?_
            obtain ⟨hPc, hDc, hFc, hC9⟩ := xpk (wc := W_number cI cJ cZ cG cH pl x62 (3 : Int32) pna pta rails limit retry behind pn) hP hD hS hA [4, 5] (by decide +kernel) rfl
            refine va_calli (va_runV (As := [.int x62, .int 3]) (rest := [.int v123, .int v122, .ref cxa]) ⟨hx, hb, hml, hown, hts⟩ (c_number l D cI cJ cZ cG cH H.size pl x62 (3 : Int32) pna pta rails limit retry behind pn (xrng rfl (by omega) (by omega)) ⟨by decide, by decide⟩ (xrng rfl (by omega) (by omega)) (xwk_rng h_pn (by decide) (by decide))) (cwV 2 hts (xGV tbC wd518 wd368 wd369 wd59 wd996) rfl rfl rfl (by decide +kernel) ⟨Nat.le_of_ble_eq_true rfl, Nat.le_of_ble_eq_true rfl⟩) ⟨xPc_blind, va_recv hK hPc (ci := 2) (q0 := 0) rfl rfl, xPc_pre hPc hK hDc⟩ rfl rfl hl.1 rfl (lv_room (Nat.le_of_ble_eq_true rfl)) dX0_findPeak_65 ⟨Nat.le_of_ble_eq_true rfl, Nat.le_of_ble_eq_true rfl⟩) hS (fun q _ h => hFc q h) hFc (fun r124 u t H1 locs ht hvm hw124 hB hz1 hk1 hS => ?_)
            obtain ⟨hru9, hw124⟩ := hw124
            subst hru9
            obtain ⟨hf124_0, hP1, hK1, hD1⟩ := hB
            rw [ht] at hP1
            obtain ⟨hP, hD⟩ : xPD D A [oAI fra cI 8 fr, oAI fga cI 8 fg, oAI cxa cI 145 f121, oX0 co fwa fta fra fga cxa cup clast cpeak cptick, oX3 pl pna pta rails limit retry behind, oAI pna cI 64 pn] H1 := xjn 4 hP hD [4, 5] [0, 1, 2, 3] hC9 rfl (by decide +kernel) (by decide +kernel) hk1 hFc hP1 hD1
            generalize H1 = H at hP hS ⊢
            have hf124_0 : M_number pn x62 (3 : Int32) = (r124) := hf124_0
            have hw124 : 0 ≤ r124.toInt ∧ r124.toInt ≤ 511 := hw124
            have h9M := congrArg (fun t9 => (K_findPeak_16 (K_findPeak_L2 rails clast fg fr pn cup nhl64) x62 f121 v122 v123 t9 pn)) hf124_0
            have hM : M_findPeak rails clast fg fr pn cup cx = (K_findPeak_16 (K_findPeak_L2 rails clast fg fr pn cup nhl64) x62 f121 v122 v123 r124 pn) := (show M_findPeak rails clast fg fr pn cup cx = ((fun t9 => (K_findPeak_16 (K_findPeak_L2 rails clast fg fr pn cup nhl64) x62 f121 v122 v123 t9 pn)) (M_number pn x62 (3 : Int32))) from (by rw [ev123, ev122, ef121, ev120]; exact hM)).trans h9M
            refine lv_aload_n hx hb dX0_findPeak_68 rfl (lv_at hl 2 rfl) ?_
            refine lv_iload_n hx hb dX0_findPeak_69 rfl (lv_at hl 0 rfl) ?_
            refine lv_iconst (v := 4) hx hb dX0_findPeak_70 (by decide) ?_
            obtain ⟨hPc, hDc, hFc, hC9⟩ := xpk (wc := W_number cI cJ cZ cG cH pl x62 (4 : Int32) pna pta rails limit retry behind pn) hP hD hS hA [4, 5] (by decide +kernel) rfl
            refine va_calli (va_runV (As := [.int x62, .int 4]) (rest := [.int r124, .int v123, .int v122, .ref cxa]) ⟨hx, hb, hml, hown, hts⟩ (c_number l D cI cJ cZ cG cH H.size pl x62 (4 : Int32) pna pta rails limit retry behind pn (xrng rfl (by omega) (by omega)) ⟨by decide, by decide⟩ (xrng rfl (by omega) (by omega)) (xwk_rng h_pn (by decide) (by decide))) (cwV 2 hts (xGV tbC wd518 wd368 wd369 wd59 wd996) rfl rfl rfl (by decide +kernel) ⟨Nat.le_of_ble_eq_true rfl, Nat.le_of_ble_eq_true rfl⟩) ⟨xPc_blind, va_recv hK hPc (ci := 2) (q0 := 0) rfl rfl, xPc_pre hPc hK hDc⟩ rfl rfl hl.1 rfl (lv_room (Nat.le_of_ble_eq_true rfl)) dX0_findPeak_71 ⟨Nat.le_of_ble_eq_true rfl, Nat.le_of_ble_eq_true rfl⟩) hS (fun q _ h => hFc q h) hFc (fun r125 u t H1 locs ht hvm hw125 hB hz1 hk1 hS => ?_)
            obtain ⟨hru9, hw125⟩ := hw125
            subst hru9
            obtain ⟨hf125_0, hP1, hK1, hD1⟩ := hB
            rw [ht] at hP1
            obtain ⟨hP, hD⟩ : xPD D A [oAI fra cI 8 fr, oAI fga cI 8 fg, oAI cxa cI 145 f121, oX0 co fwa fta fra fga cxa cup clast cpeak cptick, oX3 pl pna pta rails limit retry behind, oAI pna cI 64 pn] H1 := xjn 4 hP hD [4, 5] [0, 1, 2, 3] hC9 rfl (by decide +kernel) (by decide +kernel) hk1 hFc hP1 hD1
            generalize H1 = H at hP hS ⊢
            have hf125_0 : M_number pn x62 (4 : Int32) = (r125) := hf125_0
            have hw125 : 0 ≤ r125.toInt ∧ r125.toInt ≤ 511 := hw125
            have h9M := congrArg (fun t9 => (K_findPeak_17 (K_findPeak_L2 rails clast fg fr pn cup nhl64) x62 f121 v122 v123 r124 t9)) hf125_0
            have hM : M_findPeak rails clast fg fr pn cup cx = (K_findPeak_17 (K_findPeak_L2 rails clast fg fr pn cup nhl64) x62 f121 v122 v123 r124 r125) := (show M_findPeak rails clast fg fr pn cup cx = ((fun t9 => (K_findPeak_17 (K_findPeak_L2 rails clast fg fr pn cup nhl64) x62 f121 v122 v123 r124 t9)) (M_number pn x62 (4 : Int32))) from hM).trans h9M
            refine lv_isub hx hb dX0_findPeak_74 ?_
            refine lv_topi (fun v126 ev126 => ?_)
            have tv126 : v126.toInt = (r124.toInt - r125.toInt) := (congrArg Int32.toInt ev126).trans (xsub rfl rfl (by omega) (by omega))
            refine lv_iadd hx hb dX0_findPeak_75 ?_
            refine lv_topi (fun v127 ev127 => ?_)
            refine va_iast hx hb hK hP hD hS 2 0 rfl rfl (vp_in_iff.mpr (by rw [qv122]; omega)) dX0_findPeak_76 (fun H locs hP hD hS => ?_)
            obtain ⟨f128, ef128⟩ : ∃ fz9 : Nat → Int32, fz9 = upd f121 (v122 : Int32).toNatClampNeg v127 := ⟨_, rfl⟩
            have hP : va_P D vwCl [oAI fra cI 8 fr, oAI fga cI 8 fg, oAI cxa cI 145 f128, oX0 co fwa fta fra fga cxa cup clast cpeak cptick, oX3 pl pna pta rails limit retry behind, oAI pna cI 64 pn] H := by rw [ef128]; exact hP
            have hD : va_D A [oAI fra cI 8 fr, oAI fga cI 8 fg, oAI cxa cI 145 f128, oX0 co fwa fta fra fga cxa cup clast cpeak cptick, oX3 pl pna pta rails limit retry behind, oAI pna cI 64 pn] := by rw [ef128]; exact hD
            obtain ⟨x129, ex129⟩ : ∃ y : Int32, y = x62 + 1 := ⟨_, rfl⟩
            have tx129 : x129.toInt = (x62.toInt + 1) := (congrArg Int32.toInt ex129).trans (xadd rfl (by decide) (by omega) (by omega))
            refine lv_iinc (v := x129) (lv' := [(2, .int x129), (0, .ref co), (1, .ref pl)]) hx hb dX0_findPeak_77 hl (k := 0) rfl (by rw [ex129]; rfl) (by decide) rfl (fun ls hl => ?_)
            refine lv_goto (tgt := 2) hx hb dX0_findPeak_80 (by decide) ?_
            obtain ⟨hP, hD⟩ := xsb (ws' := [oX0 co fwa fta fra fga cxa cup clast cpeak cptick, oAI fra cI 8 fr, oAI fga cI 8 fg, oAI cxa cI 145 f128, oX3 pl pna pta rails limit retry behind, oAI pna cI 64 pn]) hP hD [3, 0, 1, 2, 4, 5] (by decide +kernel) rfl
            exact ihhl64 x129 f128 (by omega) (xrng tx129 (by omega) (by omega)) (by rw [ex129, ef128, ev127, ev126]; exact hM) _ _ hP hD hS ls (lv_sub hl [0, 1, 2] rfl)
  exact hl64 100000 0 cx (by have z9_0 : (0 : Int32).toInt = 0 := (by decide); omega) ⟨by decide, by decide⟩ hM _ _ hP hD hS ls (lv_sub hl [0, 1, 2] rfl)
