def K_refuse_3 (a0 : Int32) (a1 : Int32) : (Int32) × (Int32) := (a0, a1)
def K_refuse_2 (fault : Int32) (fplace : Int32) : (Int32) × (Int32) := (fault, fplace)
def K_refuse_1 (fault : Int32) (a0 : Int32) (a1 : Int32) (fplace : Int32) : (Int32) × (Int32) := (if fault.toInt = 0 then (K_refuse_3 a0 a1) else (K_refuse_2 fault fplace))
def M_refuse (fault : Int32) (a0 : Int32) (a1 : Int32) (fplace : Int32) : (Int32) × (Int32) := (K_refuse_1 fault a0 a1 fplace)
abbrev W_refuse (cI cJ cZ cG cH : ClassId) (rd : Nat) (a0 : Int32) (a1 : Int32) (tp : Nat) (rfa : Nat) (rya : Nat) (rla : Nat) (pl : Nat) (place : Int32) (kind : Int32) (from_ : Int32) (value : Int32) (told : Int32) (depth : Int32) (fault : Int32) (fplace : Int32) : va_W := [oX4 rd tp rfa rya rla pl place kind from_ value told depth fault fplace]
abbrev Q_refuse (D : va_G) (cI cJ cZ cG cH : ClassId) (rd : Nat) (a0 : Int32) (a1 : Int32) (tp : Nat) (rfa : Nat) (rya : Nat) (rla : Nat) (pl : Nat) (place : Int32) (kind : Int32) (from_ : Int32) (value : Int32) (told : Int32) (depth : Int32) (fault : Int32) (fplace : Int32) (A : Nat → Prop) : Array Value → State → Outcome → State → Prop := va_Qv (fun (_ : Unit) => True) (fun _ t => ∃ (fault9 : Int32) (fplace9 : Int32), (M_refuse fault a0 a1 fplace = (fault9, fplace9)) ∧ xB D (tyL cI cJ cZ cG cH) [oX4 rd tp rfa rya rla pl place kind from_ value told depth fault9 fplace9] A t) A
abbrev rm_refuse : Room := { frames := 0, cells := 0, slots := 0, locals := 0 }
set_option maxRecDepth 100000 in
set_option maxHeartbeats 40000000 in
theorem c_refuse (l : Launch) (D : va_G) (cI cJ cZ cG cH : ClassId) (sz : Nat) (rd : Nat) (a0 : Int32) (a1 : Int32) (tp : Nat) (rfa : Nat) (rya : Nat) (rla : Nat) (pl : Nat) (place : Int32) (kind : Int32) (from_ : Int32) (value : Int32) (told : Int32) (depth : Int32) (fault : Int32) (fplace : Int32) (h_place : 0 ≤ place.toInt ∧ place.toInt ≤ 400) (h_from_ : 0 ≤ from_.toInt ∧ from_.toInt ≤ 400) (h_depth : 0 ≤ depth.toInt ∧ depth.toInt ≤ 6) : Met l yX4_refuse (wt yX4_refuse cX4_refuse 3 none) rm_refuse (xPc [.ref rd, .int a0, .int a1] D (tyL cI cJ cZ cG cH) (W_refuse cI cJ cZ cG cH rd a0 a1 tp rfa rya rla pl place kind from_ value told depth fault fplace) sz) (Q_refuse D cI cJ cZ cG cH rd a0 a1 tp rfa rya rla pl place kind from_ value told depth fault fplace (va_A (W_refuse cI cJ cZ cG cH rd a0 a1 tp rfa rya rla pl place kind from_ value told depth fault fplace) sz)) 0 0 (va_A (W_refuse cI cJ cZ cG cH rd a0 a1 tp rfa rya rla pl place kind from_ value told depth fault fplace) sz) := by
  refine xMet (cc := cX4_refuse) (maxL := 3) (ret := none) (Qf := Q_refuse D cI cJ cZ cG cH rd a0 a1 tp rfa rya rla pl place kind from_ value told depth fault fplace) (by decide) rfl (Nat.le_of_ble_eq_true rfl) ?_
  intro p e s m below meth c ls A hx hb hr hml hts hown hlocks hnm hsz hP hK hD hA hS hl
  have hown : s.vm.findClass RX4 = some m.cls := hown
  have hP : va_P D vwCl [oX4 rd tp rfa rya rla pl place kind from_ value told depth fault fplace] s.heap := hP
  have hD : va_D A [oX4 rd tp rfa rya rla pl place kind from_ value told depth fault fplace] := hD
  have hl : lv_has ls 3 [(0, .ref rd), (1, .int a0), (2, .int a1)] := hl
  have hM : M_refuse fault a0 a1 fplace = (K_refuse_1 fault a0 a1 fplace) := rfl
  refine lv_aload_n hx hb dX4_refuse_0 rfl (lv_at hl 0 rfl) ?_
  refine va_get (D := D) (ci := 3) (v := .int fault) (C := RX4) (T := TX4) (N := 13) hx hb hts (fun w h => tbC w (tbfX4 w h)) hown hK hP 0 rfl rfl 11 (by decide) (hts (.fieldLink RX4 43 "PowerRails$Reader" "fault" "I") (tbC _ wd243)) (fun _ h9 => h9) rfl dX4_refuse_1 ?_
  refine lv_if_ne (tgt := 17) hx hb dX4_refuse_4 (by decide) (fun c_1 => ?_) (fun c_1 => ?_)
  · skip
    have i_1 : ¬ (fault.toInt = 0) := fun h9 => c_1 ((ieq rfl (by decide)).mpr h9)
    have hM : M_refuse fault a0 a1 fplace = (K_refuse_2 fault fplace) := (show M_refuse fault a0 a1 fplace = (if fault.toInt = 0 then (K_refuse_3 a0 a1) else (K_refuse_2 fault fplace)) from hM).trans (if_neg i_1)
    refine W.widen (k := 0) (n := 0) (by decide) (by decide) ?_
    exact W.vret hx hb hr (fun t ht hW => ⟨⟨(), rfl, trivial, ⟨fault, fplace, hM, xB_of9 ht hW hP hK hD [0] (by decide +kernel) rfl⟩⟩, hS.F ht⟩) hS.2.2 dX4_refuse_17
  · skip
    have i_1 : fault.toInt = 0 := (ieq rfl (by decide)).mp c_1
    have hM : M_refuse fault a0 a1 fplace = (K_refuse_3 a0 a1) := (show M_refuse fault a0 a1 fplace = (if fault.toInt = 0 then (K_refuse_3 a0 a1) else (K_refuse_2 fault fplace)) from hM).trans (if_pos i_1)
    refine lv_aload_n hx hb dX4_refuse_7 rfl (lv_at hl 0 rfl) ?_
    refine lv_iload_n hx hb dX4_refuse_8 rfl (lv_at hl 1 rfl) ?_
    refine va_put (D := D) (ci := 3) (v := .int a0) (ty := .int) (C := RX4) (T := TX4) (N := 13) hx hb hts (fun w h => tbC w (tbfX4 w h)) tyX4 tyX4_ok nmX4 hown hK hP hD hS 0 rfl rfl 11 (by decide) (hts (.fieldLink RX4 43 "PowerRails$Reader" "fault" "I") (tbC _ wd243)) (fun _ h9 => h9) rfl (by decide +kernel) rfl rfl (Nat.le_of_ble_eq_true rfl) dX4_refuse_9 (fun H locs hP hD hS => ?_)
    obtain ⟨hP, hD⟩ : xPD D A [oX4 rd tp rfa rya rla pl place kind from_ value told depth a0 fplace] H := ⟨hP, hD⟩
    refine lv_aload_n hx hb dX4_refuse_12 rfl (lv_at hl 0 rfl) ?_
    refine lv_iload_n hx hb dX4_refuse_13 rfl (lv_at hl 2 rfl) ?_
    refine va_put (D := D) (ci := 3) (v := .int a1) (ty := .int) (C := RX4) (T := TX4) (N := 13) hx hb hts (fun w h => tbC w (tbfX4 w h)) tyX4 tyX4_ok nmX4 hown hK hP hD hS 0 rfl rfl 12 (by decide) (hts (.fieldLink RX4 46 "PowerRails$Reader" "faultPlace" "I") (tbC _ wd245)) (fun _ h9 => h9) rfl (by decide +kernel) rfl rfl (Nat.le_of_ble_eq_true rfl) dX4_refuse_14 (fun H locs hP hD hS => ?_)
    obtain ⟨hP, hD⟩ : xPD D A [oX4 rd tp rfa rya rla pl place kind from_ value told depth a0 a1] H := ⟨hP, hD⟩
    refine W.widen (k := 0) (n := 0) (by decide) (by decide) ?_
    exact W.vret hx hb hr (fun t ht hW => ⟨⟨(), rfl, trivial, ⟨a0, a1, hM, xB_of9 ht hW hP hK hD [0] (by decide +kernel) rfl⟩⟩, hS.F ht⟩) hS.2.2 dX4_refuse_17
def K_skipWithin_3 (x14 : Int32) : (Int32) := (x14)
def K_skipWithin_5 (x14 : Int32) : (Int32) := (x14)
def K_skipWithin_7 (x14 : Int32) : (Int32) := (x14)
def K_skipWithin_8 (rec_2 : (Int32) → ((Int32))) (x14 : Int32) : (Int32) := (rec_2 (x14 + (1 : Int32)))
def K_skipWithin_6 (a1 : Int32) (v17 : Int32) (x14 : Int32) (rec_2 : (Int32) → ((Int32))) : (Int32) := (if a1.toInt < v17.toInt then (K_skipWithin_7 x14) else (K_skipWithin_8 rec_2 x14))
def K_skipWithin_4 (tb : Nat → Int32) (x14 : Int32) (a0 : Int32) (a1 : Int32) (rec_2 : (Int32) → ((Int32))) : (Int32) := (if (tb x14.toNatClampNeg).toInt < a0.toInt then (K_skipWithin_5 x14) else (K_skipWithin_6 a1 (tb x14.toNatClampNeg) x14 rec_2))
def K_skipWithin_2 (tl : Int32) (x14 : Int32) (tb : Nat → Int32) (a0 : Int32) (a1 : Int32) (rec_2 : (Int32) → ((Int32))) : (Int32) := (if tl.toInt ≤ x14.toInt then (K_skipWithin_3 x14) else (K_skipWithin_4 tb x14 a0 a1 rec_2))
def K_skipWithin_L2 (tl : Int32) (tb : Nat → Int32) (a0 : Int32) (a1 : Int32) : Nat → (Int32) → (Int32)
  | 0, _ => (0)
  | n9 + 1, x14 => (K_skipWithin_2 tl x14 tb a0 a1 (K_skipWithin_L2 tl tb a0 a1 n9))
def K_skipWithin_1 (tl : Int32) (tb : Nat → Int32) (a0 : Int32) (a1 : Int32) (place : Int32) : (Int32) := (K_skipWithin_L2 tl tb a0 a1 100000 place)
def M_skipWithin (tl : Int32) (tb : Nat → Int32) (a0 : Int32) (a1 : Int32) (place : Int32) : (Int32) := (K_skipWithin_1 tl tb a0 a1 place)
abbrev W_skipWithin (cI cJ cZ cG cH : ClassId) (rd : Nat) (a0 : Int32) (a1 : Int32) (tp : Nat) (rfa : Nat) (rya : Nat) (rla : Nat) (pl : Nat) (place : Int32) (kind : Int32) (from_ : Int32) (value : Int32) (told : Int32) (depth : Int32) (fault : Int32) (fplace : Int32) (tba : Nat) (tl : Int32) (tb : Nat → Int32) : va_W := [oX4 rd tp rfa rya rla pl place kind from_ value told depth fault fplace, oX8 tp tba tl, oAI tba cI 400 tb]
abbrev Q_skipWithin (D : va_G) (cI cJ cZ cG cH : ClassId) (rd : Nat) (a0 : Int32) (a1 : Int32) (tp : Nat) (rfa : Nat) (rya : Nat) (rla : Nat) (pl : Nat) (place : Int32) (kind : Int32) (from_ : Int32) (value : Int32) (told : Int32) (depth : Int32) (fault : Int32) (fplace : Int32) (tba : Nat) (tl : Int32) (tb : Nat → Int32) (A : Nat → Prop) : Array Value → State → Outcome → State → Prop := va_Qv (fun (_ : Unit) => True) (fun _ t => ∃ (place9 : Int32), (0 ≤ place9.toInt ∧ place9.toInt ≤ 400) ∧ (M_skipWithin tl tb a0 a1 place = (place9)) ∧ xB D (tyL cI cJ cZ cG cH) [oX4 rd tp rfa rya rla pl place9 kind from_ value told depth fault fplace, oX8 tp tba tl, oAI tba cI 400 tb] A t) A
abbrev rm_skipWithin : Room := { frames := 0, cells := 0, slots := 0, locals := 0 }
set_option maxRecDepth 100000 in
set_option maxHeartbeats 40000000 in
theorem c_skipWithin (l : Launch) (D : va_G) (cI cJ cZ cG cH : ClassId) (sz : Nat) (rd : Nat) (a0 : Int32) (a1 : Int32) (tp : Nat) (rfa : Nat) (rya : Nat) (rla : Nat) (pl : Nat) (place : Int32) (kind : Int32) (from_ : Int32) (value : Int32) (told : Int32) (depth : Int32) (fault : Int32) (fplace : Int32) (tba : Nat) (tl : Int32) (tb : Nat → Int32) (h_place : 0 ≤ place.toInt ∧ place.toInt ≤ 400) (h_from_ : 0 ≤ from_.toInt ∧ from_.toInt ≤ 400) (h_depth : 0 ≤ depth.toInt ∧ depth.toInt ≤ 6) (h_tl : 0 ≤ tl.toInt ∧ tl.toInt ≤ 400) : Met l yX4_skipWithin (wt yX4_skipWithin cX4_skipWithin 3 none) rm_skipWithin (xPc [.ref rd, .int a0, .int a1] D (tyL cI cJ cZ cG cH) (W_skipWithin cI cJ cZ cG cH rd a0 a1 tp rfa rya rla pl place kind from_ value told depth fault fplace tba tl tb) sz) (Q_skipWithin D cI cJ cZ cG cH rd a0 a1 tp rfa rya rla pl place kind from_ value told depth fault fplace tba tl tb (va_A (W_skipWithin cI cJ cZ cG cH rd a0 a1 tp rfa rya rla pl place kind from_ value told depth fault fplace tba tl tb) sz)) 0 0 (va_A (W_skipWithin cI cJ cZ cG cH rd a0 a1 tp rfa rya rla pl place kind from_ value told depth fault fplace tba tl tb) sz) := by
  refine xMet (cc := cX4_skipWithin) (maxL := 3) (ret := none) (Qf := Q_skipWithin D cI cJ cZ cG cH rd a0 a1 tp rfa rya rla pl place kind from_ value told depth fault fplace tba tl tb) (by decide) rfl (Nat.le_of_ble_eq_true rfl) ?_
  intro p e s m below meth c ls A hx hb hr hml hts hown hlocks hnm hsz hP hK hD hA hS hl
  have hown : s.vm.findClass RX4 = some m.cls := hown
  have hP : va_P D vwCl [oX4 rd tp rfa rya rla pl place kind from_ value told depth fault fplace, oX8 tp tba tl, oAI tba cI 400 tb] s.heap := hP
  have hD : va_D A [oX4 rd tp rfa rya rla pl place kind from_ value told depth fault fplace, oX8 tp tba tl, oAI tba cI 400 tb] := hD
  have hl : lv_has ls 3 [(0, .ref rd), (1, .int a0), (2, .int a1)] := hl
  have hM : M_skipWithin tl tb a0 a1 place = (K_skipWithin_1 tl tb a0 a1 place) := rfl
  have hl15 : ∀ (nhl15 : Nat) (x14 : Int32), ((400 - x14.toInt).toNat < nhl15) → (hx14 : 0 ≤ x14.toInt ∧ x14.toInt ≤ 400) → (hM : M_skipWithin tl tb a0 a1 place = (K_skipWithin_L2 tl tb a0 a1 nhl15 x14)) → ∀ (H : Heap) (locs : List Loc), va_P D vwCl [oX4 rd tp rfa rya rla pl x14 kind from_ value told depth fault fplace, oX8 tp tba tl, oAI tba cI 400 tb] H → va_D A [oX4 rd tp rfa rya rla pl x14 kind from_ value told depth fault fplace, oX8 tp tba tl, oAI tba cI 400 tb] → va_S A s.heap H locs → ∀ (ls : Array Slot), lv_has ls 3 [(0, .ref rd), (1, .int a0), (2, .int a1)] → W p l e rm_skipWithin s m [Value.ref rd, Value.int a0, Value.int a1].toArray below meth c H locs 0 0 (MQ below ((Q_skipWithin D cI cJ cZ cG cH rd a0 a1 tp rfa rya rla pl place kind from_ value told depth fault fplace tba tl tb) A) [Value.ref rd, Value.int a0, Value.int a1].toArray s 0 0 A) (F0 m 0 ls []) := by
    intro nhl15
    induction nhl15 with
    | zero =>
      intro x14 hmhl15
      exact absurd hmhl15 (Nat.not_lt_zero _)
    | succ nhl15 ihhl15 =>
      intro x14 hmhl15 hx14 hM H locs hP hD hS ls hl
      have hM : M_skipWithin tl tb a0 a1 place = (K_skipWithin_2 tl x14 tb a0 a1 (K_skipWithin_L2 tl tb a0 a1 nhl15)) := hM
      refine lv_aload_n hx hb dX4_skipWithin_0 rfl (lv_at hl 0 rfl) ?_
      refine va_get (D := D) (ci := 3) (v := .int x14) (C := RX4) (T := TX4) (N := 13) hx hb hts (fun w h => tbC w (tbfX4 w h)) hown hK hP 0 rfl rfl 5 (by decide) (hts (.fieldLink RX4 36 "PowerRails$Reader" "place" "I") (tbC _ wd237)) (fun _ h9 => h9) rfl dX4_skipWithin_1 ?_
      refine lv_aload_n hx hb dX4_skipWithin_4 rfl (lv_at hl 0 rfl) ?_
      refine va_get (D := D) (ci := 3) (v := .ref tp) (C := RX4) (T := TX4) (N := 13) hx hb hts (fun w h => tbC w (tbfX4 w h)) hown hK hP 0 rfl rfl 0 (by decide) (hts (.fieldLink RX4 9 "PowerRails$Reader" "tape" "LPowerRails$Tape;") (tbC _ wd232)) (fun _ h9 => h9) rfl dX4_skipWithin_5 ?_
      refine va_get (D := D) (ci := 7) (v := .int tl) (C := RX8) (T := TX8) (N := 2) hx hb hts (fun w h => tbC w (tbfX8 w h)) hown hK hP 1 rfl rfl 1 (by decide) (hts (.fieldLink RX4 82 "PowerRails$Tape" "length" "I") (tbC _ wd85)) (fun _ h9 => h9) rfl dX4_skipWithin_8 ?_
      refine lv_icmp_ge (tgt := 59) hx hb dX4_skipWithin_11 (by decide) (fun c_16 => ?_) (fun c_16 => ?_)
      · skip
        have i_16 : tl.toInt ≤ x14.toInt := (ile rfl rfl).mp c_16
        have hM : M_skipWithin tl tb a0 a1 place = (K_skipWithin_3 x14) := (show M_skipWithin tl tb a0 a1 place = (if tl.toInt ≤ x14.toInt then (K_skipWithin_3 x14) else (K_skipWithin_4 tb x14 a0 a1 (K_skipWithin_L2 tl tb a0 a1 nhl15))) from hM).trans (if_pos i_16)
        refine W.widen (k := 0) (n := 0) (by decide) (by decide) ?_
        exact W.vret hx hb hr (fun t ht hW => ⟨⟨(), rfl, trivial, ⟨x14, (xrng rfl (by omega) (by omega)), hM, xB_of9 ht hW hP hK hD [0, 1, 2] (by decide +kernel) rfl⟩⟩, hS.F ht⟩) hS.2.2 dX4_skipWithin_59
      · skip
        have i_16 : ¬ (tl.toInt ≤ x14.toInt) := fun h9 => c_16 ((ile rfl rfl).mpr h9)
        have hM : M_skipWithin tl tb a0 a1 place = (K_skipWithin_4 tb x14 a0 a1 (K_skipWithin_L2 tl tb a0 a1 nhl15)) := (show M_skipWithin tl tb a0 a1 place = (if tl.toInt ≤ x14.toInt then (K_skipWithin_3 x14) else (K_skipWithin_4 tb x14 a0 a1 (K_skipWithin_L2 tl tb a0 a1 nhl15))) from hM).trans (if_neg i_16)
        refine lv_aload_n hx hb dX4_skipWithin_14 rfl (lv_at hl 0 rfl) ?_
        refine va_get (D := D) (ci := 3) (v := .ref tp) (C := RX4) (T := TX4) (N := 13) hx hb hts (fun w h => tbC w (tbfX4 w h)) hown hK hP 0 rfl rfl 0 (by decide) (hts (.fieldLink RX4 9 "PowerRails$Reader" "tape" "LPowerRails$Tape;") (tbC _ wd232)) (fun _ h9 => h9) rfl dX4_skipWithin_15 ?_
        refine va_get (D := D) (ci := 7) (v := .ref tba) (C := RX8) (T := TX8) (N := 2) hx hb hts (fun w h => tbC w (tbfX8 w h)) hown hK hP 1 rfl rfl 0 (by decide) (hts (.fieldLink RX4 85 "PowerRails$Tape" "bytes" "[I") (tbC _ wd82)) (fun _ h9 => h9) rfl dX4_skipWithin_18 ?_
        refine lv_aload_n hx hb dX4_skipWithin_21 rfl (lv_at hl 0 rfl) ?_
        refine va_get (D := D) (ci := 3) (v := .int x14) (C := RX4) (T := TX4) (N := 13) hx hb hts (fun w h => tbC w (tbfX4 w h)) hown hK hP 0 rfl rfl 5 (by decide) (hts (.fieldLink RX4 36 "PowerRails$Reader" "place" "I") (tbC _ wd237)) (fun _ h9 => h9) rfl dX4_skipWithin_22 ?_
        refine va_iald hx hb hK hP 2 0 rfl rfl (vp_in_iff.mpr ⟨by omega, by omega⟩) dX4_skipWithin_25 ?_
        refine lv_topi (fun v17 ev17 => ?_)
        refine lv_iload_n hx hb dX4_skipWithin_26 rfl (lv_at hl 1 rfl) ?_
        refine lv_icmp_lt (tgt := 59) hx hb dX4_skipWithin_27 (by decide) (fun c_18 => ?_) (fun c_18 => ?_)
        · skip
          have i_18 : v17.toInt < a0.toInt := (ilt rfl rfl).mp c_18
          have hM : M_skipWithin tl tb a0 a1 place = (K_skipWithin_5 x14) := (show M_skipWithin tl tb a0 a1 place = (if v17.toInt < a0.toInt then (K_skipWithin_5 x14) else (K_skipWithin_6 a1 v17 x14 (K_skipWithin_L2 tl tb a0 a1 nhl15))) from (by rw [ev17]; exact hM)).trans (if_pos i_18)
          refine W.widen (k := 0) (n := 0) (by decide) (by decide) ?_
          exact W.vret hx hb hr (fun t ht hW => ⟨⟨(), rfl, trivial, ⟨x14, (xrng rfl (by omega) (by omega)), hM, xB_of9 ht hW hP hK hD [0, 1, 2] (by decide +kernel) rfl⟩⟩, hS.F ht⟩) hS.2.2 dX4_skipWithin_59
        · skip
          have i_18 : ¬ (v17.toInt < a0.toInt) := fun h9 => c_18 ((ilt rfl rfl).mpr h9)
          have hM : M_skipWithin tl tb a0 a1 place = (K_skipWithin_6 a1 v17 x14 (K_skipWithin_L2 tl tb a0 a1 nhl15)) := (show M_skipWithin tl tb a0 a1 place = (if v17.toInt < a0.toInt then (K_skipWithin_5 x14) else (K_skipWithin_6 a1 v17 x14 (K_skipWithin_L2 tl tb a0 a1 nhl15))) from (by rw [ev17]; exact hM)).trans (if_neg i_18)
          refine lv_aload_n hx hb dX4_skipWithin_30 rfl (lv_at hl 0 rfl) ?_
          refine va_get (D := D) (ci := 3) (v := .ref tp) (C := RX4) (T := TX4) (N := 13) hx hb hts (fun w h => tbC w (tbfX4 w h)) hown hK hP 0 rfl rfl 0 (by decide) (hts (.fieldLink RX4 9 "PowerRails$Reader" "tape" "LPowerRails$Tape;") (tbC _ wd232)) (fun _ h9 => h9) rfl dX4_skipWithin_31 ?_
          refine va_get (D := D) (ci := 7) (v := .ref tba) (C := RX8) (T := TX8) (N := 2) hx hb hts (fun w h => tbC w (tbfX8 w h)) hown hK hP 1 rfl rfl 0 (by decide) (hts (.fieldLink RX4 85 "PowerRails$Tape" "bytes" "[I") (tbC _ wd82)) (fun _ h9 => h9) rfl dX4_skipWithin_34 ?_
          refine lv_aload_n hx hb dX4_skipWithin_37 rfl (lv_at hl 0 rfl) ?_
          refine va_get (D := D) (ci := 3) (v := .int x14) (C := RX4) (T := TX4) (N := 13) hx hb hts (fun w h => tbC w (tbfX4 w h)) hown hK hP 0 rfl rfl 5 (by decide) (hts (.fieldLink RX4 36 "PowerRails$Reader" "place" "I") (tbC _ wd237)) (fun _ h9 => h9) rfl dX4_skipWithin_38 ?_
          refine va_iald hx hb hK hP 2 0 rfl rfl (vp_in_iff.mpr ⟨by omega, by omega⟩) dX4_skipWithin_41 ?_
          refine lv_topi (fun v19 ev19 => ?_)
          have qv19 : v19.toInt = v17.toInt := by rw [ev19, ev17]
          refine lv_iload_n hx hb dX4_skipWithin_42 rfl (lv_at hl 2 rfl) ?_
          refine lv_icmp_gt (tgt := 59) hx hb dX4_skipWithin_43 (by decide) (fun c_20 => ?_) (fun c_20 => ?_)
          · skip
            have i_20 : a1.toInt < v17.toInt := (ilt rfl qv19).mp c_20
            have hM : M_skipWithin tl tb a0 a1 place = (K_skipWithin_7 x14) := (show M_skipWithin tl tb a0 a1 place = (if a1.toInt < v17.toInt then (K_skipWithin_7 x14) else (K_skipWithin_8 (K_skipWithin_L2 tl tb a0 a1 nhl15) x14)) from hM).trans (if_pos i_20)
            refine W.widen (k := 0) (n := 0) (by decide) (by decide) ?_
            exact W.vret hx hb hr (fun t ht hW => ⟨⟨(), rfl, trivial, ⟨x14, (xrng rfl (by omega) (by omega)), hM, xB_of9 ht hW hP hK hD [0, 1, 2] (by decide +kernel) rfl⟩⟩, hS.F ht⟩) hS.2.2 dX4_skipWithin_59
          · skip
            have i_20 : ¬ (a1.toInt < v17.toInt) := fun h9 => c_20 ((ilt rfl qv19).mpr h9)
            have hM : M_skipWithin tl tb a0 a1 place = (K_skipWithin_8 (K_skipWithin_L2 tl tb a0 a1 nhl15) x14) := (show M_skipWithin tl tb a0 a1 place = (if a1.toInt < v17.toInt then (K_skipWithin_7 x14) else (K_skipWithin_8 (K_skipWithin_L2 tl tb a0 a1 nhl15) x14)) from hM).trans (if_neg i_20)
            refine lv_aload_n hx hb dX4_skipWithin_46 rfl (lv_at hl 0 rfl) ?_
            refine lv_dup hx hb dX4_skipWithin_47 rfl ?_
            refine va_get (D := D) (ci := 3) (v := .int x14) (C := RX4) (T := TX4) (N := 13) hx hb hts (fun w h => tbC w (tbfX4 w h)) hown hK hP 0 rfl rfl 5 (by decide) (hts (.fieldLink RX4 36 "PowerRails$Reader" "place" "I") (tbC _ wd237)) (fun _ h9 => h9) rfl dX4_skipWithin_48 ?_
            refine lv_iconst (v := 1) hx hb dX4_skipWithin_51 (by decide) ?_
            refine lv_iadd hx hb dX4_skipWithin_52 ?_
            refine lv_topi (fun v21 ev21 => ?_)
            have tv21 : v21.toInt = (x14.toInt + 1) := (congrArg Int32.toInt ev21).trans (xadd rfl (by decide) (by omega) (by omega))
            refine va_put (D := D) (ci := 3) (v := .int v21) (ty := .int) (C := RX4) (T := TX4) (N := 13) hx hb hts (fun w h => tbC w (tbfX4 w h)) tyX4 tyX4_ok nmX4 hown hK hP hD hS 0 rfl rfl 5 (by decide) (hts (.fieldLink RX4 36 "PowerRails$Reader" "place" "I") (tbC _ wd237)) (fun _ h9 => h9) rfl (by decide +kernel) rfl rfl (Nat.le_of_ble_eq_true rfl) dX4_skipWithin_53 (fun H locs hP hD hS => ?_)
            obtain ⟨hP, hD⟩ : xPD D A [oX4 rd tp rfa rya rla pl v21 kind from_ value told depth fault fplace, oX8 tp tba tl, oAI tba cI 400 tb] H := ⟨hP, hD⟩
            refine lv_goto (tgt := 0) hx hb dX4_skipWithin_56 (by decide) ?_
            exact ihhl15 v21 (by omega) (xrng tv21 (by omega) (by omega)) (by rw [ev21]; exact hM) _ _ hP hD hS ls (lv_sub hl [0, 1, 2] rfl)
  exact hl15 100000 place (by omega) (xrng rfl (by omega) (by omega)) hM _ _ hP hD hS ls (lv_sub hl [0, 1, 2] rfl)
def K_valueNumber_5 (x18 : Int32) (fault : Int32) (fplace : Int32) : (Int32) × (Int32) × (Int32) := (x18, fault, fplace)
def K_valueNumber_6 (rec_4 : (Int32) → (Int32) → ((Int32) × (Int32) × (Int32))) (x17 : Int32) (x18 : Int32) (tb : Nat → Int32) : (Int32) × (Int32) × (Int32) := (rec_4 (x17 + 1) (((x18 * (10 : Int32)) + (tb x17.toNatClampNeg)) - (48 : Int32)))
def K_valueNumber_4 (place : Int32) (x17 : Int32) (x18 : Int32) (fault : Int32) (fplace : Int32) (rec_4 : (Int32) → (Int32) → ((Int32) × (Int32) × (Int32))) (tb : Nat → Int32) : (Int32) × (Int32) × (Int32) := (if place.toInt ≤ x17.toInt then (K_valueNumber_5 x18 fault fplace) else (K_valueNumber_6 rec_4 x17 x18 tb))
def K_valueNumber_L4 (place : Int32) (fault : Int32) (fplace : Int32) (tb : Nat → Int32) : Nat → (Int32) → (Int32) → (Int32) × (Int32) × (Int32)
  | 0, _, _ => (0, 0, 0)
  | n9 + 1, x17, x18 => (K_valueNumber_4 place x17 x18 fault fplace (K_valueNumber_L4 place fault fplace tb n9) tb)
def K_valueNumber_2 (place : Int32) (fault : Int32) (fplace : Int32) (tb : Nat → Int32) (from_ : Int32) (value : Int32) : (Int32) × (Int32) × (Int32) := (K_valueNumber_L4 place fault fplace tb 100000 from_ value)
def K_valueNumber_7 (value : Int32) (fault_27 : Int32) (fplace_28 : Int32) : (Int32) × (Int32) × (Int32) := (value, fault_27, fplace_28)
def K_valueNumber_3 (value : Int32) (fault : Int32) (from_ : Int32) (fplace : Int32) : (Int32) × (Int32) × (Int32) := ((fun t9 => (K_valueNumber_7 value t9.1 t9.2)) (M_refuse fault (1 : Int32) from_ fplace))
def K_valueNumber_1 (place : Int32) (from_ : Int32) (fault : Int32) (fplace : Int32) (tb : Nat → Int32) (value : Int32) : (Int32) × (Int32) × (Int32) := (if (place.toInt - from_.toInt) ≤ 3 then (K_valueNumber_2 place fault fplace tb from_ value) else (K_valueNumber_3 value fault from_ fplace))
def M_valueNumber (place : Int32) (from_ : Int32) (fault : Int32) (fplace : Int32) (tb : Nat → Int32) (value : Int32) : (Int32) × (Int32) × (Int32) := (K_valueNumber_1 place from_ fault fplace tb value)
abbrev W_valueNumber (cI cJ cZ cG cH : ClassId) (rd : Nat) (tp : Nat) (rfa : Nat) (rya : Nat) (rla : Nat) (pl : Nat) (place : Int32) (kind : Int32) (from_ : Int32) (value : Int32) (told : Int32) (depth : Int32) (fault : Int32) (fplace : Int32) (tba : Nat) (tl : Int32) (tb : Nat → Int32) : va_W := [oX4 rd tp rfa rya rla pl place kind from_ value told depth fault fplace, oX8 tp tba tl, oAI tba cI 400 tb]
abbrev Q_valueNumber (D : va_G) (cI cJ cZ cG cH : ClassId) (rd : Nat) (tp : Nat) (rfa : Nat) (rya : Nat) (rla : Nat) (pl : Nat) (place : Int32) (kind : Int32) (from_ : Int32) (value : Int32) (told : Int32) (depth : Int32) (fault : Int32) (fplace : Int32) (tba : Nat) (tl : Int32) (tb : Nat → Int32) (A : Nat → Prop) : Array Value → State → Outcome → State → Prop := va_Qv (fun (_ : Unit) => True) (fun _ t => ∃ (value9 : Int32) (fault9 : Int32) (fplace9 : Int32), (M_valueNumber place from_ fault fplace tb value = (value9, fault9, fplace9)) ∧ xB D (tyL cI cJ cZ cG cH) [oX4 rd tp rfa rya rla pl place kind from_ value9 told depth fault9 fplace9, oX8 tp tba tl, oAI tba cI 400 tb] A t) A
abbrev rm_valueNumber : Room := { frames := 1, cells := 0, slots := 0, locals := 22 }
set_option maxRecDepth 100000 in
set_option maxHeartbeats 40000000 in
theorem c_valueNumber (l : Launch) (D : va_G) (cI cJ cZ cG cH : ClassId) (sz : Nat) (rd : Nat) (tp : Nat) (rfa : Nat) (rya : Nat) (rla : Nat) (pl : Nat) (place : Int32) (kind : Int32) (from_ : Int32) (value : Int32) (told : Int32) (depth : Int32) (fault : Int32) (fplace : Int32) (tba : Nat) (tl : Int32) (tb : Nat → Int32) (h_place : 0 ≤ place.toInt ∧ place.toInt ≤ 400) (h_from_ : 0 ≤ from_.toInt ∧ from_.toInt ≤ 400) (h_depth : 0 ≤ depth.toInt ∧ depth.toInt ≤ 6) (h_tl : 0 ≤ tl.toInt ∧ tl.toInt ≤ 400) : Met l yX4_valueNumber (wt yX4_valueNumber cX4_valueNumber 2 none) rm_valueNumber (xPc [.ref rd] D (tyL cI cJ cZ cG cH) (W_valueNumber cI cJ cZ cG cH rd tp rfa rya rla pl place kind from_ value told depth fault fplace tba tl tb) sz) (Q_valueNumber D cI cJ cZ cG cH rd tp rfa rya rla pl place kind from_ value told depth fault fplace tba tl tb (va_A (W_valueNumber cI cJ cZ cG cH rd tp rfa rya rla pl place kind from_ value told depth fault fplace tba tl tb) sz)) 0 0 (va_A (W_valueNumber cI cJ cZ cG cH rd tp rfa rya rla pl place kind from_ value told depth fault fplace tba tl tb) sz) := by
  refine xMet (cc := cX4_valueNumber) (maxL := 2) (ret := none) (Qf := Q_valueNumber D cI cJ cZ cG cH rd tp rfa rya rla pl place kind from_ value told depth fault fplace tba tl tb) (by decide) rfl (Nat.le_of_ble_eq_true rfl) ?_
  intro p e s m below meth c ls A hx hb hr hml hts hown hlocks hnm hsz hP hK hD hA hS hl
  have hown : s.vm.findClass RX4 = some m.cls := hown
  have hP : va_P D vwCl [oX4 rd tp rfa rya rla pl place kind from_ value told depth fault fplace, oX8 tp tba tl, oAI tba cI 400 tb] s.heap := hP
  have hD : va_D A [oX4 rd tp rfa rya rla pl place kind from_ value told depth fault fplace, oX8 tp tba tl, oAI tba cI 400 tb] := hD
  have hl : lv_has ls 2 [(0, .ref rd)] := hl
  have hM : M_valueNumber place from_ fault fplace tb value = (K_valueNumber_1 place from_ fault fplace tb value) := rfl
  refine lv_aload_n hx hb dX4_valueNumber_0 rfl (lv_at hl 0 rfl) ?_
  refine va_get (D := D) (ci := 3) (v := .int place) (C := RX4) (T := TX4) (N := 13) hx hb hts (fun w h => tbC w (tbfX4 w h)) hown hK hP 0 rfl rfl 5 (by decide) (hts (.fieldLink RX4 36 "PowerRails$Reader" "place" "I") (tbC _ wd237)) (fun _ h9 => h9) rfl dX4_valueNumber_1 ?_
  refine lv_aload_n hx hb dX4_valueNumber_4 rfl (lv_at hl 0 rfl) ?_
  refine va_get (D := D) (ci := 3) (v := .int from_) (C := RX4) (T := TX4) (N := 13) hx hb hts (fun w h => tbC w (tbfX4 w h)) hown hK hP 0 rfl rfl 7 (by decide) (hts (.fieldLink RX4 88 "PowerRails$Reader" "from" "I") (tbC _ wd239)) (fun _ h9 => h9) rfl dX4_valueNumber_5 ?_
  refine lv_isub hx hb dX4_valueNumber_8 ?_
  refine lv_topi (fun v1 ev1 => ?_)
  have tv1 : v1.toInt = (place.toInt - from_.toInt) := (congrArg Int32.toInt ev1).trans (xsub rfl rfl (by omega) (by omega))
  refine lv_iconst (v := 3) hx hb dX4_valueNumber_9 (by decide) ?_
  refine lv_icmp_le (tgt := 23) hx hb dX4_valueNumber_10 (by decide) (fun c_2 => ?_) (fun c_2 => ?_)
  · skip
    have i_2 : (place.toInt - from_.toInt) ≤ 3 := (ile tv1 (by decide)).mp c_2
    have hM : M_valueNumber place from_ fault fplace tb value = (K_valueNumber_2 place fault fplace tb from_ value) := (show M_valueNumber place from_ fault fplace tb value = (if (place.toInt - from_.toInt) ≤ 3 then (K_valueNumber_2 place fault fplace tb from_ value) else (K_valueNumber_3 value fault from_ fplace)) from hM).trans (if_pos i_2)
    refine lv_aload_n hx hb dX4_valueNumber_23 rfl (lv_at hl 0 rfl) ?_
    refine va_get (D := D) (ci := 3) (v := .int from_) (C := RX4) (T := TX4) (N := 13) hx hb hts (fun w h => tbC w (tbfX4 w h)) hown hK hP 0 rfl rfl 7 (by decide) (hts (.fieldLink RX4 88 "PowerRails$Reader" "from" "I") (tbC _ wd239)) (fun _ h9 => h9) rfl dX4_valueNumber_24 ?_
    refine lv_istore_n (lv' := [(1, .int from_), (0, .ref rd)]) hx hb dX4_valueNumber_27 rfl hl (by decide) rfl (fun ls hl => ?_)
    have hl19 : ∀ (nhl19 : Nat) (x17 : Int32) (x18 : Int32), ((400 - x17.toInt).toNat < nhl19) → (hx17 : 0 ≤ x17.toInt ∧ x17.toInt ≤ 400) → (hM : M_valueNumber place from_ fault fplace tb value = (K_valueNumber_L4 place fault fplace tb nhl19 x17 x18)) → ∀ (H : Heap) (locs : List Loc), va_P D vwCl [oX4 rd tp rfa rya rla pl place kind from_ x18 told depth fault fplace, oX8 tp tba tl, oAI tba cI 400 tb] H → va_D A [oX4 rd tp rfa rya rla pl place kind from_ x18 told depth fault fplace, oX8 tp tba tl, oAI tba cI 400 tb] → va_S A s.heap H locs → ∀ (ls : Array Slot), lv_has ls 2 [(1, .int x17), (0, .ref rd)] → W p l e rm_valueNumber s m [Value.ref rd].toArray below meth c H locs 0 0 (MQ below ((Q_valueNumber D cI cJ cZ cG cH rd tp rfa rya rla pl place kind from_ value told depth fault fplace tba tl tb) A) [Value.ref rd].toArray s 0 0 A) (F0 m 28 ls []) := by
      intro nhl19
      induction nhl19 with
      | zero =>
        intro x17 x18 hmhl19
        exact absurd hmhl19 (Nat.not_lt_zero _)
      | succ nhl19 ihhl19 =>
        intro x17 x18 hmhl19 hx17 hM H locs hP hD hS ls hl
        have hM : M_valueNumber place from_ fault fplace tb value = (K_valueNumber_4 place x17 x18 fault fplace (K_valueNumber_L4 place fault fplace tb nhl19) tb) := hM
        refine lv_iload_n hx hb dX4_valueNumber_28 rfl (lv_at hl 0 rfl) ?_
        refine lv_aload_n hx hb dX4_valueNumber_29 rfl (lv_at hl 1 rfl) ?_
        refine va_get (D := D) (ci := 3) (v := .int place) (C := RX4) (T := TX4) (N := 13) hx hb hts (fun w h => tbC w (tbfX4 w h)) hown hK hP 0 rfl rfl 5 (by decide) (hts (.fieldLink RX4 36 "PowerRails$Reader" "place" "I") (tbC _ wd237)) (fun _ h9 => h9) rfl dX4_valueNumber_30 ?_
        refine lv_icmp_ge (tgt := 66) hx hb dX4_valueNumber_33 (by decide) (fun c_20 => ?_) (fun c_20 => ?_)
        · skip
          have i_20 : place.toInt ≤ x17.toInt := (ile rfl rfl).mp c_20
          have hM : M_valueNumber place from_ fault fplace tb value = (K_valueNumber_5 x18 fault fplace) := (show M_valueNumber place from_ fault fplace tb value = (if place.toInt ≤ x17.toInt then (K_valueNumber_5 x18 fault fplace) else (K_valueNumber_6 (K_valueNumber_L4 place fault fplace tb nhl19) x17 x18 tb)) from hM).trans (if_pos i_20)
          refine W.widen (k := 0) (n := 0) (by decide) (by decide) ?_
          exact W.vret hx hb hr (fun t ht hW => ⟨⟨(), rfl, trivial, ⟨x18, fault, fplace, hM, xB_of9 ht hW hP hK hD [0, 1, 2] (by decide +kernel) rfl⟩⟩, hS.F ht⟩) hS.2.2 dX4_valueNumber_66
        · skip
          have i_20 : ¬ (place.toInt ≤ x17.toInt) := fun h9 => c_20 ((ile rfl rfl).mpr h9)
          have hM : M_valueNumber place from_ fault fplace tb value = (K_valueNumber_6 (K_valueNumber_L4 place fault fplace tb nhl19) x17 x18 tb) := (show M_valueNumber place from_ fault fplace tb value = (if place.toInt ≤ x17.toInt then (K_valueNumber_5 x18 fault fplace) else (K_valueNumber_6 (K_valueNumber_L4 place fault fplace tb nhl19) x17 x18 tb)) from hM).trans (if_neg i_20)
          refine lv_aload_n hx hb dX4_valueNumber_36 rfl (lv_at hl 1 rfl) ?_
          refine lv_aload_n hx hb dX4_valueNumber_37 rfl (lv_at hl 1 rfl) ?_
          refine va_get (D := D) (ci := 3) (v := .int x18) (C := RX4) (T := TX4) (N := 13) hx hb hts (fun w h => tbC w (tbfX4 w h)) hown hK hP 0 rfl rfl 8 (by decide) (hts (.fieldLink RX4 91 "PowerRails$Reader" "value" "I") (tbC _ wd240)) (fun _ h9 => h9) rfl dX4_valueNumber_38 ?_
          refine lv_bipush (v := 10) hx hb dX4_valueNumber_41 (by decide) ?_
          refine lv_imul hx hb dX4_valueNumber_43 ?_
          refine lv_topi (fun v21 ev21 => ?_)
          refine lv_aload_n hx hb dX4_valueNumber_44 rfl (lv_at hl 1 rfl) ?_
          refine va_get (D := D) (ci := 3) (v := .ref tp) (C := RX4) (T := TX4) (N := 13) hx hb hts (fun w h => tbC w (tbfX4 w h)) hown hK hP 0 rfl rfl 0 (by decide) (hts (.fieldLink RX4 9 "PowerRails$Reader" "tape" "LPowerRails$Tape;") (tbC _ wd232)) (fun _ h9 => h9) rfl dX4_valueNumber_45 ?_
          refine va_get (D := D) (ci := 7) (v := .ref tba) (C := RX8) (T := TX8) (N := 2) hx hb hts (fun w h => tbC w (tbfX8 w h)) hown hK hP 1 rfl rfl 0 (by decide) (hts (.fieldLink RX4 85 "PowerRails$Tape" "bytes" "[I") (tbC _ wd82)) (fun _ h9 => h9) rfl dX4_valueNumber_48 ?_
          refine lv_iload_n hx hb dX4_valueNumber_51 rfl (lv_at hl 0 rfl) ?_
          refine va_iald hx hb hK hP 2 0 rfl rfl (vp_in_iff.mpr ⟨by omega, by omega⟩) dX4_valueNumber_52 ?_
          refine lv_topi (fun v22 ev22 => ?_)
          refine lv_iadd hx hb dX4_valueNumber_53 ?_
          refine lv_topi (fun v23 ev23 => ?_)
          refine lv_bipush (v := 48) hx hb dX4_valueNumber_54 (by decide) ?_
          refine lv_isub hx hb dX4_valueNumber_56 ?_
          refine lv_topi (fun v24 ev24 => ?_)
          refine va_put (D := D) (ci := 3) (v := .int v24) (ty := .int) (C := RX4) (T := TX4) (N := 13) hx hb hts (fun w h => tbC w (tbfX4 w h)) tyX4 tyX4_ok nmX4 hown hK hP hD hS 0 rfl rfl 8 (by decide) (hts (.fieldLink RX4 91 "PowerRails$Reader" "value" "I") (tbC _ wd240)) (fun _ h9 => h9) rfl (by decide +kernel) rfl rfl (Nat.le_of_ble_eq_true rfl) dX4_valueNumber_57 (fun H locs hP hD hS => ?_)
          obtain ⟨hP, hD⟩ : xPD D A [oX4 rd tp rfa rya rla pl place kind from_ v24 told depth fault fplace, oX8 tp tba tl, oAI tba cI 400 tb] H := ⟨hP, hD⟩
          obtain ⟨x25, ex25⟩ : ∃ y : Int32, y = x17 + 1 := ⟨_, rfl⟩
          have tx25 : x25.toInt = (x17.toInt + 1) := (congrArg Int32.toInt ex25).trans (xadd rfl (by decide) (by omega) (by omega))
          refine lv_iinc (v := x25) (lv' := [(1, .int x25), (0, .ref rd)]) hx hb dX4_valueNumber_60 hl (k := 0) rfl (by rw [ex25]; rfl) (by decide) rfl (fun ls hl => ?_)
          refine lv_goto (tgt := 28) hx hb dX4_valueNumber_63 (by decide) ?_
          exact ihhl19 x25 v24 (by omega) (xrng tx25 (by omega) (by omega)) (by rw [ex25, ev24, ev23, ev22, ev21]; exact hM) _ _ hP hD hS ls (lv_sub hl [0, 1] rfl)
    exact hl19 100000 from_ value (by omega) (xrng rfl (by omega) (by omega)) hM _ _ hP hD hS ls (lv_sub hl [0, 1] rfl)
  · skip
    have i_2 : ¬ ((place.toInt - from_.toInt) ≤ 3) := fun h9 => c_2 ((ile tv1 (by decide)).mpr h9)
    have hM : M_valueNumber place from_ fault fplace tb value = (K_valueNumber_3 value fault from_ fplace) := (show M_valueNumber place from_ fault fplace tb value = (if (place.toInt - from_.toInt) ≤ 3 then (K_valueNumber_2 place fault fplace tb from_ value) else (K_valueNumber_3 value fault from_ fplace)) from hM).trans (if_neg i_2)
    refine lv_aload_n hx hb dX4_valueNumber_13 rfl (lv_at hl 0 rfl) ?_
    refine lv_iconst (v := 1) hx hb dX4_valueNumber_14 (by decide) ?_
    refine lv_aload_n hx hb dX4_valueNumber_15 rfl (lv_at hl 0 rfl) ?_
    refine va_get (D := D) (ci := 3) (v := .int from_) (C := RX4) (T := TX4) (N := 13) hx hb hts (fun w h => tbC w (tbfX4 w h)) hown hK hP 0 rfl rfl 7 (by decide) (hts (.fieldLink RX4 88 "PowerRails$Reader" "from" "I") (tbC _ wd239)) (fun _ h9 => h9) rfl dX4_valueNumber_16 ?_
    obtain ⟨hPc, hDc, hFc, hC9⟩ := xpk (wc := W_refuse cI cJ cZ cG cH rd (1 : Int32) from_ tp rfa rya rla pl place kind from_ value told depth fault fplace) hP hD hS hA [0] (by decide +kernel) rfl
    refine va_callv (va_runV (As := [.int 1, .int from_]) (rest := []) ⟨hx, hb, hml, hown, hts⟩ (c_refuse l D cI cJ cZ cG cH s.heap.size rd (1 : Int32) from_ tp rfa rya rla pl place kind from_ value told depth fault fplace (xrng rfl (by omega) (by omega)) (xrng rfl (by omega) (by omega)) (xrng rfl (by omega) (by omega))) (cwV 2 hts (xGV tbC wd285 wd286 wd287 wd60 wd969) rfl rfl rfl (by decide +kernel) ⟨Nat.le_of_ble_eq_true rfl, Nat.le_of_ble_eq_true rfl⟩) ⟨xPc_blind, va_recv hK hPc (ci := 3) (q0 := 0) rfl rfl, xPc_pre hPc hK hDc⟩ rfl rfl hl.1 rfl (lv_room (Nat.le_of_ble_eq_true rfl)) dX4_valueNumber_19 ⟨Nat.le_of_ble_eq_true rfl, Nat.le_of_ble_eq_true rfl⟩) hS (fun q _ h => hFc q h) hFc (fun u t H1 locs ht hvm hw26 hB hz1 hk1 hS => ?_)
    obtain ⟨fault_27, fplace_28, hf28_0, hP1, hK1, hD1⟩ := hB
    rw [ht] at hP1
    obtain ⟨hP, hD⟩ : xPD D A [oX8 tp tba tl, oAI tba cI 400 tb, oX4 rd tp rfa rya rla pl place kind from_ value told depth fault_27 fplace_28] H1 := xjn 2 hP hD [0] [1, 2] hC9 rfl (by decide +kernel) (by decide +kernel) hk1 hFc hP1 hD1
    generalize H1 = H at hP hS ⊢
    have hf28_0 : M_refuse fault (1 : Int32) from_ fplace = (fault_27, fplace_28) := hf28_0
    have h9M := congrArg (fun t9 => (K_valueNumber_7 value t9.1 t9.2)) hf28_0
    have hM : M_valueNumber place from_ fault fplace tb value = (K_valueNumber_7 value fault_27 fplace_28) := (show M_valueNumber place from_ fault fplace tb value = ((fun t9 => (K_valueNumber_7 value t9.1 t9.2)) (M_refuse fault (1 : Int32) from_ fplace)) from hM).trans h9M
    refine W.widen (k := 0) (n := 0) (by decide) (by decide) ?_
    exact W.vret hx hb hr (fun t ht hW => ⟨⟨(), rfl, trivial, ⟨value, fault_27, fplace_28, hM, xB_of9 ht hW hP hK hD [2, 0, 1] (by decide +kernel) rfl⟩⟩, hS.F ht⟩) hS.2.2 dX4_valueNumber_22
def K_step_11 (x10 : Int32) (v14 : Int32) (fault : Int32) (fplace : Int32) : (Int32) × (Int32) × (Int32) × (Int32) × (Int32) × (Int32) := ((x10 + (1 : Int32)), (3 : Int32), x10, v14, fault, fplace)
def K_step_13 (x10 : Int32) (v14 : Int32) (fault : Int32) (fplace : Int32) : (Int32) × (Int32) × (Int32) × (Int32) × (Int32) × (Int32) := ((x10 + (1 : Int32)), (3 : Int32), x10, v14, fault, fplace)
def K_step_15 (x10 : Int32) (v14 : Int32) (fault : Int32) (fplace : Int32) : (Int32) × (Int32) × (Int32) × (Int32) × (Int32) × (Int32) := ((x10 + (1 : Int32)), (3 : Int32), x10, v14, fault, fplace)
def K_step_17 (x10 : Int32) (kind : Int32) (fault_26 : Int32) (fplace_27 : Int32) : (Int32) × (Int32) × (Int32) × (Int32) × (Int32) × (Int32) := (x10, kind, x10, (0 : Int32), fault_26, fplace_27)
def K_step_16 (x10 : Int32) (kind : Int32) (fault : Int32) (fplace : Int32) : (Int32) × (Int32) × (Int32) × (Int32) × (Int32) × (Int32) := ((fun t9 => (K_step_17 x10 kind t9.1 t9.2)) (M_refuse fault (1 : Int32) x10 fplace))
def K_step_14 (v14 : Int32) (x10 : Int32) (fault : Int32) (fplace : Int32) (kind : Int32) : (Int32) × (Int32) × (Int32) × (Int32) × (Int32) × (Int32) := (if v14.toInt = 38 then (K_step_15 x10 v14 fault fplace) else (K_step_16 x10 kind fault fplace))
def K_step_12 (v14 : Int32) (x10 : Int32) (fault : Int32) (fplace : Int32) (kind : Int32) : (Int32) × (Int32) × (Int32) × (Int32) × (Int32) × (Int32) := (if v14.toInt = 41 then (K_step_13 x10 v14 fault fplace) else (K_step_14 v14 x10 fault fplace kind))
def K_step_9 (v14 : Int32) (x10 : Int32) (fault : Int32) (fplace : Int32) (kind : Int32) : (Int32) × (Int32) × (Int32) × (Int32) × (Int32) × (Int32) := (if v14.toInt = 40 then (K_step_11 x10 v14 fault fplace) else (K_step_12 v14 x10 fault fplace kind))
def K_step_21 (x10 : Int32) (v14 : Int32) (fault : Int32) (fplace : Int32) : (Int32) × (Int32) × (Int32) × (Int32) × (Int32) × (Int32) := ((x10 + (1 : Int32)), (3 : Int32), x10, v14, fault, fplace)
def K_step_22 (x10 : Int32) (kind : Int32) (fault_35 : Int32) (fplace_36 : Int32) : (Int32) × (Int32) × (Int32) × (Int32) × (Int32) × (Int32) := (x10, kind, x10, (0 : Int32), fault_35, fplace_36)
def K_step_20 (x10 : Int32) (kind : Int32) (fault : Int32) (fplace : Int32) : (Int32) × (Int32) × (Int32) × (Int32) × (Int32) × (Int32) := ((fun t9 => (K_step_22 x10 kind t9.1 t9.2)) (M_refuse fault (1 : Int32) x10 fplace))
def K_step_18 (v14 : Int32) (x10 : Int32) (fault : Int32) (fplace : Int32) (kind : Int32) : (Int32) × (Int32) × (Int32) × (Int32) × (Int32) × (Int32) := (if v14.toInt = 59 then (K_step_21 x10 v14 fault fplace) else (K_step_20 x10 kind fault fplace))
def K_step_24 (place_39 : Int32) (x10 : Int32) (value_41 : Int32) (fault_42 : Int32) (fplace_43 : Int32) : (Int32) × (Int32) × (Int32) × (Int32) × (Int32) × (Int32) := (place_39, (2 : Int32), x10, value_41, fault_42, fplace_43)
def K_step_23 (place_39 : Int32) (x10 : Int32) (fault : Int32) (fplace : Int32) (tb : Nat → Int32) : (Int32) × (Int32) × (Int32) × (Int32) × (Int32) × (Int32) := ((fun t9 => (K_step_24 place_39 x10 t9.1 t9.2.1 t9.2.2)) (M_valueNumber place_39 x10 fault fplace tb (0 : Int32)))
def K_step_19 (x10 : Int32) (fault : Int32) (fplace : Int32) (tb : Nat → Int32) (tl : Int32) : (Int32) × (Int32) × (Int32) × (Int32) × (Int32) × (Int32) := ((fun t9 => (K_step_23 t9 x10 fault fplace tb)) (M_skipWithin tl tb (48 : Int32) (57 : Int32) x10))
def K_step_10 (v14 : Int32) (x10 : Int32) (fault : Int32) (fplace : Int32) (kind : Int32) (tb : Nat → Int32) (tl : Int32) : (Int32) × (Int32) × (Int32) × (Int32) × (Int32) × (Int32) := (if 57 < v14.toInt then (K_step_18 v14 x10 fault fplace kind) else (K_step_19 x10 fault fplace tb tl))
def K_step_7 (v14 : Int32) (x10 : Int32) (fault : Int32) (fplace : Int32) (kind : Int32) (tb : Nat → Int32) (tl : Int32) : (Int32) × (Int32) × (Int32) × (Int32) × (Int32) × (Int32) := (if v14.toInt < 48 then (K_step_9 v14 x10 fault fplace kind) else (K_step_10 v14 x10 fault fplace kind tb tl))
def K_step_27 (x10 : Int32) (v14 : Int32) (fault : Int32) (fplace : Int32) : (Int32) × (Int32) × (Int32) × (Int32) × (Int32) × (Int32) := ((x10 + (1 : Int32)), (3 : Int32), x10, v14, fault, fplace)
def K_step_29 (x10 : Int32) (kind : Int32) (fault_54 : Int32) (fplace_55 : Int32) : (Int32) × (Int32) × (Int32) × (Int32) × (Int32) × (Int32) := (x10, kind, x10, (0 : Int32), fault_54, fplace_55)
def K_step_28 (x10 : Int32) (kind : Int32) (fault : Int32) (fplace : Int32) : (Int32) × (Int32) × (Int32) × (Int32) × (Int32) × (Int32) := ((fun t9 => (K_step_29 x10 kind t9.1 t9.2)) (M_refuse fault (1 : Int32) x10 fplace))
def K_step_25 (v14 : Int32) (x10 : Int32) (fault : Int32) (fplace : Int32) (kind : Int32) : (Int32) × (Int32) × (Int32) × (Int32) × (Int32) × (Int32) := (if v14.toInt = 124 then (K_step_27 x10 v14 fault fplace) else (K_step_28 x10 kind fault fplace))
def K_step_30 (place_57 : Int32) (x10 : Int32) (fault : Int32) (fplace : Int32) : (Int32) × (Int32) × (Int32) × (Int32) × (Int32) × (Int32) := (place_57, (1 : Int32), x10, (0 : Int32), fault, fplace)
def K_step_26 (x10 : Int32) (fault : Int32) (fplace : Int32) (tl : Int32) (tb : Nat → Int32) : (Int32) × (Int32) × (Int32) × (Int32) × (Int32) × (Int32) := ((fun t9 => (K_step_30 t9 x10 fault fplace)) (M_skipWithin tl tb (97 : Int32) (122 : Int32) x10))
def K_step_8 (v14 : Int32) (x10 : Int32) (fault : Int32) (fplace : Int32) (kind : Int32) (tl : Int32) (tb : Nat → Int32) : (Int32) × (Int32) × (Int32) × (Int32) × (Int32) × (Int32) := (if 122 < v14.toInt then (K_step_25 v14 x10 fault fplace kind) else (K_step_26 x10 fault fplace tl tb))
def K_step_5 (tb : Nat → Int32) (x10 : Int32) (fault : Int32) (fplace : Int32) (kind : Int32) (tl : Int32) : (Int32) × (Int32) × (Int32) × (Int32) × (Int32) × (Int32) := (if (tb x10.toNatClampNeg).toInt < 97 then (K_step_7 (tb x10.toNatClampNeg) x10 fault fplace kind tb tl) else (K_step_8 (tb x10.toNatClampNeg) x10 fault fplace kind tl tb))
def K_step_6 (x10 : Int32) (fault : Int32) (fplace : Int32) : (Int32) × (Int32) × (Int32) × (Int32) × (Int32) × (Int32) := (x10, (0 : Int32), x10, (0 : Int32), fault, fplace)
def K_step_3 (x10 : Int32) (tl : Int32) (tb : Nat → Int32) (fault : Int32) (fplace : Int32) (kind : Int32) : (Int32) × (Int32) × (Int32) × (Int32) × (Int32) × (Int32) := (if x10.toInt < tl.toInt then (K_step_5 tb x10 fault fplace kind tl) else (K_step_6 x10 fault fplace))
def K_step_32 (rec_2 : (Int32) → ((Int32) × (Int32) × (Int32) × (Int32) × (Int32) × (Int32))) (x10 : Int32) : (Int32) × (Int32) × (Int32) × (Int32) × (Int32) × (Int32) := (rec_2 (x10 + (1 : Int32)))
def K_step_39 (x10 : Int32) (v61 : Int32) (fault : Int32) (fplace : Int32) : (Int32) × (Int32) × (Int32) × (Int32) × (Int32) × (Int32) := ((x10 + (1 : Int32)), (3 : Int32), x10, v61, fault, fplace)
def K_step_41 (x10 : Int32) (v61 : Int32) (fault : Int32) (fplace : Int32) : (Int32) × (Int32) × (Int32) × (Int32) × (Int32) × (Int32) := ((x10 + (1 : Int32)), (3 : Int32), x10, v61, fault, fplace)
def K_step_43 (x10 : Int32) (v61 : Int32) (fault : Int32) (fplace : Int32) : (Int32) × (Int32) × (Int32) × (Int32) × (Int32) × (Int32) := ((x10 + (1 : Int32)), (3 : Int32), x10, v61, fault, fplace)
def K_step_45 (x10 : Int32) (kind : Int32) (fault_73 : Int32) (fplace_74 : Int32) : (Int32) × (Int32) × (Int32) × (Int32) × (Int32) × (Int32) := (x10, kind, x10, (0 : Int32), fault_73, fplace_74)
def K_step_44 (x10 : Int32) (kind : Int32) (fault : Int32) (fplace : Int32) : (Int32) × (Int32) × (Int32) × (Int32) × (Int32) × (Int32) := ((fun t9 => (K_step_45 x10 kind t9.1 t9.2)) (M_refuse fault (1 : Int32) x10 fplace))
def K_step_42 (v58 : Int32) (x10 : Int32) (v61 : Int32) (fault : Int32) (fplace : Int32) (kind : Int32) : (Int32) × (Int32) × (Int32) × (Int32) × (Int32) × (Int32) := (if v58.toInt = 38 then (K_step_43 x10 v61 fault fplace) else (K_step_44 x10 kind fault fplace))
def K_step_40 (v58 : Int32) (x10 : Int32) (v61 : Int32) (fault : Int32) (fplace : Int32) (kind : Int32) : (Int32) × (Int32) × (Int32) × (Int32) × (Int32) × (Int32) := (if v58.toInt = 41 then (K_step_41 x10 v61 fault fplace) else (K_step_42 v58 x10 v61 fault fplace kind))
def K_step_37 (v58 : Int32) (x10 : Int32) (v61 : Int32) (fault : Int32) (fplace : Int32) (kind : Int32) : (Int32) × (Int32) × (Int32) × (Int32) × (Int32) × (Int32) := (if v58.toInt = 40 then (K_step_39 x10 v61 fault fplace) else (K_step_40 v58 x10 v61 fault fplace kind))
def K_step_49 (x10 : Int32) (v61 : Int32) (fault : Int32) (fplace : Int32) : (Int32) × (Int32) × (Int32) × (Int32) × (Int32) × (Int32) := ((x10 + (1 : Int32)), (3 : Int32), x10, v61, fault, fplace)
def K_step_50 (x10 : Int32) (kind : Int32) (fault_82 : Int32) (fplace_83 : Int32) : (Int32) × (Int32) × (Int32) × (Int32) × (Int32) × (Int32) := (x10, kind, x10, (0 : Int32), fault_82, fplace_83)
def K_step_48 (x10 : Int32) (kind : Int32) (fault : Int32) (fplace : Int32) : (Int32) × (Int32) × (Int32) × (Int32) × (Int32) × (Int32) := ((fun t9 => (K_step_50 x10 kind t9.1 t9.2)) (M_refuse fault (1 : Int32) x10 fplace))
def K_step_46 (v58 : Int32) (x10 : Int32) (v61 : Int32) (fault : Int32) (fplace : Int32) (kind : Int32) : (Int32) × (Int32) × (Int32) × (Int32) × (Int32) × (Int32) := (if v58.toInt = 59 then (K_step_49 x10 v61 fault fplace) else (K_step_48 x10 kind fault fplace))
def K_step_52 (place_86 : Int32) (x10 : Int32) (value_88 : Int32) (fault_89 : Int32) (fplace_90 : Int32) : (Int32) × (Int32) × (Int32) × (Int32) × (Int32) × (Int32) := (place_86, (2 : Int32), x10, value_88, fault_89, fplace_90)
def K_step_51 (place_86 : Int32) (x10 : Int32) (fault : Int32) (fplace : Int32) (tb : Nat → Int32) : (Int32) × (Int32) × (Int32) × (Int32) × (Int32) × (Int32) := ((fun t9 => (K_step_52 place_86 x10 t9.1 t9.2.1 t9.2.2)) (M_valueNumber place_86 x10 fault fplace tb (0 : Int32)))
def K_step_47 (x10 : Int32) (fault : Int32) (fplace : Int32) (tb : Nat → Int32) (tl : Int32) : (Int32) × (Int32) × (Int32) × (Int32) × (Int32) × (Int32) := ((fun t9 => (K_step_51 t9 x10 fault fplace tb)) (M_skipWithin tl tb (48 : Int32) (57 : Int32) x10))
def K_step_38 (v58 : Int32) (x10 : Int32) (v61 : Int32) (fault : Int32) (fplace : Int32) (kind : Int32) (tb : Nat → Int32) (tl : Int32) : (Int32) × (Int32) × (Int32) × (Int32) × (Int32) × (Int32) := (if 57 < v58.toInt then (K_step_46 v58 x10 v61 fault fplace kind) else (K_step_47 x10 fault fplace tb tl))
def K_step_35 (v58 : Int32) (x10 : Int32) (v61 : Int32) (fault : Int32) (fplace : Int32) (kind : Int32) (tb : Nat → Int32) (tl : Int32) : (Int32) × (Int32) × (Int32) × (Int32) × (Int32) × (Int32) := (if v58.toInt < 48 then (K_step_37 v58 x10 v61 fault fplace kind) else (K_step_38 v58 x10 v61 fault fplace kind tb tl))
def K_step_55 (x10 : Int32) (v61 : Int32) (fault : Int32) (fplace : Int32) : (Int32) × (Int32) × (Int32) × (Int32) × (Int32) × (Int32) := ((x10 + (1 : Int32)), (3 : Int32), x10, v61, fault, fplace)
def K_step_57 (x10 : Int32) (kind : Int32) (fault_101 : Int32) (fplace_102 : Int32) : (Int32) × (Int32) × (Int32) × (Int32) × (Int32) × (Int32) := (x10, kind, x10, (0 : Int32), fault_101, fplace_102)
def K_step_56 (x10 : Int32) (kind : Int32) (fault : Int32) (fplace : Int32) : (Int32) × (Int32) × (Int32) × (Int32) × (Int32) × (Int32) := ((fun t9 => (K_step_57 x10 kind t9.1 t9.2)) (M_refuse fault (1 : Int32) x10 fplace))
def K_step_53 (v58 : Int32) (x10 : Int32) (v61 : Int32) (fault : Int32) (fplace : Int32) (kind : Int32) : (Int32) × (Int32) × (Int32) × (Int32) × (Int32) × (Int32) := (if v58.toInt = 124 then (K_step_55 x10 v61 fault fplace) else (K_step_56 x10 kind fault fplace))
def K_step_58 (place_104 : Int32) (x10 : Int32) (fault : Int32) (fplace : Int32) : (Int32) × (Int32) × (Int32) × (Int32) × (Int32) × (Int32) := (place_104, (1 : Int32), x10, (0 : Int32), fault, fplace)
def K_step_54 (x10 : Int32) (fault : Int32) (fplace : Int32) (tl : Int32) (tb : Nat → Int32) : (Int32) × (Int32) × (Int32) × (Int32) × (Int32) × (Int32) := ((fun t9 => (K_step_58 t9 x10 fault fplace)) (M_skipWithin tl tb (97 : Int32) (122 : Int32) x10))
def K_step_36 (v58 : Int32) (x10 : Int32) (v61 : Int32) (fault : Int32) (fplace : Int32) (kind : Int32) (tl : Int32) (tb : Nat → Int32) : (Int32) × (Int32) × (Int32) × (Int32) × (Int32) × (Int32) := (if 122 < v58.toInt then (K_step_53 v58 x10 v61 fault fplace kind) else (K_step_54 x10 fault fplace tl tb))
def K_step_33 (v58 : Int32) (x10 : Int32) (tb : Nat → Int32) (fault : Int32) (fplace : Int32) (kind : Int32) (tl : Int32) : (Int32) × (Int32) × (Int32) × (Int32) × (Int32) × (Int32) := (if v58.toInt < 97 then (K_step_35 v58 x10 (tb x10.toNatClampNeg) fault fplace kind tb tl) else (K_step_36 v58 x10 (tb x10.toNatClampNeg) fault fplace kind tl tb))
def K_step_34 (x10 : Int32) (fault : Int32) (fplace : Int32) : (Int32) × (Int32) × (Int32) × (Int32) × (Int32) × (Int32) := (x10, (0 : Int32), x10, (0 : Int32), fault, fplace)
def K_step_31 (x10 : Int32) (tl : Int32) (v58 : Int32) (tb : Nat → Int32) (fault : Int32) (fplace : Int32) (kind : Int32) : (Int32) × (Int32) × (Int32) × (Int32) × (Int32) × (Int32) := (if x10.toInt < tl.toInt then (K_step_33 v58 x10 tb fault fplace kind tl) else (K_step_34 x10 fault fplace))
def K_step_4 (tb : Nat → Int32) (x10 : Int32) (rec_2 : (Int32) → ((Int32) × (Int32) × (Int32) × (Int32) × (Int32) × (Int32))) (tl : Int32) (fault : Int32) (fplace : Int32) (kind : Int32) : (Int32) × (Int32) × (Int32) × (Int32) × (Int32) × (Int32) := (if (tb x10.toNatClampNeg).toInt = 32 then (K_step_32 rec_2 x10) else (K_step_31 x10 tl (tb x10.toNatClampNeg) tb fault fplace kind))
def K_step_2 (tl : Int32) (x10 : Int32) (tb : Nat → Int32) (fault : Int32) (fplace : Int32) (kind : Int32) (rec_2 : (Int32) → ((Int32) × (Int32) × (Int32) × (Int32) × (Int32) × (Int32))) : (Int32) × (Int32) × (Int32) × (Int32) × (Int32) × (Int32) := (if tl.toInt ≤ x10.toInt then (K_step_3 x10 tl tb fault fplace kind) else (K_step_4 tb x10 rec_2 tl fault fplace kind))
def K_step_L2 (tl : Int32) (tb : Nat → Int32) (fault : Int32) (fplace : Int32) (kind : Int32) : Nat → (Int32) → (Int32) × (Int32) × (Int32) × (Int32) × (Int32) × (Int32)
  | 0, _ => (0, 0, 0, 0, 0, 0)
  | n9 + 1, x10 => (K_step_2 tl x10 tb fault fplace kind (K_step_L2 tl tb fault fplace kind n9))
def K_step_1 (tl : Int32) (tb : Nat → Int32) (fault : Int32) (fplace : Int32) (kind : Int32) (place : Int32) : (Int32) × (Int32) × (Int32) × (Int32) × (Int32) × (Int32) := (K_step_L2 tl tb fault fplace kind 100000 place)
def M_step (tl : Int32) (tb : Nat → Int32) (fault : Int32) (fplace : Int32) (kind : Int32) (place : Int32) : (Int32) × (Int32) × (Int32) × (Int32) × (Int32) × (Int32) := (K_step_1 tl tb fault fplace kind place)
abbrev W_step (cI cJ cZ cG cH : ClassId) (rd : Nat) (tp : Nat) (rfa : Nat) (rya : Nat) (rla : Nat) (pl : Nat) (place : Int32) (kind : Int32) (from_ : Int32) (value : Int32) (told : Int32) (depth : Int32) (fault : Int32) (fplace : Int32) (tba : Nat) (tl : Int32) (tb : Nat → Int32) : va_W := [oX4 rd tp rfa rya rla pl place kind from_ value told depth fault fplace, oX8 tp tba tl, oAI tba cI 400 tb]
abbrev Q_step (D : va_G) (cI cJ cZ cG cH : ClassId) (rd : Nat) (tp : Nat) (rfa : Nat) (rya : Nat) (rla : Nat) (pl : Nat) (place : Int32) (kind : Int32) (from_ : Int32) (value : Int32) (told : Int32) (depth : Int32) (fault : Int32) (fplace : Int32) (tba : Nat) (tl : Int32) (tb : Nat → Int32) (A : Nat → Prop) : Array Value → State → Outcome → State → Prop := va_Qv (fun (_ : Unit) => True) (fun _ t => ∃ (place9 : Int32) (kind9 : Int32) (from_9 : Int32) (value9 : Int32) (fault9 : Int32) (fplace9 : Int32), (0 ≤ place9.toInt ∧ place9.toInt ≤ 400) ∧ (0 ≤ from_9.toInt ∧ from_9.toInt ≤ 400) ∧ (M_step tl tb fault fplace kind place = (place9, kind9, from_9, value9, fault9, fplace9)) ∧ xB D (tyL cI cJ cZ cG cH) [oX4 rd tp rfa rya rla pl place9 kind9 from_9 value9 told depth fault9 fplace9, oX8 tp tba tl, oAI tba cI 400 tb] A t) A
abbrev rm_step : Room := { frames := 2, cells := 0, slots := 0, locals := 43 }
set_option maxRecDepth 100000 in
set_option maxHeartbeats 40000000 in
theorem c_step (l : Launch) (D : va_G) (cI cJ cZ cG cH : ClassId) (sz : Nat) (rd : Nat) (tp : Nat) (rfa : Nat) (rya : Nat) (rla : Nat) (pl : Nat) (place : Int32) (kind : Int32) (from_ : Int32) (value : Int32) (told : Int32) (depth : Int32) (fault : Int32) (fplace : Int32) (tba : Nat) (tl : Int32) (tb : Nat → Int32) (h_place : 0 ≤ place.toInt ∧ place.toInt ≤ 400) (h_from_ : 0 ≤ from_.toInt ∧ from_.toInt ≤ 400) (h_depth : 0 ≤ depth.toInt ∧ depth.toInt ≤ 6) (h_tl : 0 ≤ tl.toInt ∧ tl.toInt ≤ 400) : Met l yX4_step (wt yX4_step cX4_step 2 none) rm_step (xPc [.ref rd] D (tyL cI cJ cZ cG cH) (W_step cI cJ cZ cG cH rd tp rfa rya rla pl place kind from_ value told depth fault fplace tba tl tb) sz) (Q_step D cI cJ cZ cG cH rd tp rfa rya rla pl place kind from_ value told depth fault fplace tba tl tb (va_A (W_step cI cJ cZ cG cH rd tp rfa rya rla pl place kind from_ value told depth fault fplace tba tl tb) sz)) 0 0 (va_A (W_step cI cJ cZ cG cH rd tp rfa rya rla pl place kind from_ value told depth fault fplace tba tl tb) sz) := by
  refine xMet (cc := cX4_step) (maxL := 2) (ret := none) (Qf := Q_step D cI cJ cZ cG cH rd tp rfa rya rla pl place kind from_ value told depth fault fplace tba tl tb) (by decide) rfl (Nat.le_of_ble_eq_true rfl) ?_
  intro p e s m below meth c ls A hx hb hr hml hts hown hlocks hnm hsz hP hK hD hA hS hl
  have hown : s.vm.findClass RX4 = some m.cls := hown
  have hP : va_P D vwCl [oX4 rd tp rfa rya rla pl place kind from_ value told depth fault fplace, oX8 tp tba tl, oAI tba cI 400 tb] s.heap := hP
  have hD : va_D A [oX4 rd tp rfa rya rla pl place kind from_ value told depth fault fplace, oX8 tp tba tl, oAI tba cI 400 tb] := hD
  have hl : lv_has ls 2 [(0, .ref rd)] := hl
  have hM : M_step tl tb fault fplace kind place = (K_step_1 tl tb fault fplace kind place) := rfl
  have hl11 : ∀ (nhl11 : Nat) (x10 : Int32), ((400 - x10.toInt).toNat < nhl11) → (hx10 : 0 ≤ x10.toInt ∧ x10.toInt ≤ 400) → (hM : M_step tl tb fault fplace kind place = (K_step_L2 tl tb fault fplace kind nhl11 x10)) → ∀ (H : Heap) (locs : List Loc), va_P D vwCl [oX4 rd tp rfa rya rla pl x10 kind from_ value told depth fault fplace, oX8 tp tba tl, oAI tba cI 400 tb] H → va_D A [oX4 rd tp rfa rya rla pl x10 kind from_ value told depth fault fplace, oX8 tp tba tl, oAI tba cI 400 tb] → va_S A s.heap H locs → ∀ (ls : Array Slot), lv_has ls 2 [(0, .ref rd)] → W p l e rm_step s m [Value.ref rd].toArray below meth c H locs 0 0 (MQ below ((Q_step D cI cJ cZ cG cH rd tp rfa rya rla pl place kind from_ value told depth fault fplace tba tl tb) A) [Value.ref rd].toArray s 0 0 A) (F0 m 0 ls []) := by
    intro nhl11
    induction nhl11 with
    | zero =>
      intro x10 hmhl11
      exact absurd hmhl11 (Nat.not_lt_zero _)
    | succ nhl11 ihhl11 =>
      intro x10 hmhl11 hx10 hM H locs hP hD hS ls hl
      have hM : M_step tl tb fault fplace kind place = (K_step_2 tl x10 tb fault fplace kind (K_step_L2 tl tb fault fplace kind nhl11)) := hM
      refine lv_aload_n hx hb dX4_step_0 rfl (lv_at hl 0 rfl) ?_
      refine va_get (D := D) (ci := 3) (v := .int x10) (C := RX4) (T := TX4) (N := 13) hx hb hts (fun w h => tbC w (tbfX4 w h)) hown hK hP 0 rfl rfl 5 (by decide) (hts (.fieldLink RX4 36 "PowerRails$Reader" "place" "I") (tbC _ wd237)) (fun _ h9 => h9) rfl dX4_step_1 ?_
      refine lv_aload_n hx hb dX4_step_4 rfl (lv_at hl 0 rfl) ?_
      refine va_get (D := D) (ci := 3) (v := .ref tp) (C := RX4) (T := TX4) (N := 13) hx hb hts (fun w h => tbC w (tbfX4 w h)) hown hK hP 0 rfl rfl 0 (by decide) (hts (.fieldLink RX4 9 "PowerRails$Reader" "tape" "LPowerRails$Tape;") (tbC _ wd232)) (fun _ h9 => h9) rfl dX4_step_5 ?_
      refine va_get (D := D) (ci := 7) (v := .int tl) (C := RX8) (T := TX8) (N := 2) hx hb hts (fun w h => tbC w (tbfX8 w h)) hown hK hP 1 rfl rfl 1 (by decide) (hts (.fieldLink RX4 82 "PowerRails$Tape" "length" "I") (tbC _ wd85)) (fun _ h9 => h9) rfl dX4_step_8 ?_
      refine lv_icmp_ge (tgt := 44) hx hb dX4_step_11 (by decide) (fun c_12 => ?_) (fun c_12 => ?_)
      · skip
        have i_12 : tl.toInt ≤ x10.toInt := (ile rfl rfl).mp c_12
        have hM : M_step tl tb fault fplace kind place = (K_step_3 x10 tl tb fault fplace kind) := (show M_step tl tb fault fplace kind place = (if tl.toInt ≤ x10.toInt then (K_step_3 x10 tl tb fault fplace kind) else (K_step_4 tb x10 (K_step_L2 tl tb fault fplace kind nhl11) tl fault fplace kind)) from hM).trans (if_pos i_12)
        refine lv_aload_n hx hb dX4_step_44 rfl (lv_at hl 0 rfl) ?_
        refine lv_aload_n hx hb dX4_step_45 rfl (lv_at hl 0 rfl) ?_
        refine va_get (D := D) (ci := 3) (v := .int x10) (C := RX4) (T := TX4) (N := 13) hx hb hts (fun w h => tbC w (tbfX4 w h)) hown hK hP 0 rfl rfl 5 (by decide) (hts (.fieldLink RX4 36 "PowerRails$Reader" "place" "I") (tbC _ wd237)) (fun _ h9 => h9) rfl dX4_step_46 ?_
        refine va_put (D := D) (ci := 3) (v := .int x10) (ty := .int) (C := RX4) (T := TX4) (N := 13) hx hb hts (fun w h => tbC w (tbfX4 w h)) tyX4 tyX4_ok nmX4 hown hK hP hD hS 0 rfl rfl 7 (by decide) (hts (.fieldLink RX4 88 "PowerRails$Reader" "from" "I") (tbC _ wd239)) (fun _ h9 => h9) rfl (by decide +kernel) rfl rfl (Nat.le_of_ble_eq_true rfl) dX4_step_49 (fun H locs hP hD hS => ?_)
        obtain ⟨hP, hD⟩ : xPD D A [oX4 rd tp rfa rya rla pl x10 kind x10 value told depth fault fplace, oX8 tp tba tl, oAI tba cI 400 tb] H := ⟨hP, hD⟩
        refine lv_aload_n hx hb dX4_step_52 rfl (lv_at hl 0 rfl) ?_
        refine lv_iconst (v := 0) hx hb dX4_step_53 (by decide) ?_
        refine va_put (D := D) (ci := 3) (v := .int 0) (ty := .int) (C := RX4) (T := TX4) (N := 13) hx hb hts (fun w h => tbC w (tbfX4 w h)) tyX4 tyX4_ok nmX4 hown hK hP hD hS 0 rfl rfl 8 (by decide) (hts (.fieldLink RX4 91 "PowerRails$Reader" "value" "I") (tbC _ wd240)) (fun _ h9 => h9) rfl (by decide +kernel) rfl rfl (Nat.le_of_ble_eq_true rfl) dX4_step_54 (fun H locs hP hD hS => ?_)
        obtain ⟨hP, hD⟩ : xPD D A [oX4 rd tp rfa rya rla pl x10 kind x10 0 told depth fault fplace, oX8 tp tba tl, oAI tba cI 400 tb] H := ⟨hP, hD⟩
        refine lv_aload_n hx hb dX4_step_57 rfl (lv_at hl 0 rfl) ?_
        refine va_get (D := D) (ci := 3) (v := .int x10) (C := RX4) (T := TX4) (N := 13) hx hb hts (fun w h => tbC w (tbfX4 w h)) hown hK hP 0 rfl rfl 5 (by decide) (hts (.fieldLink RX4 36 "PowerRails$Reader" "place" "I") (tbC _ wd237)) (fun _ h9 => h9) rfl dX4_step_58 ?_
        refine lv_aload_n hx hb dX4_step_61 rfl (lv_at hl 0 rfl) ?_
        refine va_get (D := D) (ci := 3) (v := .ref tp) (C := RX4) (T := TX4) (N := 13) hx hb hts (fun w h => tbC w (tbfX4 w h)) hown hK hP 0 rfl rfl 0 (by decide) (hts (.fieldLink RX4 9 "PowerRails$Reader" "tape" "LPowerRails$Tape;") (tbC _ wd232)) (fun _ h9 => h9) rfl dX4_step_62 ?_
        refine va_get (D := D) (ci := 7) (v := .int tl) (C := RX8) (T := TX8) (N := 2) hx hb hts (fun w h => tbC w (tbfX8 w h)) hown hK hP 1 rfl rfl 1 (by decide) (hts (.fieldLink RX4 82 "PowerRails$Tape" "length" "I") (tbC _ wd85)) (fun _ h9 => h9) rfl dX4_step_65 ?_
        refine lv_icmp_lt (tgt := 77) hx hb dX4_step_68 (by decide) (fun c_13 => ?_) (fun c_13 => ?_)
        · skip
          have i_13 : x10.toInt < tl.toInt := (ilt rfl rfl).mp c_13
          have hM : M_step tl tb fault fplace kind place = (K_step_5 tb x10 fault fplace kind tl) := (show M_step tl tb fault fplace kind place = (if x10.toInt < tl.toInt then (K_step_5 tb x10 fault fplace kind tl) else (K_step_6 x10 fault fplace)) from hM).trans (if_pos i_13)
          refine lv_aload_n hx hb dX4_step_77 rfl (lv_at hl 0 rfl) ?_
          refine va_get (D := D) (ci := 3) (v := .ref tp) (C := RX4) (T := TX4) (N := 13) hx hb hts (fun w h => tbC w (tbfX4 w h)) hown hK hP 0 rfl rfl 0 (by decide) (hts (.fieldLink RX4 9 "PowerRails$Reader" "tape" "LPowerRails$Tape;") (tbC _ wd232)) (fun _ h9 => h9) rfl dX4_step_78 ?_
          refine va_get (D := D) (ci := 7) (v := .ref tba) (C := RX8) (T := TX8) (N := 2) hx hb hts (fun w h => tbC w (tbfX8 w h)) hown hK hP 1 rfl rfl 0 (by decide) (hts (.fieldLink RX4 85 "PowerRails$Tape" "bytes" "[I") (tbC _ wd82)) (fun _ h9 => h9) rfl dX4_step_81 ?_
          refine lv_aload_n hx hb dX4_step_84 rfl (lv_at hl 0 rfl) ?_
          refine va_get (D := D) (ci := 3) (v := .int x10) (C := RX4) (T := TX4) (N := 13) hx hb hts (fun w h => tbC w (tbfX4 w h)) hown hK hP 0 rfl rfl 5 (by decide) (hts (.fieldLink RX4 36 "PowerRails$Reader" "place" "I") (tbC _ wd237)) (fun _ h9 => h9) rfl dX4_step_85 ?_
          refine va_iald hx hb hK hP 2 0 rfl rfl (vp_in_iff.mpr ⟨by omega, by omega⟩) dX4_step_88 ?_
          refine lv_topi (fun v14 ev14 => ?_)
          refine lv_istore_n (lv' := [(1, .int v14), (0, .ref rd)]) hx hb dX4_step_89 rfl hl (by decide) rfl (fun ls hl => ?_)
          refine lv_iload_n hx hb dX4_step_90 rfl (lv_at hl 0 rfl) ?_
          refine lv_bipush (v := 97) hx hb dX4_step_91 (by decide) ?_
          refine lv_icmp_lt (tgt := 118) hx hb dX4_step_93 (by decide) (fun c_15 => ?_) (fun c_15 => ?_)
          · skip
            have i_15 : v14.toInt < 97 := (ilt rfl (by decide)).mp c_15
            have hM : M_step tl tb fault fplace kind place = (K_step_7 v14 x10 fault fplace kind tb tl) := (show M_step tl tb fault fplace kind place = (if v14.toInt < 97 then (K_step_7 v14 x10 fault fplace kind tb tl) else (K_step_8 v14 x10 fault fplace kind tl tb)) from (by rw [ev14]; exact hM)).trans (if_pos i_15)
            refine lv_iload_n hx hb dX4_step_118 rfl (lv_at hl 0 rfl) ?_
            refine lv_bipush (v := 48) hx hb dX4_step_119 (by decide) ?_
            refine lv_icmp_lt (tgt := 150) hx hb dX4_step_121 (by decide) (fun c_16 => ?_) (fun c_16 => ?_)
            · skip
              have i_16 : v14.toInt < 48 := (ilt rfl (by decide)).mp c_16
              have hM : M_step tl tb fault fplace kind place = (K_step_9 v14 x10 fault fplace kind) := (show M_step tl tb fault fplace kind place = (if v14.toInt < 48 then (K_step_9 v14 x10 fault fplace kind) else (K_step_10 v14 x10 fault fplace kind tb tl)) from hM).trans (if_pos i_16)
              refine lv_iload_n hx hb dX4_step_150 rfl (lv_at hl 0 rfl) ?_
              refine lv_bipush (v := 40) hx hb dX4_step_151 (by decide) ?_
              refine lv_icmp_eq (tgt := 180) hx hb dX4_step_153 (by decide) (fun c_17 => ?_) (fun c_17 => ?_)
              · skip
                have i_17 : v14.toInt = 40 := (ieq rfl (by decide)).mp c_17
                have hM : M_step tl tb fault fplace kind place = (K_step_11 x10 v14 fault fplace) := (show M_step tl tb fault fplace kind place = (if v14.toInt = 40 then (K_step_11 x10 v14 fault fplace) else (K_step_12 v14 x10 fault fplace kind)) from hM).trans (if_pos i_17)
                refine lv_aload_n hx hb dX4_step_180 rfl (lv_at hl 1 rfl) ?_
                refine lv_iconst (v := 3) hx hb dX4_step_181 (by decide) ?_
                refine va_put (D := D) (ci := 3) (v := .int 3) (ty := .int) (C := RX4) (T := TX4) (N := 13) hx hb hts (fun w h => tbC w (tbfX4 w h)) tyX4 tyX4_ok nmX4 hown hK hP hD hS 0 rfl rfl 6 (by decide) (hts (.fieldLink RX4 60 "PowerRails$Reader" "kind" "I") (tbC _ wd238)) (fun _ h9 => h9) rfl (by decide +kernel) rfl rfl (Nat.le_of_ble_eq_true rfl) dX4_step_182 (fun H locs hP hD hS => ?_)
                obtain ⟨hP, hD⟩ : xPD D A [oX4 rd tp rfa rya rla pl x10 3 x10 0 told depth fault fplace, oX8 tp tba tl, oAI tba cI 400 tb] H := ⟨hP, hD⟩
                refine lv_aload_n hx hb dX4_step_185 rfl (lv_at hl 1 rfl) ?_
                refine lv_iload_n hx hb dX4_step_186 rfl (lv_at hl 0 rfl) ?_
                refine va_put (D := D) (ci := 3) (v := .int v14) (ty := .int) (C := RX4) (T := TX4) (N := 13) hx hb hts (fun w h => tbC w (tbfX4 w h)) tyX4 tyX4_ok nmX4 hown hK hP hD hS 0 rfl rfl 8 (by decide) (hts (.fieldLink RX4 91 "PowerRails$Reader" "value" "I") (tbC _ wd240)) (fun _ h9 => h9) rfl (by decide +kernel) rfl rfl (Nat.le_of_ble_eq_true rfl) dX4_step_187 (fun H locs hP hD hS => ?_)
                obtain ⟨hP, hD⟩ : xPD D A [oX4 rd tp rfa rya rla pl x10 3 x10 v14 told depth fault fplace, oX8 tp tba tl, oAI tba cI 400 tb] H := ⟨hP, hD⟩
                refine lv_aload_n hx hb dX4_step_190 rfl (lv_at hl 1 rfl) ?_
                refine lv_dup hx hb dX4_step_191 rfl ?_
                refine va_get (D := D) (ci := 3) (v := .int x10) (C := RX4) (T := TX4) (N := 13) hx hb hts (fun w h => tbC w (tbfX4 w h)) hown hK hP 0 rfl rfl 5 (by decide) (hts (.fieldLink RX4 36 "PowerRails$Reader" "place" "I") (tbC _ wd237)) (fun _ h9 => h9) rfl dX4_step_192 ?_
                refine lv_iconst (v := 1) hx hb dX4_step_195 (by decide) ?_
                refine lv_iadd hx hb dX4_step_196 ?_
                refine lv_topi (fun v18 ev18 => ?_)
                have tv18 : v18.toInt = (x10.toInt + 1) := (congrArg Int32.toInt ev18).trans (xadd rfl (by decide) (by omega) (by omega))
                refine va_put (D := D) (ci := 3) (v := .int v18) (ty := .int) (C := RX4) (T := TX4) (N := 13) hx hb hts (fun w h => tbC w (tbfX4 w h)) tyX4 tyX4_ok nmX4 hown hK hP hD hS 0 rfl rfl 5 (by decide) (hts (.fieldLink RX4 36 "PowerRails$Reader" "place" "I") (tbC _ wd237)) (fun _ h9 => h9) rfl (by decide +kernel) rfl rfl (Nat.le_of_ble_eq_true rfl) dX4_step_197 (fun H locs hP hD hS => ?_)
                obtain ⟨hP, hD⟩ : xPD D A [oX4 rd tp rfa rya rla pl v18 3 x10 v14 told depth fault fplace, oX8 tp tba tl, oAI tba cI 400 tb] H := ⟨hP, hD⟩
                refine lv_goto (tgt := 212) hx hb dX4_step_200 (by decide) ?_
                refine W.widen (k := 0) (n := 0) (by decide) (by decide) ?_
                exact W.vret hx hb hr (fun t ht hW => ⟨⟨(), rfl, trivial, ⟨v18, 3, x10, v14, fault, fplace, (xrng tv18 (by omega) (by omega)), (xrng rfl (by omega) (by omega)), (by rw [ev18]; exact hM), xB_of9 ht hW hP hK hD [0, 1, 2] (by decide +kernel) rfl⟩⟩, hS.F ht⟩) hS.2.2 dX4_step_212
              · skip
                have i_17 : ¬ (v14.toInt = 40) := fun h9 => c_17 ((ieq rfl (by decide)).mpr h9)
                have hM : M_step tl tb fault fplace kind place = (K_step_12 v14 x10 fault fplace kind) := (show M_step tl tb fault fplace kind place = (if v14.toInt = 40 then (K_step_11 x10 v14 fault fplace) else (K_step_12 v14 x10 fault fplace kind)) from hM).trans (if_neg i_17)
                refine lv_iload_n hx hb dX4_step_156 rfl (lv_at hl 0 rfl) ?_
                refine lv_bipush (v := 41) hx hb dX4_step_157 (by decide) ?_
                refine lv_icmp_eq (tgt := 180) hx hb dX4_step_159 (by decide) (fun c_19 => ?_) (fun c_19 => ?_)
                · skip
                  have i_19 : v14.toInt = 41 := (ieq rfl (by decide)).mp c_19
                  have hM : M_step tl tb fault fplace kind place = (K_step_13 x10 v14 fault fplace) := (show M_step tl tb fault fplace kind place = (if v14.toInt = 41 then (K_step_13 x10 v14 fault fplace) else (K_step_14 v14 x10 fault fplace kind)) from hM).trans (if_pos i_19)
                  refine lv_aload_n hx hb dX4_step_180 rfl (lv_at hl 1 rfl) ?_
                  refine lv_iconst (v := 3) hx hb dX4_step_181 (by decide) ?_
                  refine va_put (D := D) (ci := 3) (v := .int 3) (ty := .int) (C := RX4) (T := TX4) (N := 13) hx hb hts (fun w h => tbC w (tbfX4 w h)) tyX4 tyX4_ok nmX4 hown hK hP hD hS 0 rfl rfl 6 (by decide) (hts (.fieldLink RX4 60 "PowerRails$Reader" "kind" "I") (tbC _ wd238)) (fun _ h9 => h9) rfl (by decide +kernel) rfl rfl (Nat.le_of_ble_eq_true rfl) dX4_step_182 (fun H locs hP hD hS => ?_)
                  obtain ⟨hP, hD⟩ : xPD D A [oX4 rd tp rfa rya rla pl x10 3 x10 0 told depth fault fplace, oX8 tp tba tl, oAI tba cI 400 tb] H := ⟨hP, hD⟩
                  refine lv_aload_n hx hb dX4_step_185 rfl (lv_at hl 1 rfl) ?_
                  refine lv_iload_n hx hb dX4_step_186 rfl (lv_at hl 0 rfl) ?_
                  refine va_put (D := D) (ci := 3) (v := .int v14) (ty := .int) (C := RX4) (T := TX4) (N := 13) hx hb hts (fun w h => tbC w (tbfX4 w h)) tyX4 tyX4_ok nmX4 hown hK hP hD hS 0 rfl rfl 8 (by decide) (hts (.fieldLink RX4 91 "PowerRails$Reader" "value" "I") (tbC _ wd240)) (fun _ h9 => h9) rfl (by decide +kernel) rfl rfl (Nat.le_of_ble_eq_true rfl) dX4_step_187 (fun H locs hP hD hS => ?_)
                  obtain ⟨hP, hD⟩ : xPD D A [oX4 rd tp rfa rya rla pl x10 3 x10 v14 told depth fault fplace, oX8 tp tba tl, oAI tba cI 400 tb] H := ⟨hP, hD⟩
                  refine lv_aload_n hx hb dX4_step_190 rfl (lv_at hl 1 rfl) ?_
                  refine lv_dup hx hb dX4_step_191 rfl ?_
                  refine va_get (D := D) (ci := 3) (v := .int x10) (C := RX4) (T := TX4) (N := 13) hx hb hts (fun w h => tbC w (tbfX4 w h)) hown hK hP 0 rfl rfl 5 (by decide) (hts (.fieldLink RX4 36 "PowerRails$Reader" "place" "I") (tbC _ wd237)) (fun _ h9 => h9) rfl dX4_step_192 ?_
                  refine lv_iconst (v := 1) hx hb dX4_step_195 (by decide) ?_
                  refine lv_iadd hx hb dX4_step_196 ?_
                  refine lv_topi (fun v20 ev20 => ?_)
                  have tv20 : v20.toInt = (x10.toInt + 1) := (congrArg Int32.toInt ev20).trans (xadd rfl (by decide) (by omega) (by omega))
                  refine va_put (D := D) (ci := 3) (v := .int v20) (ty := .int) (C := RX4) (T := TX4) (N := 13) hx hb hts (fun w h => tbC w (tbfX4 w h)) tyX4 tyX4_ok nmX4 hown hK hP hD hS 0 rfl rfl 5 (by decide) (hts (.fieldLink RX4 36 "PowerRails$Reader" "place" "I") (tbC _ wd237)) (fun _ h9 => h9) rfl (by decide +kernel) rfl rfl (Nat.le_of_ble_eq_true rfl) dX4_step_197 (fun H locs hP hD hS => ?_)
                  obtain ⟨hP, hD⟩ : xPD D A [oX4 rd tp rfa rya rla pl v20 3 x10 v14 told depth fault fplace, oX8 tp tba tl, oAI tba cI 400 tb] H := ⟨hP, hD⟩
                  refine lv_goto (tgt := 212) hx hb dX4_step_200 (by decide) ?_
                  refine W.widen (k := 0) (n := 0) (by decide) (by decide) ?_
                  exact W.vret hx hb hr (fun t ht hW => ⟨⟨(), rfl, trivial, ⟨v20, 3, x10, v14, fault, fplace, (xrng tv20 (by omega) (by omega)), (xrng rfl (by omega) (by omega)), (by rw [ev20]; exact hM), xB_of9 ht hW hP hK hD [0, 1, 2] (by decide +kernel) rfl⟩⟩, hS.F ht⟩) hS.2.2 dX4_step_212
                · skip
                  have i_19 : ¬ (v14.toInt = 41) := fun h9 => c_19 ((ieq rfl (by decide)).mpr h9)
                  have hM : M_step tl tb fault fplace kind place = (K_step_14 v14 x10 fault fplace kind) := (show M_step tl tb fault fplace kind place = (if v14.toInt = 41 then (K_step_13 x10 v14 fault fplace) else (K_step_14 v14 x10 fault fplace kind)) from hM).trans (if_neg i_19)
                  refine lv_iload_n hx hb dX4_step_162 rfl (lv_at hl 0 rfl) ?_
                  refine lv_bipush (v := 38) hx hb dX4_step_163 (by decide) ?_
                  refine lv_icmp_eq (tgt := 180) hx hb dX4_step_165 (by decide) (fun c_21 => ?_) (fun c_21 => ?_)
                  · skip
                    have i_21 : v14.toInt = 38 := (ieq rfl (by decide)).mp c_21
                    have hM : M_step tl tb fault fplace kind place = (K_step_15 x10 v14 fault fplace) := (show M_step tl tb fault fplace kind place = (if v14.toInt = 38 then (K_step_15 x10 v14 fault fplace) else (K_step_16 x10 kind fault fplace)) from hM).trans (if_pos i_21)
                    refine lv_aload_n hx hb dX4_step_180 rfl (lv_at hl 1 rfl) ?_
                    refine lv_iconst (v := 3) hx hb dX4_step_181 (by decide) ?_
                    refine va_put (D := D) (ci := 3) (v := .int 3) (ty := .int) (C := RX4) (T := TX4) (N := 13) hx hb hts (fun w h => tbC w (tbfX4 w h)) tyX4 tyX4_ok nmX4 hown hK hP hD hS 0 rfl rfl 6 (by decide) (hts (.fieldLink RX4 60 "PowerRails$Reader" "kind" "I") (tbC _ wd238)) (fun _ h9 => h9) rfl (by decide +kernel) rfl rfl (Nat.le_of_ble_eq_true rfl) dX4_step_182 (fun H locs hP hD hS => ?_)
                    obtain ⟨hP, hD⟩ : xPD D A [oX4 rd tp rfa rya rla pl x10 3 x10 0 told depth fault fplace, oX8 tp tba tl, oAI tba cI 400 tb] H := ⟨hP, hD⟩
                    refine lv_aload_n hx hb dX4_step_185 rfl (lv_at hl 1 rfl) ?_
                    refine lv_iload_n hx hb dX4_step_186 rfl (lv_at hl 0 rfl) ?_
                    refine va_put (D := D) (ci := 3) (v := .int v14) (ty := .int) (C := RX4) (T := TX4) (N := 13) hx hb hts (fun w h => tbC w (tbfX4 w h)) tyX4 tyX4_ok nmX4 hown hK hP hD hS 0 rfl rfl 8 (by decide) (hts (.fieldLink RX4 91 "PowerRails$Reader" "value" "I") (tbC _ wd240)) (fun _ h9 => h9) rfl (by decide +kernel) rfl rfl (Nat.le_of_ble_eq_true rfl) dX4_step_187 (fun H locs hP hD hS => ?_)
                    obtain ⟨hP, hD⟩ : xPD D A [oX4 rd tp rfa rya rla pl x10 3 x10 v14 told depth fault fplace, oX8 tp tba tl, oAI tba cI 400 tb] H := ⟨hP, hD⟩
                    refine lv_aload_n hx hb dX4_step_190 rfl (lv_at hl 1 rfl) ?_
                    refine lv_dup hx hb dX4_step_191 rfl ?_
                    refine va_get (D := D) (ci := 3) (v := .int x10) (C := RX4) (T := TX4) (N := 13) hx hb hts (fun w h => tbC w (tbfX4 w h)) hown hK hP 0 rfl rfl 5 (by decide) (hts (.fieldLink RX4 36 "PowerRails$Reader" "place" "I") (tbC _ wd237)) (fun _ h9 => h9) rfl dX4_step_192 ?_
                    refine lv_iconst (v := 1) hx hb dX4_step_195 (by decide) ?_
                    refine lv_iadd hx hb dX4_step_196 ?_
                    refine lv_topi (fun v22 ev22 => ?_)
                    have tv22 : v22.toInt = (x10.toInt + 1) := (congrArg Int32.toInt ev22).trans (xadd rfl (by decide) (by omega) (by omega))
                    refine va_put (D := D) (ci := 3) (v := .int v22) (ty := .int) (C := RX4) (T := TX4) (N := 13) hx hb hts (fun w h => tbC w (tbfX4 w h)) tyX4 tyX4_ok nmX4 hown hK hP hD hS 0 rfl rfl 5 (by decide) (hts (.fieldLink RX4 36 "PowerRails$Reader" "place" "I") (tbC _ wd237)) (fun _ h9 => h9) rfl (by decide +kernel) rfl rfl (Nat.le_of_ble_eq_true rfl) dX4_step_197 (fun H locs hP hD hS => ?_)
                    obtain ⟨hP, hD⟩ : xPD D A [oX4 rd tp rfa rya rla pl v22 3 x10 v14 told depth fault fplace, oX8 tp tba tl, oAI tba cI 400 tb] H := ⟨hP, hD⟩
                    refine lv_goto (tgt := 212) hx hb dX4_step_200 (by decide) ?_
                    refine W.widen (k := 0) (n := 0) (by decide) (by decide) ?_
                    exact W.vret hx hb hr (fun t ht hW => ⟨⟨(), rfl, trivial, ⟨v22, 3, x10, v14, fault, fplace, (xrng tv22 (by omega) (by omega)), (xrng rfl (by omega) (by omega)), (by rw [ev22]; exact hM), xB_of9 ht hW hP hK hD [0, 1, 2] (by decide +kernel) rfl⟩⟩, hS.F ht⟩) hS.2.2 dX4_step_212
                  · skip
                    have i_21 : ¬ (v14.toInt = 38) := fun h9 => c_21 ((ieq rfl (by decide)).mpr h9)
                    have hM : M_step tl tb fault fplace kind place = (K_step_16 x10 kind fault fplace) := (show M_step tl tb fault fplace kind place = (if v14.toInt = 38 then (K_step_15 x10 v14 fault fplace) else (K_step_16 x10 kind fault fplace)) from hM).trans (if_neg i_21)
                    refine lv_iload_n hx hb dX4_step_168 rfl (lv_at hl 0 rfl) ?_
                    refine lv_bipush (v := 124) hx hb dX4_step_169 (by decide) ?_
                    refine lv_icmp_eq (tgt := 180) hx hb dX4_step_171 (by decide) (fun c_23 => ?_) (fun c_23 => ?_)
                    · skip
                      have i_23 : v14.toInt = 124 := (ieq rfl (by decide)).mp c_23
                      exfalso
                      omega
                    · skip
                      have i_23 : ¬ (v14.toInt = 124) := fun h9 => c_23 ((ieq rfl (by decide)).mpr h9)
                      refine lv_iload_n hx hb dX4_step_174 rfl (lv_at hl 0 rfl) ?_
                      refine lv_bipush (v := 59) hx hb dX4_step_175 (by decide) ?_
                      refine lv_icmp_ne (tgt := 203) hx hb dX4_step_177 (by decide) (fun c_24 => ?_) (fun c_24 => ?_)
                      · skip
                        have i_24 : ¬ (v14.toInt = 59) := fun h9 => c_24 ((ieq rfl (by decide)).mpr h9)
                        refine lv_aload_n hx hb dX4_step_203 rfl (lv_at hl 1 rfl) ?_
                        refine lv_iconst (v := 1) hx hb dX4_step_204 (by decide) ?_
                        refine lv_aload_n hx hb dX4_step_205 rfl (lv_at hl 1 rfl) ?_
                        refine va_get (D := D) (ci := 3) (v := .int x10) (C := RX4) (T := TX4) (N := 13) hx hb hts (fun w h => tbC w (tbfX4 w h)) hown hK hP 0 rfl rfl 7 (by decide) (hts (.fieldLink RX4 88 "PowerRails$Reader" "from" "I") (tbC _ wd239)) (fun _ h9 => h9) rfl dX4_step_206 ?_
                        obtain ⟨hPc, hDc, hFc, hC9⟩ := xpk (wc := W_refuse cI cJ cZ cG cH rd (1 : Int32) x10 tp rfa rya rla pl x10 kind x10 (0 : Int32) told depth fault fplace) hP hD hS hA [0] (by decide +kernel) rfl
                        refine va_callv (va_runV (As := [.int 1, .int x10]) (rest := []) ⟨hx, hb, hml, hown, hts⟩ (c_refuse l D cI cJ cZ cG cH H.size rd (1 : Int32) x10 tp rfa rya rla pl x10 kind x10 (0 : Int32) told depth fault fplace (xrng rfl (by omega) (by omega)) (xrng rfl (by omega) (by omega)) (xrng rfl (by omega) (by omega))) (cwV 2 hts (xGV tbC wd285 wd286 wd287 wd60 wd969) rfl rfl rfl (by decide +kernel) ⟨Nat.le_of_ble_eq_true rfl, Nat.le_of_ble_eq_true rfl⟩) ⟨xPc_blind, va_recv hK hPc (ci := 3) (q0 := 0) rfl rfl, xPc_pre hPc hK hDc⟩ rfl rfl hl.1 rfl (lv_room (Nat.le_of_ble_eq_true rfl)) dX4_step_209 ⟨Nat.le_of_ble_eq_true rfl, Nat.le_of_ble_eq_true rfl⟩) hS (fun q _ h => hFc q h) hFc (fun u t H1 locs ht hvm hw25 hB hz1 hk1 hS => ?_)
                        obtain ⟨fault_26, fplace_27, hf27_0, hP1, hK1, hD1⟩ := hB
                        rw [ht] at hP1
                        obtain ⟨hP, hD⟩ : xPD D A [oX8 tp tba tl, oAI tba cI 400 tb, oX4 rd tp rfa rya rla pl x10 kind x10 0 told depth fault_26 fplace_27] H1 := xjn 2 hP hD [0] [1, 2] hC9 rfl (by decide +kernel) (by decide +kernel) hk1 hFc hP1 hD1
                        generalize H1 = H at hP hS ⊢
                        have hf27_0 : M_refuse fault (1 : Int32) x10 fplace = (fault_26, fplace_27) := hf27_0
                        have h9M := congrArg (fun t9 => (K_step_17 x10 kind t9.1 t9.2)) hf27_0
                        have hM : M_step tl tb fault fplace kind place = (K_step_17 x10 kind fault_26 fplace_27) := (show M_step tl tb fault fplace kind place = ((fun t9 => (K_step_17 x10 kind t9.1 t9.2)) (M_refuse fault (1 : Int32) x10 fplace)) from hM).trans h9M
                        refine W.widen (k := 0) (n := 0) (by decide) (by decide) ?_
                        exact W.vret hx hb hr (fun t ht hW => ⟨⟨(), rfl, trivial, ⟨x10, kind, x10, 0, fault_26, fplace_27, (xrng rfl (by omega) (by omega)), (xrng rfl (by omega) (by omega)), hM, xB_of9 ht hW hP hK hD [2, 0, 1] (by decide +kernel) rfl⟩⟩, hS.F ht⟩) hS.2.2 dX4_step_212
                      · skip
                        have i_24 : v14.toInt = 59 := (ieq rfl (by decide)).mp c_24
                        exfalso
                        omega
            · skip
              have i_16 : ¬ (v14.toInt < 48) := fun h9 => c_16 ((ilt rfl (by decide)).mpr h9)
              have hM : M_step tl tb fault fplace kind place = (K_step_10 v14 x10 fault fplace kind tb tl) := (show M_step tl tb fault fplace kind place = (if v14.toInt < 48 then (K_step_9 v14 x10 fault fplace kind) else (K_step_10 v14 x10 fault fplace kind tb tl)) from hM).trans (if_neg i_16)
              refine lv_iload_n hx hb dX4_step_124 rfl (lv_at hl 0 rfl) ?_
              refine lv_bipush (v := 57) hx hb dX4_step_125 (by decide) ?_
              refine lv_icmp_gt (tgt := 150) hx hb dX4_step_127 (by decide) (fun c_28 => ?_) (fun c_28 => ?_)
              · skip
                have i_28 : 57 < v14.toInt := (ilt (by decide) rfl).mp c_28
                have hM : M_step tl tb fault fplace kind place = (K_step_18 v14 x10 fault fplace kind) := (show M_step tl tb fault fplace kind place = (if 57 < v14.toInt then (K_step_18 v14 x10 fault fplace kind) else (K_step_19 x10 fault fplace tb tl)) from hM).trans (if_pos i_28)
                refine lv_iload_n hx hb dX4_step_150 rfl (lv_at hl 0 rfl) ?_
                refine lv_bipush (v := 40) hx hb dX4_step_151 (by decide) ?_
                refine lv_icmp_eq (tgt := 180) hx hb dX4_step_153 (by decide) (fun c_29 => ?_) (fun c_29 => ?_)
                · skip
                  have i_29 : v14.toInt = 40 := (ieq rfl (by decide)).mp c_29
                  exfalso
                  omega
                · skip
                  have i_29 : ¬ (v14.toInt = 40) := fun h9 => c_29 ((ieq rfl (by decide)).mpr h9)
                  refine lv_iload_n hx hb dX4_step_156 rfl (lv_at hl 0 rfl) ?_
                  refine lv_bipush (v := 41) hx hb dX4_step_157 (by decide) ?_
                  refine lv_icmp_eq (tgt := 180) hx hb dX4_step_159 (by decide) (fun c_30 => ?_) (fun c_30 => ?_)
                  · skip
                    have i_30 : v14.toInt = 41 := (ieq rfl (by decide)).mp c_30
                    exfalso
                    omega
                  · skip
                    have i_30 : ¬ (v14.toInt = 41) := fun h9 => c_30 ((ieq rfl (by decide)).mpr h9)
                    refine lv_iload_n hx hb dX4_step_162 rfl (lv_at hl 0 rfl) ?_
                    refine lv_bipush (v := 38) hx hb dX4_step_163 (by decide) ?_
                    refine lv_icmp_eq (tgt := 180) hx hb dX4_step_165 (by decide) (fun c_31 => ?_) (fun c_31 => ?_)
                    · skip
                      have i_31 : v14.toInt = 38 := (ieq rfl (by decide)).mp c_31
                      exfalso
                      omega
                    · skip
                      have i_31 : ¬ (v14.toInt = 38) := fun h9 => c_31 ((ieq rfl (by decide)).mpr h9)
                      refine lv_iload_n hx hb dX4_step_168 rfl (lv_at hl 0 rfl) ?_
                      refine lv_bipush (v := 124) hx hb dX4_step_169 (by decide) ?_
                      refine lv_icmp_eq (tgt := 180) hx hb dX4_step_171 (by decide) (fun c_32 => ?_) (fun c_32 => ?_)
                      · skip
                        have i_32 : v14.toInt = 124 := (ieq rfl (by decide)).mp c_32
                        exfalso
                        omega
                      · skip
                        have i_32 : ¬ (v14.toInt = 124) := fun h9 => c_32 ((ieq rfl (by decide)).mpr h9)
                        refine lv_iload_n hx hb dX4_step_174 rfl (lv_at hl 0 rfl) ?_
                        refine lv_bipush (v := 59) hx hb dX4_step_175 (by decide) ?_
                        refine lv_icmp_ne (tgt := 203) hx hb dX4_step_177 (by decide) (fun c_33 => ?_) (fun c_33 => ?_)
                        · skip
                          have i_33 : ¬ (v14.toInt = 59) := fun h9 => c_33 ((ieq rfl (by decide)).mpr h9)
                          have hM : M_step tl tb fault fplace kind place = (K_step_20 x10 kind fault fplace) := (show M_step tl tb fault fplace kind place = (if v14.toInt = 59 then (K_step_21 x10 v14 fault fplace) else (K_step_20 x10 kind fault fplace)) from hM).trans (if_neg i_33)
                          refine lv_aload_n hx hb dX4_step_203 rfl (lv_at hl 1 rfl) ?_
                          refine lv_iconst (v := 1) hx hb dX4_step_204 (by decide) ?_
                          refine lv_aload_n hx hb dX4_step_205 rfl (lv_at hl 1 rfl) ?_
                          refine va_get (D := D) (ci := 3) (v := .int x10) (C := RX4) (T := TX4) (N := 13) hx hb hts (fun w h => tbC w (tbfX4 w h)) hown hK hP 0 rfl rfl 7 (by decide) (hts (.fieldLink RX4 88 "PowerRails$Reader" "from" "I") (tbC _ wd239)) (fun _ h9 => h9) rfl dX4_step_206 ?_
                          obtain ⟨hPc, hDc, hFc, hC9⟩ := xpk (wc := W_refuse cI cJ cZ cG cH rd (1 : Int32) x10 tp rfa rya rla pl x10 kind x10 (0 : Int32) told depth fault fplace) hP hD hS hA [0] (by decide +kernel) rfl
                          refine va_callv (va_runV (As := [.int 1, .int x10]) (rest := []) ⟨hx, hb, hml, hown, hts⟩ (c_refuse l D cI cJ cZ cG cH H.size rd (1 : Int32) x10 tp rfa rya rla pl x10 kind x10 (0 : Int32) told depth fault fplace (xrng rfl (by omega) (by omega)) (xrng rfl (by omega) (by omega)) (xrng rfl (by omega) (by omega))) (cwV 2 hts (xGV tbC wd285 wd286 wd287 wd60 wd969) rfl rfl rfl (by decide +kernel) ⟨Nat.le_of_ble_eq_true rfl, Nat.le_of_ble_eq_true rfl⟩) ⟨xPc_blind, va_recv hK hPc (ci := 3) (q0 := 0) rfl rfl, xPc_pre hPc hK hDc⟩ rfl rfl hl.1 rfl (lv_room (Nat.le_of_ble_eq_true rfl)) dX4_step_209 ⟨Nat.le_of_ble_eq_true rfl, Nat.le_of_ble_eq_true rfl⟩) hS (fun q _ h => hFc q h) hFc (fun u t H1 locs ht hvm hw34 hB hz1 hk1 hS => ?_)
                          obtain ⟨fault_35, fplace_36, hf36_0, hP1, hK1, hD1⟩ := hB
                          rw [ht] at hP1
                          obtain ⟨hP, hD⟩ : xPD D A [oX8 tp tba tl, oAI tba cI 400 tb, oX4 rd tp rfa rya rla pl x10 kind x10 0 told depth fault_35 fplace_36] H1 := xjn 2 hP hD [0] [1, 2] hC9 rfl (by decide +kernel) (by decide +kernel) hk1 hFc hP1 hD1
                          generalize H1 = H at hP hS ⊢
                          have hf36_0 : M_refuse fault (1 : Int32) x10 fplace = (fault_35, fplace_36) := hf36_0
                          have h9M := congrArg (fun t9 => (K_step_22 x10 kind t9.1 t9.2)) hf36_0
                          have hM : M_step tl tb fault fplace kind place = (K_step_22 x10 kind fault_35 fplace_36) := (show M_step tl tb fault fplace kind place = ((fun t9 => (K_step_22 x10 kind t9.1 t9.2)) (M_refuse fault (1 : Int32) x10 fplace)) from hM).trans h9M
                          refine W.widen (k := 0) (n := 0) (by decide) (by decide) ?_
                          exact W.vret hx hb hr (fun t ht hW => ⟨⟨(), rfl, trivial, ⟨x10, kind, x10, 0, fault_35, fplace_36, (xrng rfl (by omega) (by omega)), (xrng rfl (by omega) (by omega)), hM, xB_of9 ht hW hP hK hD [2, 0, 1] (by decide +kernel) rfl⟩⟩, hS.F ht⟩) hS.2.2 dX4_step_212
                        · skip
                          have i_33 : v14.toInt = 59 := (ieq rfl (by decide)).mp c_33
                          have hM : M_step tl tb fault fplace kind place = (K_step_21 x10 v14 fault fplace) := (show M_step tl tb fault fplace kind place = (if v14.toInt = 59 then (K_step_21 x10 v14 fault fplace) else (K_step_20 x10 kind fault fplace)) from hM).trans (if_pos i_33)
                          refine lv_aload_n hx hb dX4_step_180 rfl (lv_at hl 1 rfl) ?_
                          refine lv_iconst (v := 3) hx hb dX4_step_181 (by decide) ?_
                          refine va_put (D := D) (ci := 3) (v := .int 3) (ty := .int) (C := RX4) (T := TX4) (N := 13) hx hb hts (fun w h => tbC w (tbfX4 w h)) tyX4 tyX4_ok nmX4 hown hK hP hD hS 0 rfl rfl 6 (by decide) (hts (.fieldLink RX4 60 "PowerRails$Reader" "kind" "I") (tbC _ wd238)) (fun _ h9 => h9) rfl (by decide +kernel) rfl rfl (Nat.le_of_ble_eq_true rfl) dX4_step_182 (fun H locs hP hD hS => ?_)
                          obtain ⟨hP, hD⟩ : xPD D A [oX4 rd tp rfa rya rla pl x10 3 x10 0 told depth fault fplace, oX8 tp tba tl, oAI tba cI 400 tb] H := ⟨hP, hD⟩
                          refine lv_aload_n hx hb dX4_step_185 rfl (lv_at hl 1 rfl) ?_
                          refine lv_iload_n hx hb dX4_step_186 rfl (lv_at hl 0 rfl) ?_
                          refine va_put (D := D) (ci := 3) (v := .int v14) (ty := .int) (C := RX4) (T := TX4) (N := 13) hx hb hts (fun w h => tbC w (tbfX4 w h)) tyX4 tyX4_ok nmX4 hown hK hP hD hS 0 rfl rfl 8 (by decide) (hts (.fieldLink RX4 91 "PowerRails$Reader" "value" "I") (tbC _ wd240)) (fun _ h9 => h9) rfl (by decide +kernel) rfl rfl (Nat.le_of_ble_eq_true rfl) dX4_step_187 (fun H locs hP hD hS => ?_)
                          obtain ⟨hP, hD⟩ : xPD D A [oX4 rd tp rfa rya rla pl x10 3 x10 v14 told depth fault fplace, oX8 tp tba tl, oAI tba cI 400 tb] H := ⟨hP, hD⟩
                          refine lv_aload_n hx hb dX4_step_190 rfl (lv_at hl 1 rfl) ?_
                          refine lv_dup hx hb dX4_step_191 rfl ?_
                          refine va_get (D := D) (ci := 3) (v := .int x10) (C := RX4) (T := TX4) (N := 13) hx hb hts (fun w h => tbC w (tbfX4 w h)) hown hK hP 0 rfl rfl 5 (by decide) (hts (.fieldLink RX4 36 "PowerRails$Reader" "place" "I") (tbC _ wd237)) (fun _ h9 => h9) rfl dX4_step_192 ?_
                          refine lv_iconst (v := 1) hx hb dX4_step_195 (by decide) ?_
                          refine lv_iadd hx hb dX4_step_196 ?_
                          refine lv_topi (fun v37 ev37 => ?_)
                          have tv37 : v37.toInt = (x10.toInt + 1) := (congrArg Int32.toInt ev37).trans (xadd rfl (by decide) (by omega) (by omega))
                          refine va_put (D := D) (ci := 3) (v := .int v37) (ty := .int) (C := RX4) (T := TX4) (N := 13) hx hb hts (fun w h => tbC w (tbfX4 w h)) tyX4 tyX4_ok nmX4 hown hK hP hD hS 0 rfl rfl 5 (by decide) (hts (.fieldLink RX4 36 "PowerRails$Reader" "place" "I") (tbC _ wd237)) (fun _ h9 => h9) rfl (by decide +kernel) rfl rfl (Nat.le_of_ble_eq_true rfl) dX4_step_197 (fun H locs hP hD hS => ?_)
                          obtain ⟨hP, hD⟩ : xPD D A [oX4 rd tp rfa rya rla pl v37 3 x10 v14 told depth fault fplace, oX8 tp tba tl, oAI tba cI 400 tb] H := ⟨hP, hD⟩
                          refine lv_goto (tgt := 212) hx hb dX4_step_200 (by decide) ?_
                          refine W.widen (k := 0) (n := 0) (by decide) (by decide) ?_
                          exact W.vret hx hb hr (fun t ht hW => ⟨⟨(), rfl, trivial, ⟨v37, 3, x10, v14, fault, fplace, (xrng tv37 (by omega) (by omega)), (xrng rfl (by omega) (by omega)), (by rw [ev37]; exact hM), xB_of9 ht hW hP hK hD [0, 1, 2] (by decide +kernel) rfl⟩⟩, hS.F ht⟩) hS.2.2 dX4_step_212
              · skip
                have i_28 : ¬ (57 < v14.toInt) := fun h9 => c_28 ((ilt (by decide) rfl).mpr h9)
                have hM : M_step tl tb fault fplace kind place = (K_step_19 x10 fault fplace tb tl) := (show M_step tl tb fault fplace kind place = (if 57 < v14.toInt then (K_step_18 v14 x10 fault fplace kind) else (K_step_19 x10 fault fplace tb tl)) from hM).trans (if_neg i_28)
                refine lv_aload_n hx hb dX4_step_130 rfl (lv_at hl 1 rfl) ?_
                refine lv_iconst (v := 2) hx hb dX4_step_131 (by decide) ?_
                refine va_put (D := D) (ci := 3) (v := .int 2) (ty := .int) (C := RX4) (T := TX4) (N := 13) hx hb hts (fun w h => tbC w (tbfX4 w h)) tyX4 tyX4_ok nmX4 hown hK hP hD hS 0 rfl rfl 6 (by decide) (hts (.fieldLink RX4 60 "PowerRails$Reader" "kind" "I") (tbC _ wd238)) (fun _ h9 => h9) rfl (by decide +kernel) rfl rfl (Nat.le_of_ble_eq_true rfl) dX4_step_132 (fun H locs hP hD hS => ?_)
                obtain ⟨hP, hD⟩ : xPD D A [oX4 rd tp rfa rya rla pl x10 2 x10 0 told depth fault fplace, oX8 tp tba tl, oAI tba cI 400 tb] H := ⟨hP, hD⟩
                refine lv_aload_n hx hb dX4_step_135 rfl (lv_at hl 1 rfl) ?_
                refine lv_bipush (v := 48) hx hb dX4_step_136 (by decide) ?_
                refine lv_bipush (v := 57) hx hb dX4_step_138 (by decide) ?_
                obtain ⟨hPc, hDc, hFc, hC9⟩ := xpk (wc := W_skipWithin cI cJ cZ cG cH rd (48 : Int32) (57 : Int32) tp rfa rya rla pl x10 (2 : Int32) x10 (0 : Int32) told depth fault fplace tba tl tb) hP hD hS hA [0, 1, 2] (by decide +kernel) rfl
                refine va_callv (va_runV (As := [.int 48, .int 57]) (rest := []) ⟨hx, hb, hml, hown, hts⟩ (c_skipWithin l D cI cJ cZ cG cH H.size rd (48 : Int32) (57 : Int32) tp rfa rya rla pl x10 (2 : Int32) x10 (0 : Int32) told depth fault fplace tba tl tb (xrng rfl (by omega) (by omega)) (xrng rfl (by omega) (by omega)) (xrng rfl (by omega) (by omega)) (xrng rfl (by omega) (by omega))) (cwV 2 hts (xGV tbC wd279 wd280 wd281 wd60 wd967) rfl rfl rfl (by decide +kernel) ⟨Nat.le_of_ble_eq_true rfl, Nat.le_of_ble_eq_true rfl⟩) ⟨xPc_blind, va_recv hK hPc (ci := 3) (q0 := 0) rfl rfl, xPc_pre hPc hK hDc⟩ rfl rfl hl.1 rfl (lv_room (Nat.le_of_ble_eq_true rfl)) dX4_step_140 ⟨Nat.le_of_ble_eq_true rfl, Nat.le_of_ble_eq_true rfl⟩) hS (fun q _ h => hFc q h) hFc (fun u t H1 locs ht hvm hw38 hB hz1 hk1 hS => ?_)
                obtain ⟨place_39, hf39_0, hf39_1, hP1, hK1, hD1⟩ := hB
                rw [ht] at hP1
                obtain ⟨hP, hD⟩ : xPD D A [oX4 rd tp rfa rya rla pl place_39 2 x10 0 told depth fault fplace, oX8 tp tba tl, oAI tba cI 400 tb] H1 := xjn 0 hP hD [0, 1, 2] [] hC9 rfl (by decide +kernel) (by decide +kernel) hk1 hFc hP1 hD1
                generalize H1 = H at hP hS ⊢
                have hf39_0 : 0 ≤ place_39.toInt ∧ place_39.toInt ≤ 400 := hf39_0
                have hf39_1 : M_skipWithin tl tb (48 : Int32) (57 : Int32) x10 = (place_39) := hf39_1
                have h9M := congrArg (fun t9 => (K_step_23 t9 x10 fault fplace tb)) hf39_1
                have hM : M_step tl tb fault fplace kind place = (K_step_23 place_39 x10 fault fplace tb) := (show M_step tl tb fault fplace kind place = ((fun t9 => (K_step_23 t9 x10 fault fplace tb)) (M_skipWithin tl tb (48 : Int32) (57 : Int32) x10)) from hM).trans h9M
                refine lv_aload_n hx hb dX4_step_143 rfl (lv_at hl 1 rfl) ?_
                obtain ⟨hPc, hDc, hFc, hC9⟩ := xpk (wc := W_valueNumber cI cJ cZ cG cH rd tp rfa rya rla pl place_39 (2 : Int32) x10 (0 : Int32) told depth fault fplace tba tl tb) hP hD hS hA [0, 1, 2] (by decide +kernel) rfl
                refine va_callv (va_runV (As := []) (rest := []) ⟨hx, hb, hml, hown, hts⟩ (c_valueNumber l D cI cJ cZ cG cH H.size rd tp rfa rya rla pl place_39 (2 : Int32) x10 (0 : Int32) told depth fault fplace tba tl tb (xrng rfl (by omega) (by omega)) (xrng rfl (by omega) (by omega)) (xrng rfl (by omega) (by omega)) (xrng rfl (by omega) (by omega))) (cwV 0 hts (xGV tbC wd282 wd283 wd284 wd60 wd968) rfl rfl rfl (by decide +kernel) ⟨Nat.le_of_ble_eq_true rfl, Nat.le_of_ble_eq_true rfl⟩) ⟨xPc_blind, va_recv hK hPc (ci := 3) (q0 := 0) rfl rfl, xPc_pre hPc hK hDc⟩ rfl rfl hl.1 rfl (lv_room (Nat.le_of_ble_eq_true rfl)) dX4_step_144 ⟨Nat.le_of_ble_eq_true rfl, Nat.le_of_ble_eq_true rfl⟩) hS (fun q _ h => hFc q h) hFc (fun u t H1 locs ht hvm hw40 hB hz1 hk1 hS => ?_)
                obtain ⟨value_41, fault_42, fplace_43, hf43_0, hP1, hK1, hD1⟩ := hB
                rw [ht] at hP1
                obtain ⟨hP, hD⟩ : xPD D A [oX4 rd tp rfa rya rla pl place_39 2 x10 value_41 told depth fault_42 fplace_43, oX8 tp tba tl, oAI tba cI 400 tb] H1 := xjn 0 hP hD [0, 1, 2] [] hC9 rfl (by decide +kernel) (by decide +kernel) hk1 hFc hP1 hD1
                generalize H1 = H at hP hS ⊢
                have hf43_0 : M_valueNumber place_39 x10 fault fplace tb (0 : Int32) = (value_41, fault_42, fplace_43) := hf43_0
                have h9M := congrArg (fun t9 => (K_step_24 place_39 x10 t9.1 t9.2.1 t9.2.2)) hf43_0
                have hM : M_step tl tb fault fplace kind place = (K_step_24 place_39 x10 value_41 fault_42 fplace_43) := (show M_step tl tb fault fplace kind place = ((fun t9 => (K_step_24 place_39 x10 t9.1 t9.2.1 t9.2.2)) (M_valueNumber place_39 x10 fault fplace tb (0 : Int32))) from hM).trans h9M
                refine lv_goto (tgt := 212) hx hb dX4_step_147 (by decide) ?_
                refine W.widen (k := 0) (n := 0) (by decide) (by decide) ?_
                exact W.vret hx hb hr (fun t ht hW => ⟨⟨(), rfl, trivial, ⟨place_39, 2, x10, value_41, fault_42, fplace_43, (xrng rfl (by omega) (by omega)), (xrng rfl (by omega) (by omega)), hM, xB_of9 ht hW hP hK hD [0, 1, 2] (by decide +kernel) rfl⟩⟩, hS.F ht⟩) hS.2.2 dX4_step_212
          · skip
            have i_15 : ¬ (v14.toInt < 97) := fun h9 => c_15 ((ilt rfl (by decide)).mpr h9)
            have hM : M_step tl tb fault fplace kind place = (K_step_8 v14 x10 fault fplace kind tl tb) := (show M_step tl tb fault fplace kind place = (if v14.toInt < 97 then (K_step_7 v14 x10 fault fplace kind tb tl) else (K_step_8 v14 x10 fault fplace kind tl tb)) from (by rw [ev14]; exact hM)).trans (if_neg i_15)
            refine lv_iload_n hx hb dX4_step_96 rfl (lv_at hl 0 rfl) ?_
            refine lv_bipush (v := 122) hx hb dX4_step_97 (by decide) ?_
            refine lv_icmp_gt (tgt := 118) hx hb dX4_step_99 (by decide) (fun c_44 => ?_) (fun c_44 => ?_)
            · skip
              have i_44 : 122 < v14.toInt := (ilt (by decide) rfl).mp c_44
              have hM : M_step tl tb fault fplace kind place = (K_step_25 v14 x10 fault fplace kind) := (show M_step tl tb fault fplace kind place = (if 122 < v14.toInt then (K_step_25 v14 x10 fault fplace kind) else (K_step_26 x10 fault fplace tl tb)) from hM).trans (if_pos i_44)
              refine lv_iload_n hx hb dX4_step_118 rfl (lv_at hl 0 rfl) ?_
              refine lv_bipush (v := 48) hx hb dX4_step_119 (by decide) ?_
              refine lv_icmp_lt (tgt := 150) hx hb dX4_step_121 (by decide) (fun c_45 => ?_) (fun c_45 => ?_)
              · skip
                have i_45 : v14.toInt < 48 := (ilt rfl (by decide)).mp c_45
                exfalso
                omega
              · skip
                have i_45 : ¬ (v14.toInt < 48) := fun h9 => c_45 ((ilt rfl (by decide)).mpr h9)
                refine lv_iload_n hx hb dX4_step_124 rfl (lv_at hl 0 rfl) ?_
                refine lv_bipush (v := 57) hx hb dX4_step_125 (by decide) ?_
                refine lv_icmp_gt (tgt := 150) hx hb dX4_step_127 (by decide) (fun c_46 => ?_) (fun c_46 => ?_)
                · skip
                  have i_46 : 57 < v14.toInt := (ilt (by decide) rfl).mp c_46
                  refine lv_iload_n hx hb dX4_step_150 rfl (lv_at hl 0 rfl) ?_
                  refine lv_bipush (v := 40) hx hb dX4_step_151 (by decide) ?_
                  refine lv_icmp_eq (tgt := 180) hx hb dX4_step_153 (by decide) (fun c_47 => ?_) (fun c_47 => ?_)
                  · skip
                    have i_47 : v14.toInt = 40 := (ieq rfl (by decide)).mp c_47
                    exfalso
                    omega
                  · skip
                    have i_47 : ¬ (v14.toInt = 40) := fun h9 => c_47 ((ieq rfl (by decide)).mpr h9)
                    refine lv_iload_n hx hb dX4_step_156 rfl (lv_at hl 0 rfl) ?_
                    refine lv_bipush (v := 41) hx hb dX4_step_157 (by decide) ?_
                    refine lv_icmp_eq (tgt := 180) hx hb dX4_step_159 (by decide) (fun c_48 => ?_) (fun c_48 => ?_)
                    · skip
                      have i_48 : v14.toInt = 41 := (ieq rfl (by decide)).mp c_48
                      exfalso
                      omega
                    · skip
                      have i_48 : ¬ (v14.toInt = 41) := fun h9 => c_48 ((ieq rfl (by decide)).mpr h9)
                      refine lv_iload_n hx hb dX4_step_162 rfl (lv_at hl 0 rfl) ?_
                      refine lv_bipush (v := 38) hx hb dX4_step_163 (by decide) ?_
                      refine lv_icmp_eq (tgt := 180) hx hb dX4_step_165 (by decide) (fun c_49 => ?_) (fun c_49 => ?_)
                      · skip
                        have i_49 : v14.toInt = 38 := (ieq rfl (by decide)).mp c_49
                        exfalso
                        omega
                      · skip
                        have i_49 : ¬ (v14.toInt = 38) := fun h9 => c_49 ((ieq rfl (by decide)).mpr h9)
                        refine lv_iload_n hx hb dX4_step_168 rfl (lv_at hl 0 rfl) ?_
                        refine lv_bipush (v := 124) hx hb dX4_step_169 (by decide) ?_
                        refine lv_icmp_eq (tgt := 180) hx hb dX4_step_171 (by decide) (fun c_50 => ?_) (fun c_50 => ?_)
                        · skip
                          have i_50 : v14.toInt = 124 := (ieq rfl (by decide)).mp c_50
                          have hM : M_step tl tb fault fplace kind place = (K_step_27 x10 v14 fault fplace) := (show M_step tl tb fault fplace kind place = (if v14.toInt = 124 then (K_step_27 x10 v14 fault fplace) else (K_step_28 x10 kind fault fplace)) from hM).trans (if_pos i_50)
                          refine lv_aload_n hx hb dX4_step_180 rfl (lv_at hl 1 rfl) ?_
                          refine lv_iconst (v := 3) hx hb dX4_step_181 (by decide) ?_
                          refine va_put (D := D) (ci := 3) (v := .int 3) (ty := .int) (C := RX4) (T := TX4) (N := 13) hx hb hts (fun w h => tbC w (tbfX4 w h)) tyX4 tyX4_ok nmX4 hown hK hP hD hS 0 rfl rfl 6 (by decide) (hts (.fieldLink RX4 60 "PowerRails$Reader" "kind" "I") (tbC _ wd238)) (fun _ h9 => h9) rfl (by decide +kernel) rfl rfl (Nat.le_of_ble_eq_true rfl) dX4_step_182 (fun H locs hP hD hS => ?_)
                          obtain ⟨hP, hD⟩ : xPD D A [oX4 rd tp rfa rya rla pl x10 3 x10 0 told depth fault fplace, oX8 tp tba tl, oAI tba cI 400 tb] H := ⟨hP, hD⟩
                          refine lv_aload_n hx hb dX4_step_185 rfl (lv_at hl 1 rfl) ?_
                          refine lv_iload_n hx hb dX4_step_186 rfl (lv_at hl 0 rfl) ?_
                          refine va_put (D := D) (ci := 3) (v := .int v14) (ty := .int) (C := RX4) (T := TX4) (N := 13) hx hb hts (fun w h => tbC w (tbfX4 w h)) tyX4 tyX4_ok nmX4 hown hK hP hD hS 0 rfl rfl 8 (by decide) (hts (.fieldLink RX4 91 "PowerRails$Reader" "value" "I") (tbC _ wd240)) (fun _ h9 => h9) rfl (by decide +kernel) rfl rfl (Nat.le_of_ble_eq_true rfl) dX4_step_187 (fun H locs hP hD hS => ?_)
                          obtain ⟨hP, hD⟩ : xPD D A [oX4 rd tp rfa rya rla pl x10 3 x10 v14 told depth fault fplace, oX8 tp tba tl, oAI tba cI 400 tb] H := ⟨hP, hD⟩
                          refine lv_aload_n hx hb dX4_step_190 rfl (lv_at hl 1 rfl) ?_
                          refine lv_dup hx hb dX4_step_191 rfl ?_
                          refine va_get (D := D) (ci := 3) (v := .int x10) (C := RX4) (T := TX4) (N := 13) hx hb hts (fun w h => tbC w (tbfX4 w h)) hown hK hP 0 rfl rfl 5 (by decide) (hts (.fieldLink RX4 36 "PowerRails$Reader" "place" "I") (tbC _ wd237)) (fun _ h9 => h9) rfl dX4_step_192 ?_
                          refine lv_iconst (v := 1) hx hb dX4_step_195 (by decide) ?_
                          refine lv_iadd hx hb dX4_step_196 ?_
                          refine lv_topi (fun v51 ev51 => ?_)
                          have tv51 : v51.toInt = (x10.toInt + 1) := (congrArg Int32.toInt ev51).trans (xadd rfl (by decide) (by omega) (by omega))
                          refine va_put (D := D) (ci := 3) (v := .int v51) (ty := .int) (C := RX4) (T := TX4) (N := 13) hx hb hts (fun w h => tbC w (tbfX4 w h)) tyX4 tyX4_ok nmX4 hown hK hP hD hS 0 rfl rfl 5 (by decide) (hts (.fieldLink RX4 36 "PowerRails$Reader" "place" "I") (tbC _ wd237)) (fun _ h9 => h9) rfl (by decide +kernel) rfl rfl (Nat.le_of_ble_eq_true rfl) dX4_step_197 (fun H locs hP hD hS => ?_)
                          obtain ⟨hP, hD⟩ : xPD D A [oX4 rd tp rfa rya rla pl v51 3 x10 v14 told depth fault fplace, oX8 tp tba tl, oAI tba cI 400 tb] H := ⟨hP, hD⟩
                          refine lv_goto (tgt := 212) hx hb dX4_step_200 (by decide) ?_
                          refine W.widen (k := 0) (n := 0) (by decide) (by decide) ?_
                          exact W.vret hx hb hr (fun t ht hW => ⟨⟨(), rfl, trivial, ⟨v51, 3, x10, v14, fault, fplace, (xrng tv51 (by omega) (by omega)), (xrng rfl (by omega) (by omega)), (by rw [ev51]; exact hM), xB_of9 ht hW hP hK hD [0, 1, 2] (by decide +kernel) rfl⟩⟩, hS.F ht⟩) hS.2.2 dX4_step_212
                        · skip
                          have i_50 : ¬ (v14.toInt = 124) := fun h9 => c_50 ((ieq rfl (by decide)).mpr h9)
                          have hM : M_step tl tb fault fplace kind place = (K_step_28 x10 kind fault fplace) := (show M_step tl tb fault fplace kind place = (if v14.toInt = 124 then (K_step_27 x10 v14 fault fplace) else (K_step_28 x10 kind fault fplace)) from hM).trans (if_neg i_50)
                          refine lv_iload_n hx hb dX4_step_174 rfl (lv_at hl 0 rfl) ?_
                          refine lv_bipush (v := 59) hx hb dX4_step_175 (by decide) ?_
                          refine lv_icmp_ne (tgt := 203) hx hb dX4_step_177 (by decide) (fun c_52 => ?_) (fun c_52 => ?_)
                          · skip
                            have i_52 : ¬ (v14.toInt = 59) := fun h9 => c_52 ((ieq rfl (by decide)).mpr h9)
                            refine lv_aload_n hx hb dX4_step_203 rfl (lv_at hl 1 rfl) ?_
                            refine lv_iconst (v := 1) hx hb dX4_step_204 (by decide) ?_
                            refine lv_aload_n hx hb dX4_step_205 rfl (lv_at hl 1 rfl) ?_
                            refine va_get (D := D) (ci := 3) (v := .int x10) (C := RX4) (T := TX4) (N := 13) hx hb hts (fun w h => tbC w (tbfX4 w h)) hown hK hP 0 rfl rfl 7 (by decide) (hts (.fieldLink RX4 88 "PowerRails$Reader" "from" "I") (tbC _ wd239)) (fun _ h9 => h9) rfl dX4_step_206 ?_
                            obtain ⟨hPc, hDc, hFc, hC9⟩ := xpk (wc := W_refuse cI cJ cZ cG cH rd (1 : Int32) x10 tp rfa rya rla pl x10 kind x10 (0 : Int32) told depth fault fplace) hP hD hS hA [0] (by decide +kernel) rfl
                            refine va_callv (va_runV (As := [.int 1, .int x10]) (rest := []) ⟨hx, hb, hml, hown, hts⟩ (c_refuse l D cI cJ cZ cG cH H.size rd (1 : Int32) x10 tp rfa rya rla pl x10 kind x10 (0 : Int32) told depth fault fplace (xrng rfl (by omega) (by omega)) (xrng rfl (by omega) (by omega)) (xrng rfl (by omega) (by omega))) (cwV 2 hts (xGV tbC wd285 wd286 wd287 wd60 wd969) rfl rfl rfl (by decide +kernel) ⟨Nat.le_of_ble_eq_true rfl, Nat.le_of_ble_eq_true rfl⟩) ⟨xPc_blind, va_recv hK hPc (ci := 3) (q0 := 0) rfl rfl, xPc_pre hPc hK hDc⟩ rfl rfl hl.1 rfl (lv_room (Nat.le_of_ble_eq_true rfl)) dX4_step_209 ⟨Nat.le_of_ble_eq_true rfl, Nat.le_of_ble_eq_true rfl⟩) hS (fun q _ h => hFc q h) hFc (fun u t H1 locs ht hvm hw53 hB hz1 hk1 hS => ?_)
                            obtain ⟨fault_54, fplace_55, hf55_0, hP1, hK1, hD1⟩ := hB
                            rw [ht] at hP1
                            obtain ⟨hP, hD⟩ : xPD D A [oX8 tp tba tl, oAI tba cI 400 tb, oX4 rd tp rfa rya rla pl x10 kind x10 0 told depth fault_54 fplace_55] H1 := xjn 2 hP hD [0] [1, 2] hC9 rfl (by decide +kernel) (by decide +kernel) hk1 hFc hP1 hD1
                            generalize H1 = H at hP hS ⊢
                            have hf55_0 : M_refuse fault (1 : Int32) x10 fplace = (fault_54, fplace_55) := hf55_0
                            have h9M := congrArg (fun t9 => (K_step_29 x10 kind t9.1 t9.2)) hf55_0
                            have hM : M_step tl tb fault fplace kind place = (K_step_29 x10 kind fault_54 fplace_55) := (show M_step tl tb fault fplace kind place = ((fun t9 => (K_step_29 x10 kind t9.1 t9.2)) (M_refuse fault (1 : Int32) x10 fplace)) from hM).trans h9M
                            refine W.widen (k := 0) (n := 0) (by decide) (by decide) ?_
                            exact W.vret hx hb hr (fun t ht hW => ⟨⟨(), rfl, trivial, ⟨x10, kind, x10, 0, fault_54, fplace_55, (xrng rfl (by omega) (by omega)), (xrng rfl (by omega) (by omega)), hM, xB_of9 ht hW hP hK hD [2, 0, 1] (by decide +kernel) rfl⟩⟩, hS.F ht⟩) hS.2.2 dX4_step_212
                          · skip
                            have i_52 : v14.toInt = 59 := (ieq rfl (by decide)).mp c_52
                            exfalso
                            omega
                · skip
                  have i_46 : ¬ (57 < v14.toInt) := fun h9 => c_46 ((ilt (by decide) rfl).mpr h9)
                  exfalso
                  omega
            · skip
              have i_44 : ¬ (122 < v14.toInt) := fun h9 => c_44 ((ilt (by decide) rfl).mpr h9)
              have hM : M_step tl tb fault fplace kind place = (K_step_26 x10 fault fplace tl tb) := (show M_step tl tb fault fplace kind place = (if 122 < v14.toInt then (K_step_25 v14 x10 fault fplace kind) else (K_step_26 x10 fault fplace tl tb)) from hM).trans (if_neg i_44)
              refine lv_aload_n hx hb dX4_step_102 rfl (lv_at hl 1 rfl) ?_
              refine lv_iconst (v := 1) hx hb dX4_step_103 (by decide) ?_
              refine va_put (D := D) (ci := 3) (v := .int 1) (ty := .int) (C := RX4) (T := TX4) (N := 13) hx hb hts (fun w h => tbC w (tbfX4 w h)) tyX4 tyX4_ok nmX4 hown hK hP hD hS 0 rfl rfl 6 (by decide) (hts (.fieldLink RX4 60 "PowerRails$Reader" "kind" "I") (tbC _ wd238)) (fun _ h9 => h9) rfl (by decide +kernel) rfl rfl (Nat.le_of_ble_eq_true rfl) dX4_step_104 (fun H locs hP hD hS => ?_)
              obtain ⟨hP, hD⟩ : xPD D A [oX4 rd tp rfa rya rla pl x10 1 x10 0 told depth fault fplace, oX8 tp tba tl, oAI tba cI 400 tb] H := ⟨hP, hD⟩
              refine lv_aload_n hx hb dX4_step_107 rfl (lv_at hl 1 rfl) ?_
              refine lv_bipush (v := 97) hx hb dX4_step_108 (by decide) ?_
              refine lv_bipush (v := 122) hx hb dX4_step_110 (by decide) ?_
              obtain ⟨hPc, hDc, hFc, hC9⟩ := xpk (wc := W_skipWithin cI cJ cZ cG cH rd (97 : Int32) (122 : Int32) tp rfa rya rla pl x10 (1 : Int32) x10 (0 : Int32) told depth fault fplace tba tl tb) hP hD hS hA [0, 1, 2] (by decide +kernel) rfl
              refine va_callv (va_runV (As := [.int 97, .int 122]) (rest := []) ⟨hx, hb, hml, hown, hts⟩ (c_skipWithin l D cI cJ cZ cG cH H.size rd (97 : Int32) (122 : Int32) tp rfa rya rla pl x10 (1 : Int32) x10 (0 : Int32) told depth fault fplace tba tl tb (xrng rfl (by omega) (by omega)) (xrng rfl (by omega) (by omega)) (xrng rfl (by omega) (by omega)) (xrng rfl (by omega) (by omega))) (cwV 2 hts (xGV tbC wd279 wd280 wd281 wd60 wd967) rfl rfl rfl (by decide +kernel) ⟨Nat.le_of_ble_eq_true rfl, Nat.le_of_ble_eq_true rfl⟩) ⟨xPc_blind, va_recv hK hPc (ci := 3) (q0 := 0) rfl rfl, xPc_pre hPc hK hDc⟩ rfl rfl hl.1 rfl (lv_room (Nat.le_of_ble_eq_true rfl)) dX4_step_112 ⟨Nat.le_of_ble_eq_true rfl, Nat.le_of_ble_eq_true rfl⟩) hS (fun q _ h => hFc q h) hFc (fun u t H1 locs ht hvm hw56 hB hz1 hk1 hS => ?_)
              obtain ⟨place_57, hf57_0, hf57_1, hP1, hK1, hD1⟩ := hB
              rw [ht] at hP1
              obtain ⟨hP, hD⟩ : xPD D A [oX4 rd tp rfa rya rla pl place_57 1 x10 0 told depth fault fplace, oX8 tp tba tl, oAI tba cI 400 tb] H1 := xjn 0 hP hD [0, 1, 2] [] hC9 rfl (by decide +kernel) (by decide +kernel) hk1 hFc hP1 hD1
              generalize H1 = H at hP hS ⊢
              have hf57_0 : 0 ≤ place_57.toInt ∧ place_57.toInt ≤ 400 := hf57_0
              have hf57_1 : M_skipWithin tl tb (97 : Int32) (122 : Int32) x10 = (place_57) := hf57_1
              have h9M := congrArg (fun t9 => (K_step_30 t9 x10 fault fplace)) hf57_1
              have hM : M_step tl tb fault fplace kind place = (K_step_30 place_57 x10 fault fplace) := (show M_step tl tb fault fplace kind place = ((fun t9 => (K_step_30 t9 x10 fault fplace)) (M_skipWithin tl tb (97 : Int32) (122 : Int32) x10)) from hM).trans h9M
              refine lv_goto (tgt := 212) hx hb dX4_step_115 (by decide) ?_
              refine W.widen (k := 0) (n := 0) (by decide) (by decide) ?_
              exact W.vret hx hb hr (fun t ht hW => ⟨⟨(), rfl, trivial, ⟨place_57, 1, x10, 0, fault, fplace, (xrng rfl (by omega) (by omega)), (xrng rfl (by omega) (by omega)), hM, xB_of9 ht hW hP hK hD [0, 1, 2] (by decide +kernel) rfl⟩⟩, hS.F ht⟩) hS.2.2 dX4_step_212
        · skip
          have i_13 : ¬ (x10.toInt < tl.toInt) := fun h9 => c_13 ((ilt rfl rfl).mpr h9)
          have hM : M_step tl tb fault fplace kind place = (K_step_6 x10 fault fplace) := (show M_step tl tb fault fplace kind place = (if x10.toInt < tl.toInt then (K_step_5 tb x10 fault fplace kind tl) else (K_step_6 x10 fault fplace)) from hM).trans (if_neg i_13)
          refine lv_aload_n hx hb dX4_step_71 rfl (lv_at hl 0 rfl) ?_
          refine lv_iconst (v := 0) hx hb dX4_step_72 (by decide) ?_
          refine va_put (D := D) (ci := 3) (v := .int 0) (ty := .int) (C := RX4) (T := TX4) (N := 13) hx hb hts (fun w h => tbC w (tbfX4 w h)) tyX4 tyX4_ok nmX4 hown hK hP hD hS 0 rfl rfl 6 (by decide) (hts (.fieldLink RX4 60 "PowerRails$Reader" "kind" "I") (tbC _ wd238)) (fun _ h9 => h9) rfl (by decide +kernel) rfl rfl (Nat.le_of_ble_eq_true rfl) dX4_step_73 (fun H locs hP hD hS => ?_)
          obtain ⟨hP, hD⟩ : xPD D A [oX4 rd tp rfa rya rla pl x10 0 x10 0 told depth fault fplace, oX8 tp tba tl, oAI tba cI 400 tb] H := ⟨hP, hD⟩
          refine W.widen (k := 0) (n := 0) (by decide) (by decide) ?_
          exact W.vret hx hb hr (fun t ht hW => ⟨⟨(), rfl, trivial, ⟨x10, 0, x10, 0, fault, fplace, (xrng rfl (by omega) (by omega)), (xrng rfl (by omega) (by omega)), hM, xB_of9 ht hW hP hK hD [0, 1, 2] (by decide +kernel) rfl⟩⟩, hS.F ht⟩) hS.2.2 dX4_step_76
      · skip
        have i_12 : ¬ (tl.toInt ≤ x10.toInt) := fun h9 => c_12 ((ile rfl rfl).mpr h9)
        have hM : M_step tl tb fault fplace kind place = (K_step_4 tb x10 (K_step_L2 tl tb fault fplace kind nhl11) tl fault fplace kind) := (show M_step tl tb fault fplace kind place = (if tl.toInt ≤ x10.toInt then (K_step_3 x10 tl tb fault fplace kind) else (K_step_4 tb x10 (K_step_L2 tl tb fault fplace kind nhl11) tl fault fplace kind)) from hM).trans (if_neg i_12)
        refine lv_aload_n hx hb dX4_step_14 rfl (lv_at hl 0 rfl) ?_
        refine va_get (D := D) (ci := 3) (v := .ref tp) (C := RX4) (T := TX4) (N := 13) hx hb hts (fun w h => tbC w (tbfX4 w h)) hown hK hP 0 rfl rfl 0 (by decide) (hts (.fieldLink RX4 9 "PowerRails$Reader" "tape" "LPowerRails$Tape;") (tbC _ wd232)) (fun _ h9 => h9) rfl dX4_step_15 ?_
        refine va_get (D := D) (ci := 7) (v := .ref tba) (C := RX8) (T := TX8) (N := 2) hx hb hts (fun w h => tbC w (tbfX8 w h)) hown hK hP 1 rfl rfl 0 (by decide) (hts (.fieldLink RX4 85 "PowerRails$Tape" "bytes" "[I") (tbC _ wd82)) (fun _ h9 => h9) rfl dX4_step_18 ?_
        refine lv_aload_n hx hb dX4_step_21 rfl (lv_at hl 0 rfl) ?_
        refine va_get (D := D) (ci := 3) (v := .int x10) (C := RX4) (T := TX4) (N := 13) hx hb hts (fun w h => tbC w (tbfX4 w h)) hown hK hP 0 rfl rfl 5 (by decide) (hts (.fieldLink RX4 36 "PowerRails$Reader" "place" "I") (tbC _ wd237)) (fun _ h9 => h9) rfl dX4_step_22 ?_
        refine va_iald hx hb hK hP 2 0 rfl rfl (vp_in_iff.mpr ⟨by omega, by omega⟩) dX4_step_25 ?_
        refine lv_topi (fun v58 ev58 => ?_)
        refine lv_bipush (v := 32) hx hb dX4_step_26 (by decide) ?_
        refine lv_icmp_ne (tgt := 44) hx hb dX4_step_28 (by decide) (fun c_59 => ?_) (fun c_59 => ?_)
        · skip
          have i_59 : ¬ (v58.toInt = 32) := fun h9 => c_59 ((ieq rfl (by decide)).mpr h9)
          have hM : M_step tl tb fault fplace kind place = (K_step_31 x10 tl v58 tb fault fplace kind) := (show M_step tl tb fault fplace kind place = (if v58.toInt = 32 then (K_step_32 (K_step_L2 tl tb fault fplace kind nhl11) x10) else (K_step_31 x10 tl v58 tb fault fplace kind)) from (by rw [ev58]; exact hM)).trans (if_neg i_59)
          refine lv_aload_n hx hb dX4_step_44 rfl (lv_at hl 0 rfl) ?_
          refine lv_aload_n hx hb dX4_step_45 rfl (lv_at hl 0 rfl) ?_
          refine va_get (D := D) (ci := 3) (v := .int x10) (C := RX4) (T := TX4) (N := 13) hx hb hts (fun w h => tbC w (tbfX4 w h)) hown hK hP 0 rfl rfl 5 (by decide) (hts (.fieldLink RX4 36 "PowerRails$Reader" "place" "I") (tbC _ wd237)) (fun _ h9 => h9) rfl dX4_step_46 ?_
          refine va_put (D := D) (ci := 3) (v := .int x10) (ty := .int) (C := RX4) (T := TX4) (N := 13) hx hb hts (fun w h => tbC w (tbfX4 w h)) tyX4 tyX4_ok nmX4 hown hK hP hD hS 0 rfl rfl 7 (by decide) (hts (.fieldLink RX4 88 "PowerRails$Reader" "from" "I") (tbC _ wd239)) (fun _ h9 => h9) rfl (by decide +kernel) rfl rfl (Nat.le_of_ble_eq_true rfl) dX4_step_49 (fun H locs hP hD hS => ?_)
          obtain ⟨hP, hD⟩ : xPD D A [oX4 rd tp rfa rya rla pl x10 kind x10 value told depth fault fplace, oX8 tp tba tl, oAI tba cI 400 tb] H := ⟨hP, hD⟩
          refine lv_aload_n hx hb dX4_step_52 rfl (lv_at hl 0 rfl) ?_
          refine lv_iconst (v := 0) hx hb dX4_step_53 (by decide) ?_
          refine va_put (D := D) (ci := 3) (v := .int 0) (ty := .int) (C := RX4) (T := TX4) (N := 13) hx hb hts (fun w h => tbC w (tbfX4 w h)) tyX4 tyX4_ok nmX4 hown hK hP hD hS 0 rfl rfl 8 (by decide) (hts (.fieldLink RX4 91 "PowerRails$Reader" "value" "I") (tbC _ wd240)) (fun _ h9 => h9) rfl (by decide +kernel) rfl rfl (Nat.le_of_ble_eq_true rfl) dX4_step_54 (fun H locs hP hD hS => ?_)
          obtain ⟨hP, hD⟩ : xPD D A [oX4 rd tp rfa rya rla pl x10 kind x10 0 told depth fault fplace, oX8 tp tba tl, oAI tba cI 400 tb] H := ⟨hP, hD⟩
          refine lv_aload_n hx hb dX4_step_57 rfl (lv_at hl 0 rfl) ?_
          refine va_get (D := D) (ci := 3) (v := .int x10) (C := RX4) (T := TX4) (N := 13) hx hb hts (fun w h => tbC w (tbfX4 w h)) hown hK hP 0 rfl rfl 5 (by decide) (hts (.fieldLink RX4 36 "PowerRails$Reader" "place" "I") (tbC _ wd237)) (fun _ h9 => h9) rfl dX4_step_58 ?_
          refine lv_aload_n hx hb dX4_step_61 rfl (lv_at hl 0 rfl) ?_
          refine va_get (D := D) (ci := 3) (v := .ref tp) (C := RX4) (T := TX4) (N := 13) hx hb hts (fun w h => tbC w (tbfX4 w h)) hown hK hP 0 rfl rfl 0 (by decide) (hts (.fieldLink RX4 9 "PowerRails$Reader" "tape" "LPowerRails$Tape;") (tbC _ wd232)) (fun _ h9 => h9) rfl dX4_step_62 ?_
          refine va_get (D := D) (ci := 7) (v := .int tl) (C := RX8) (T := TX8) (N := 2) hx hb hts (fun w h => tbC w (tbfX8 w h)) hown hK hP 1 rfl rfl 1 (by decide) (hts (.fieldLink RX4 82 "PowerRails$Tape" "length" "I") (tbC _ wd85)) (fun _ h9 => h9) rfl dX4_step_65 ?_
          refine lv_icmp_lt (tgt := 77) hx hb dX4_step_68 (by decide) (fun c_60 => ?_) (fun c_60 => ?_)
          · skip
            have i_60 : x10.toInt < tl.toInt := (ilt rfl rfl).mp c_60
            have hM : M_step tl tb fault fplace kind place = (K_step_33 v58 x10 tb fault fplace kind tl) := (show M_step tl tb fault fplace kind place = (if x10.toInt < tl.toInt then (K_step_33 v58 x10 tb fault fplace kind tl) else (K_step_34 x10 fault fplace)) from hM).trans (if_pos i_60)
            refine lv_aload_n hx hb dX4_step_77 rfl (lv_at hl 0 rfl) ?_
            refine va_get (D := D) (ci := 3) (v := .ref tp) (C := RX4) (T := TX4) (N := 13) hx hb hts (fun w h => tbC w (tbfX4 w h)) hown hK hP 0 rfl rfl 0 (by decide) (hts (.fieldLink RX4 9 "PowerRails$Reader" "tape" "LPowerRails$Tape;") (tbC _ wd232)) (fun _ h9 => h9) rfl dX4_step_78 ?_
            refine va_get (D := D) (ci := 7) (v := .ref tba) (C := RX8) (T := TX8) (N := 2) hx hb hts (fun w h => tbC w (tbfX8 w h)) hown hK hP 1 rfl rfl 0 (by decide) (hts (.fieldLink RX4 85 "PowerRails$Tape" "bytes" "[I") (tbC _ wd82)) (fun _ h9 => h9) rfl dX4_step_81 ?_
            refine lv_aload_n hx hb dX4_step_84 rfl (lv_at hl 0 rfl) ?_
            refine va_get (D := D) (ci := 3) (v := .int x10) (C := RX4) (T := TX4) (N := 13) hx hb hts (fun w h => tbC w (tbfX4 w h)) hown hK hP 0 rfl rfl 5 (by decide) (hts (.fieldLink RX4 36 "PowerRails$Reader" "place" "I") (tbC _ wd237)) (fun _ h9 => h9) rfl dX4_step_85 ?_
            refine va_iald hx hb hK hP 2 0 rfl rfl (vp_in_iff.mpr ⟨by omega, by omega⟩) dX4_step_88 ?_
            refine lv_topi (fun v61 ev61 => ?_)
            have qv61 : v61.toInt = v58.toInt := by rw [ev61, ev58]
            refine lv_istore_n (lv' := [(1, .int v61), (0, .ref rd)]) hx hb dX4_step_89 rfl hl (by decide) rfl (fun ls hl => ?_)
            refine lv_iload_n hx hb dX4_step_90 rfl (lv_at hl 0 rfl) ?_
            refine lv_bipush (v := 97) hx hb dX4_step_91 (by decide) ?_
            refine lv_icmp_lt (tgt := 118) hx hb dX4_step_93 (by decide) (fun c_62 => ?_) (fun c_62 => ?_)
            · skip
              have i_62 : v58.toInt < 97 := (ilt qv61 (by decide)).mp c_62
              have hM : M_step tl tb fault fplace kind place = (K_step_35 v58 x10 v61 fault fplace kind tb tl) := (show M_step tl tb fault fplace kind place = (if v58.toInt < 97 then (K_step_35 v58 x10 v61 fault fplace kind tb tl) else (K_step_36 v58 x10 v61 fault fplace kind tl tb)) from (by rw [ev61]; exact hM)).trans (if_pos i_62)
              refine lv_iload_n hx hb dX4_step_118 rfl (lv_at hl 0 rfl) ?_
              refine lv_bipush (v := 48) hx hb dX4_step_119 (by decide) ?_
              refine lv_icmp_lt (tgt := 150) hx hb dX4_step_121 (by decide) (fun c_63 => ?_) (fun c_63 => ?_)
              · skip
                have i_63 : v58.toInt < 48 := (ilt qv61 (by decide)).mp c_63
                have hM : M_step tl tb fault fplace kind place = (K_step_37 v58 x10 v61 fault fplace kind) := (show M_step tl tb fault fplace kind place = (if v58.toInt < 48 then (K_step_37 v58 x10 v61 fault fplace kind) else (K_step_38 v58 x10 v61 fault fplace kind tb tl)) from hM).trans (if_pos i_63)
                refine lv_iload_n hx hb dX4_step_150 rfl (lv_at hl 0 rfl) ?_
                refine lv_bipush (v := 40) hx hb dX4_step_151 (by decide) ?_
                refine lv_icmp_eq (tgt := 180) hx hb dX4_step_153 (by decide) (fun c_64 => ?_) (fun c_64 => ?_)
                · skip
                  have i_64 : v58.toInt = 40 := (ieq qv61 (by decide)).mp c_64
                  have hM : M_step tl tb fault fplace kind place = (K_step_39 x10 v61 fault fplace) := (show M_step tl tb fault fplace kind place = (if v58.toInt = 40 then (K_step_39 x10 v61 fault fplace) else (K_step_40 v58 x10 v61 fault fplace kind)) from hM).trans (if_pos i_64)
                  refine lv_aload_n hx hb dX4_step_180 rfl (lv_at hl 1 rfl) ?_
                  refine lv_iconst (v := 3) hx hb dX4_step_181 (by decide) ?_
                  refine va_put (D := D) (ci := 3) (v := .int 3) (ty := .int) (C := RX4) (T := TX4) (N := 13) hx hb hts (fun w h => tbC w (tbfX4 w h)) tyX4 tyX4_ok nmX4 hown hK hP hD hS 0 rfl rfl 6 (by decide) (hts (.fieldLink RX4 60 "PowerRails$Reader" "kind" "I") (tbC _ wd238)) (fun _ h9 => h9) rfl (by decide +kernel) rfl rfl (Nat.le_of_ble_eq_true rfl) dX4_step_182 (fun H locs hP hD hS => ?_)
                  obtain ⟨hP, hD⟩ : xPD D A [oX4 rd tp rfa rya rla pl x10 3 x10 0 told depth fault fplace, oX8 tp tba tl, oAI tba cI 400 tb] H := ⟨hP, hD⟩
                  refine lv_aload_n hx hb dX4_step_185 rfl (lv_at hl 1 rfl) ?_
                  refine lv_iload_n hx hb dX4_step_186 rfl (lv_at hl 0 rfl) ?_
                  refine va_put (D := D) (ci := 3) (v := .int v61) (ty := .int) (C := RX4) (T := TX4) (N := 13) hx hb hts (fun w h => tbC w (tbfX4 w h)) tyX4 tyX4_ok nmX4 hown hK hP hD hS 0 rfl rfl 8 (by decide) (hts (.fieldLink RX4 91 "PowerRails$Reader" "value" "I") (tbC _ wd240)) (fun _ h9 => h9) rfl (by decide +kernel) rfl rfl (Nat.le_of_ble_eq_true rfl) dX4_step_187 (fun H locs hP hD hS => ?_)
                  obtain ⟨hP, hD⟩ : xPD D A [oX4 rd tp rfa rya rla pl x10 3 x10 v61 told depth fault fplace, oX8 tp tba tl, oAI tba cI 400 tb] H := ⟨hP, hD⟩
                  refine lv_aload_n hx hb dX4_step_190 rfl (lv_at hl 1 rfl) ?_
                  refine lv_dup hx hb dX4_step_191 rfl ?_
                  refine va_get (D := D) (ci := 3) (v := .int x10) (C := RX4) (T := TX4) (N := 13) hx hb hts (fun w h => tbC w (tbfX4 w h)) hown hK hP 0 rfl rfl 5 (by decide) (hts (.fieldLink RX4 36 "PowerRails$Reader" "place" "I") (tbC _ wd237)) (fun _ h9 => h9) rfl dX4_step_192 ?_
                  refine lv_iconst (v := 1) hx hb dX4_step_195 (by decide) ?_
                  refine lv_iadd hx hb dX4_step_196 ?_
                  refine lv_topi (fun v65 ev65 => ?_)
                  have tv65 : v65.toInt = (x10.toInt + 1) := (congrArg Int32.toInt ev65).trans (xadd rfl (by decide) (by omega) (by omega))
                  refine va_put (D := D) (ci := 3) (v := .int v65) (ty := .int) (C := RX4) (T := TX4) (N := 13) hx hb hts (fun w h => tbC w (tbfX4 w h)) tyX4 tyX4_ok nmX4 hown hK hP hD hS 0 rfl rfl 5 (by decide) (hts (.fieldLink RX4 36 "PowerRails$Reader" "place" "I") (tbC _ wd237)) (fun _ h9 => h9) rfl (by decide +kernel) rfl rfl (Nat.le_of_ble_eq_true rfl) dX4_step_197 (fun H locs hP hD hS => ?_)
                  obtain ⟨hP, hD⟩ : xPD D A [oX4 rd tp rfa rya rla pl v65 3 x10 v61 told depth fault fplace, oX8 tp tba tl, oAI tba cI 400 tb] H := ⟨hP, hD⟩
                  refine lv_goto (tgt := 212) hx hb dX4_step_200 (by decide) ?_
                  refine W.widen (k := 0) (n := 0) (by decide) (by decide) ?_
                  exact W.vret hx hb hr (fun t ht hW => ⟨⟨(), rfl, trivial, ⟨v65, 3, x10, v61, fault, fplace, (xrng tv65 (by omega) (by omega)), (xrng rfl (by omega) (by omega)), (by rw [ev65]; exact hM), xB_of9 ht hW hP hK hD [0, 1, 2] (by decide +kernel) rfl⟩⟩, hS.F ht⟩) hS.2.2 dX4_step_212
                · skip
                  have i_64 : ¬ (v58.toInt = 40) := fun h9 => c_64 ((ieq qv61 (by decide)).mpr h9)
                  have hM : M_step tl tb fault fplace kind place = (K_step_40 v58 x10 v61 fault fplace kind) := (show M_step tl tb fault fplace kind place = (if v58.toInt = 40 then (K_step_39 x10 v61 fault fplace) else (K_step_40 v58 x10 v61 fault fplace kind)) from hM).trans (if_neg i_64)
                  refine lv_iload_n hx hb dX4_step_156 rfl (lv_at hl 0 rfl) ?_
                  refine lv_bipush (v := 41) hx hb dX4_step_157 (by decide) ?_
                  refine lv_icmp_eq (tgt := 180) hx hb dX4_step_159 (by decide) (fun c_66 => ?_) (fun c_66 => ?_)
                  · skip
                    have i_66 : v58.toInt = 41 := (ieq qv61 (by decide)).mp c_66
                    have hM : M_step tl tb fault fplace kind place = (K_step_41 x10 v61 fault fplace) := (show M_step tl tb fault fplace kind place = (if v58.toInt = 41 then (K_step_41 x10 v61 fault fplace) else (K_step_42 v58 x10 v61 fault fplace kind)) from hM).trans (if_pos i_66)
                    refine lv_aload_n hx hb dX4_step_180 rfl (lv_at hl 1 rfl) ?_
                    refine lv_iconst (v := 3) hx hb dX4_step_181 (by decide) ?_
                    refine va_put (D := D) (ci := 3) (v := .int 3) (ty := .int) (C := RX4) (T := TX4) (N := 13) hx hb hts (fun w h => tbC w (tbfX4 w h)) tyX4 tyX4_ok nmX4 hown hK hP hD hS 0 rfl rfl 6 (by decide) (hts (.fieldLink RX4 60 "PowerRails$Reader" "kind" "I") (tbC _ wd238)) (fun _ h9 => h9) rfl (by decide +kernel) rfl rfl (Nat.le_of_ble_eq_true rfl) dX4_step_182 (fun H locs hP hD hS => ?_)
                    obtain ⟨hP, hD⟩ : xPD D A [oX4 rd tp rfa rya rla pl x10 3 x10 0 told depth fault fplace, oX8 tp tba tl, oAI tba cI 400 tb] H := ⟨hP, hD⟩
                    refine lv_aload_n hx hb dX4_step_185 rfl (lv_at hl 1 rfl) ?_
                    refine lv_iload_n hx hb dX4_step_186 rfl (lv_at hl 0 rfl) ?_
                    refine va_put (D := D) (ci := 3) (v := .int v61) (ty := .int) (C := RX4) (T := TX4) (N := 13) hx hb hts (fun w h => tbC w (tbfX4 w h)) tyX4 tyX4_ok nmX4 hown hK hP hD hS 0 rfl rfl 8 (by decide) (hts (.fieldLink RX4 91 "PowerRails$Reader" "value" "I") (tbC _ wd240)) (fun _ h9 => h9) rfl (by decide +kernel) rfl rfl (Nat.le_of_ble_eq_true rfl) dX4_step_187 (fun H locs hP hD hS => ?_)
                    obtain ⟨hP, hD⟩ : xPD D A [oX4 rd tp rfa rya rla pl x10 3 x10 v61 told depth fault fplace, oX8 tp tba tl, oAI tba cI 400 tb] H := ⟨hP, hD⟩
                    refine lv_aload_n hx hb dX4_step_190 rfl (lv_at hl 1 rfl) ?_
                    refine lv_dup hx hb dX4_step_191 rfl ?_
                    refine va_get (D := D) (ci := 3) (v := .int x10) (C := RX4) (T := TX4) (N := 13) hx hb hts (fun w h => tbC w (tbfX4 w h)) hown hK hP 0 rfl rfl 5 (by decide) (hts (.fieldLink RX4 36 "PowerRails$Reader" "place" "I") (tbC _ wd237)) (fun _ h9 => h9) rfl dX4_step_192 ?_
                    refine lv_iconst (v := 1) hx hb dX4_step_195 (by decide) ?_
                    refine lv_iadd hx hb dX4_step_196 ?_
                    refine lv_topi (fun v67 ev67 => ?_)
                    have tv67 : v67.toInt = (x10.toInt + 1) := (congrArg Int32.toInt ev67).trans (xadd rfl (by decide) (by omega) (by omega))
                    refine va_put (D := D) (ci := 3) (v := .int v67) (ty := .int) (C := RX4) (T := TX4) (N := 13) hx hb hts (fun w h => tbC w (tbfX4 w h)) tyX4 tyX4_ok nmX4 hown hK hP hD hS 0 rfl rfl 5 (by decide) (hts (.fieldLink RX4 36 "PowerRails$Reader" "place" "I") (tbC _ wd237)) (fun _ h9 => h9) rfl (by decide +kernel) rfl rfl (Nat.le_of_ble_eq_true rfl) dX4_step_197 (fun H locs hP hD hS => ?_)
                    obtain ⟨hP, hD⟩ : xPD D A [oX4 rd tp rfa rya rla pl v67 3 x10 v61 told depth fault fplace, oX8 tp tba tl, oAI tba cI 400 tb] H := ⟨hP, hD⟩
                    refine lv_goto (tgt := 212) hx hb dX4_step_200 (by decide) ?_
                    refine W.widen (k := 0) (n := 0) (by decide) (by decide) ?_
                    exact W.vret hx hb hr (fun t ht hW => ⟨⟨(), rfl, trivial, ⟨v67, 3, x10, v61, fault, fplace, (xrng tv67 (by omega) (by omega)), (xrng rfl (by omega) (by omega)), (by rw [ev67]; exact hM), xB_of9 ht hW hP hK hD [0, 1, 2] (by decide +kernel) rfl⟩⟩, hS.F ht⟩) hS.2.2 dX4_step_212
                  · skip
                    have i_66 : ¬ (v58.toInt = 41) := fun h9 => c_66 ((ieq qv61 (by decide)).mpr h9)
                    have hM : M_step tl tb fault fplace kind place = (K_step_42 v58 x10 v61 fault fplace kind) := (show M_step tl tb fault fplace kind place = (if v58.toInt = 41 then (K_step_41 x10 v61 fault fplace) else (K_step_42 v58 x10 v61 fault fplace kind)) from hM).trans (if_neg i_66)
                    refine lv_iload_n hx hb dX4_step_162 rfl (lv_at hl 0 rfl) ?_
                    refine lv_bipush (v := 38) hx hb dX4_step_163 (by decide) ?_
                    refine lv_icmp_eq (tgt := 180) hx hb dX4_step_165 (by decide) (fun c_68 => ?_) (fun c_68 => ?_)
                    · skip
                      have i_68 : v58.toInt = 38 := (ieq qv61 (by decide)).mp c_68
                      have hM : M_step tl tb fault fplace kind place = (K_step_43 x10 v61 fault fplace) := (show M_step tl tb fault fplace kind place = (if v58.toInt = 38 then (K_step_43 x10 v61 fault fplace) else (K_step_44 x10 kind fault fplace)) from hM).trans (if_pos i_68)
                      refine lv_aload_n hx hb dX4_step_180 rfl (lv_at hl 1 rfl) ?_
                      refine lv_iconst (v := 3) hx hb dX4_step_181 (by decide) ?_
                      refine va_put (D := D) (ci := 3) (v := .int 3) (ty := .int) (C := RX4) (T := TX4) (N := 13) hx hb hts (fun w h => tbC w (tbfX4 w h)) tyX4 tyX4_ok nmX4 hown hK hP hD hS 0 rfl rfl 6 (by decide) (hts (.fieldLink RX4 60 "PowerRails$Reader" "kind" "I") (tbC _ wd238)) (fun _ h9 => h9) rfl (by decide +kernel) rfl rfl (Nat.le_of_ble_eq_true rfl) dX4_step_182 (fun H locs hP hD hS => ?_)
                      obtain ⟨hP, hD⟩ : xPD D A [oX4 rd tp rfa rya rla pl x10 3 x10 0 told depth fault fplace, oX8 tp tba tl, oAI tba cI 400 tb] H := ⟨hP, hD⟩
                      refine lv_aload_n hx hb dX4_step_185 rfl (lv_at hl 1 rfl) ?_
                      refine lv_iload_n hx hb dX4_step_186 rfl (lv_at hl 0 rfl) ?_
                      refine va_put (D := D) (ci := 3) (v := .int v61) (ty := .int) (C := RX4) (T := TX4) (N := 13) hx hb hts (fun w h => tbC w (tbfX4 w h)) tyX4 tyX4_ok nmX4 hown hK hP hD hS 0 rfl rfl 8 (by decide) (hts (.fieldLink RX4 91 "PowerRails$Reader" "value" "I") (tbC _ wd240)) (fun _ h9 => h9) rfl (by decide +kernel) rfl rfl (Nat.le_of_ble_eq_true rfl) dX4_step_187 (fun H locs hP hD hS => ?_)
                      obtain ⟨hP, hD⟩ : xPD D A [oX4 rd tp rfa rya rla pl x10 3 x10 v61 told depth fault fplace, oX8 tp tba tl, oAI tba cI 400 tb] H := ⟨hP, hD⟩
                      refine lv_aload_n hx hb dX4_step_190 rfl (lv_at hl 1 rfl) ?_
                      refine lv_dup hx hb dX4_step_191 rfl ?_
                      refine va_get (D := D) (ci := 3) (v := .int x10) (C := RX4) (T := TX4) (N := 13) hx hb hts (fun w h => tbC w (tbfX4 w h)) hown hK hP 0 rfl rfl 5 (by decide) (hts (.fieldLink RX4 36 "PowerRails$Reader" "place" "I") (tbC _ wd237)) (fun _ h9 => h9) rfl dX4_step_192 ?_
                      refine lv_iconst (v := 1) hx hb dX4_step_195 (by decide) ?_
                      refine lv_iadd hx hb dX4_step_196 ?_
                      refine lv_topi (fun v69 ev69 => ?_)
                      have tv69 : v69.toInt = (x10.toInt + 1) := (congrArg Int32.toInt ev69).trans (xadd rfl (by decide) (by omega) (by omega))
                      refine va_put (D := D) (ci := 3) (v := .int v69) (ty := .int) (C := RX4) (T := TX4) (N := 13) hx hb hts (fun w h => tbC w (tbfX4 w h)) tyX4 tyX4_ok nmX4 hown hK hP hD hS 0 rfl rfl 5 (by decide) (hts (.fieldLink RX4 36 "PowerRails$Reader" "place" "I") (tbC _ wd237)) (fun _ h9 => h9) rfl (by decide +kernel) rfl rfl (Nat.le_of_ble_eq_true rfl) dX4_step_197 (fun H locs hP hD hS => ?_)
                      obtain ⟨hP, hD⟩ : xPD D A [oX4 rd tp rfa rya rla pl v69 3 x10 v61 told depth fault fplace, oX8 tp tba tl, oAI tba cI 400 tb] H := ⟨hP, hD⟩
                      refine lv_goto (tgt := 212) hx hb dX4_step_200 (by decide) ?_
                      refine W.widen (k := 0) (n := 0) (by decide) (by decide) ?_
                      exact W.vret hx hb hr (fun t ht hW => ⟨⟨(), rfl, trivial, ⟨v69, 3, x10, v61, fault, fplace, (xrng tv69 (by omega) (by omega)), (xrng rfl (by omega) (by omega)), (by rw [ev69]; exact hM), xB_of9 ht hW hP hK hD [0, 1, 2] (by decide +kernel) rfl⟩⟩, hS.F ht⟩) hS.2.2 dX4_step_212
                    · skip
                      have i_68 : ¬ (v58.toInt = 38) := fun h9 => c_68 ((ieq qv61 (by decide)).mpr h9)
                      have hM : M_step tl tb fault fplace kind place = (K_step_44 x10 kind fault fplace) := (show M_step tl tb fault fplace kind place = (if v58.toInt = 38 then (K_step_43 x10 v61 fault fplace) else (K_step_44 x10 kind fault fplace)) from hM).trans (if_neg i_68)
                      refine lv_iload_n hx hb dX4_step_168 rfl (lv_at hl 0 rfl) ?_
                      refine lv_bipush (v := 124) hx hb dX4_step_169 (by decide) ?_
                      refine lv_icmp_eq (tgt := 180) hx hb dX4_step_171 (by decide) (fun c_70 => ?_) (fun c_70 => ?_)
                      · skip
                        have i_70 : v58.toInt = 124 := (ieq qv61 (by decide)).mp c_70
                        exfalso
                        omega
                      · skip
                        have i_70 : ¬ (v58.toInt = 124) := fun h9 => c_70 ((ieq qv61 (by decide)).mpr h9)
                        refine lv_iload_n hx hb dX4_step_174 rfl (lv_at hl 0 rfl) ?_
                        refine lv_bipush (v := 59) hx hb dX4_step_175 (by decide) ?_
                        refine lv_icmp_ne (tgt := 203) hx hb dX4_step_177 (by decide) (fun c_71 => ?_) (fun c_71 => ?_)
                        · skip
                          have i_71 : ¬ (v58.toInt = 59) := fun h9 => c_71 ((ieq qv61 (by decide)).mpr h9)
                          refine lv_aload_n hx hb dX4_step_203 rfl (lv_at hl 1 rfl) ?_
                          refine lv_iconst (v := 1) hx hb dX4_step_204 (by decide) ?_
                          refine lv_aload_n hx hb dX4_step_205 rfl (lv_at hl 1 rfl) ?_
                          refine va_get (D := D) (ci := 3) (v := .int x10) (C := RX4) (T := TX4) (N := 13) hx hb hts (fun w h => tbC w (tbfX4 w h)) hown hK hP 0 rfl rfl 7 (by decide) (hts (.fieldLink RX4 88 "PowerRails$Reader" "from" "I") (tbC _ wd239)) (fun _ h9 => h9) rfl dX4_step_206 ?_
                          obtain ⟨hPc, hDc, hFc, hC9⟩ := xpk (wc := W_refuse cI cJ cZ cG cH rd (1 : Int32) x10 tp rfa rya rla pl x10 kind x10 (0 : Int32) told depth fault fplace) hP hD hS hA [0] (by decide +kernel) rfl
                          refine va_callv (va_runV (As := [.int 1, .int x10]) (rest := []) ⟨hx, hb, hml, hown, hts⟩ (c_refuse l D cI cJ cZ cG cH H.size rd (1 : Int32) x10 tp rfa rya rla pl x10 kind x10 (0 : Int32) told depth fault fplace (xrng rfl (by omega) (by omega)) (xrng rfl (by omega) (by omega)) (xrng rfl (by omega) (by omega))) (cwV 2 hts (xGV tbC wd285 wd286 wd287 wd60 wd969) rfl rfl rfl (by decide +kernel) ⟨Nat.le_of_ble_eq_true rfl, Nat.le_of_ble_eq_true rfl⟩) ⟨xPc_blind, va_recv hK hPc (ci := 3) (q0 := 0) rfl rfl, xPc_pre hPc hK hDc⟩ rfl rfl hl.1 rfl (lv_room (Nat.le_of_ble_eq_true rfl)) dX4_step_209 ⟨Nat.le_of_ble_eq_true rfl, Nat.le_of_ble_eq_true rfl⟩) hS (fun q _ h => hFc q h) hFc (fun u t H1 locs ht hvm hw72 hB hz1 hk1 hS => ?_)
                          obtain ⟨fault_73, fplace_74, hf74_0, hP1, hK1, hD1⟩ := hB
                          rw [ht] at hP1
                          obtain ⟨hP, hD⟩ : xPD D A [oX8 tp tba tl, oAI tba cI 400 tb, oX4 rd tp rfa rya rla pl x10 kind x10 0 told depth fault_73 fplace_74] H1 := xjn 2 hP hD [0] [1, 2] hC9 rfl (by decide +kernel) (by decide +kernel) hk1 hFc hP1 hD1
                          generalize H1 = H at hP hS ⊢
                          have hf74_0 : M_refuse fault (1 : Int32) x10 fplace = (fault_73, fplace_74) := hf74_0
                          have h9M := congrArg (fun t9 => (K_step_45 x10 kind t9.1 t9.2)) hf74_0
                          have hM : M_step tl tb fault fplace kind place = (K_step_45 x10 kind fault_73 fplace_74) := (show M_step tl tb fault fplace kind place = ((fun t9 => (K_step_45 x10 kind t9.1 t9.2)) (M_refuse fault (1 : Int32) x10 fplace)) from hM).trans h9M
                          refine W.widen (k := 0) (n := 0) (by decide) (by decide) ?_
                          exact W.vret hx hb hr (fun t ht hW => ⟨⟨(), rfl, trivial, ⟨x10, kind, x10, 0, fault_73, fplace_74, (xrng rfl (by omega) (by omega)), (xrng rfl (by omega) (by omega)), hM, xB_of9 ht hW hP hK hD [2, 0, 1] (by decide +kernel) rfl⟩⟩, hS.F ht⟩) hS.2.2 dX4_step_212
                        · skip
                          have i_71 : v58.toInt = 59 := (ieq qv61 (by decide)).mp c_71
                          exfalso
                          omega
              · skip
                have i_63 : ¬ (v58.toInt < 48) := fun h9 => c_63 ((ilt qv61 (by decide)).mpr h9)
                have hM : M_step tl tb fault fplace kind place = (K_step_38 v58 x10 v61 fault fplace kind tb tl) := (show M_step tl tb fault fplace kind place = (if v58.toInt < 48 then (K_step_37 v58 x10 v61 fault fplace kind) else (K_step_38 v58 x10 v61 fault fplace kind tb tl)) from hM).trans (if_neg i_63)
                refine lv_iload_n hx hb dX4_step_124 rfl (lv_at hl 0 rfl) ?_
                refine lv_bipush (v := 57) hx hb dX4_step_125 (by decide) ?_
                refine lv_icmp_gt (tgt := 150) hx hb dX4_step_127 (by decide) (fun c_75 => ?_) (fun c_75 => ?_)
                · skip
                  have i_75 : 57 < v58.toInt := (ilt (by decide) qv61).mp c_75
                  have hM : M_step tl tb fault fplace kind place = (K_step_46 v58 x10 v61 fault fplace kind) := (show M_step tl tb fault fplace kind place = (if 57 < v58.toInt then (K_step_46 v58 x10 v61 fault fplace kind) else (K_step_47 x10 fault fplace tb tl)) from hM).trans (if_pos i_75)
                  refine lv_iload_n hx hb dX4_step_150 rfl (lv_at hl 0 rfl) ?_
                  refine lv_bipush (v := 40) hx hb dX4_step_151 (by decide) ?_
                  refine lv_icmp_eq (tgt := 180) hx hb dX4_step_153 (by decide) (fun c_76 => ?_) (fun c_76 => ?_)
                  · skip
                    have i_76 : v58.toInt = 40 := (ieq qv61 (by decide)).mp c_76
                    exfalso
                    omega
                  · skip
                    have i_76 : ¬ (v58.toInt = 40) := fun h9 => c_76 ((ieq qv61 (by decide)).mpr h9)
                    refine lv_iload_n hx hb dX4_step_156 rfl (lv_at hl 0 rfl) ?_
                    refine lv_bipush (v := 41) hx hb dX4_step_157 (by decide) ?_
                    refine lv_icmp_eq (tgt := 180) hx hb dX4_step_159 (by decide) (fun c_77 => ?_) (fun c_77 => ?_)
                    · skip
                      have i_77 : v58.toInt = 41 := (ieq qv61 (by decide)).mp c_77
                      exfalso
                      omega
                    · skip
                      have i_77 : ¬ (v58.toInt = 41) := fun h9 => c_77 ((ieq qv61 (by decide)).mpr h9)
                      refine lv_iload_n hx hb dX4_step_162 rfl (lv_at hl 0 rfl) ?_
                      refine lv_bipush (v := 38) hx hb dX4_step_163 (by decide) ?_
                      refine lv_icmp_eq (tgt := 180) hx hb dX4_step_165 (by decide) (fun c_78 => ?_) (fun c_78 => ?_)
                      · skip
                        have i_78 : v58.toInt = 38 := (ieq qv61 (by decide)).mp c_78
                        exfalso
                        omega
                      · skip
                        have i_78 : ¬ (v58.toInt = 38) := fun h9 => c_78 ((ieq qv61 (by decide)).mpr h9)
                        refine lv_iload_n hx hb dX4_step_168 rfl (lv_at hl 0 rfl) ?_
                        refine lv_bipush (v := 124) hx hb dX4_step_169 (by decide) ?_
                        refine lv_icmp_eq (tgt := 180) hx hb dX4_step_171 (by decide) (fun c_79 => ?_) (fun c_79 => ?_)
                        · skip
                          have i_79 : v58.toInt = 124 := (ieq qv61 (by decide)).mp c_79
                          exfalso
                          omega
                        · skip
                          have i_79 : ¬ (v58.toInt = 124) := fun h9 => c_79 ((ieq qv61 (by decide)).mpr h9)
                          refine lv_iload_n hx hb dX4_step_174 rfl (lv_at hl 0 rfl) ?_
                          refine lv_bipush (v := 59) hx hb dX4_step_175 (by decide) ?_
                          refine lv_icmp_ne (tgt := 203) hx hb dX4_step_177 (by decide) (fun c_80 => ?_) (fun c_80 => ?_)
                          · skip
                            have i_80 : ¬ (v58.toInt = 59) := fun h9 => c_80 ((ieq qv61 (by decide)).mpr h9)
                            have hM : M_step tl tb fault fplace kind place = (K_step_48 x10 kind fault fplace) := (show M_step tl tb fault fplace kind place = (if v58.toInt = 59 then (K_step_49 x10 v61 fault fplace) else (K_step_48 x10 kind fault fplace)) from hM).trans (if_neg i_80)
                            refine lv_aload_n hx hb dX4_step_203 rfl (lv_at hl 1 rfl) ?_
                            refine lv_iconst (v := 1) hx hb dX4_step_204 (by decide) ?_
                            refine lv_aload_n hx hb dX4_step_205 rfl (lv_at hl 1 rfl) ?_
                            refine va_get (D := D) (ci := 3) (v := .int x10) (C := RX4) (T := TX4) (N := 13) hx hb hts (fun w h => tbC w (tbfX4 w h)) hown hK hP 0 rfl rfl 7 (by decide) (hts (.fieldLink RX4 88 "PowerRails$Reader" "from" "I") (tbC _ wd239)) (fun _ h9 => h9) rfl dX4_step_206 ?_
                            obtain ⟨hPc, hDc, hFc, hC9⟩ := xpk (wc := W_refuse cI cJ cZ cG cH rd (1 : Int32) x10 tp rfa rya rla pl x10 kind x10 (0 : Int32) told depth fault fplace) hP hD hS hA [0] (by decide +kernel) rfl
                            refine va_callv (va_runV (As := [.int 1, .int x10]) (rest := []) ⟨hx, hb, hml, hown, hts⟩ (c_refuse l D cI cJ cZ cG cH H.size rd (1 : Int32) x10 tp rfa rya rla pl x10 kind x10 (0 : Int32) told depth fault fplace (xrng rfl (by omega) (by omega)) (xrng rfl (by omega) (by omega)) (xrng rfl (by omega) (by omega))) (cwV 2 hts (xGV tbC wd285 wd286 wd287 wd60 wd969) rfl rfl rfl (by decide +kernel) ⟨Nat.le_of_ble_eq_true rfl, Nat.le_of_ble_eq_true rfl⟩) ⟨xPc_blind, va_recv hK hPc (ci := 3) (q0 := 0) rfl rfl, xPc_pre hPc hK hDc⟩ rfl rfl hl.1 rfl (lv_room (Nat.le_of_ble_eq_true rfl)) dX4_step_209 ⟨Nat.le_of_ble_eq_true rfl, Nat.le_of_ble_eq_true rfl⟩) hS (fun q _ h => hFc q h) hFc (fun u t H1 locs ht hvm hw81 hB hz1 hk1 hS => ?_)
                            obtain ⟨fault_82, fplace_83, hf83_0, hP1, hK1, hD1⟩ := hB
                            rw [ht] at hP1
                            obtain ⟨hP, hD⟩ : xPD D A [oX8 tp tba tl, oAI tba cI 400 tb, oX4 rd tp rfa rya rla pl x10 kind x10 0 told depth fault_82 fplace_83] H1 := xjn 2 hP hD [0] [1, 2] hC9 rfl (by decide +kernel) (by decide +kernel) hk1 hFc hP1 hD1
                            generalize H1 = H at hP hS ⊢
                            have hf83_0 : M_refuse fault (1 : Int32) x10 fplace = (fault_82, fplace_83) := hf83_0
                            have h9M := congrArg (fun t9 => (K_step_50 x10 kind t9.1 t9.2)) hf83_0
                            have hM : M_step tl tb fault fplace kind place = (K_step_50 x10 kind fault_82 fplace_83) := (show M_step tl tb fault fplace kind place = ((fun t9 => (K_step_50 x10 kind t9.1 t9.2)) (M_refuse fault (1 : Int32) x10 fplace)) from hM).trans h9M
                            refine W.widen (k := 0) (n := 0) (by decide) (by decide) ?_
                            exact W.vret hx hb hr (fun t ht hW => ⟨⟨(), rfl, trivial, ⟨x10, kind, x10, 0, fault_82, fplace_83, (xrng rfl (by omega) (by omega)), (xrng rfl (by omega) (by omega)), hM, xB_of9 ht hW hP hK hD [2, 0, 1] (by decide +kernel) rfl⟩⟩, hS.F ht⟩) hS.2.2 dX4_step_212
                          · skip
                            have i_80 : v58.toInt = 59 := (ieq qv61 (by decide)).mp c_80
                            have hM : M_step tl tb fault fplace kind place = (K_step_49 x10 v61 fault fplace) := (show M_step tl tb fault fplace kind place = (if v58.toInt = 59 then (K_step_49 x10 v61 fault fplace) else (K_step_48 x10 kind fault fplace)) from hM).trans (if_pos i_80)
                            refine lv_aload_n hx hb dX4_step_180 rfl (lv_at hl 1 rfl) ?_
                            refine lv_iconst (v := 3) hx hb dX4_step_181 (by decide) ?_
                            refine va_put (D := D) (ci := 3) (v := .int 3) (ty := .int) (C := RX4) (T := TX4) (N := 13) hx hb hts (fun w h => tbC w (tbfX4 w h)) tyX4 tyX4_ok nmX4 hown hK hP hD hS 0 rfl rfl 6 (by decide) (hts (.fieldLink RX4 60 "PowerRails$Reader" "kind" "I") (tbC _ wd238)) (fun _ h9 => h9) rfl (by decide +kernel) rfl rfl (Nat.le_of_ble_eq_true rfl) dX4_step_182 (fun H locs hP hD hS => ?_)
                            obtain ⟨hP, hD⟩ : xPD D A [oX4 rd tp rfa rya rla pl x10 3 x10 0 told depth fault fplace, oX8 tp tba tl, oAI tba cI 400 tb] H := ⟨hP, hD⟩
                            refine lv_aload_n hx hb dX4_step_185 rfl (lv_at hl 1 rfl) ?_
                            refine lv_iload_n hx hb dX4_step_186 rfl (lv_at hl 0 rfl) ?_
                            refine va_put (D := D) (ci := 3) (v := .int v61) (ty := .int) (C := RX4) (T := TX4) (N := 13) hx hb hts (fun w h => tbC w (tbfX4 w h)) tyX4 tyX4_ok nmX4 hown hK hP hD hS 0 rfl rfl 8 (by decide) (hts (.fieldLink RX4 91 "PowerRails$Reader" "value" "I") (tbC _ wd240)) (fun _ h9 => h9) rfl (by decide +kernel) rfl rfl (Nat.le_of_ble_eq_true rfl) dX4_step_187 (fun H locs hP hD hS => ?_)
                            obtain ⟨hP, hD⟩ : xPD D A [oX4 rd tp rfa rya rla pl x10 3 x10 v61 told depth fault fplace, oX8 tp tba tl, oAI tba cI 400 tb] H := ⟨hP, hD⟩
                            refine lv_aload_n hx hb dX4_step_190 rfl (lv_at hl 1 rfl) ?_
                            refine lv_dup hx hb dX4_step_191 rfl ?_
                            refine va_get (D := D) (ci := 3) (v := .int x10) (C := RX4) (T := TX4) (N := 13) hx hb hts (fun w h => tbC w (tbfX4 w h)) hown hK hP 0 rfl rfl 5 (by decide) (hts (.fieldLink RX4 36 "PowerRails$Reader" "place" "I") (tbC _ wd237)) (fun _ h9 => h9) rfl dX4_step_192 ?_
                            refine lv_iconst (v := 1) hx hb dX4_step_195 (by decide) ?_
                            refine lv_iadd hx hb dX4_step_196 ?_
                            refine lv_topi (fun v84 ev84 => ?_)
                            have tv84 : v84.toInt = (x10.toInt + 1) := (congrArg Int32.toInt ev84).trans (xadd rfl (by decide) (by omega) (by omega))
                            refine va_put (D := D) (ci := 3) (v := .int v84) (ty := .int) (C := RX4) (T := TX4) (N := 13) hx hb hts (fun w h => tbC w (tbfX4 w h)) tyX4 tyX4_ok nmX4 hown hK hP hD hS 0 rfl rfl 5 (by decide) (hts (.fieldLink RX4 36 "PowerRails$Reader" "place" "I") (tbC _ wd237)) (fun _ h9 => h9) rfl (by decide +kernel) rfl rfl (Nat.le_of_ble_eq_true rfl) dX4_step_197 (fun H locs hP hD hS => ?_)
                            obtain ⟨hP, hD⟩ : xPD D A [oX4 rd tp rfa rya rla pl v84 3 x10 v61 told depth fault fplace, oX8 tp tba tl, oAI tba cI 400 tb] H := ⟨hP, hD⟩
                            refine lv_goto (tgt := 212) hx hb dX4_step_200 (by decide) ?_
                            refine W.widen (k := 0) (n := 0) (by decide) (by decide) ?_
                            exact W.vret hx hb hr (fun t ht hW => ⟨⟨(), rfl, trivial, ⟨v84, 3, x10, v61, fault, fplace, (xrng tv84 (by omega) (by omega)), (xrng rfl (by omega) (by omega)), (by rw [ev84]; exact hM), xB_of9 ht hW hP hK hD [0, 1, 2] (by decide +kernel) rfl⟩⟩, hS.F ht⟩) hS.2.2 dX4_step_212
                · skip
                  have i_75 : ¬ (57 < v58.toInt) := fun h9 => c_75 ((ilt (by decide) qv61).mpr h9)
                  have hM : M_step tl tb fault fplace kind place = (K_step_47 x10 fault fplace tb tl) := (show M_step tl tb fault fplace kind place = (if 57 < v58.toInt then (K_step_46 v58 x10 v61 fault fplace kind) else (K_step_47 x10 fault fplace tb tl)) from hM).trans (if_neg i_75)
                  refine lv_aload_n hx hb dX4_step_130 rfl (lv_at hl 1 rfl) ?_
                  refine lv_iconst (v := 2) hx hb dX4_step_131 (by decide) ?_
                  refine va_put (D := D) (ci := 3) (v := .int 2) (ty := .int) (C := RX4) (T := TX4) (N := 13) hx hb hts (fun w h => tbC w (tbfX4 w h)) tyX4 tyX4_ok nmX4 hown hK hP hD hS 0 rfl rfl 6 (by decide) (hts (.fieldLink RX4 60 "PowerRails$Reader" "kind" "I") (tbC _ wd238)) (fun _ h9 => h9) rfl (by decide +kernel) rfl rfl (Nat.le_of_ble_eq_true rfl) dX4_step_132 (fun H locs hP hD hS => ?_)
                  obtain ⟨hP, hD⟩ : xPD D A [oX4 rd tp rfa rya rla pl x10 2 x10 0 told depth fault fplace, oX8 tp tba tl, oAI tba cI 400 tb] H := ⟨hP, hD⟩
                  refine lv_aload_n hx hb dX4_step_135 rfl (lv_at hl 1 rfl) ?_
                  refine lv_bipush (v := 48) hx hb dX4_step_136 (by decide) ?_
                  refine lv_bipush (v := 57) hx hb dX4_step_138 (by decide) ?_
                  obtain ⟨hPc, hDc, hFc, hC9⟩ := xpk (wc := W_skipWithin cI cJ cZ cG cH rd (48 : Int32) (57 : Int32) tp rfa rya rla pl x10 (2 : Int32) x10 (0 : Int32) told depth fault fplace tba tl tb) hP hD hS hA [0, 1, 2] (by decide +kernel) rfl
                  refine va_callv (va_runV (As := [.int 48, .int 57]) (rest := []) ⟨hx, hb, hml, hown, hts⟩ (c_skipWithin l D cI cJ cZ cG cH H.size rd (48 : Int32) (57 : Int32) tp rfa rya rla pl x10 (2 : Int32) x10 (0 : Int32) told depth fault fplace tba tl tb (xrng rfl (by omega) (by omega)) (xrng rfl (by omega) (by omega)) (xrng rfl (by omega) (by omega)) (xrng rfl (by omega) (by omega))) (cwV 2 hts (xGV tbC wd279 wd280 wd281 wd60 wd967) rfl rfl rfl (by decide +kernel) ⟨Nat.le_of_ble_eq_true rfl, Nat.le_of_ble_eq_true rfl⟩) ⟨xPc_blind, va_recv hK hPc (ci := 3) (q0 := 0) rfl rfl, xPc_pre hPc hK hDc⟩ rfl rfl hl.1 rfl (lv_room (Nat.le_of_ble_eq_true rfl)) dX4_step_140 ⟨Nat.le_of_ble_eq_true rfl, Nat.le_of_ble_eq_true rfl⟩) hS (fun q _ h => hFc q h) hFc (fun u t H1 locs ht hvm hw85 hB hz1 hk1 hS => ?_)
                  obtain ⟨place_86, hf86_0, hf86_1, hP1, hK1, hD1⟩ := hB
                  rw [ht] at hP1
                  obtain ⟨hP, hD⟩ : xPD D A [oX4 rd tp rfa rya rla pl place_86 2 x10 0 told depth fault fplace, oX8 tp tba tl, oAI tba cI 400 tb] H1 := xjn 0 hP hD [0, 1, 2] [] hC9 rfl (by decide +kernel) (by decide +kernel) hk1 hFc hP1 hD1
                  generalize H1 = H at hP hS ⊢
                  have hf86_0 : 0 ≤ place_86.toInt ∧ place_86.toInt ≤ 400 := hf86_0
                  have hf86_1 : M_skipWithin tl tb (48 : Int32) (57 : Int32) x10 = (place_86) := hf86_1
                  have h9M := congrArg (fun t9 => (K_step_51 t9 x10 fault fplace tb)) hf86_1
                  have hM : M_step tl tb fault fplace kind place = (K_step_51 place_86 x10 fault fplace tb) := (show M_step tl tb fault fplace kind place = ((fun t9 => (K_step_51 t9 x10 fault fplace tb)) (M_skipWithin tl tb (48 : Int32) (57 : Int32) x10)) from hM).trans h9M
                  refine lv_aload_n hx hb dX4_step_143 rfl (lv_at hl 1 rfl) ?_
                  obtain ⟨hPc, hDc, hFc, hC9⟩ := xpk (wc := W_valueNumber cI cJ cZ cG cH rd tp rfa rya rla pl place_86 (2 : Int32) x10 (0 : Int32) told depth fault fplace tba tl tb) hP hD hS hA [0, 1, 2] (by decide +kernel) rfl
                  refine va_callv (va_runV (As := []) (rest := []) ⟨hx, hb, hml, hown, hts⟩ (c_valueNumber l D cI cJ cZ cG cH H.size rd tp rfa rya rla pl place_86 (2 : Int32) x10 (0 : Int32) told depth fault fplace tba tl tb (xrng rfl (by omega) (by omega)) (xrng rfl (by omega) (by omega)) (xrng rfl (by omega) (by omega)) (xrng rfl (by omega) (by omega))) (cwV 0 hts (xGV tbC wd282 wd283 wd284 wd60 wd968) rfl rfl rfl (by decide +kernel) ⟨Nat.le_of_ble_eq_true rfl, Nat.le_of_ble_eq_true rfl⟩) ⟨xPc_blind, va_recv hK hPc (ci := 3) (q0 := 0) rfl rfl, xPc_pre hPc hK hDc⟩ rfl rfl hl.1 rfl (lv_room (Nat.le_of_ble_eq_true rfl)) dX4_step_144 ⟨Nat.le_of_ble_eq_true rfl, Nat.le_of_ble_eq_true rfl⟩) hS (fun q _ h => hFc q h) hFc (fun u t H1 locs ht hvm hw87 hB hz1 hk1 hS => ?_)
                  obtain ⟨value_88, fault_89, fplace_90, hf90_0, hP1, hK1, hD1⟩ := hB
                  rw [ht] at hP1
                  obtain ⟨hP, hD⟩ : xPD D A [oX4 rd tp rfa rya rla pl place_86 2 x10 value_88 told depth fault_89 fplace_90, oX8 tp tba tl, oAI tba cI 400 tb] H1 := xjn 0 hP hD [0, 1, 2] [] hC9 rfl (by decide +kernel) (by decide +kernel) hk1 hFc hP1 hD1
                  generalize H1 = H at hP hS ⊢
                  have hf90_0 : M_valueNumber place_86 x10 fault fplace tb (0 : Int32) = (value_88, fault_89, fplace_90) := hf90_0
                  have h9M := congrArg (fun t9 => (K_step_52 place_86 x10 t9.1 t9.2.1 t9.2.2)) hf90_0
                  have hM : M_step tl tb fault fplace kind place = (K_step_52 place_86 x10 value_88 fault_89 fplace_90) := (show M_step tl tb fault fplace kind place = ((fun t9 => (K_step_52 place_86 x10 t9.1 t9.2.1 t9.2.2)) (M_valueNumber place_86 x10 fault fplace tb (0 : Int32))) from hM).trans h9M
                  refine lv_goto (tgt := 212) hx hb dX4_step_147 (by decide) ?_
                  refine W.widen (k := 0) (n := 0) (by decide) (by decide) ?_
                  exact W.vret hx hb hr (fun t ht hW => ⟨⟨(), rfl, trivial, ⟨place_86, 2, x10, value_88, fault_89, fplace_90, (xrng rfl (by omega) (by omega)), (xrng rfl (by omega) (by omega)), hM, xB_of9 ht hW hP hK hD [0, 1, 2] (by decide +kernel) rfl⟩⟩, hS.F ht⟩) hS.2.2 dX4_step_212
            · skip
              have i_62 : ¬ (v58.toInt < 97) := fun h9 => c_62 ((ilt qv61 (by decide)).mpr h9)
              have hM : M_step tl tb fault fplace kind place = (K_step_36 v58 x10 v61 fault fplace kind tl tb) := (show M_step tl tb fault fplace kind place = (if v58.toInt < 97 then (K_step_35 v58 x10 v61 fault fplace kind tb tl) else (K_step_36 v58 x10 v61 fault fplace kind tl tb)) from (by rw [ev61]; exact hM)).trans (if_neg i_62)
              refine lv_iload_n hx hb dX4_step_96 rfl (lv_at hl 0 rfl) ?_
              refine lv_bipush (v := 122) hx hb dX4_step_97 (by decide) ?_
              refine lv_icmp_gt (tgt := 118) hx hb dX4_step_99 (by decide) (fun c_91 => ?_) (fun c_91 => ?_)
              · skip
                have i_91 : 122 < v58.toInt := (ilt (by decide) qv61).mp c_91
                have hM : M_step tl tb fault fplace kind place = (K_step_53 v58 x10 v61 fault fplace kind) := (show M_step tl tb fault fplace kind place = (if 122 < v58.toInt then (K_step_53 v58 x10 v61 fault fplace kind) else (K_step_54 x10 fault fplace tl tb)) from hM).trans (if_pos i_91)
                refine lv_iload_n hx hb dX4_step_118 rfl (lv_at hl 0 rfl) ?_
                refine lv_bipush (v := 48) hx hb dX4_step_119 (by decide) ?_
                refine lv_icmp_lt (tgt := 150) hx hb dX4_step_121 (by decide) (fun c_92 => ?_) (fun c_92 => ?_)
                · skip
                  have i_92 : v58.toInt < 48 := (ilt qv61 (by decide)).mp c_92
                  exfalso
                  omega
                · skip
                  have i_92 : ¬ (v58.toInt < 48) := fun h9 => c_92 ((ilt qv61 (by decide)).mpr h9)
                  refine lv_iload_n hx hb dX4_step_124 rfl (lv_at hl 0 rfl) ?_
                  refine lv_bipush (v := 57) hx hb dX4_step_125 (by decide) ?_
                  refine lv_icmp_gt (tgt := 150) hx hb dX4_step_127 (by decide) (fun c_93 => ?_) (fun c_93 => ?_)
                  · skip
                    have i_93 : 57 < v58.toInt := (ilt (by decide) qv61).mp c_93
                    refine lv_iload_n hx hb dX4_step_150 rfl (lv_at hl 0 rfl) ?_
                    refine lv_bipush (v := 40) hx hb dX4_step_151 (by decide) ?_
                    refine lv_icmp_eq (tgt := 180) hx hb dX4_step_153 (by decide) (fun c_94 => ?_) (fun c_94 => ?_)
                    · skip
                      have i_94 : v58.toInt = 40 := (ieq qv61 (by decide)).mp c_94
                      exfalso
                      omega
                    · skip
                      have i_94 : ¬ (v58.toInt = 40) := fun h9 => c_94 ((ieq qv61 (by decide)).mpr h9)
                      refine lv_iload_n hx hb dX4_step_156 rfl (lv_at hl 0 rfl) ?_
                      refine lv_bipush (v := 41) hx hb dX4_step_157 (by decide) ?_
                      refine lv_icmp_eq (tgt := 180) hx hb dX4_step_159 (by decide) (fun c_95 => ?_) (fun c_95 => ?_)
                      · skip
                        have i_95 : v58.toInt = 41 := (ieq qv61 (by decide)).mp c_95
                        exfalso
                        omega
                      · skip
                        have i_95 : ¬ (v58.toInt = 41) := fun h9 => c_95 ((ieq qv61 (by decide)).mpr h9)
                        refine lv_iload_n hx hb dX4_step_162 rfl (lv_at hl 0 rfl) ?_
                        refine lv_bipush (v := 38) hx hb dX4_step_163 (by decide) ?_
                        refine lv_icmp_eq (tgt := 180) hx hb dX4_step_165 (by decide) (fun c_96 => ?_) (fun c_96 => ?_)
                        · skip
                          have i_96 : v58.toInt = 38 := (ieq qv61 (by decide)).mp c_96
                          exfalso
                          omega
                        · skip
                          have i_96 : ¬ (v58.toInt = 38) := fun h9 => c_96 ((ieq qv61 (by decide)).mpr h9)
                          refine lv_iload_n hx hb dX4_step_168 rfl (lv_at hl 0 rfl) ?_
                          refine lv_bipush (v := 124) hx hb dX4_step_169 (by decide) ?_
                          refine lv_icmp_eq (tgt := 180) hx hb dX4_step_171 (by decide) (fun c_97 => ?_) (fun c_97 => ?_)
                          · skip
                            have i_97 : v58.toInt = 124 := (ieq qv61 (by decide)).mp c_97
                            have hM : M_step tl tb fault fplace kind place = (K_step_55 x10 v61 fault fplace) := (show M_step tl tb fault fplace kind place = (if v58.toInt = 124 then (K_step_55 x10 v61 fault fplace) else (K_step_56 x10 kind fault fplace)) from hM).trans (if_pos i_97)
                            refine lv_aload_n hx hb dX4_step_180 rfl (lv_at hl 1 rfl) ?_
                            refine lv_iconst (v := 3) hx hb dX4_step_181 (by decide) ?_
                            refine va_put (D := D) (ci := 3) (v := .int 3) (ty := .int) (C := RX4) (T := TX4) (N := 13) hx hb hts (fun w h => tbC w (tbfX4 w h)) tyX4 tyX4_ok nmX4 hown hK hP hD hS 0 rfl rfl 6 (by decide) (hts (.fieldLink RX4 60 "PowerRails$Reader" "kind" "I") (tbC _ wd238)) (fun _ h9 => h9) rfl (by decide +kernel) rfl rfl (Nat.le_of_ble_eq_true rfl) dX4_step_182 (fun H locs hP hD hS => ?_)
                            obtain ⟨hP, hD⟩ : xPD D A [oX4 rd tp rfa rya rla pl x10 3 x10 0 told depth fault fplace, oX8 tp tba tl, oAI tba cI 400 tb] H := ⟨hP, hD⟩
                            refine lv_aload_n hx hb dX4_step_185 rfl (lv_at hl 1 rfl) ?_
                            refine lv_iload_n hx hb dX4_step_186 rfl (lv_at hl 0 rfl) ?_
                            refine va_put (D := D) (ci := 3) (v := .int v61) (ty := .int) (C := RX4) (T := TX4) (N := 13) hx hb hts (fun w h => tbC w (tbfX4 w h)) tyX4 tyX4_ok nmX4 hown hK hP hD hS 0 rfl rfl 8 (by decide) (hts (.fieldLink RX4 91 "PowerRails$Reader" "value" "I") (tbC _ wd240)) (fun _ h9 => h9) rfl (by decide +kernel) rfl rfl (Nat.le_of_ble_eq_true rfl) dX4_step_187 (fun H locs hP hD hS => ?_)
                            obtain ⟨hP, hD⟩ : xPD D A [oX4 rd tp rfa rya rla pl x10 3 x10 v61 told depth fault fplace, oX8 tp tba tl, oAI tba cI 400 tb] H := ⟨hP, hD⟩
                            refine lv_aload_n hx hb dX4_step_190 rfl (lv_at hl 1 rfl) ?_
                            refine lv_dup hx hb dX4_step_191 rfl ?_
                            refine va_get (D := D) (ci := 3) (v := .int x10) (C := RX4) (T := TX4) (N := 13) hx hb hts (fun w h => tbC w (tbfX4 w h)) hown hK hP 0 rfl rfl 5 (by decide) (hts (.fieldLink RX4 36 "PowerRails$Reader" "place" "I") (tbC _ wd237)) (fun _ h9 => h9) rfl dX4_step_192 ?_
                            refine lv_iconst (v := 1) hx hb dX4_step_195 (by decide) ?_
                            refine lv_iadd hx hb dX4_step_196 ?_
                            refine lv_topi (fun v98 ev98 => ?_)
                            have tv98 : v98.toInt = (x10.toInt + 1) := (congrArg Int32.toInt ev98).trans (xadd rfl (by decide) (by omega) (by omega))
                            refine va_put (D := D) (ci := 3) (v := .int v98) (ty := .int) (C := RX4) (T := TX4) (N := 13) hx hb hts (fun w h => tbC w (tbfX4 w h)) tyX4 tyX4_ok nmX4 hown hK hP hD hS 0 rfl rfl 5 (by decide) (hts (.fieldLink RX4 36 "PowerRails$Reader" "place" "I") (tbC _ wd237)) (fun _ h9 => h9) rfl (by decide +kernel) rfl rfl (Nat.le_of_ble_eq_true rfl) dX4_step_197 (fun H locs hP hD hS => ?_)
                            obtain ⟨hP, hD⟩ : xPD D A [oX4 rd tp rfa rya rla pl v98 3 x10 v61 told depth fault fplace, oX8 tp tba tl, oAI tba cI 400 tb] H := ⟨hP, hD⟩
                            refine lv_goto (tgt := 212) hx hb dX4_step_200 (by decide) ?_
                            refine W.widen (k := 0) (n := 0) (by decide) (by decide) ?_
                            exact W.vret hx hb hr (fun t ht hW => ⟨⟨(), rfl, trivial, ⟨v98, 3, x10, v61, fault, fplace, (xrng tv98 (by omega) (by omega)), (xrng rfl (by omega) (by omega)), (by rw [ev98]; exact hM), xB_of9 ht hW hP hK hD [0, 1, 2] (by decide +kernel) rfl⟩⟩, hS.F ht⟩) hS.2.2 dX4_step_212
                          · skip
                            have i_97 : ¬ (v58.toInt = 124) := fun h9 => c_97 ((ieq qv61 (by decide)).mpr h9)
                            have hM : M_step tl tb fault fplace kind place = (K_step_56 x10 kind fault fplace) := (show M_step tl tb fault fplace kind place = (if v58.toInt = 124 then (K_step_55 x10 v61 fault fplace) else (K_step_56 x10 kind fault fplace)) from hM).trans (if_neg i_97)
                            refine lv_iload_n hx hb dX4_step_174 rfl (lv_at hl 0 rfl) ?_
                            refine lv_bipush (v := 59) hx hb dX4_step_175 (by decide) ?_
                            refine lv_icmp_ne (tgt := 203) hx hb dX4_step_177 (by decide) (fun c_99 => ?_) (fun c_99 => ?_)
                            · skip
                              have i_99 : ¬ (v58.toInt = 59) := fun h9 => c_99 ((ieq qv61 (by decide)).mpr h9)
                              refine lv_aload_n hx hb dX4_step_203 rfl (lv_at hl 1 rfl) ?_
                              refine lv_iconst (v := 1) hx hb dX4_step_204 (by decide) ?_
                              refine lv_aload_n hx hb dX4_step_205 rfl (lv_at hl 1 rfl) ?_
                              refine va_get (D := D) (ci := 3) (v := .int x10) (C := RX4) (T := TX4) (N := 13) hx hb hts (fun w h => tbC w (tbfX4 w h)) hown hK hP 0 rfl rfl 7 (by decide) (hts (.fieldLink RX4 88 "PowerRails$Reader" "from" "I") (tbC _ wd239)) (fun _ h9 => h9) rfl dX4_step_206 ?_
                              obtain ⟨hPc, hDc, hFc, hC9⟩ := xpk (wc := W_refuse cI cJ cZ cG cH rd (1 : Int32) x10 tp rfa rya rla pl x10 kind x10 (0 : Int32) told depth fault fplace) hP hD hS hA [0] (by decide +kernel) rfl
                              refine va_callv (va_runV (As := [.int 1, .int x10]) (rest := []) ⟨hx, hb, hml, hown, hts⟩ (c_refuse l D cI cJ cZ cG cH H.size rd (1 : Int32) x10 tp rfa rya rla pl x10 kind x10 (0 : Int32) told depth fault fplace (xrng rfl (by omega) (by omega)) (xrng rfl (by omega) (by omega)) (xrng rfl (by omega) (by omega))) (cwV 2 hts (xGV tbC wd285 wd286 wd287 wd60 wd969) rfl rfl rfl (by decide +kernel) ⟨Nat.le_of_ble_eq_true rfl, Nat.le_of_ble_eq_true rfl⟩) ⟨xPc_blind, va_recv hK hPc (ci := 3) (q0 := 0) rfl rfl, xPc_pre hPc hK hDc⟩ rfl rfl hl.1 rfl (lv_room (Nat.le_of_ble_eq_true rfl)) dX4_step_209 ⟨Nat.le_of_ble_eq_true rfl, Nat.le_of_ble_eq_true rfl⟩) hS (fun q _ h => hFc q h) hFc (fun u t H1 locs ht hvm hw100 hB hz1 hk1 hS => ?_)
                              obtain ⟨fault_101, fplace_102, hf102_0, hP1, hK1, hD1⟩ := hB
                              rw [ht] at hP1
                              obtain ⟨hP, hD⟩ : xPD D A [oX8 tp tba tl, oAI tba cI 400 tb, oX4 rd tp rfa rya rla pl x10 kind x10 0 told depth fault_101 fplace_102] H1 := xjn 2 hP hD [0] [1, 2] hC9 rfl (by decide +kernel) (by decide +kernel) hk1 hFc hP1 hD1
                              generalize H1 = H at hP hS ⊢
                              have hf102_0 : M_refuse fault (1 : Int32) x10 fplace = (fault_101, fplace_102) := hf102_0
                              have h9M := congrArg (fun t9 => (K_step_57 x10 kind t9.1 t9.2)) hf102_0
                              have hM : M_step tl tb fault fplace kind place = (K_step_57 x10 kind fault_101 fplace_102) := (show M_step tl tb fault fplace kind place = ((fun t9 => (K_step_57 x10 kind t9.1 t9.2)) (M_refuse fault (1 : Int32) x10 fplace)) from hM).trans h9M
                              refine W.widen (k := 0) (n := 0) (by decide) (by decide) ?_
                              exact W.vret hx hb hr (fun t ht hW => ⟨⟨(), rfl, trivial, ⟨x10, kind, x10, 0, fault_101, fplace_102, (xrng rfl (by omega) (by omega)), (xrng rfl (by omega) (by omega)), hM, xB_of9 ht hW hP hK hD [2, 0, 1] (by decide +kernel) rfl⟩⟩, hS.F ht⟩) hS.2.2 dX4_step_212
                            · skip
                              have i_99 : v58.toInt = 59 := (ieq qv61 (by decide)).mp c_99
                              exfalso
                              omega
                  · skip
                    have i_93 : ¬ (57 < v58.toInt) := fun h9 => c_93 ((ilt (by decide) qv61).mpr h9)
                    exfalso
                    omega
              · skip
                have i_91 : ¬ (122 < v58.toInt) := fun h9 => c_91 ((ilt (by decide) qv61).mpr h9)
                have hM : M_step tl tb fault fplace kind place = (K_step_54 x10 fault fplace tl tb) := (show M_step tl tb fault fplace kind place = (if 122 < v58.toInt then (K_step_53 v58 x10 v61 fault fplace kind) else (K_step_54 x10 fault fplace tl tb)) from hM).trans (if_neg i_91)
                refine lv_aload_n hx hb dX4_step_102 rfl (lv_at hl 1 rfl) ?_
                refine lv_iconst (v := 1) hx hb dX4_step_103 (by decide) ?_
                refine va_put (D := D) (ci := 3) (v := .int 1) (ty := .int) (C := RX4) (T := TX4) (N := 13) hx hb hts (fun w h => tbC w (tbfX4 w h)) tyX4 tyX4_ok nmX4 hown hK hP hD hS 0 rfl rfl 6 (by decide) (hts (.fieldLink RX4 60 "PowerRails$Reader" "kind" "I") (tbC _ wd238)) (fun _ h9 => h9) rfl (by decide +kernel) rfl rfl (Nat.le_of_ble_eq_true rfl) dX4_step_104 (fun H locs hP hD hS => ?_)
                obtain ⟨hP, hD⟩ : xPD D A [oX4 rd tp rfa rya rla pl x10 1 x10 0 told depth fault fplace, oX8 tp tba tl, oAI tba cI 400 tb] H := ⟨hP, hD⟩
                refine lv_aload_n hx hb dX4_step_107 rfl (lv_at hl 1 rfl) ?_
                refine lv_bipush (v := 97) hx hb dX4_step_108 (by decide) ?_
                refine lv_bipush (v := 122) hx hb dX4_step_110 (by decide) ?_
                obtain ⟨hPc, hDc, hFc, hC9⟩ := xpk (wc := W_skipWithin cI cJ cZ cG cH rd (97 : Int32) (122 : Int32) tp rfa rya rla pl x10 (1 : Int32) x10 (0 : Int32) told depth fault fplace tba tl tb) hP hD hS hA [0, 1, 2] (by decide +kernel) rfl
                refine va_callv (va_runV (As := [.int 97, .int 122]) (rest := []) ⟨hx, hb, hml, hown, hts⟩ (c_skipWithin l D cI cJ cZ cG cH H.size rd (97 : Int32) (122 : Int32) tp rfa rya rla pl x10 (1 : Int32) x10 (0 : Int32) told depth fault fplace tba tl tb (xrng rfl (by omega) (by omega)) (xrng rfl (by omega) (by omega)) (xrng rfl (by omega) (by omega)) (xrng rfl (by omega) (by omega))) (cwV 2 hts (xGV tbC wd279 wd280 wd281 wd60 wd967) rfl rfl rfl (by decide +kernel) ⟨Nat.le_of_ble_eq_true rfl, Nat.le_of_ble_eq_true rfl⟩) ⟨xPc_blind, va_recv hK hPc (ci := 3) (q0 := 0) rfl rfl, xPc_pre hPc hK hDc⟩ rfl rfl hl.1 rfl (lv_room (Nat.le_of_ble_eq_true rfl)) dX4_step_112 ⟨Nat.le_of_ble_eq_true rfl, Nat.le_of_ble_eq_true rfl⟩) hS (fun q _ h => hFc q h) hFc (fun u t H1 locs ht hvm hw103 hB hz1 hk1 hS => ?_)
                obtain ⟨place_104, hf104_0, hf104_1, hP1, hK1, hD1⟩ := hB
                rw [ht] at hP1
                obtain ⟨hP, hD⟩ : xPD D A [oX4 rd tp rfa rya rla pl place_104 1 x10 0 told depth fault fplace, oX8 tp tba tl, oAI tba cI 400 tb] H1 := xjn 0 hP hD [0, 1, 2] [] hC9 rfl (by decide +kernel) (by decide +kernel) hk1 hFc hP1 hD1
                generalize H1 = H at hP hS ⊢
                have hf104_0 : 0 ≤ place_104.toInt ∧ place_104.toInt ≤ 400 := hf104_0
                have hf104_1 : M_skipWithin tl tb (97 : Int32) (122 : Int32) x10 = (place_104) := hf104_1
                have h9M := congrArg (fun t9 => (K_step_58 t9 x10 fault fplace)) hf104_1
                have hM : M_step tl tb fault fplace kind place = (K_step_58 place_104 x10 fault fplace) := (show M_step tl tb fault fplace kind place = ((fun t9 => (K_step_58 t9 x10 fault fplace)) (M_skipWithin tl tb (97 : Int32) (122 : Int32) x10)) from hM).trans h9M
                refine lv_goto (tgt := 212) hx hb dX4_step_115 (by decide) ?_
                refine W.widen (k := 0) (n := 0) (by decide) (by decide) ?_
                exact W.vret hx hb hr (fun t ht hW => ⟨⟨(), rfl, trivial, ⟨place_104, 1, x10, 0, fault, fplace, (xrng rfl (by omega) (by omega)), (xrng rfl (by omega) (by omega)), hM, xB_of9 ht hW hP hK hD [0, 1, 2] (by decide +kernel) rfl⟩⟩, hS.F ht⟩) hS.2.2 dX4_step_212
          · skip
            have i_60 : ¬ (x10.toInt < tl.toInt) := fun h9 => c_60 ((ilt rfl rfl).mpr h9)
            have hM : M_step tl tb fault fplace kind place = (K_step_34 x10 fault fplace) := (show M_step tl tb fault fplace kind place = (if x10.toInt < tl.toInt then (K_step_33 v58 x10 tb fault fplace kind tl) else (K_step_34 x10 fault fplace)) from hM).trans (if_neg i_60)
            refine lv_aload_n hx hb dX4_step_71 rfl (lv_at hl 0 rfl) ?_
            refine lv_iconst (v := 0) hx hb dX4_step_72 (by decide) ?_
            refine va_put (D := D) (ci := 3) (v := .int 0) (ty := .int) (C := RX4) (T := TX4) (N := 13) hx hb hts (fun w h => tbC w (tbfX4 w h)) tyX4 tyX4_ok nmX4 hown hK hP hD hS 0 rfl rfl 6 (by decide) (hts (.fieldLink RX4 60 "PowerRails$Reader" "kind" "I") (tbC _ wd238)) (fun _ h9 => h9) rfl (by decide +kernel) rfl rfl (Nat.le_of_ble_eq_true rfl) dX4_step_73 (fun H locs hP hD hS => ?_)
            obtain ⟨hP, hD⟩ : xPD D A [oX4 rd tp rfa rya rla pl x10 0 x10 0 told depth fault fplace, oX8 tp tba tl, oAI tba cI 400 tb] H := ⟨hP, hD⟩
            refine W.widen (k := 0) (n := 0) (by decide) (by decide) ?_
            exact W.vret hx hb hr (fun t ht hW => ⟨⟨(), rfl, trivial, ⟨x10, 0, x10, 0, fault, fplace, (xrng rfl (by omega) (by omega)), (xrng rfl (by omega) (by omega)), hM, xB_of9 ht hW hP hK hD [0, 1, 2] (by decide +kernel) rfl⟩⟩, hS.F ht⟩) hS.2.2 dX4_step_76
        · skip
          have i_59 : v58.toInt = 32 := (ieq rfl (by decide)).mp c_59
          have hM : M_step tl tb fault fplace kind place = (K_step_32 (K_step_L2 tl tb fault fplace kind nhl11) x10) := (show M_step tl tb fault fplace kind place = (if v58.toInt = 32 then (K_step_32 (K_step_L2 tl tb fault fplace kind nhl11) x10) else (K_step_31 x10 tl v58 tb fault fplace kind)) from (by rw [ev58]; exact hM)).trans (if_pos i_59)
          refine lv_aload_n hx hb dX4_step_31 rfl (lv_at hl 0 rfl) ?_
          refine lv_dup hx hb dX4_step_32 rfl ?_
          refine va_get (D := D) (ci := 3) (v := .int x10) (C := RX4) (T := TX4) (N := 13) hx hb hts (fun w h => tbC w (tbfX4 w h)) hown hK hP 0 rfl rfl 5 (by decide) (hts (.fieldLink RX4 36 "PowerRails$Reader" "place" "I") (tbC _ wd237)) (fun _ h9 => h9) rfl dX4_step_33 ?_
          refine lv_iconst (v := 1) hx hb dX4_step_36 (by decide) ?_
          refine lv_iadd hx hb dX4_step_37 ?_
          refine lv_topi (fun v105 ev105 => ?_)
          have tv105 : v105.toInt = (x10.toInt + 1) := (congrArg Int32.toInt ev105).trans (xadd rfl (by decide) (by omega) (by omega))
          refine va_put (D := D) (ci := 3) (v := .int v105) (ty := .int) (C := RX4) (T := TX4) (N := 13) hx hb hts (fun w h => tbC w (tbfX4 w h)) tyX4 tyX4_ok nmX4 hown hK hP hD hS 0 rfl rfl 5 (by decide) (hts (.fieldLink RX4 36 "PowerRails$Reader" "place" "I") (tbC _ wd237)) (fun _ h9 => h9) rfl (by decide +kernel) rfl rfl (Nat.le_of_ble_eq_true rfl) dX4_step_38 (fun H locs hP hD hS => ?_)
          obtain ⟨hP, hD⟩ : xPD D A [oX4 rd tp rfa rya rla pl v105 kind from_ value told depth fault fplace, oX8 tp tba tl, oAI tba cI 400 tb] H := ⟨hP, hD⟩
          refine lv_goto (tgt := 0) hx hb dX4_step_41 (by decide) ?_
          exact ihhl11 v105 (by omega) (xrng tv105 (by omega) (by omega)) (by rw [ev105]; exact hM) _ _ hP hD hS ls (lv_sub hl [0] rfl)
  exact hl11 100000 place (by omega) (xrng rfl (by omega) (by omega)) hM _ _ hP hD hS ls (lv_sub hl [0] rfl)
def K_isWord_7  : (Int32) := ((1 : Int32))
def K_isWord_10 (rec_6 : (Int32) → ((Int32))) (x27 : Int32) : (Int32) := (rec_6 (x27 + 1))
def K_isWord_11  : (Int32) := ((0 : Int32))
def K_isWord_9 (v32 : Int32) (r33 : Int32) (rec_6 : (Int32) → ((Int32))) (x27 : Int32) : (Int32) := (if v32.toInt = r33.toInt then (K_isWord_10 rec_6 x27) else (K_isWord_11))
def K_isWord_8 (tb : Nat → Int32) (from_ : Int32) (x27 : Int32) (rec_6 : (Int32) → ((Int32))) (ix : Nat) : (Int32) := ((fun t9 => (K_isWord_9 (tb (from_ + x27).toNatClampNeg) t9 rec_6 x27)) (M_s_charAt ix x27))
def K_isWord_6 (n : Nat) (x27 : Int32) (tb : Nat → Int32) (from_ : Int32) (rec_6 : (Int32) → ((Int32))) (ix : Nat) : (Int32) := (if ((n : Nat) : Int) ≤ x27.toInt then (K_isWord_7) else (K_isWord_8 tb from_ x27 rec_6 ix))
def K_isWord_L6 (n : Nat) (tb : Nat → Int32) (from_ : Int32) (ix : Nat) : Nat → (Int32) → (Int32)
  | 0, _ => (0)
  | n9 + 1, x27 => (K_isWord_6 n x27 tb from_ (K_isWord_L6 n tb from_ ix n9) ix)
def K_isWord_4 (n : Nat) (tb : Nat → Int32) (from_ : Int32) (ix : Nat) : (Int32) := (K_isWord_L6 n tb from_ ix 100000 (0 : Int32))
def K_isWord_5  : (Int32) := ((0 : Int32))
def K_isWord_3 (place : Int32) (from_ : Int32) (n : Nat) (tb : Nat → Int32) (ix : Nat) : (Int32) := (if (place.toInt - from_.toInt) = ((n : Nat) : Int) then (K_isWord_4 n tb from_ ix) else (K_isWord_5))
def K_isWord_2  : (Int32) := ((0 : Int32))
def K_isWord_1 (kind : Int32) (place : Int32) (from_ : Int32) (n : Nat) (tb : Nat → Int32) (ix : Nat) : (Int32) := (if kind.toInt = 1 then (K_isWord_3 place from_ n tb ix) else (K_isWord_2))
def M_isWord (kind : Int32) (place : Int32) (from_ : Int32) (n : Nat) (tb : Nat → Int32) (ix : Nat) : (Int32) := (K_isWord_1 kind place from_ n tb ix)
abbrev W_isWord (cI cJ cZ cG cH : ClassId) (rd : Nat) (tp : Nat) (rfa : Nat) (rya : Nat) (rla : Nat) (pl : Nat) (place : Int32) (kind : Int32) (from_ : Int32) (value : Int32) (told : Int32) (depth : Int32) (fault : Int32) (fplace : Int32) (tba : Nat) (tl : Int32) (tb : Nat → Int32) (adK : Nat → Nat) (adV : Nat → Nat) (tI : Nat) (ix : Nat) (n : Nat) : va_W := [oX4 rd tp rfa rya rla pl place kind from_ value told depth fault fplace, oX8 tp tba tl, oAI tba cI 400 tb]
abbrev Q_isWord (D : va_G) (cI cJ cZ cG cH : ClassId) (rd : Nat) (tp : Nat) (rfa : Nat) (rya : Nat) (rla : Nat) (pl : Nat) (place : Int32) (kind : Int32) (from_ : Int32) (value : Int32) (told : Int32) (depth : Int32) (fault : Int32) (fplace : Int32) (tba : Nat) (tl : Int32) (tb : Nat → Int32) (adK : Nat → Nat) (adV : Nat → Nat) (tI : Nat) (ix : Nat) (n : Nat) (A : Nat → Prop) : Array Value → State → Outcome → State → Prop := va_Qi (fun (r : Int32) (u9 : Int32) => r = u9 ∧ (0 ≤ r.toInt ∧ r.toInt ≤ 1)) (fun u9 t => (M_isWord kind place from_ n tb ix = (u9)) ∧ xB D (tyL cI cJ cZ cG cH) [oX4 rd tp rfa rya rla pl place kind from_ value told depth fault fplace, oX8 tp tba tl, oAI tba cI 400 tb] A t) A
abbrev rm_isWord : Room := { frames := 4, cells := 0, slots := 0, locals := 85 }
set_option maxRecDepth 100000 in
set_option maxHeartbeats 40000000 in
theorem c_isWord (l : Launch) (D : va_G) (cI cJ cZ cG cH : ClassId) (sz : Nat) (rd : Nat) (tp : Nat) (rfa : Nat) (rya : Nat) (rla : Nat) (pl : Nat) (place : Int32) (kind : Int32) (from_ : Int32) (value : Int32) (told : Int32) (depth : Int32) (fault : Int32) (fplace : Int32) (tba : Nat) (tl : Int32) (tb : Nat → Int32) (adK : Nat → Nat) (adV : Nat → Nat) (tI : Nat) (ix : Nat) (n : Nat) (h_place : 0 ≤ place.toInt ∧ place.toInt ≤ 400) (h_from_ : 0 ≤ from_.toInt ∧ from_.toInt ≤ 400) (h_depth : 0 ≤ depth.toInt ∧ depth.toInt ≤ 6) (h_tl : 0 ≤ tl.toInt ∧ tl.toInt ≤ 400) (hix : ix < 9) (hn : xlen.getD ix 0 = n) (hn6 : n ≤ 6) : Met l yX4_isWord (wt yX4_isWord cX4_isWord 3 (some .boolean)) rm_isWord (xPcE [.ref rd, .ref (adK ix)] D (tyL cI cJ cZ cG cH) (W_isWord cI cJ cZ cG cH rd tp rfa rya rla pl place kind from_ value told depth fault fplace tba tl tb adK adV tI ix n) adK adV tI sz) (Q_isWord D cI cJ cZ cG cH rd tp rfa rya rla pl place kind from_ value told depth fault fplace tba tl tb adK adV tI ix n (va_A (W_isWord cI cJ cZ cG cH rd tp rfa rya rla pl place kind from_ value told depth fault fplace tba tl tb adK adV tI ix n) sz)) 0 0 (va_A (W_isWord cI cJ cZ cG cH rd tp rfa rya rla pl place kind from_ value told depth fault fplace tba tl tb adK adV tI ix n) sz) := by
  refine xMetE (cc := cX4_isWord) (maxL := 3) (ret := (some .boolean)) (Qf := Q_isWord D cI cJ cZ cG cH rd tp rfa rya rla pl place kind from_ value told depth fault fplace tba tl tb adK adV tI ix n) (by decide) rfl (Nat.le_of_ble_eq_true rfl) ?_
  intro p e s m below meth c ls A hx hb hr hml hts hown hlocks hnm hsz hP hK hD hA hS hl hE
  have hown : s.vm.findClass RX4 = some m.cls := hown
  have hP : va_P D vwCl [oX4 rd tp rfa rya rla pl place kind from_ value told depth fault fplace, oX8 tp tba tl, oAI tba cI 400 tb] s.heap := hP
  have hD : va_D A [oX4 rd tp rfa rya rla pl place kind from_ value told depth fault fplace, oX8 tp tba tl, oAI tba cI 400 tb] := hD
  have hl : lv_has ls 3 [(0, .ref rd), (1, .ref (adK ix))] := hl
  have hM : M_isWord kind place from_ n tb ix = (K_isWord_1 kind place from_ n tb ix) := rfl
  refine lv_aload_n hx hb dX4_isWord_0 rfl (lv_at hl 0 rfl) ?_
  refine va_get (D := D) (ci := 3) (v := .int kind) (C := RX4) (T := TX4) (N := 13) hx hb hts (fun w h => tbC w (tbfX4 w h)) hown hK hP 0 rfl rfl 6 (by decide) (hts (.fieldLink RX4 60 "PowerRails$Reader" "kind" "I") (tbC _ wd238)) (fun _ h9 => h9) rfl dX4_isWord_1 ?_
  refine lv_iconst (v := 1) hx hb dX4_isWord_4 (by decide) ?_
  refine lv_icmp_ne (tgt := 24) hx hb dX4_isWord_5 (by decide) (fun c_1 => ?_) (fun c_1 => ?_)
  · skip
    have i_1 : ¬ (kind.toInt = 1) := fun h9 => c_1 ((ieq rfl (by decide)).mpr h9)
    have hM : M_isWord kind place from_ n tb ix = (K_isWord_2) := (show M_isWord kind place from_ n tb ix = (if kind.toInt = 1 then (K_isWord_3 place from_ n tb ix) else (K_isWord_2)) from hM).trans (if_neg i_1)
    refine lv_iconst (v := 0) hx hb dX4_isWord_24 (by decide) ?_
    refine W.widen (k := 0) (n := 0) (by decide) (by decide) ?_
    exact W.zret (v := 0) hx hb hr (by decide) (fun t ht hW => ⟨⟨0, 0, rfl, ⟨rfl, ⟨by decide, by decide⟩⟩, ⟨hM, xB_of9 ht hW hP hK hD [0, 1, 2] (by decide +kernel) rfl⟩⟩, hS.F ht⟩) hS.2.2 dX4_isWord_25
  · skip
    have i_1 : kind.toInt = 1 := (ieq rfl (by decide)).mp c_1
    have hM : M_isWord kind place from_ n tb ix = (K_isWord_3 place from_ n tb ix) := (show M_isWord kind place from_ n tb ix = (if kind.toInt = 1 then (K_isWord_3 place from_ n tb ix) else (K_isWord_2)) from hM).trans (if_pos i_1)
    refine lv_aload_n hx hb dX4_isWord_8 rfl (lv_at hl 0 rfl) ?_
    refine va_get (D := D) (ci := 3) (v := .int place) (C := RX4) (T := TX4) (N := 13) hx hb hts (fun w h => tbC w (tbfX4 w h)) hown hK hP 0 rfl rfl 5 (by decide) (hts (.fieldLink RX4 36 "PowerRails$Reader" "place" "I") (tbC _ wd237)) (fun _ h9 => h9) rfl dX4_isWord_9 ?_
    refine lv_aload_n hx hb dX4_isWord_12 rfl (lv_at hl 0 rfl) ?_
    refine va_get (D := D) (ci := 3) (v := .int from_) (C := RX4) (T := TX4) (N := 13) hx hb hts (fun w h => tbC w (tbfX4 w h)) hown hK hP 0 rfl rfl 7 (by decide) (hts (.fieldLink RX4 88 "PowerRails$Reader" "from" "I") (tbC _ wd239)) (fun _ h9 => h9) rfl dX4_isWord_13 ?_
    refine lv_isub hx hb dX4_isWord_16 ?_
    refine lv_topi (fun v2 ev2 => ?_)
    have tv2 : v2.toInt = (place.toInt - from_.toInt) := (congrArg Int32.toInt ev2).trans (xsub rfl rfl (by omega) (by omega))
    refine lv_aload_n hx hb dX4_isWord_17 rfl (lv_at hl 1 rfl) ?_
    obtain ⟨hPc, hDc, hFc, hC9⟩ := xpk (wc := W_s_length cI cJ cZ cG cH adK adV tI ix n) hP hD hS hA [] (by decide +kernel) rfl
    refine va_calli (va_runV (As := []) (rest := [.int v2]) ⟨hx, hb, hml, hown, hts⟩ (c_s_length l D cI cJ cZ cG cH s.heap.size adK adV tI ix n (by first | decide | assumption) (by first | decide | assumption) (by first | decide | assumption)) (cwV 0 hts (xGV tbC wd291 wd292 wd293 wd62 wd971) rfl rfl rfl (by decide +kernel) ⟨Nat.le_of_ble_eq_true rfl, Nat.le_of_ble_eq_true rfl⟩) ⟨xPcE_blind, vk_recv hE.S (i := ix) (by first | decide | assumption) hS, xPcE_pre hPc hK hDc hE hS hFc⟩ rfl rfl hl.1 rfl (lv_room (Nat.le_of_ble_eq_true rfl)) dX4_isWord_18 ⟨Nat.le_of_ble_eq_true rfl, Nat.le_of_ble_eq_true rfl⟩) hS (fun q _ h => hFc q h) hFc (fun r3 u t H1 locs ht hvm hw3 hB hz1 hk1 hS => ?_)
    obtain ⟨hP1, hK1, hD1⟩ := hB
    rw [ht] at hP1
    obtain ⟨hP, hD⟩ : xPD D A [oX4 rd tp rfa rya rla pl place kind from_ value told depth fault fplace, oX8 tp tba tl, oAI tba cI 400 tb] H1 := xjn 3 hP hD [] [0, 1, 2] hC9 rfl (by decide +kernel) (by decide +kernel) hk1 hFc hP1 hD1
    generalize H1 = H at hP hS ⊢
    have hw3 : r3 = nI n := hw3
    obtain rfl : r3 = nI n := hw3
    refine lv_icmp_eq (tgt := 26) hx hb dX4_isWord_21 (by decide) (fun c_4 => ?_) (fun c_4 => ?_)
    · skip
      have i_4 : (place.toInt - from_.toInt) = ((n : Nat) : Int) := (ieq tv2 (nI_toInt (by omega))).mp c_4
      have hM : M_isWord kind place from_ n tb ix = (K_isWord_4 n tb from_ ix) := (show M_isWord kind place from_ n tb ix = (if (place.toInt - from_.toInt) = ((n : Nat) : Int) then (K_isWord_4 n tb from_ ix) else (K_isWord_5)) from hM).trans (if_pos i_4)
      refine lv_iconst (v := 0) hx hb dX4_isWord_26 (by decide) ?_
      refine lv_istore_n (lv' := [(2, .int 0), (0, .ref rd), (1, .ref (adK ix))]) hx hb dX4_isWord_27 rfl hl (by decide) rfl (fun ls hl => ?_)
      have hl28 : ∀ (nhl28 : Nat) (x27 : Int32), ((6 - x27.toInt).toNat < nhl28) → (hx27 : 0 ≤ x27.toInt ∧ x27.toInt ≤ 6) → (hM : M_isWord kind place from_ n tb ix = (K_isWord_L6 n tb from_ ix nhl28 x27)) → ∀ (H : Heap) (locs : List Loc), va_P D vwCl [oX4 rd tp rfa rya rla pl place kind from_ value told depth fault fplace, oX8 tp tba tl, oAI tba cI 400 tb] H → va_D A [oX4 rd tp rfa rya rla pl place kind from_ value told depth fault fplace, oX8 tp tba tl, oAI tba cI 400 tb] → va_S A s.heap H locs → ∀ (ls : Array Slot), lv_has ls 3 [(2, .int x27), (0, .ref rd), (1, .ref (adK ix))] → W p l e rm_isWord s m [Value.ref rd, Value.ref (adK ix)].toArray below meth c H locs 0 0 (MQ below ((Q_isWord D cI cJ cZ cG cH rd tp rfa rya rla pl place kind from_ value told depth fault fplace tba tl tb adK adV tI ix n) A) [Value.ref rd, Value.ref (adK ix)].toArray s 0 0 A) (F0 m 28 ls []) := by
        intro nhl28
        induction nhl28 with
        | zero =>
          intro x27 hmhl28
          exact absurd hmhl28 (Nat.not_lt_zero _)
        | succ nhl28 ihhl28 =>
          intro x27 hmhl28 hx27 hM H locs hP hD hS ls hl
          have hM : M_isWord kind place from_ n tb ix = (K_isWord_6 n x27 tb from_ (K_isWord_L6 n tb from_ ix nhl28) ix) := hM
          refine lv_iload_n hx hb dX4_isWord_28 rfl (lv_at hl 0 rfl) ?_
          refine lv_aload_n hx hb dX4_isWord_29 rfl (lv_at hl 2 rfl) ?_
          obtain ⟨hPc, hDc, hFc, hC9⟩ := xpk (wc := W_s_length cI cJ cZ cG cH adK adV tI ix n) hP hD hS hA [] (by decide +kernel) rfl
          refine va_calli (va_runV (As := []) (rest := [.int x27]) ⟨hx, hb, hml, hown, hts⟩ (c_s_length l D cI cJ cZ cG cH H.size adK adV tI ix n (by first | decide | assumption) (by first | decide | assumption) (by first | decide | assumption)) (cwV 0 hts (xGV tbC wd291 wd292 wd293 wd62 wd971) rfl rfl rfl (by decide +kernel) ⟨Nat.le_of_ble_eq_true rfl, Nat.le_of_ble_eq_true rfl⟩) ⟨xPcE_blind, vk_recv hE.S (i := ix) (by first | decide | assumption) hS, xPcE_pre hPc hK hDc hE hS hFc⟩ rfl rfl hl.1 rfl (lv_room (Nat.le_of_ble_eq_true rfl)) dX4_isWord_30 ⟨Nat.le_of_ble_eq_true rfl, Nat.le_of_ble_eq_true rfl⟩) hS (fun q _ h => hFc q h) hFc (fun r29 u t H1 locs ht hvm hw29 hB hz1 hk1 hS => ?_)
          obtain ⟨hP1, hK1, hD1⟩ := hB
          rw [ht] at hP1
          obtain ⟨hP, hD⟩ : xPD D A [oX4 rd tp rfa rya rla pl place kind from_ value told depth fault fplace, oX8 tp tba tl, oAI tba cI 400 tb] H1 := xjn 3 hP hD [] [0, 1, 2] hC9 rfl (by decide +kernel) (by decide +kernel) hk1 hFc hP1 hD1
          generalize H1 = H at hP hS ⊢
          have hw29 : r29 = nI n := hw29
          obtain rfl : r29 = nI n := hw29
          refine lv_icmp_ge (tgt := 66) hx hb dX4_isWord_33 (by decide) (fun c_30 => ?_) (fun c_30 => ?_)
          · skip
            have i_30 : ((n : Nat) : Int) ≤ x27.toInt := (ile (nI_toInt (by omega)) rfl).mp c_30
            have hM : M_isWord kind place from_ n tb ix = (K_isWord_7) := (show M_isWord kind place from_ n tb ix = (if ((n : Nat) : Int) ≤ x27.toInt then (K_isWord_7) else (K_isWord_8 tb from_ x27 (K_isWord_L6 n tb from_ ix nhl28) ix)) from hM).trans (if_pos i_30)
            refine lv_iconst (v := 1) hx hb dX4_isWord_66 (by decide) ?_
            refine W.widen (k := 0) (n := 0) (by decide) (by decide) ?_
            exact W.zret (v := 1) hx hb hr (by decide) (fun t ht hW => ⟨⟨1, 1, rfl, ⟨rfl, ⟨by decide, by decide⟩⟩, ⟨hM, xB_of9 ht hW hP hK hD [0, 1, 2] (by decide +kernel) rfl⟩⟩, hS.F ht⟩) hS.2.2 dX4_isWord_67
          · skip
            have i_30 : ¬ (((n : Nat) : Int) ≤ x27.toInt) := fun h9 => c_30 ((ile (nI_toInt (by omega)) rfl).mpr h9)
            have hM : M_isWord kind place from_ n tb ix = (K_isWord_8 tb from_ x27 (K_isWord_L6 n tb from_ ix nhl28) ix) := (show M_isWord kind place from_ n tb ix = (if ((n : Nat) : Int) ≤ x27.toInt then (K_isWord_7) else (K_isWord_8 tb from_ x27 (K_isWord_L6 n tb from_ ix nhl28) ix)) from hM).trans (if_neg i_30)
            refine lv_aload_n hx hb dX4_isWord_36 rfl (lv_at hl 1 rfl) ?_
            refine va_get (D := D) (ci := 3) (v := .ref tp) (C := RX4) (T := TX4) (N := 13) hx hb hts (fun w h => tbC w (tbfX4 w h)) hown hK hP 0 rfl rfl 0 (by decide) (hts (.fieldLink RX4 9 "PowerRails$Reader" "tape" "LPowerRails$Tape;") (tbC _ wd232)) (fun _ h9 => h9) rfl dX4_isWord_37 ?_
            refine va_get (D := D) (ci := 7) (v := .ref tba) (C := RX8) (T := TX8) (N := 2) hx hb hts (fun w h => tbC w (tbfX8 w h)) hown hK hP 1 rfl rfl 0 (by decide) (hts (.fieldLink RX4 85 "PowerRails$Tape" "bytes" "[I") (tbC _ wd82)) (fun _ h9 => h9) rfl dX4_isWord_40 ?_
            refine lv_aload_n hx hb dX4_isWord_43 rfl (lv_at hl 1 rfl) ?_
            refine va_get (D := D) (ci := 3) (v := .int from_) (C := RX4) (T := TX4) (N := 13) hx hb hts (fun w h => tbC w (tbfX4 w h)) hown hK hP 0 rfl rfl 7 (by decide) (hts (.fieldLink RX4 88 "PowerRails$Reader" "from" "I") (tbC _ wd239)) (fun _ h9 => h9) rfl dX4_isWord_44 ?_
            refine lv_iload_n hx hb dX4_isWord_47 rfl (lv_at hl 0 rfl) ?_
            refine lv_iadd hx hb dX4_isWord_48 ?_
            refine lv_topi (fun v31 ev31 => ?_)
            have tv31 : v31.toInt = (from_.toInt + x27.toInt) := (congrArg Int32.toInt ev31).trans (xadd rfl rfl (by omega) (by omega))
            refine va_iald hx hb hK hP 2 0 rfl rfl (vp_in_iff.mpr (by rw [tv31]; omega)) dX4_isWord_49 ?_
            refine lv_topi (fun v32 ev32 => ?_)
            refine lv_aload_n hx hb dX4_isWord_50 rfl (lv_at hl 2 rfl) ?_
            refine lv_iload_n hx hb dX4_isWord_51 rfl (lv_at hl 0 rfl) ?_
            obtain ⟨hPc, hDc, hFc, hC9⟩ := xpk (wc := W_s_charAt cI cJ cZ cG cH x27 adK adV tI ix n) hP hD hS hA [] (by decide +kernel) rfl
            refine va_calli (va_runV (As := [.int x27]) (rest := [.int v32]) ⟨hx, hb, hml, hown, hts⟩ (c_s_charAt l D cI cJ cZ cG cH H.size x27 adK adV tI ix n (by first | decide | assumption) (by first | decide | assumption) (by first | decide | assumption) ⟨by omega, by omega⟩) (cwV 1 hts (xGV tbC wd298 wd299 wd300 wd62 wd973) rfl rfl rfl (by decide +kernel) ⟨Nat.le_of_ble_eq_true rfl, Nat.le_of_ble_eq_true rfl⟩) ⟨xPcE_blind, vk_recv hE.S (i := ix) (by first | decide | assumption) hS, xPcE_pre hPc hK hDc hE hS hFc⟩ rfl rfl hl.1 rfl (lv_room (Nat.le_of_ble_eq_true rfl)) dX4_isWord_52 ⟨Nat.le_of_ble_eq_true rfl, Nat.le_of_ble_eq_true rfl⟩) hS (fun q _ h => hFc q h) hFc (fun r33 u t H1 locs ht hvm hw33 hB hz1 hk1 hS => ?_)
            obtain ⟨hru9, hw33⟩ := hw33
            subst hru9
            obtain ⟨hf33_0, hP1, hK1, hD1⟩ := hB
            rw [ht] at hP1
            obtain ⟨hP, hD⟩ : xPD D A [oX4 rd tp rfa rya rla pl place kind from_ value told depth fault fplace, oX8 tp tba tl, oAI tba cI 400 tb] H1 := xjn 3 hP hD [] [0, 1, 2] hC9 rfl (by decide +kernel) (by decide +kernel) hk1 hFc hP1 hD1
            generalize H1 = H at hP hS ⊢
            have hf33_0 : M_s_charAt ix x27 = (r33) := hf33_0
            have hw33 : narrow .char (.int r33) = .int r33 := hw33
            have h9M := congrArg (fun t9 => (K_isWord_9 v32 t9 (K_isWord_L6 n tb from_ ix nhl28) x27)) hf33_0
            have hM : M_isWord kind place from_ n tb ix = (K_isWord_9 v32 r33 (K_isWord_L6 n tb from_ ix nhl28) x27) := (show M_isWord kind place from_ n tb ix = ((fun t9 => (K_isWord_9 v32 t9 (K_isWord_L6 n tb from_ ix nhl28) x27)) (M_s_charAt ix x27)) from (by rw [ev32, ev31]; exact hM)).trans h9M
            refine lv_icmp_eq (tgt := 60) hx hb dX4_isWord_55 (by decide) (fun c_34 => ?_) (fun c_34 => ?_)
            · skip
              have i_34 : v32.toInt = r33.toInt := (ieq rfl rfl).mp c_34
              have hM : M_isWord kind place from_ n tb ix = (K_isWord_10 (K_isWord_L6 n tb from_ ix nhl28) x27) := (show M_isWord kind place from_ n tb ix = (if v32.toInt = r33.toInt then (K_isWord_10 (K_isWord_L6 n tb from_ ix nhl28) x27) else (K_isWord_11)) from hM).trans (if_pos i_34)
              obtain ⟨x35, ex35⟩ : ∃ y : Int32, y = x27 + 1 := ⟨_, rfl⟩
              have tx35 : x35.toInt = (x27.toInt + 1) := (congrArg Int32.toInt ex35).trans (xadd rfl (by decide) (by omega) (by omega))
              refine lv_iinc (v := x35) (lv' := [(2, .int x35), (0, .ref rd), (1, .ref (adK ix))]) hx hb dX4_isWord_60 hl (k := 0) rfl (by rw [ex35]; rfl) (by decide) rfl (fun ls hl => ?_)
              refine lv_goto (tgt := 28) hx hb dX4_isWord_63 (by decide) ?_
              exact ihhl28 x35 (by omega) (xrng tx35 (by omega) (by omega)) (by rw [ex35]; exact hM) _ _ hP hD hS ls (lv_sub hl [0, 1, 2] rfl)
            · skip
              have i_34 : ¬ (v32.toInt = r33.toInt) := fun h9 => c_34 ((ieq rfl rfl).mpr h9)
              have hM : M_isWord kind place from_ n tb ix = (K_isWord_11) := (show M_isWord kind place from_ n tb ix = (if v32.toInt = r33.toInt then (K_isWord_10 (K_isWord_L6 n tb from_ ix nhl28) x27) else (K_isWord_11)) from hM).trans (if_neg i_34)
              refine lv_iconst (v := 0) hx hb dX4_isWord_58 (by decide) ?_
              refine W.widen (k := 0) (n := 0) (by decide) (by decide) ?_
              exact W.zret (v := 0) hx hb hr (by decide) (fun t ht hW => ⟨⟨0, 0, rfl, ⟨rfl, ⟨by decide, by decide⟩⟩, ⟨hM, xB_of9 ht hW hP hK hD [0, 1, 2] (by decide +kernel) rfl⟩⟩, hS.F ht⟩) hS.2.2 dX4_isWord_59
      exact hl28 100000 0 (by have z9_0 : (0 : Int32).toInt = 0 := (by decide); omega) ⟨by decide, by decide⟩ hM _ _ hP hD hS ls (lv_sub hl [0, 1, 2] rfl)
    · skip
      have i_4 : ¬ ((place.toInt - from_.toInt) = ((n : Nat) : Int)) := fun h9 => c_4 ((ieq tv2 (nI_toInt (by omega))).mpr h9)
      have hM : M_isWord kind place from_ n tb ix = (K_isWord_5) := (show M_isWord kind place from_ n tb ix = (if (place.toInt - from_.toInt) = ((n : Nat) : Int) then (K_isWord_4 n tb from_ ix) else (K_isWord_5)) from hM).trans (if_neg i_4)
      refine lv_iconst (v := 0) hx hb dX4_isWord_24 (by decide) ?_
      refine W.widen (k := 0) (n := 0) (by decide) (by decide) ?_
      exact W.zret (v := 0) hx hb hr (by decide) (fun t ht hW => ⟨⟨0, 0, rfl, ⟨rfl, ⟨by decide, by decide⟩⟩, ⟨hM, xB_of9 ht hW hP hK hD [0, 1, 2] (by decide +kernel) rfl⟩⟩, hS.F ht⟩) hS.2.2 dX4_isWord_25
def K_isSign_5  : (Int32) := ((1 : Int32))
def K_isSign_4  : (Int32) := ((0 : Int32))
def K_isSign_3 (value : Int32) (a0 : Int32) : (Int32) := (if value.toInt = a0.toInt then (K_isSign_5) else (K_isSign_4))
def K_isSign_2  : (Int32) := ((0 : Int32))
def K_isSign_1 (kind : Int32) (value : Int32) (a0 : Int32) : (Int32) := (if kind.toInt = 3 then (K_isSign_3 value a0) else (K_isSign_2))
def M_isSign (kind : Int32) (value : Int32) (a0 : Int32) : (Int32) := (K_isSign_1 kind value a0)
abbrev W_isSign (cI cJ cZ cG cH : ClassId) (rd : Nat) (a0 : Int32) (tp : Nat) (rfa : Nat) (rya : Nat) (rla : Nat) (pl : Nat) (place : Int32) (kind : Int32) (from_ : Int32) (value : Int32) (told : Int32) (depth : Int32) (fault : Int32) (fplace : Int32) : va_W := [oX4 rd tp rfa rya rla pl place kind from_ value told depth fault fplace]
abbrev Q_isSign (D : va_G) (cI cJ cZ cG cH : ClassId) (rd : Nat) (a0 : Int32) (tp : Nat) (rfa : Nat) (rya : Nat) (rla : Nat) (pl : Nat) (place : Int32) (kind : Int32) (from_ : Int32) (value : Int32) (told : Int32) (depth : Int32) (fault : Int32) (fplace : Int32) (A : Nat → Prop) : Array Value → State → Outcome → State → Prop := va_Qi (fun (r : Int32) (u9 : Int32) => r = u9 ∧ (0 ≤ r.toInt ∧ r.toInt ≤ 1)) (fun u9 t => (M_isSign kind value a0 = (u9)) ∧ xB D (tyL cI cJ cZ cG cH) [oX4 rd tp rfa rya rla pl place kind from_ value told depth fault fplace] A t) A
abbrev rm_isSign : Room := { frames := 0, cells := 0, slots := 0, locals := 0 }
set_option maxRecDepth 100000 in
set_option maxHeartbeats 40000000 in
theorem c_isSign (l : Launch) (D : va_G) (cI cJ cZ cG cH : ClassId) (sz : Nat) (rd : Nat) (a0 : Int32) (tp : Nat) (rfa : Nat) (rya : Nat) (rla : Nat) (pl : Nat) (place : Int32) (kind : Int32) (from_ : Int32) (value : Int32) (told : Int32) (depth : Int32) (fault : Int32) (fplace : Int32) (h_place : 0 ≤ place.toInt ∧ place.toInt ≤ 400) (h_from_ : 0 ≤ from_.toInt ∧ from_.toInt ≤ 400) (h_depth : 0 ≤ depth.toInt ∧ depth.toInt ≤ 6) : Met l yX4_isSign (wt yX4_isSign cX4_isSign 2 (some .boolean)) rm_isSign (xPc [.ref rd, .int a0] D (tyL cI cJ cZ cG cH) (W_isSign cI cJ cZ cG cH rd a0 tp rfa rya rla pl place kind from_ value told depth fault fplace) sz) (Q_isSign D cI cJ cZ cG cH rd a0 tp rfa rya rla pl place kind from_ value told depth fault fplace (va_A (W_isSign cI cJ cZ cG cH rd a0 tp rfa rya rla pl place kind from_ value told depth fault fplace) sz)) 0 0 (va_A (W_isSign cI cJ cZ cG cH rd a0 tp rfa rya rla pl place kind from_ value told depth fault fplace) sz) := by
  refine xMet (cc := cX4_isSign) (maxL := 2) (ret := (some .boolean)) (Qf := Q_isSign D cI cJ cZ cG cH rd a0 tp rfa rya rla pl place kind from_ value told depth fault fplace) (by decide) rfl (Nat.le_of_ble_eq_true rfl) ?_
  intro p e s m below meth c ls A hx hb hr hml hts hown hlocks hnm hsz hP hK hD hA hS hl
  have hown : s.vm.findClass RX4 = some m.cls := hown
  have hP : va_P D vwCl [oX4 rd tp rfa rya rla pl place kind from_ value told depth fault fplace] s.heap := hP
  have hD : va_D A [oX4 rd tp rfa rya rla pl place kind from_ value told depth fault fplace] := hD
  have hl : lv_has ls 2 [(0, .ref rd), (1, .int a0)] := hl
  have hM : M_isSign kind value a0 = (K_isSign_1 kind value a0) := rfl
  refine lv_aload_n hx hb dX4_isSign_0 rfl (lv_at hl 0 rfl) ?_
  refine va_get (D := D) (ci := 3) (v := .int kind) (C := RX4) (T := TX4) (N := 13) hx hb hts (fun w h => tbC w (tbfX4 w h)) hown hK hP 0 rfl rfl 6 (by decide) (hts (.fieldLink RX4 60 "PowerRails$Reader" "kind" "I") (tbC _ wd238)) (fun _ h9 => h9) rfl dX4_isSign_1 ?_
  refine lv_iconst (v := 3) hx hb dX4_isSign_4 (by decide) ?_
  refine lv_icmp_ne (tgt := 20) hx hb dX4_isSign_5 (by decide) (fun c_1 => ?_) (fun c_1 => ?_)
  · skip
    have i_1 : ¬ (kind.toInt = 3) := fun h9 => c_1 ((ieq rfl (by decide)).mpr h9)
    have hM : M_isSign kind value a0 = (K_isSign_2) := (show M_isSign kind value a0 = (if kind.toInt = 3 then (K_isSign_3 value a0) else (K_isSign_2)) from hM).trans (if_neg i_1)
    refine lv_iconst (v := 0) hx hb dX4_isSign_20 (by decide) ?_
    refine W.widen (k := 0) (n := 0) (by decide) (by decide) ?_
    exact W.zret (v := 0) hx hb hr (by decide) (fun t ht hW => ⟨⟨0, 0, rfl, ⟨rfl, ⟨by decide, by decide⟩⟩, ⟨hM, xB_of9 ht hW hP hK hD [0] (by decide +kernel) rfl⟩⟩, hS.F ht⟩) hS.2.2 dX4_isSign_21
  · skip
    have i_1 : kind.toInt = 3 := (ieq rfl (by decide)).mp c_1
    have hM : M_isSign kind value a0 = (K_isSign_3 value a0) := (show M_isSign kind value a0 = (if kind.toInt = 3 then (K_isSign_3 value a0) else (K_isSign_2)) from hM).trans (if_pos i_1)
    refine lv_aload_n hx hb dX4_isSign_8 rfl (lv_at hl 0 rfl) ?_
    refine va_get (D := D) (ci := 3) (v := .int value) (C := RX4) (T := TX4) (N := 13) hx hb hts (fun w h => tbC w (tbfX4 w h)) hown hK hP 0 rfl rfl 8 (by decide) (hts (.fieldLink RX4 91 "PowerRails$Reader" "value" "I") (tbC _ wd240)) (fun _ h9 => h9) rfl dX4_isSign_9 ?_
    refine lv_iload_n hx hb dX4_isSign_12 rfl (lv_at hl 1 rfl) ?_
    refine lv_icmp_ne (tgt := 20) hx hb dX4_isSign_13 (by decide) (fun c_2 => ?_) (fun c_2 => ?_)
    · skip
      have i_2 : ¬ (value.toInt = a0.toInt) := fun h9 => c_2 ((ieq rfl rfl).mpr h9)
      have hM : M_isSign kind value a0 = (K_isSign_4) := (show M_isSign kind value a0 = (if value.toInt = a0.toInt then (K_isSign_5) else (K_isSign_4)) from hM).trans (if_neg i_2)
      refine lv_iconst (v := 0) hx hb dX4_isSign_20 (by decide) ?_
      refine W.widen (k := 0) (n := 0) (by decide) (by decide) ?_
      exact W.zret (v := 0) hx hb hr (by decide) (fun t ht hW => ⟨⟨0, 0, rfl, ⟨rfl, ⟨by decide, by decide⟩⟩, ⟨hM, xB_of9 ht hW hP hK hD [0] (by decide +kernel) rfl⟩⟩, hS.F ht⟩) hS.2.2 dX4_isSign_21
    · skip
      have i_2 : value.toInt = a0.toInt := (ieq rfl rfl).mp c_2
      have hM : M_isSign kind value a0 = (K_isSign_5) := (show M_isSign kind value a0 = (if value.toInt = a0.toInt then (K_isSign_5) else (K_isSign_4)) from hM).trans (if_pos i_2)
      refine lv_iconst (v := 1) hx hb dX4_isSign_16 (by decide) ?_
      refine lv_goto (tgt := 21) hx hb dX4_isSign_17 (by decide) ?_
      refine W.widen (k := 0) (n := 0) (by decide) (by decide) ?_
      exact W.zret (v := 1) hx hb hr (by decide) (fun t ht hW => ⟨⟨1, 1, rfl, ⟨rfl, ⟨by decide, by decide⟩⟩, ⟨hM, xB_of9 ht hW hP hK hD [0] (by decide +kernel) rfl⟩⟩, hS.F ht⟩) hS.2.2 dX4_isSign_21
def sp_rn (pl fr : Int32) (f : Nat → Int32) : Int32 := if pl.toInt - fr.toInt = 1 then (if 0 ≤ (f fr.toNatClampNeg - 97).toInt ∧ (f fr.toNatClampNeg - 97).toInt < 8 then f fr.toNatClampNeg - 97 else -4) else -4
def K_railNamed_4  : (Int32) := ((-4 : Int32))
def K_railNamed_6  : (Int32) := ((-4 : Int32))
def K_railNamed_7 (v4 : Int32) : (Int32) := (v4)
def K_railNamed_5 (v4 : Int32) : (Int32) := (if 8 ≤ v4.toInt then (K_railNamed_6) else (K_railNamed_7 v4))
def K_railNamed_2 (tb : Nat → Int32) (from_ : Int32) : (Int32) := (if ((tb from_.toNatClampNeg) - (97 : Int32)).toInt < 0 then (K_railNamed_4) else (K_railNamed_5 ((tb from_.toNatClampNeg) - (97 : Int32))))
def K_railNamed_3  : (Int32) := ((-4 : Int32))
def K_railNamed_1 (place : Int32) (from_ : Int32) (tb : Nat → Int32) : (Int32) := (if (place.toInt - from_.toInt) = 1 then (K_railNamed_2 tb from_) else (K_railNamed_3))
def M_railNamed (place : Int32) (from_ : Int32) (tb : Nat → Int32) : (Int32) := (K_railNamed_1 place from_ tb)
abbrev W_railNamed (cI cJ cZ cG cH : ClassId) (rd : Nat) (tp : Nat) (rfa : Nat) (rya : Nat) (rla : Nat) (pl : Nat) (place : Int32) (kind : Int32) (from_ : Int32) (value : Int32) (told : Int32) (depth : Int32) (fault : Int32) (fplace : Int32) (tba : Nat) (tl : Int32) (tb : Nat → Int32) : va_W := [oX4 rd tp rfa rya rla pl place kind from_ value told depth fault fplace, oX8 tp tba tl, oAI tba cI 400 tb]
abbrev Q_railNamed (D : va_G) (cI cJ cZ cG cH : ClassId) (rd : Nat) (tp : Nat) (rfa : Nat) (rya : Nat) (rla : Nat) (pl : Nat) (place : Int32) (kind : Int32) (from_ : Int32) (value : Int32) (told : Int32) (depth : Int32) (fault : Int32) (fplace : Int32) (tba : Nat) (tl : Int32) (tb : Nat → Int32) (A : Nat → Prop) : Array Value → State → Outcome → State → Prop := va_Qi (fun (r : Int32) (u9 : Int32) => r = u9 ∧ ((r = sp_rn place from_ tb) ∧ (r.toInt = -4 ∨ 0 ≤ r.toInt) ∧ -4 ≤ r.toInt ∧ r.toInt ≤ 7)) (fun u9 t => (M_railNamed place from_ tb = (u9)) ∧ xB D (tyL cI cJ cZ cG cH) [oX4 rd tp rfa rya rla pl place kind from_ value told depth fault fplace, oX8 tp tba tl, oAI tba cI 400 tb] A t) A
abbrev rm_railNamed : Room := { frames := 0, cells := 0, slots := 0, locals := 0 }
set_option maxRecDepth 100000 in
set_option maxHeartbeats 40000000 in
theorem c_railNamed (l : Launch) (D : va_G) (cI cJ cZ cG cH : ClassId) (sz : Nat) (rd : Nat) (tp : Nat) (rfa : Nat) (rya : Nat) (rla : Nat) (pl : Nat) (place : Int32) (kind : Int32) (from_ : Int32) (value : Int32) (told : Int32) (depth : Int32) (fault : Int32) (fplace : Int32) (tba : Nat) (tl : Int32) (tb : Nat → Int32) (h_place : 0 ≤ place.toInt ∧ place.toInt ≤ 400) (h_from_ : 0 ≤ from_.toInt ∧ from_.toInt ≤ 400) (h_depth : 0 ≤ depth.toInt ∧ depth.toInt ≤ 6) (h_tl : 0 ≤ tl.toInt ∧ tl.toInt ≤ 400) : Met l yX4_railNamed (wt yX4_railNamed cX4_railNamed 2 (some .int)) rm_railNamed (xPc [.ref rd] D (tyL cI cJ cZ cG cH) (W_railNamed cI cJ cZ cG cH rd tp rfa rya rla pl place kind from_ value told depth fault fplace tba tl tb) sz) (Q_railNamed D cI cJ cZ cG cH rd tp rfa rya rla pl place kind from_ value told depth fault fplace tba tl tb (va_A (W_railNamed cI cJ cZ cG cH rd tp rfa rya rla pl place kind from_ value told depth fault fplace tba tl tb) sz)) 0 0 (va_A (W_railNamed cI cJ cZ cG cH rd tp rfa rya rla pl place kind from_ value told depth fault fplace tba tl tb) sz) := by
  refine xMet (cc := cX4_railNamed) (maxL := 2) (ret := (some .int)) (Qf := Q_railNamed D cI cJ cZ cG cH rd tp rfa rya rla pl place kind from_ value told depth fault fplace tba tl tb) (by decide) rfl (Nat.le_of_ble_eq_true rfl) ?_
  intro p e s m below meth c ls A hx hb hr hml hts hown hlocks hnm hsz hP hK hD hA hS hl
  have hown : s.vm.findClass RX4 = some m.cls := hown
  have hP : va_P D vwCl [oX4 rd tp rfa rya rla pl place kind from_ value told depth fault fplace, oX8 tp tba tl, oAI tba cI 400 tb] s.heap := hP
  have hD : va_D A [oX4 rd tp rfa rya rla pl place kind from_ value told depth fault fplace, oX8 tp tba tl, oAI tba cI 400 tb] := hD
  have hl : lv_has ls 2 [(0, .ref rd)] := hl
  have hM : M_railNamed place from_ tb = (K_railNamed_1 place from_ tb) := rfl
  refine lv_aload_n hx hb dX4_railNamed_0 rfl (lv_at hl 0 rfl) ?_
  refine va_get (D := D) (ci := 3) (v := .int place) (C := RX4) (T := TX4) (N := 13) hx hb hts (fun w h => tbC w (tbfX4 w h)) hown hK hP 0 rfl rfl 5 (by decide) (hts (.fieldLink RX4 36 "PowerRails$Reader" "place" "I") (tbC _ wd237)) (fun _ h9 => h9) rfl dX4_railNamed_1 ?_
  refine lv_aload_n hx hb dX4_railNamed_4 rfl (lv_at hl 0 rfl) ?_
  refine va_get (D := D) (ci := 3) (v := .int from_) (C := RX4) (T := TX4) (N := 13) hx hb hts (fun w h => tbC w (tbfX4 w h)) hown hK hP 0 rfl rfl 7 (by decide) (hts (.fieldLink RX4 88 "PowerRails$Reader" "from" "I") (tbC _ wd239)) (fun _ h9 => h9) rfl dX4_railNamed_5 ?_
  refine lv_isub hx hb dX4_railNamed_8 ?_
  refine lv_topi (fun v1 ev1 => ?_)
  have tv1 : v1.toInt = (place.toInt - from_.toInt) := (congrArg Int32.toInt ev1).trans (xsub rfl rfl (by omega) (by omega))
  refine lv_iconst (v := 1) hx hb dX4_railNamed_9 (by decide) ?_
  refine lv_icmp_eq (tgt := 16) hx hb dX4_railNamed_10 (by decide) (fun c_2 => ?_) (fun c_2 => ?_)
  · skip
    have i_2 : (place.toInt - from_.toInt) = 1 := (ieq tv1 (by decide)).mp c_2
    have hM : M_railNamed place from_ tb = (K_railNamed_2 tb from_) := (show M_railNamed place from_ tb = (if (place.toInt - from_.toInt) = 1 then (K_railNamed_2 tb from_) else (K_railNamed_3)) from hM).trans (if_pos i_2)
    refine lv_aload_n hx hb dX4_railNamed_16 rfl (lv_at hl 0 rfl) ?_
    refine va_get (D := D) (ci := 3) (v := .ref tp) (C := RX4) (T := TX4) (N := 13) hx hb hts (fun w h => tbC w (tbfX4 w h)) hown hK hP 0 rfl rfl 0 (by decide) (hts (.fieldLink RX4 9 "PowerRails$Reader" "tape" "LPowerRails$Tape;") (tbC _ wd232)) (fun _ h9 => h9) rfl dX4_railNamed_17 ?_
    refine va_get (D := D) (ci := 7) (v := .ref tba) (C := RX8) (T := TX8) (N := 2) hx hb hts (fun w h => tbC w (tbfX8 w h)) hown hK hP 1 rfl rfl 0 (by decide) (hts (.fieldLink RX4 85 "PowerRails$Tape" "bytes" "[I") (tbC _ wd82)) (fun _ h9 => h9) rfl dX4_railNamed_20 ?_
    refine lv_aload_n hx hb dX4_railNamed_23 rfl (lv_at hl 0 rfl) ?_
    refine va_get (D := D) (ci := 3) (v := .int from_) (C := RX4) (T := TX4) (N := 13) hx hb hts (fun w h => tbC w (tbfX4 w h)) hown hK hP 0 rfl rfl 7 (by decide) (hts (.fieldLink RX4 88 "PowerRails$Reader" "from" "I") (tbC _ wd239)) (fun _ h9 => h9) rfl dX4_railNamed_24 ?_
    refine va_iald hx hb hK hP 2 0 rfl rfl (vp_in_iff.mpr ⟨by omega, by omega⟩) dX4_railNamed_27 ?_
    refine lv_topi (fun v3 ev3 => ?_)
    refine lv_bipush (v := 97) hx hb dX4_railNamed_28 (by decide) ?_
    refine lv_isub hx hb dX4_railNamed_30 ?_
    refine lv_topi (fun v4 ev4 => ?_)
    refine lv_istore_n (lv' := [(1, .int v4), (0, .ref rd)]) hx hb dX4_railNamed_31 rfl hl (by decide) rfl (fun ls hl => ?_)
    refine lv_iload_n hx hb dX4_railNamed_32 rfl (lv_at hl 0 rfl) ?_
    refine lv_if_lt (tgt := 46) hx hb dX4_railNamed_33 (by decide) (fun c_5 => ?_) (fun c_5 => ?_)
    · skip
      have i_5 : v4.toInt < 0 := (ilt rfl (by decide)).mp c_5
      have hM : M_railNamed place from_ tb = (K_railNamed_4) := (show M_railNamed place from_ tb = (if v4.toInt < 0 then (K_railNamed_4) else (K_railNamed_5 v4)) from (by rw [ev4, ev3]; exact hM)).trans (if_pos i_5)
      refine lv_bipush (v := (-4)) hx hb dX4_railNamed_46 (by decide) ?_
      refine W.widen (k := 0) (n := 0) (by decide) (by decide) ?_
      exact W.iret (v := (-4)) hx hb hr (fun t ht hW => ⟨⟨(-4), (-4), rfl, ⟨rfl, ⟨(by unfold sp_rn; rw [if_pos (by omega), ← ev3, ← ev4, if_neg (by omega)]), Or.inl (by decide), by decide, by decide⟩⟩, ⟨hM, xB_of9 ht hW hP hK hD [0, 1, 2] (by decide +kernel) rfl⟩⟩, hS.F ht⟩) hS.2.2 dX4_railNamed_48
    · skip
      have i_5 : ¬ (v4.toInt < 0) := fun h9 => c_5 ((ilt rfl (by decide)).mpr h9)
      have hM : M_railNamed place from_ tb = (K_railNamed_5 v4) := (show M_railNamed place from_ tb = (if v4.toInt < 0 then (K_railNamed_4) else (K_railNamed_5 v4)) from (by rw [ev4, ev3]; exact hM)).trans (if_neg i_5)
      refine lv_iload_n hx hb dX4_railNamed_36 rfl (lv_at hl 0 rfl) ?_
      refine lv_bipush (v := 8) hx hb dX4_railNamed_37 (by decide) ?_
      refine lv_icmp_ge (tgt := 46) hx hb dX4_railNamed_39 (by decide) (fun c_6 => ?_) (fun c_6 => ?_)
      · skip
        have i_6 : 8 ≤ v4.toInt := (ile (by decide) rfl).mp c_6
        have hM : M_railNamed place from_ tb = (K_railNamed_6) := (show M_railNamed place from_ tb = (if 8 ≤ v4.toInt then (K_railNamed_6) else (K_railNamed_7 v4)) from hM).trans (if_pos i_6)
        refine lv_bipush (v := (-4)) hx hb dX4_railNamed_46 (by decide) ?_
        refine W.widen (k := 0) (n := 0) (by decide) (by decide) ?_
        exact W.iret (v := (-4)) hx hb hr (fun t ht hW => ⟨⟨(-4), (-4), rfl, ⟨rfl, ⟨(by unfold sp_rn; rw [if_pos (by omega), ← ev3, ← ev4, if_neg (by omega)]), Or.inl (by decide), by decide, by decide⟩⟩, ⟨hM, xB_of9 ht hW hP hK hD [0, 1, 2] (by decide +kernel) rfl⟩⟩, hS.F ht⟩) hS.2.2 dX4_railNamed_48
      · skip
        have i_6 : ¬ (8 ≤ v4.toInt) := fun h9 => c_6 ((ile (by decide) rfl).mpr h9)
        have hM : M_railNamed place from_ tb = (K_railNamed_7 v4) := (show M_railNamed place from_ tb = (if 8 ≤ v4.toInt then (K_railNamed_6) else (K_railNamed_7 v4)) from hM).trans (if_neg i_6)
        refine lv_iload_n hx hb dX4_railNamed_42 rfl (lv_at hl 0 rfl) ?_
        refine lv_goto (tgt := 48) hx hb dX4_railNamed_43 (by decide) ?_
        refine W.widen (k := 0) (n := 0) (by decide) (by decide) ?_
        exact W.iret (v := v4) hx hb hr (fun t ht hW => ⟨⟨v4, v4, rfl, ⟨rfl, ⟨(by unfold sp_rn; rw [if_pos (by omega), ← ev3, ← ev4, if_pos (by omega)]), Or.inr (by omega), by omega, by omega⟩⟩, ⟨hM, xB_of9 ht hW hP hK hD [0, 1, 2] (by decide +kernel) rfl⟩⟩, hS.F ht⟩) hS.2.2 dX4_railNamed_48
  · skip
    have i_2 : ¬ ((place.toInt - from_.toInt) = 1) := fun h9 => c_2 ((ieq tv1 (by decide)).mpr h9)
    have hM : M_railNamed place from_ tb = (K_railNamed_3) := (show M_railNamed place from_ tb = (if (place.toInt - from_.toInt) = 1 then (K_railNamed_2 tb from_) else (K_railNamed_3)) from hM).trans (if_neg i_2)
    refine lv_bipush (v := (-4)) hx hb dX4_railNamed_13 (by decide) ?_
    refine W.widen (k := 0) (n := 0) (by decide) (by decide) ?_
    exact W.iret (v := (-4)) hx hb hr (fun t ht hW => ⟨⟨(-4), (-4), rfl, ⟨rfl, ⟨(by unfold sp_rn; rw [if_neg (by omega)]), Or.inl (by decide), by decide, by decide⟩⟩, ⟨hM, xB_of9 ht hW hP hK hD [0, 1, 2] (by decide +kernel) rfl⟩⟩, hS.F ht⟩) hS.2.2 dX4_railNamed_15
def K_takeSign_7 (place : Int32) (kind : Int32) (from_ : Int32) (value : Int32) (fault_5 : Int32) (fplace_6 : Int32) : (Int32) × (Int32) × (Int32) × (Int32) × (Int32) × (Int32) := (place, kind, from_, value, fault_5, fplace_6)
def K_takeSign_5 (place : Int32) (kind : Int32) (from_ : Int32) (value : Int32) (fault : Int32) (fplace : Int32) : (Int32) × (Int32) × (Int32) × (Int32) × (Int32) × (Int32) := ((fun t9 => (K_takeSign_7 place kind from_ value t9.1 t9.2)) (M_refuse fault (2 : Int32) from_ fplace))
def K_takeSign_8 (place_8 : Int32) (kind_9 : Int32) (from__10 : Int32) (value_11 : Int32) (fault_12 : Int32) (fplace_13 : Int32) : (Int32) × (Int32) × (Int32) × (Int32) × (Int32) × (Int32) := (place_8, kind_9, from__10, value_11, fault_12, fplace_13)
def K_takeSign_6 (tl : Int32) (tb : Nat → Int32) (fault : Int32) (fplace : Int32) (kind : Int32) (place : Int32) : (Int32) × (Int32) × (Int32) × (Int32) × (Int32) × (Int32) := ((fun t9 => (K_takeSign_8 t9.1 t9.2.1 t9.2.2.1 t9.2.2.2.1 t9.2.2.2.2.1 t9.2.2.2.2.2)) (M_step tl tb fault fplace kind place))
def K_takeSign_4 (r2 : Int32) (place : Int32) (kind : Int32) (from_ : Int32) (value : Int32) (fault : Int32) (fplace : Int32) (tl : Int32) (tb : Nat → Int32) : (Int32) × (Int32) × (Int32) × (Int32) × (Int32) × (Int32) := (if r2.toInt = 0 then (K_takeSign_5 place kind from_ value fault fplace) else (K_takeSign_6 tl tb fault fplace kind place))
def K_takeSign_2 (place : Int32) (kind : Int32) (from_ : Int32) (value : Int32) (fault : Int32) (fplace : Int32) (tl : Int32) (tb : Nat → Int32) (a0 : Int32) : (Int32) × (Int32) × (Int32) × (Int32) × (Int32) × (Int32) := ((fun t9 => (K_takeSign_4 t9 place kind from_ value fault fplace tl tb)) (M_isSign kind value a0))
def K_takeSign_3 (place : Int32) (kind : Int32) (from_ : Int32) (value : Int32) (fault : Int32) (fplace : Int32) : (Int32) × (Int32) × (Int32) × (Int32) × (Int32) × (Int32) := (place, kind, from_, value, fault, fplace)
def K_takeSign_1 (fault : Int32) (place : Int32) (kind : Int32) (from_ : Int32) (value : Int32) (fplace : Int32) (tl : Int32) (tb : Nat → Int32) (a0 : Int32) : (Int32) × (Int32) × (Int32) × (Int32) × (Int32) × (Int32) := (if fault.toInt = 0 then (K_takeSign_2 place kind from_ value fault fplace tl tb a0) else (K_takeSign_3 place kind from_ value fault fplace))
def M_takeSign (fault : Int32) (place : Int32) (kind : Int32) (from_ : Int32) (value : Int32) (fplace : Int32) (tl : Int32) (tb : Nat → Int32) (a0 : Int32) : (Int32) × (Int32) × (Int32) × (Int32) × (Int32) × (Int32) := (K_takeSign_1 fault place kind from_ value fplace tl tb a0)
abbrev W_takeSign (cI cJ cZ cG cH : ClassId) (rd : Nat) (a0 : Int32) (tp : Nat) (rfa : Nat) (rya : Nat) (rla : Nat) (pl : Nat) (place : Int32) (kind : Int32) (from_ : Int32) (value : Int32) (told : Int32) (depth : Int32) (fault : Int32) (fplace : Int32) (tba : Nat) (tl : Int32) (tb : Nat → Int32) : va_W := [oX4 rd tp rfa rya rla pl place kind from_ value told depth fault fplace, oX8 tp tba tl, oAI tba cI 400 tb]
abbrev Q_takeSign (D : va_G) (cI cJ cZ cG cH : ClassId) (rd : Nat) (a0 : Int32) (tp : Nat) (rfa : Nat) (rya : Nat) (rla : Nat) (pl : Nat) (place : Int32) (kind : Int32) (from_ : Int32) (value : Int32) (told : Int32) (depth : Int32) (fault : Int32) (fplace : Int32) (tba : Nat) (tl : Int32) (tb : Nat → Int32) (A : Nat → Prop) : Array Value → State → Outcome → State → Prop := va_Qv (fun (_ : Unit) => True) (fun _ t => ∃ (place9 : Int32) (kind9 : Int32) (from_9 : Int32) (value9 : Int32) (fault9 : Int32) (fplace9 : Int32), (0 ≤ place9.toInt ∧ place9.toInt ≤ 400) ∧ (0 ≤ from_9.toInt ∧ from_9.toInt ≤ 400) ∧ (M_takeSign fault place kind from_ value fplace tl tb a0 = (place9, kind9, from_9, value9, fault9, fplace9)) ∧ xB D (tyL cI cJ cZ cG cH) [oX4 rd tp rfa rya rla pl place9 kind9 from_9 value9 told depth fault9 fplace9, oX8 tp tba tl, oAI tba cI 400 tb] A t) A
abbrev rm_takeSign : Room := { frames := 3, cells := 0, slots := 0, locals := 64 }
set_option maxRecDepth 100000 in
set_option maxHeartbeats 40000000 in
theorem c_takeSign (l : Launch) (D : va_G) (cI cJ cZ cG cH : ClassId) (sz : Nat) (rd : Nat) (a0 : Int32) (tp : Nat) (rfa : Nat) (rya : Nat) (rla : Nat) (pl : Nat) (place : Int32) (kind : Int32) (from_ : Int32) (value : Int32) (told : Int32) (depth : Int32) (fault : Int32) (fplace : Int32) (tba : Nat) (tl : Int32) (tb : Nat → Int32) (h_place : 0 ≤ place.toInt ∧ place.toInt ≤ 400) (h_from_ : 0 ≤ from_.toInt ∧ from_.toInt ≤ 400) (h_depth : 0 ≤ depth.toInt ∧ depth.toInt ≤ 6) (h_tl : 0 ≤ tl.toInt ∧ tl.toInt ≤ 400) : Met l yX4_takeSign (wt yX4_takeSign cX4_takeSign 2 none) rm_takeSign (xPc [.ref rd, .int a0] D (tyL cI cJ cZ cG cH) (W_takeSign cI cJ cZ cG cH rd a0 tp rfa rya rla pl place kind from_ value told depth fault fplace tba tl tb) sz) (Q_takeSign D cI cJ cZ cG cH rd a0 tp rfa rya rla pl place kind from_ value told depth fault fplace tba tl tb (va_A (W_takeSign cI cJ cZ cG cH rd a0 tp rfa rya rla pl place kind from_ value told depth fault fplace tba tl tb) sz)) 0 0 (va_A (W_takeSign cI cJ cZ cG cH rd a0 tp rfa rya rla pl place kind from_ value told depth fault fplace tba tl tb) sz) := by
  refine xMet (cc := cX4_takeSign) (maxL := 2) (ret := none) (Qf := Q_takeSign D cI cJ cZ cG cH rd a0 tp rfa rya rla pl place kind from_ value told depth fault fplace tba tl tb) (by decide) rfl (Nat.le_of_ble_eq_true rfl) ?_
  intro p e s m below meth c ls A hx hb hr hml hts hown hlocks hnm hsz hP hK hD hA hS hl
  have hown : s.vm.findClass RX4 = some m.cls := hown
  have hP : va_P D vwCl [oX4 rd tp rfa rya rla pl place kind from_ value told depth fault fplace, oX8 tp tba tl, oAI tba cI 400 tb] s.heap := hP
  have hD : va_D A [oX4 rd tp rfa rya rla pl place kind from_ value told depth fault fplace, oX8 tp tba tl, oAI tba cI 400 tb] := hD
  have hl : lv_has ls 2 [(0, .ref rd), (1, .int a0)] := hl
  have hM : M_takeSign fault place kind from_ value fplace tl tb a0 = (K_takeSign_1 fault place kind from_ value fplace tl tb a0) := rfl
  refine lv_aload_n hx hb dX4_takeSign_0 rfl (lv_at hl 0 rfl) ?_
  refine va_get (D := D) (ci := 3) (v := .int fault) (C := RX4) (T := TX4) (N := 13) hx hb hts (fun w h => tbC w (tbfX4 w h)) hown hK hP 0 rfl rfl 11 (by decide) (hts (.fieldLink RX4 43 "PowerRails$Reader" "fault" "I") (tbC _ wd243)) (fun _ h9 => h9) rfl dX4_takeSign_1 ?_
  refine lv_if_eq (tgt := 8) hx hb dX4_takeSign_4 (by decide) (fun c_1 => ?_) (fun c_1 => ?_)
  · skip
    have i_1 : fault.toInt = 0 := (ieq rfl (by decide)).mp c_1
    have hM : M_takeSign fault place kind from_ value fplace tl tb a0 = (K_takeSign_2 place kind from_ value fault fplace tl tb a0) := (show M_takeSign fault place kind from_ value fplace tl tb a0 = (if fault.toInt = 0 then (K_takeSign_2 place kind from_ value fault fplace tl tb a0) else (K_takeSign_3 place kind from_ value fault fplace)) from hM).trans (if_pos i_1)
    refine lv_aload_n hx hb dX4_takeSign_8 rfl (lv_at hl 0 rfl) ?_
    refine lv_iload_n hx hb dX4_takeSign_9 rfl (lv_at hl 1 rfl) ?_
    obtain ⟨hPc, hDc, hFc, hC9⟩ := xpk (wc := W_isSign cI cJ cZ cG cH rd a0 tp rfa rya rla pl place kind from_ value told depth fault fplace) hP hD hS hA [0] (by decide +kernel) rfl
    refine va_calli (va_runV (As := [.int a0]) (rest := []) ⟨hx, hb, hml, hown, hts⟩ (c_isSign l D cI cJ cZ cG cH s.heap.size rd a0 tp rfa rya rla pl place kind from_ value told depth fault fplace (xrng rfl (by omega) (by omega)) (xrng rfl (by omega) (by omega)) (xrng rfl (by omega) (by omega))) (cwV 1 hts (xGV tbC wd361 wd362 wd363 wd60 wd994) rfl rfl rfl (by decide +kernel) ⟨Nat.le_of_ble_eq_true rfl, Nat.le_of_ble_eq_true rfl⟩) ⟨xPc_blind, va_recv hK hPc (ci := 3) (q0 := 0) rfl rfl, xPc_pre hPc hK hDc⟩ rfl rfl hl.1 rfl (lv_room (Nat.le_of_ble_eq_true rfl)) dX4_takeSign_10 ⟨Nat.le_of_ble_eq_true rfl, Nat.le_of_ble_eq_true rfl⟩) hS (fun q _ h => hFc q h) hFc (fun r2 u t H1 locs ht hvm hw2 hB hz1 hk1 hS => ?_)
    obtain ⟨hru9, hw2⟩ := hw2
    subst hru9
    obtain ⟨hf2_0, hP1, hK1, hD1⟩ := hB
    rw [ht] at hP1
    obtain ⟨hP, hD⟩ : xPD D A [oX8 tp tba tl, oAI tba cI 400 tb, oX4 rd tp rfa rya rla pl place kind from_ value told depth fault fplace] H1 := xjn 2 hP hD [0] [1, 2] hC9 rfl (by decide +kernel) (by decide +kernel) hk1 hFc hP1 hD1
    generalize H1 = H at hP hS ⊢
    have hf2_0 : M_isSign kind value a0 = (r2) := hf2_0
    have hw2 : 0 ≤ r2.toInt ∧ r2.toInt ≤ 1 := hw2
    have h9M := congrArg (fun t9 => (K_takeSign_4 t9 place kind from_ value fault fplace tl tb)) hf2_0
    have hM : M_takeSign fault place kind from_ value fplace tl tb a0 = (K_takeSign_4 r2 place kind from_ value fault fplace tl tb) := (show M_takeSign fault place kind from_ value fplace tl tb a0 = ((fun t9 => (K_takeSign_4 t9 place kind from_ value fault fplace tl tb)) (M_isSign kind value a0)) from hM).trans h9M
    refine lv_if_eq (tgt := 23) hx hb dX4_takeSign_13 (by decide) (fun c_3 => ?_) (fun c_3 => ?_)
    · skip
      have i_3 : r2.toInt = 0 := (ieq rfl (by decide)).mp c_3
      have hM : M_takeSign fault place kind from_ value fplace tl tb a0 = (K_takeSign_5 place kind from_ value fault fplace) := (show M_takeSign fault place kind from_ value fplace tl tb a0 = (if r2.toInt = 0 then (K_takeSign_5 place kind from_ value fault fplace) else (K_takeSign_6 tl tb fault fplace kind place)) from hM).trans (if_pos i_3)
      refine lv_aload_n hx hb dX4_takeSign_23 rfl (lv_at hl 0 rfl) ?_
      refine lv_iconst (v := 2) hx hb dX4_takeSign_24 (by decide) ?_
      refine lv_aload_n hx hb dX4_takeSign_25 rfl (lv_at hl 0 rfl) ?_
      refine va_get (D := D) (ci := 3) (v := .int from_) (C := RX4) (T := TX4) (N := 13) hx hb hts (fun w h => tbC w (tbfX4 w h)) hown hK hP 2 rfl rfl 7 (by decide) (hts (.fieldLink RX4 88 "PowerRails$Reader" "from" "I") (tbC _ wd239)) (fun _ h9 => h9) rfl dX4_takeSign_26 ?_
      obtain ⟨hPc, hDc, hFc, hC9⟩ := xpk (wc := W_refuse cI cJ cZ cG cH rd (2 : Int32) from_ tp rfa rya rla pl place kind from_ value told depth fault fplace) hP hD hS hA [2] (by decide +kernel) rfl
      refine va_callv (va_runV (As := [.int 2, .int from_]) (rest := []) ⟨hx, hb, hml, hown, hts⟩ (c_refuse l D cI cJ cZ cG cH H.size rd (2 : Int32) from_ tp rfa rya rla pl place kind from_ value told depth fault fplace (xrng rfl (by omega) (by omega)) (xrng rfl (by omega) (by omega)) (xrng rfl (by omega) (by omega))) (cwV 2 hts (xGV tbC wd285 wd286 wd287 wd60 wd969) rfl rfl rfl (by decide +kernel) ⟨Nat.le_of_ble_eq_true rfl, Nat.le_of_ble_eq_true rfl⟩) ⟨xPc_blind, va_recv hK hPc (ci := 3) (q0 := 0) rfl rfl, xPc_pre hPc hK hDc⟩ rfl rfl hl.1 rfl (lv_room (Nat.le_of_ble_eq_true rfl)) dX4_takeSign_29 ⟨Nat.le_of_ble_eq_true rfl, Nat.le_of_ble_eq_true rfl⟩) hS (fun q _ h => hFc q h) hFc (fun u t H1 locs ht hvm hw4 hB hz1 hk1 hS => ?_)
      obtain ⟨fault_5, fplace_6, hf6_0, hP1, hK1, hD1⟩ := hB
      rw [ht] at hP1
      obtain ⟨hP, hD⟩ : xPD D A [oX8 tp tba tl, oAI tba cI 400 tb, oX4 rd tp rfa rya rla pl place kind from_ value told depth fault_5 fplace_6] H1 := xjn 2 hP hD [2] [0, 1] hC9 rfl (by decide +kernel) (by decide +kernel) hk1 hFc hP1 hD1
      generalize H1 = H at hP hS ⊢
      have hf6_0 : M_refuse fault (2 : Int32) from_ fplace = (fault_5, fplace_6) := hf6_0
      have h9M := congrArg (fun t9 => (K_takeSign_7 place kind from_ value t9.1 t9.2)) hf6_0
      have hM : M_takeSign fault place kind from_ value fplace tl tb a0 = (K_takeSign_7 place kind from_ value fault_5 fplace_6) := (show M_takeSign fault place kind from_ value fplace tl tb a0 = ((fun t9 => (K_takeSign_7 place kind from_ value t9.1 t9.2)) (M_refuse fault (2 : Int32) from_ fplace)) from hM).trans h9M
      refine W.widen (k := 0) (n := 0) (by decide) (by decide) ?_
      exact W.vret hx hb hr (fun t ht hW => ⟨⟨(), rfl, trivial, ⟨place, kind, from_, value, fault_5, fplace_6, (xrng rfl (by omega) (by omega)), (xrng rfl (by omega) (by omega)), hM, xB_of9 ht hW hP hK hD [2, 0, 1] (by decide +kernel) rfl⟩⟩, hS.F ht⟩) hS.2.2 dX4_takeSign_32
    · skip
      have i_3 : ¬ (r2.toInt = 0) := fun h9 => c_3 ((ieq rfl (by decide)).mpr h9)
      have hM : M_takeSign fault place kind from_ value fplace tl tb a0 = (K_takeSign_6 tl tb fault fplace kind place) := (show M_takeSign fault place kind from_ value fplace tl tb a0 = (if r2.toInt = 0 then (K_takeSign_5 place kind from_ value fault fplace) else (K_takeSign_6 tl tb fault fplace kind place)) from hM).trans (if_neg i_3)
      refine lv_aload_n hx hb dX4_takeSign_16 rfl (lv_at hl 0 rfl) ?_
      obtain ⟨hPc, hDc, hFc, hC9⟩ := xpk (wc := W_step cI cJ cZ cG cH rd tp rfa rya rla pl place kind from_ value told depth fault fplace tba tl tb) hP hD hS hA [2, 0, 1] (by decide +kernel) rfl
      refine va_callv (va_runV (As := []) (rest := []) ⟨hx, hb, hml, hown, hts⟩ (c_step l D cI cJ cZ cG cH H.size rd tp rfa rya rla pl place kind from_ value told depth fault fplace tba tl tb (xrng rfl (by omega) (by omega)) (xrng rfl (by omega) (by omega)) (xrng rfl (by omega) (by omega)) (xrng rfl (by omega) (by omega))) (cwV 0 hts (xGV tbC wd276 wd277 wd278 wd60 wd966) rfl rfl rfl (by decide +kernel) ⟨Nat.le_of_ble_eq_true rfl, Nat.le_of_ble_eq_true rfl⟩) ⟨xPc_blind, va_recv hK hPc (ci := 3) (q0 := 0) rfl rfl, xPc_pre hPc hK hDc⟩ rfl rfl hl.1 rfl (lv_room (Nat.le_of_ble_eq_true rfl)) dX4_takeSign_17 ⟨Nat.le_of_ble_eq_true rfl, Nat.le_of_ble_eq_true rfl⟩) hS (fun q _ h => hFc q h) hFc (fun u t H1 locs ht hvm hw7 hB hz1 hk1 hS => ?_)
      revert hB
      refine xex6r (fun place_8 kind_9 from__10 value_11 fault_12 fplace_13 => ?_)
      refine xan6r (fun hf13_0 hf13_1 hf13_2 hP1 hK1 hD1 => ?_)
      rw [ht] at hP1
      obtain ⟨hP, hD⟩ : xPD D A [oX4 rd tp rfa rya rla pl place_8 kind_9 from__10 value_11 told depth fault_12 fplace_13, oX8 tp tba tl, oAI tba cI 400 tb] H1 := xjn 0 hP hD [2, 0, 1] [] hC9 rfl (by decide +kernel) (by decide +kernel) hk1 hFc hP1 hD1
      generalize H1 = H at hP hS ⊢
      have hf13_0 : 0 ≤ place_8.toInt ∧ place_8.toInt ≤ 400 := hf13_0
      have hf13_1 : 0 ≤ from__10.toInt ∧ from__10.toInt ≤ 400 := hf13_1
      have hf13_2 : M_step tl tb fault fplace kind place = (place_8, kind_9, from__10, value_11, fault_12, fplace_13) := hf13_2
      have h9M := congrArg (fun t9 => (K_takeSign_8 t9.1 t9.2.1 t9.2.2.1 t9.2.2.2.1 t9.2.2.2.2.1 t9.2.2.2.2.2)) hf13_2
      have hM : M_takeSign fault place kind from_ value fplace tl tb a0 = (K_takeSign_8 place_8 kind_9 from__10 value_11 fault_12 fplace_13) := (show M_takeSign fault place kind from_ value fplace tl tb a0 = ((fun t9 => (K_takeSign_8 t9.1 t9.2.1 t9.2.2.1 t9.2.2.2.1 t9.2.2.2.2.1 t9.2.2.2.2.2)) (M_step tl tb fault fplace kind place)) from hM).trans h9M
      refine lv_goto (tgt := 32) hx hb dX4_takeSign_20 (by decide) ?_
      refine W.widen (k := 0) (n := 0) (by decide) (by decide) ?_
      exact W.vret hx hb hr (fun t ht hW => ⟨⟨(), rfl, trivial, ⟨place_8, kind_9, from__10, value_11, fault_12, fplace_13, (xrng rfl (by omega) (by omega)), (xrng rfl (by omega) (by omega)), hM, xB_of9 ht hW hP hK hD [0, 1, 2] (by decide +kernel) rfl⟩⟩, hS.F ht⟩) hS.2.2 dX4_takeSign_32
  · skip
    have i_1 : ¬ (fault.toInt = 0) := fun h9 => c_1 ((ieq rfl (by decide)).mpr h9)
    have hM : M_takeSign fault place kind from_ value fplace tl tb a0 = (K_takeSign_3 place kind from_ value fault fplace) := (show M_takeSign fault place kind from_ value fplace tl tb a0 = (if fault.toInt = 0 then (K_takeSign_2 place kind from_ value fault fplace tl tb a0) else (K_takeSign_3 place kind from_ value fault fplace)) from hM).trans (if_neg i_1)
    refine W.widen (k := 0) (n := 0) (by decide) (by decide) ?_
    exact W.vret hx hb hr (fun t ht hW => ⟨⟨(), rfl, trivial, ⟨place, kind, from_, value, fault, fplace, (xrng rfl (by omega) (by omega)), (xrng rfl (by omega) (by omega)), hM, xB_of9 ht hW hP hK hD [0, 1, 2] (by decide +kernel) rfl⟩⟩, hS.F ht⟩) hS.2.2 dX4_takeSign_7
def K_takeNumber_8 (a0 : Int32) (place : Int32) (kind : Int32) (from_ : Int32) (value : Int32) (fault_5 : Int32) (fplace_6 : Int32) : (Int32) × (Int32) × (Int32) × (Int32) × (Int32) × (Int32) × (Int32) := (a0, place, kind, from_, value, fault_5, fplace_6)
def K_takeNumber_6 (a0 : Int32) (place : Int32) (kind : Int32) (from_ : Int32) (value : Int32) (fault : Int32) (fplace : Int32) : (Int32) × (Int32) × (Int32) × (Int32) × (Int32) × (Int32) × (Int32) := ((fun t9 => (K_takeNumber_8 a0 place kind from_ value t9.1 t9.2)) (M_refuse fault (3 : Int32) from_ fplace))
def K_takeNumber_11 (value : Int32) (place_9 : Int32) (kind_10 : Int32) (from__11 : Int32) (value_12 : Int32) (fault_13 : Int32) (fplace_14 : Int32) : (Int32) × (Int32) × (Int32) × (Int32) × (Int32) × (Int32) × (Int32) := (value, place_9, kind_10, from__11, value_12, fault_13, fplace_14)
def K_takeNumber_9 (value : Int32) (tl : Int32) (tb : Nat → Int32) (fault : Int32) (fplace : Int32) (kind : Int32) (place : Int32) : (Int32) × (Int32) × (Int32) × (Int32) × (Int32) × (Int32) × (Int32) := ((fun t9 => (K_takeNumber_11 value t9.1 t9.2.1 t9.2.2.1 t9.2.2.2.1 t9.2.2.2.2.1 t9.2.2.2.2.2)) (M_step tl tb fault fplace kind place))
def K_takeNumber_12 (a0 : Int32) (place : Int32) (kind : Int32) (from_ : Int32) (value : Int32) (fault_16 : Int32) (fplace_17 : Int32) : (Int32) × (Int32) × (Int32) × (Int32) × (Int32) × (Int32) × (Int32) := (a0, place, kind, from_, value, fault_16, fplace_17)
def K_takeNumber_10 (a0 : Int32) (place : Int32) (kind : Int32) (from_ : Int32) (value : Int32) (fault : Int32) (fplace : Int32) : (Int32) × (Int32) × (Int32) × (Int32) × (Int32) × (Int32) × (Int32) := ((fun t9 => (K_takeNumber_12 a0 place kind from_ value t9.1 t9.2)) (M_refuse fault (3 : Int32) from_ fplace))
def K_takeNumber_7 (value : Int32) (a1 : Int32) (tl : Int32) (tb : Nat → Int32) (fault : Int32) (fplace : Int32) (kind : Int32) (place : Int32) (a0 : Int32) (from_ : Int32) : (Int32) × (Int32) × (Int32) × (Int32) × (Int32) × (Int32) × (Int32) := (if value.toInt ≤ a1.toInt then (K_takeNumber_9 value tl tb fault fplace kind place) else (K_takeNumber_10 a0 place kind from_ value fault fplace))
def K_takeNumber_4 (value : Int32) (a0 : Int32) (place : Int32) (kind : Int32) (from_ : Int32) (fault : Int32) (fplace : Int32) (a1 : Int32) (tl : Int32) (tb : Nat → Int32) : (Int32) × (Int32) × (Int32) × (Int32) × (Int32) × (Int32) × (Int32) := (if value.toInt < a0.toInt then (K_takeNumber_6 a0 place kind from_ value fault fplace) else (K_takeNumber_7 value a1 tl tb fault fplace kind place a0 from_))
def K_takeNumber_13 (a0 : Int32) (place : Int32) (kind : Int32) (from_ : Int32) (value : Int32) (fault_19 : Int32) (fplace_20 : Int32) : (Int32) × (Int32) × (Int32) × (Int32) × (Int32) × (Int32) × (Int32) := (a0, place, kind, from_, value, fault_19, fplace_20)
def K_takeNumber_5 (a0 : Int32) (place : Int32) (kind : Int32) (from_ : Int32) (value : Int32) (fault : Int32) (fplace : Int32) : (Int32) × (Int32) × (Int32) × (Int32) × (Int32) × (Int32) × (Int32) := ((fun t9 => (K_takeNumber_13 a0 place kind from_ value t9.1 t9.2)) (M_refuse fault (2 : Int32) from_ fplace))
def K_takeNumber_2 (kind : Int32) (value : Int32) (a0 : Int32) (place : Int32) (from_ : Int32) (fault : Int32) (fplace : Int32) (a1 : Int32) (tl : Int32) (tb : Nat → Int32) : (Int32) × (Int32) × (Int32) × (Int32) × (Int32) × (Int32) × (Int32) := (if kind.toInt = 2 then (K_takeNumber_4 value a0 place kind from_ fault fplace a1 tl tb) else (K_takeNumber_5 a0 place kind from_ value fault fplace))
def K_takeNumber_3 (a0 : Int32) (place : Int32) (kind : Int32) (from_ : Int32) (value : Int32) (fault : Int32) (fplace : Int32) : (Int32) × (Int32) × (Int32) × (Int32) × (Int32) × (Int32) × (Int32) := (a0, place, kind, from_, value, fault, fplace)
def K_takeNumber_1 (fault : Int32) (kind : Int32) (value : Int32) (a0 : Int32) (place : Int32) (from_ : Int32) (fplace : Int32) (a1 : Int32) (tl : Int32) (tb : Nat → Int32) : (Int32) × (Int32) × (Int32) × (Int32) × (Int32) × (Int32) × (Int32) := (if fault.toInt = 0 then (K_takeNumber_2 kind value a0 place from_ fault fplace a1 tl tb) else (K_takeNumber_3 a0 place kind from_ value fault fplace))
def M_takeNumber (fault : Int32) (kind : Int32) (value : Int32) (a0 : Int32) (place : Int32) (from_ : Int32) (fplace : Int32) (a1 : Int32) (tl : Int32) (tb : Nat → Int32) : (Int32) × (Int32) × (Int32) × (Int32) × (Int32) × (Int32) × (Int32) := (K_takeNumber_1 fault kind value a0 place from_ fplace a1 tl tb)
abbrev W_takeNumber (cI cJ cZ cG cH : ClassId) (rd : Nat) (a0 : Int32) (a1 : Int32) (tp : Nat) (rfa : Nat) (rya : Nat) (rla : Nat) (pl : Nat) (place : Int32) (kind : Int32) (from_ : Int32) (value : Int32) (told : Int32) (depth : Int32) (fault : Int32) (fplace : Int32) (tba : Nat) (tl : Int32) (tb : Nat → Int32) : va_W := [oX4 rd tp rfa rya rla pl place kind from_ value told depth fault fplace, oX8 tp tba tl, oAI tba cI 400 tb]
abbrev Q_takeNumber (D : va_G) (cI cJ cZ cG cH : ClassId) (rd : Nat) (a0 : Int32) (a1 : Int32) (tp : Nat) (rfa : Nat) (rya : Nat) (rla : Nat) (pl : Nat) (place : Int32) (kind : Int32) (from_ : Int32) (value : Int32) (told : Int32) (depth : Int32) (fault : Int32) (fplace : Int32) (tba : Nat) (tl : Int32) (tb : Nat → Int32) (A : Nat → Prop) : Array Value → State → Outcome → State → Prop := va_Qi (fun (r : Int32) (u9 : Int32) => r = u9 ∧ (a0.toInt ≤ r.toInt ∧ (r.toInt ≤ a0.toInt ∨ r.toInt ≤ a1.toInt))) (fun u9 t => ∃ (place9 : Int32) (kind9 : Int32) (from_9 : Int32) (value9 : Int32) (fault9 : Int32) (fplace9 : Int32), (0 ≤ place9.toInt ∧ place9.toInt ≤ 400) ∧ (0 ≤ from_9.toInt ∧ from_9.toInt ≤ 400) ∧ (M_takeNumber fault kind value a0 place from_ fplace a1 tl tb = (u9, place9, kind9, from_9, value9, fault9, fplace9)) ∧ xB D (tyL cI cJ cZ cG cH) [oX4 rd tp rfa rya rla pl place9 kind9 from_9 value9 told depth fault9 fplace9, oX8 tp tba tl, oAI tba cI 400 tb] A t) A
abbrev rm_takeNumber : Room := { frames := 3, cells := 0, slots := 0, locals := 64 }
set_option maxRecDepth 100000 in
set_option maxHeartbeats 40000000 in
theorem c_takeNumber (l : Launch) (D : va_G) (cI cJ cZ cG cH : ClassId) (sz : Nat) (rd : Nat) (a0 : Int32) (a1 : Int32) (tp : Nat) (rfa : Nat) (rya : Nat) (rla : Nat) (pl : Nat) (place : Int32) (kind : Int32) (from_ : Int32) (value : Int32) (told : Int32) (depth : Int32) (fault : Int32) (fplace : Int32) (tba : Nat) (tl : Int32) (tb : Nat → Int32) (h_place : 0 ≤ place.toInt ∧ place.toInt ≤ 400) (h_from_ : 0 ≤ from_.toInt ∧ from_.toInt ≤ 400) (h_depth : 0 ≤ depth.toInt ∧ depth.toInt ≤ 6) (h_tl : 0 ≤ tl.toInt ∧ tl.toInt ≤ 400) : Met l yX4_takeNumber (wt yX4_takeNumber cX4_takeNumber 4 (some .int)) rm_takeNumber (xPc [.ref rd, .int a0, .int a1] D (tyL cI cJ cZ cG cH) (W_takeNumber cI cJ cZ cG cH rd a0 a1 tp rfa rya rla pl place kind from_ value told depth fault fplace tba tl tb) sz) (Q_takeNumber D cI cJ cZ cG cH rd a0 a1 tp rfa rya rla pl place kind from_ value told depth fault fplace tba tl tb (va_A (W_takeNumber cI cJ cZ cG cH rd a0 a1 tp rfa rya rla pl place kind from_ value told depth fault fplace tba tl tb) sz)) 0 0 (va_A (W_takeNumber cI cJ cZ cG cH rd a0 a1 tp rfa rya rla pl place kind from_ value told depth fault fplace tba tl tb) sz) := by
  refine xMet (cc := cX4_takeNumber) (maxL := 4) (ret := (some .int)) (Qf := Q_takeNumber D cI cJ cZ cG cH rd a0 a1 tp rfa rya rla pl place kind from_ value told depth fault fplace tba tl tb) (by decide) rfl (Nat.le_of_ble_eq_true rfl) ?_
  intro p e s m below meth c ls A hx hb hr hml hts hown hlocks hnm hsz hP hK hD hA hS hl
  have hown : s.vm.findClass RX4 = some m.cls := hown
  have hP : va_P D vwCl [oX4 rd tp rfa rya rla pl place kind from_ value told depth fault fplace, oX8 tp tba tl, oAI tba cI 400 tb] s.heap := hP
  have hD : va_D A [oX4 rd tp rfa rya rla pl place kind from_ value told depth fault fplace, oX8 tp tba tl, oAI tba cI 400 tb] := hD
  have hl : lv_has ls 4 [(0, .ref rd), (1, .int a0), (2, .int a1)] := hl
  have hM : M_takeNumber fault kind value a0 place from_ fplace a1 tl tb = (K_takeNumber_1 fault kind value a0 place from_ fplace a1 tl tb) := rfl
  refine lv_aload_n hx hb dX4_takeNumber_0 rfl (lv_at hl 0 rfl) ?_
  refine va_get (D := D) (ci := 3) (v := .int fault) (C := RX4) (T := TX4) (N := 13) hx hb hts (fun w h => tbC w (tbfX4 w h)) hown hK hP 0 rfl rfl 11 (by decide) (hts (.fieldLink RX4 43 "PowerRails$Reader" "fault" "I") (tbC _ wd243)) (fun _ h9 => h9) rfl dX4_takeNumber_1 ?_
  refine lv_if_eq (tgt := 9) hx hb dX4_takeNumber_4 (by decide) (fun c_1 => ?_) (fun c_1 => ?_)
  · skip
    have i_1 : fault.toInt = 0 := (ieq rfl (by decide)).mp c_1
    have hM : M_takeNumber fault kind value a0 place from_ fplace a1 tl tb = (K_takeNumber_2 kind value a0 place from_ fault fplace a1 tl tb) := (show M_takeNumber fault kind value a0 place from_ fplace a1 tl tb = (if fault.toInt = 0 then (K_takeNumber_2 kind value a0 place from_ fault fplace a1 tl tb) else (K_takeNumber_3 a0 place kind from_ value fault fplace)) from hM).trans (if_pos i_1)
    refine lv_aload_n hx hb dX4_takeNumber_9 rfl (lv_at hl 0 rfl) ?_
    refine va_get (D := D) (ci := 3) (v := .int kind) (C := RX4) (T := TX4) (N := 13) hx hb hts (fun w h => tbC w (tbfX4 w h)) hown hK hP 0 rfl rfl 6 (by decide) (hts (.fieldLink RX4 60 "PowerRails$Reader" "kind" "I") (tbC _ wd238)) (fun _ h9 => h9) rfl dX4_takeNumber_10 ?_
    refine lv_iconst (v := 2) hx hb dX4_takeNumber_13 (by decide) ?_
    refine lv_icmp_eq (tgt := 28) hx hb dX4_takeNumber_14 (by decide) (fun c_2 => ?_) (fun c_2 => ?_)
    · skip
      have i_2 : kind.toInt = 2 := (ieq rfl (by decide)).mp c_2
      have hM : M_takeNumber fault kind value a0 place from_ fplace a1 tl tb = (K_takeNumber_4 value a0 place kind from_ fault fplace a1 tl tb) := (show M_takeNumber fault kind value a0 place from_ fplace a1 tl tb = (if kind.toInt = 2 then (K_takeNumber_4 value a0 place kind from_ fault fplace a1 tl tb) else (K_takeNumber_5 a0 place kind from_ value fault fplace)) from hM).trans (if_pos i_2)
      refine lv_aload_n hx hb dX4_takeNumber_28 rfl (lv_at hl 0 rfl) ?_
      refine va_get (D := D) (ci := 3) (v := .int value) (C := RX4) (T := TX4) (N := 13) hx hb hts (fun w h => tbC w (tbfX4 w h)) hown hK hP 0 rfl rfl 8 (by decide) (hts (.fieldLink RX4 91 "PowerRails$Reader" "value" "I") (tbC _ wd240)) (fun _ h9 => h9) rfl dX4_takeNumber_29 ?_
      refine lv_iload_n hx hb dX4_takeNumber_32 rfl (lv_at hl 1 rfl) ?_
      refine lv_icmp_lt (tgt := 44) hx hb dX4_takeNumber_33 (by decide) (fun c_3 => ?_) (fun c_3 => ?_)
      · skip
        have i_3 : value.toInt < a0.toInt := (ilt rfl rfl).mp c_3
        have hM : M_takeNumber fault kind value a0 place from_ fplace a1 tl tb = (K_takeNumber_6 a0 place kind from_ value fault fplace) := (show M_takeNumber fault kind value a0 place from_ fplace a1 tl tb = (if value.toInt < a0.toInt then (K_takeNumber_6 a0 place kind from_ value fault fplace) else (K_takeNumber_7 value a1 tl tb fault fplace kind place a0 from_)) from hM).trans (if_pos i_3)
        refine lv_aload_n hx hb dX4_takeNumber_44 rfl (lv_at hl 0 rfl) ?_
        refine lv_iconst (v := 3) hx hb dX4_takeNumber_45 (by decide) ?_
        refine lv_aload_n hx hb dX4_takeNumber_46 rfl (lv_at hl 0 rfl) ?_
        refine va_get (D := D) (ci := 3) (v := .int from_) (C := RX4) (T := TX4) (N := 13) hx hb hts (fun w h => tbC w (tbfX4 w h)) hown hK hP 0 rfl rfl 7 (by decide) (hts (.fieldLink RX4 88 "PowerRails$Reader" "from" "I") (tbC _ wd239)) (fun _ h9 => h9) rfl dX4_takeNumber_47 ?_
        obtain ⟨hPc, hDc, hFc, hC9⟩ := xpk (wc := W_refuse cI cJ cZ cG cH rd (3 : Int32) from_ tp rfa rya rla pl place kind from_ value told depth fault fplace) hP hD hS hA [0] (by decide +kernel) rfl
        refine va_callv (va_runV (As := [.int 3, .int from_]) (rest := []) ⟨hx, hb, hml, hown, hts⟩ (c_refuse l D cI cJ cZ cG cH s.heap.size rd (3 : Int32) from_ tp rfa rya rla pl place kind from_ value told depth fault fplace (xrng rfl (by omega) (by omega)) (xrng rfl (by omega) (by omega)) (xrng rfl (by omega) (by omega))) (cwV 2 hts (xGV tbC wd285 wd286 wd287 wd60 wd969) rfl rfl rfl (by decide +kernel) ⟨Nat.le_of_ble_eq_true rfl, Nat.le_of_ble_eq_true rfl⟩) ⟨xPc_blind, va_recv hK hPc (ci := 3) (q0 := 0) rfl rfl, xPc_pre hPc hK hDc⟩ rfl rfl hl.1 rfl (lv_room (Nat.le_of_ble_eq_true rfl)) dX4_takeNumber_50 ⟨Nat.le_of_ble_eq_true rfl, Nat.le_of_ble_eq_true rfl⟩) hS (fun q _ h => hFc q h) hFc (fun u t H1 locs ht hvm hw4 hB hz1 hk1 hS => ?_)
        obtain ⟨fault_5, fplace_6, hf6_0, hP1, hK1, hD1⟩ := hB
        rw [ht] at hP1
        obtain ⟨hP, hD⟩ : xPD D A [oX8 tp tba tl, oAI tba cI 400 tb, oX4 rd tp rfa rya rla pl place kind from_ value told depth fault_5 fplace_6] H1 := xjn 2 hP hD [0] [1, 2] hC9 rfl (by decide +kernel) (by decide +kernel) hk1 hFc hP1 hD1
        generalize H1 = H at hP hS ⊢
        have hf6_0 : M_refuse fault (3 : Int32) from_ fplace = (fault_5, fplace_6) := hf6_0
        have h9M := congrArg (fun t9 => (K_takeNumber_8 a0 place kind from_ value t9.1 t9.2)) hf6_0
        have hM : M_takeNumber fault kind value a0 place from_ fplace a1 tl tb = (K_takeNumber_8 a0 place kind from_ value fault_5 fplace_6) := (show M_takeNumber fault kind value a0 place from_ fplace a1 tl tb = ((fun t9 => (K_takeNumber_8 a0 place kind from_ value t9.1 t9.2)) (M_refuse fault (3 : Int32) from_ fplace)) from hM).trans h9M
        refine lv_iload_n hx hb dX4_takeNumber_53 rfl (lv_at hl 1 rfl) ?_
        refine W.widen (k := 0) (n := 0) (by decide) (by decide) ?_
        exact W.iret (v := a0) hx hb hr (fun t ht hW => ⟨⟨a0, a0, rfl, ⟨rfl, (by omega)⟩, ⟨place, kind, from_, value, fault_5, fplace_6, (xrng rfl (by omega) (by omega)), (xrng rfl (by omega) (by omega)), hM, xB_of9 ht hW hP hK hD [2, 0, 1] (by decide +kernel) rfl⟩⟩, hS.F ht⟩) hS.2.2 dX4_takeNumber_54
      · skip
        have i_3 : ¬ (value.toInt < a0.toInt) := fun h9 => c_3 ((ilt rfl rfl).mpr h9)
        have hM : M_takeNumber fault kind value a0 place from_ fplace a1 tl tb = (K_takeNumber_7 value a1 tl tb fault fplace kind place a0 from_) := (show M_takeNumber fault kind value a0 place from_ fplace a1 tl tb = (if value.toInt < a0.toInt then (K_takeNumber_6 a0 place kind from_ value fault fplace) else (K_takeNumber_7 value a1 tl tb fault fplace kind place a0 from_)) from hM).trans (if_neg i_3)
        refine lv_aload_n hx hb dX4_takeNumber_36 rfl (lv_at hl 0 rfl) ?_
        refine va_get (D := D) (ci := 3) (v := .int value) (C := RX4) (T := TX4) (N := 13) hx hb hts (fun w h => tbC w (tbfX4 w h)) hown hK hP 0 rfl rfl 8 (by decide) (hts (.fieldLink RX4 91 "PowerRails$Reader" "value" "I") (tbC _ wd240)) (fun _ h9 => h9) rfl dX4_takeNumber_37 ?_
        refine lv_iload_n hx hb dX4_takeNumber_40 rfl (lv_at hl 2 rfl) ?_
        refine lv_icmp_le (tgt := 55) hx hb dX4_takeNumber_41 (by decide) (fun c_7 => ?_) (fun c_7 => ?_)
        · skip
          have i_7 : value.toInt ≤ a1.toInt := (ile rfl rfl).mp c_7
          have hM : M_takeNumber fault kind value a0 place from_ fplace a1 tl tb = (K_takeNumber_9 value tl tb fault fplace kind place) := (show M_takeNumber fault kind value a0 place from_ fplace a1 tl tb = (if value.toInt ≤ a1.toInt then (K_takeNumber_9 value tl tb fault fplace kind place) else (K_takeNumber_10 a0 place kind from_ value fault fplace)) from hM).trans (if_pos i_7)
          refine lv_aload_n hx hb dX4_takeNumber_55 rfl (lv_at hl 0 rfl) ?_
          refine va_get (D := D) (ci := 3) (v := .int value) (C := RX4) (T := TX4) (N := 13) hx hb hts (fun w h => tbC w (tbfX4 w h)) hown hK hP 0 rfl rfl 8 (by decide) (hts (.fieldLink RX4 91 "PowerRails$Reader" "value" "I") (tbC _ wd240)) (fun _ h9 => h9) rfl dX4_takeNumber_56 ?_
          refine lv_istore_n (lv' := [(3, .int value), (0, .ref rd), (1, .int a0), (2, .int a1)]) hx hb dX4_takeNumber_59 rfl hl (by decide) rfl (fun ls hl => ?_)
          refine lv_aload_n hx hb dX4_takeNumber_60 rfl (lv_at hl 1 rfl) ?_
          obtain ⟨hPc, hDc, hFc, hC9⟩ := xpk (wc := W_step cI cJ cZ cG cH rd tp rfa rya rla pl place kind from_ value told depth fault fplace tba tl tb) hP hD hS hA [0, 1, 2] (by decide +kernel) rfl
          refine va_callv (va_runV (As := []) (rest := []) ⟨hx, hb, hml, hown, hts⟩ (c_step l D cI cJ cZ cG cH s.heap.size rd tp rfa rya rla pl place kind from_ value told depth fault fplace tba tl tb (xrng rfl (by omega) (by omega)) (xrng rfl (by omega) (by omega)) (xrng rfl (by omega) (by omega)) (xrng rfl (by omega) (by omega))) (cwV 0 hts (xGV tbC wd276 wd277 wd278 wd60 wd966) rfl rfl rfl (by decide +kernel) ⟨Nat.le_of_ble_eq_true rfl, Nat.le_of_ble_eq_true rfl⟩) ⟨xPc_blind, va_recv hK hPc (ci := 3) (q0 := 0) rfl rfl, xPc_pre hPc hK hDc⟩ rfl rfl hl.1 rfl (lv_room (Nat.le_of_ble_eq_true rfl)) dX4_takeNumber_61 ⟨Nat.le_of_ble_eq_true rfl, Nat.le_of_ble_eq_true rfl⟩) hS (fun q _ h => hFc q h) hFc (fun u t H1 locs ht hvm hw8 hB hz1 hk1 hS => ?_)
          revert hB
          refine xex6r (fun place_9 kind_10 from__11 value_12 fault_13 fplace_14 => ?_)
          refine xan6r (fun hf14_0 hf14_1 hf14_2 hP1 hK1 hD1 => ?_)
          rw [ht] at hP1
          obtain ⟨hP, hD⟩ : xPD D A [oX4 rd tp rfa rya rla pl place_9 kind_10 from__11 value_12 told depth fault_13 fplace_14, oX8 tp tba tl, oAI tba cI 400 tb] H1 := xjn 0 hP hD [0, 1, 2] [] hC9 rfl (by decide +kernel) (by decide +kernel) hk1 hFc hP1 hD1
          generalize H1 = H at hP hS ⊢
          have hf14_0 : 0 ≤ place_9.toInt ∧ place_9.toInt ≤ 400 := hf14_0
          have hf14_1 : 0 ≤ from__11.toInt ∧ from__11.toInt ≤ 400 := hf14_1
          have hf14_2 : M_step tl tb fault fplace kind place = (place_9, kind_10, from__11, value_12, fault_13, fplace_14) := hf14_2
          have h9M := congrArg (fun t9 => (K_takeNumber_11 value t9.1 t9.2.1 t9.2.2.1 t9.2.2.2.1 t9.2.2.2.2.1 t9.2.2.2.2.2)) hf14_2
          have hM : M_takeNumber fault kind value a0 place from_ fplace a1 tl tb = (K_takeNumber_11 value place_9 kind_10 from__11 value_12 fault_13 fplace_14) := (show M_takeNumber fault kind value a0 place from_ fplace a1 tl tb = ((fun t9 => (K_takeNumber_11 value t9.1 t9.2.1 t9.2.2.1 t9.2.2.2.1 t9.2.2.2.2.1 t9.2.2.2.2.2)) (M_step tl tb fault fplace kind place)) from hM).trans h9M
          refine lv_iload_n hx hb dX4_takeNumber_64 rfl (lv_at hl 0 rfl) ?_
          refine W.widen (k := 0) (n := 0) (by decide) (by decide) ?_
          exact W.iret (v := value) hx hb hr (fun t ht hW => ⟨⟨value, value, rfl, ⟨rfl, (by omega)⟩, ⟨place_9, kind_10, from__11, value_12, fault_13, fplace_14, (xrng rfl (by omega) (by omega)), (xrng rfl (by omega) (by omega)), hM, xB_of9 ht hW hP hK hD [0, 1, 2] (by decide +kernel) rfl⟩⟩, hS.F ht⟩) hS.2.2 dX4_takeNumber_65
        · skip
          have i_7 : ¬ (value.toInt ≤ a1.toInt) := fun h9 => c_7 ((ile rfl rfl).mpr h9)
          have hM : M_takeNumber fault kind value a0 place from_ fplace a1 tl tb = (K_takeNumber_10 a0 place kind from_ value fault fplace) := (show M_takeNumber fault kind value a0 place from_ fplace a1 tl tb = (if value.toInt ≤ a1.toInt then (K_takeNumber_9 value tl tb fault fplace kind place) else (K_takeNumber_10 a0 place kind from_ value fault fplace)) from hM).trans (if_neg i_7)
          refine lv_aload_n hx hb dX4_takeNumber_44 rfl (lv_at hl 0 rfl) ?_
          refine lv_iconst (v := 3) hx hb dX4_takeNumber_45 (by decide) ?_
          refine lv_aload_n hx hb dX4_takeNumber_46 rfl (lv_at hl 0 rfl) ?_
          refine va_get (D := D) (ci := 3) (v := .int from_) (C := RX4) (T := TX4) (N := 13) hx hb hts (fun w h => tbC w (tbfX4 w h)) hown hK hP 0 rfl rfl 7 (by decide) (hts (.fieldLink RX4 88 "PowerRails$Reader" "from" "I") (tbC _ wd239)) (fun _ h9 => h9) rfl dX4_takeNumber_47 ?_
          obtain ⟨hPc, hDc, hFc, hC9⟩ := xpk (wc := W_refuse cI cJ cZ cG cH rd (3 : Int32) from_ tp rfa rya rla pl place kind from_ value told depth fault fplace) hP hD hS hA [0] (by decide +kernel) rfl
          refine va_callv (va_runV (As := [.int 3, .int from_]) (rest := []) ⟨hx, hb, hml, hown, hts⟩ (c_refuse l D cI cJ cZ cG cH s.heap.size rd (3 : Int32) from_ tp rfa rya rla pl place kind from_ value told depth fault fplace (xrng rfl (by omega) (by omega)) (xrng rfl (by omega) (by omega)) (xrng rfl (by omega) (by omega))) (cwV 2 hts (xGV tbC wd285 wd286 wd287 wd60 wd969) rfl rfl rfl (by decide +kernel) ⟨Nat.le_of_ble_eq_true rfl, Nat.le_of_ble_eq_true rfl⟩) ⟨xPc_blind, va_recv hK hPc (ci := 3) (q0 := 0) rfl rfl, xPc_pre hPc hK hDc⟩ rfl rfl hl.1 rfl (lv_room (Nat.le_of_ble_eq_true rfl)) dX4_takeNumber_50 ⟨Nat.le_of_ble_eq_true rfl, Nat.le_of_ble_eq_true rfl⟩) hS (fun q _ h => hFc q h) hFc (fun u t H1 locs ht hvm hw15 hB hz1 hk1 hS => ?_)
          obtain ⟨fault_16, fplace_17, hf17_0, hP1, hK1, hD1⟩ := hB
          rw [ht] at hP1
          obtain ⟨hP, hD⟩ : xPD D A [oX8 tp tba tl, oAI tba cI 400 tb, oX4 rd tp rfa rya rla pl place kind from_ value told depth fault_16 fplace_17] H1 := xjn 2 hP hD [0] [1, 2] hC9 rfl (by decide +kernel) (by decide +kernel) hk1 hFc hP1 hD1
          generalize H1 = H at hP hS ⊢
          have hf17_0 : M_refuse fault (3 : Int32) from_ fplace = (fault_16, fplace_17) := hf17_0
          have h9M := congrArg (fun t9 => (K_takeNumber_12 a0 place kind from_ value t9.1 t9.2)) hf17_0
          have hM : M_takeNumber fault kind value a0 place from_ fplace a1 tl tb = (K_takeNumber_12 a0 place kind from_ value fault_16 fplace_17) := (show M_takeNumber fault kind value a0 place from_ fplace a1 tl tb = ((fun t9 => (K_takeNumber_12 a0 place kind from_ value t9.1 t9.2)) (M_refuse fault (3 : Int32) from_ fplace)) from hM).trans h9M
          refine lv_iload_n hx hb dX4_takeNumber_53 rfl (lv_at hl 1 rfl) ?_
          refine W.widen (k := 0) (n := 0) (by decide) (by decide) ?_
          exact W.iret (v := a0) hx hb hr (fun t ht hW => ⟨⟨a0, a0, rfl, ⟨rfl, (by omega)⟩, ⟨place, kind, from_, value, fault_16, fplace_17, (xrng rfl (by omega) (by omega)), (xrng rfl (by omega) (by omega)), hM, xB_of9 ht hW hP hK hD [2, 0, 1] (by decide +kernel) rfl⟩⟩, hS.F ht⟩) hS.2.2 dX4_takeNumber_54
    · skip
      have i_2 : ¬ (kind.toInt = 2) := fun h9 => c_2 ((ieq rfl (by decide)).mpr h9)
      have hM : M_takeNumber fault kind value a0 place from_ fplace a1 tl tb = (K_takeNumber_5 a0 place kind from_ value fault fplace) := (show M_takeNumber fault kind value a0 place from_ fplace a1 tl tb = (if kind.toInt = 2 then (K_takeNumber_4 value a0 place kind from_ fault fplace a1 tl tb) else (K_takeNumber_5 a0 place kind from_ value fault fplace)) from hM).trans (if_neg i_2)
      refine lv_aload_n hx hb dX4_takeNumber_17 rfl (lv_at hl 0 rfl) ?_
      refine lv_iconst (v := 2) hx hb dX4_takeNumber_18 (by decide) ?_
      refine lv_aload_n hx hb dX4_takeNumber_19 rfl (lv_at hl 0 rfl) ?_
      refine va_get (D := D) (ci := 3) (v := .int from_) (C := RX4) (T := TX4) (N := 13) hx hb hts (fun w h => tbC w (tbfX4 w h)) hown hK hP 0 rfl rfl 7 (by decide) (hts (.fieldLink RX4 88 "PowerRails$Reader" "from" "I") (tbC _ wd239)) (fun _ h9 => h9) rfl dX4_takeNumber_20 ?_
      obtain ⟨hPc, hDc, hFc, hC9⟩ := xpk (wc := W_refuse cI cJ cZ cG cH rd (2 : Int32) from_ tp rfa rya rla pl place kind from_ value told depth fault fplace) hP hD hS hA [0] (by decide +kernel) rfl
      refine va_callv (va_runV (As := [.int 2, .int from_]) (rest := []) ⟨hx, hb, hml, hown, hts⟩ (c_refuse l D cI cJ cZ cG cH s.heap.size rd (2 : Int32) from_ tp rfa rya rla pl place kind from_ value told depth fault fplace (xrng rfl (by omega) (by omega)) (xrng rfl (by omega) (by omega)) (xrng rfl (by omega) (by omega))) (cwV 2 hts (xGV tbC wd285 wd286 wd287 wd60 wd969) rfl rfl rfl (by decide +kernel) ⟨Nat.le_of_ble_eq_true rfl, Nat.le_of_ble_eq_true rfl⟩) ⟨xPc_blind, va_recv hK hPc (ci := 3) (q0 := 0) rfl rfl, xPc_pre hPc hK hDc⟩ rfl rfl hl.1 rfl (lv_room (Nat.le_of_ble_eq_true rfl)) dX4_takeNumber_23 ⟨Nat.le_of_ble_eq_true rfl, Nat.le_of_ble_eq_true rfl⟩) hS (fun q _ h => hFc q h) hFc (fun u t H1 locs ht hvm hw18 hB hz1 hk1 hS => ?_)
      obtain ⟨fault_19, fplace_20, hf20_0, hP1, hK1, hD1⟩ := hB
      rw [ht] at hP1
      obtain ⟨hP, hD⟩ : xPD D A [oX8 tp tba tl, oAI tba cI 400 tb, oX4 rd tp rfa rya rla pl place kind from_ value told depth fault_19 fplace_20] H1 := xjn 2 hP hD [0] [1, 2] hC9 rfl (by decide +kernel) (by decide +kernel) hk1 hFc hP1 hD1
      generalize H1 = H at hP hS ⊢
      have hf20_0 : M_refuse fault (2 : Int32) from_ fplace = (fault_19, fplace_20) := hf20_0
      have h9M := congrArg (fun t9 => (K_takeNumber_13 a0 place kind from_ value t9.1 t9.2)) hf20_0
      have hM : M_takeNumber fault kind value a0 place from_ fplace a1 tl tb = (K_takeNumber_13 a0 place kind from_ value fault_19 fplace_20) := (show M_takeNumber fault kind value a0 place from_ fplace a1 tl tb = ((fun t9 => (K_takeNumber_13 a0 place kind from_ value t9.1 t9.2)) (M_refuse fault (2 : Int32) from_ fplace)) from hM).trans h9M
      refine lv_iload_n hx hb dX4_takeNumber_26 rfl (lv_at hl 1 rfl) ?_
      refine W.widen (k := 0) (n := 0) (by decide) (by decide) ?_
      exact W.iret (v := a0) hx hb hr (fun t ht hW => ⟨⟨a0, a0, rfl, ⟨rfl, (by omega)⟩, ⟨place, kind, from_, value, fault_19, fplace_20, (xrng rfl (by omega) (by omega)), (xrng rfl (by omega) (by omega)), hM, xB_of9 ht hW hP hK hD [2, 0, 1] (by decide +kernel) rfl⟩⟩, hS.F ht⟩) hS.2.2 dX4_takeNumber_27
  · skip
    have i_1 : ¬ (fault.toInt = 0) := fun h9 => c_1 ((ieq rfl (by decide)).mpr h9)
    have hM : M_takeNumber fault kind value a0 place from_ fplace a1 tl tb = (K_takeNumber_3 a0 place kind from_ value fault fplace) := (show M_takeNumber fault kind value a0 place from_ fplace a1 tl tb = (if fault.toInt = 0 then (K_takeNumber_2 kind value a0 place from_ fault fplace a1 tl tb) else (K_takeNumber_3 a0 place kind from_ value fault fplace)) from hM).trans (if_neg i_1)
    refine lv_iload_n hx hb dX4_takeNumber_7 rfl (lv_at hl 1 rfl) ?_
    refine W.widen (k := 0) (n := 0) (by decide) (by decide) ?_
    exact W.iret (v := a0) hx hb hr (fun t ht hW => ⟨⟨a0, a0, rfl, ⟨rfl, (by omega)⟩, ⟨place, kind, from_, value, fault, fplace, (xrng rfl (by omega) (by omega)), (xrng rfl (by omega) (by omega)), hM, xB_of9 ht hW hP hK hD [0, 1, 2] (by decide +kernel) rfl⟩⟩, hS.F ht⟩) hS.2.2 dX4_takeNumber_8
def K_takeOnce_4 (place_5 : Int32) (kind_6 : Int32) (from__7 : Int32) (value_8 : Int32) (v3 : Int32) (fault_9 : Int32) (fplace_10 : Int32) : (Int32) × (Int32) × (Int32) × (Int32) × (Int32) × (Int32) × (Int32) := (place_5, kind_6, from__7, value_8, v3, fault_9, fplace_10)
def K_takeOnce_2 (told : Int32) (a0 : Int32) (tl : Int32) (tb : Nat → Int32) (fault : Int32) (fplace : Int32) (kind : Int32) (place : Int32) : (Int32) × (Int32) × (Int32) × (Int32) × (Int32) × (Int32) × (Int32) := ((fun t9 => (K_takeOnce_4 t9.1 t9.2.1 t9.2.2.1 t9.2.2.2.1 (told ||| a0) t9.2.2.2.2.1 t9.2.2.2.2.2)) (M_step tl tb fault fplace kind place))
def K_takeOnce_5 (place : Int32) (kind : Int32) (from_ : Int32) (value : Int32) (told : Int32) (fault_12 : Int32) (fplace_13 : Int32) : (Int32) × (Int32) × (Int32) × (Int32) × (Int32) × (Int32) × (Int32) := (place, kind, from_, value, told, fault_12, fplace_13)
def K_takeOnce_3 (place : Int32) (kind : Int32) (from_ : Int32) (value : Int32) (told : Int32) (fault : Int32) (fplace : Int32) : (Int32) × (Int32) × (Int32) × (Int32) × (Int32) × (Int32) × (Int32) := ((fun t9 => (K_takeOnce_5 place kind from_ value told t9.1 t9.2)) (M_refuse fault (4 : Int32) from_ fplace))
def K_takeOnce_1 (told : Int32) (a0 : Int32) (tl : Int32) (tb : Nat → Int32) (fault : Int32) (fplace : Int32) (kind : Int32) (place : Int32) (from_ : Int32) (value : Int32) : (Int32) × (Int32) × (Int32) × (Int32) × (Int32) × (Int32) × (Int32) := (if (told &&& a0).toInt = 0 then (K_takeOnce_2 told a0 tl tb fault fplace kind place) else (K_takeOnce_3 place kind from_ value told fault fplace))
def M_takeOnce (told : Int32) (a0 : Int32) (tl : Int32) (tb : Nat → Int32) (fault : Int32) (fplace : Int32) (kind : Int32) (place : Int32) (from_ : Int32) (value : Int32) : (Int32) × (Int32) × (Int32) × (Int32) × (Int32) × (Int32) × (Int32) := (K_takeOnce_1 told a0 tl tb fault fplace kind place from_ value)
abbrev W_takeOnce (cI cJ cZ cG cH : ClassId) (rd : Nat) (a0 : Int32) (tp : Nat) (rfa : Nat) (rya : Nat) (rla : Nat) (pl : Nat) (place : Int32) (kind : Int32) (from_ : Int32) (value : Int32) (told : Int32) (depth : Int32) (fault : Int32) (fplace : Int32) (tba : Nat) (tl : Int32) (tb : Nat → Int32) : va_W := [oX4 rd tp rfa rya rla pl place kind from_ value told depth fault fplace, oX8 tp tba tl, oAI tba cI 400 tb]
abbrev Q_takeOnce (D : va_G) (cI cJ cZ cG cH : ClassId) (rd : Nat) (a0 : Int32) (tp : Nat) (rfa : Nat) (rya : Nat) (rla : Nat) (pl : Nat) (place : Int32) (kind : Int32) (from_ : Int32) (value : Int32) (told : Int32) (depth : Int32) (fault : Int32) (fplace : Int32) (tba : Nat) (tl : Int32) (tb : Nat → Int32) (A : Nat → Prop) : Array Value → State → Outcome → State → Prop := va_Qv (fun (_ : Unit) => True) (fun _ t => ∃ (place9 : Int32) (kind9 : Int32) (from_9 : Int32) (value9 : Int32) (told9 : Int32) (fault9 : Int32) (fplace9 : Int32), (0 ≤ place9.toInt ∧ place9.toInt ≤ 400) ∧ (0 ≤ from_9.toInt ∧ from_9.toInt ≤ 400) ∧ (M_takeOnce told a0 tl tb fault fplace kind place from_ value = (place9, kind9, from_9, value9, told9, fault9, fplace9)) ∧ xB D (tyL cI cJ cZ cG cH) [oX4 rd tp rfa rya rla pl place9 kind9 from_9 value9 told9 depth fault9 fplace9, oX8 tp tba tl, oAI tba cI 400 tb] A t) A
abbrev rm_takeOnce : Room := { frames := 3, cells := 0, slots := 0, locals := 64 }
set_option maxRecDepth 100000 in
set_option maxHeartbeats 40000000 in
theorem c_takeOnce (l : Launch) (D : va_G) (cI cJ cZ cG cH : ClassId) (sz : Nat) (rd : Nat) (a0 : Int32) (tp : Nat) (rfa : Nat) (rya : Nat) (rla : Nat) (pl : Nat) (place : Int32) (kind : Int32) (from_ : Int32) (value : Int32) (told : Int32) (depth : Int32) (fault : Int32) (fplace : Int32) (tba : Nat) (tl : Int32) (tb : Nat → Int32) (h_place : 0 ≤ place.toInt ∧ place.toInt ≤ 400) (h_from_ : 0 ≤ from_.toInt ∧ from_.toInt ≤ 400) (h_depth : 0 ≤ depth.toInt ∧ depth.toInt ≤ 6) (h_tl : 0 ≤ tl.toInt ∧ tl.toInt ≤ 400) : Met l yX4_takeOnce (wt yX4_takeOnce cX4_takeOnce 2 none) rm_takeOnce (xPc [.ref rd, .int a0] D (tyL cI cJ cZ cG cH) (W_takeOnce cI cJ cZ cG cH rd a0 tp rfa rya rla pl place kind from_ value told depth fault fplace tba tl tb) sz) (Q_takeOnce D cI cJ cZ cG cH rd a0 tp rfa rya rla pl place kind from_ value told depth fault fplace tba tl tb (va_A (W_takeOnce cI cJ cZ cG cH rd a0 tp rfa rya rla pl place kind from_ value told depth fault fplace tba tl tb) sz)) 0 0 (va_A (W_takeOnce cI cJ cZ cG cH rd a0 tp rfa rya rla pl place kind from_ value told depth fault fplace tba tl tb) sz) := by
  refine xMet (cc := cX4_takeOnce) (maxL := 2) (ret := none) (Qf := Q_takeOnce D cI cJ cZ cG cH rd a0 tp rfa rya rla pl place kind from_ value told depth fault fplace tba tl tb) (by decide) rfl (Nat.le_of_ble_eq_true rfl) ?_
  intro p e s m below meth c ls A hx hb hr hml hts hown hlocks hnm hsz hP hK hD hA hS hl
  have hown : s.vm.findClass RX4 = some m.cls := hown
  have hP : va_P D vwCl [oX4 rd tp rfa rya rla pl place kind from_ value told depth fault fplace, oX8 tp tba tl, oAI tba cI 400 tb] s.heap := hP
  have hD : va_D A [oX4 rd tp rfa rya rla pl place kind from_ value told depth fault fplace, oX8 tp tba tl, oAI tba cI 400 tb] := hD
  have hl : lv_has ls 2 [(0, .ref rd), (1, .int a0)] := hl
  have hM : M_takeOnce told a0 tl tb fault fplace kind place from_ value = (K_takeOnce_1 told a0 tl tb fault fplace kind place from_ value) := rfl
  refine lv_aload_n hx hb dX4_takeOnce_0 rfl (lv_at hl 0 rfl) ?_
  refine va_get (D := D) (ci := 3) (v := .int told) (C := RX4) (T := TX4) (N := 13) hx hb hts (fun w h => tbC w (tbfX4 w h)) hown hK hP 0 rfl rfl 9 (by decide) (hts (.fieldLink RX4 40 "PowerRails$Reader" "told" "I") (tbC _ wd241)) (fun _ h9 => h9) rfl dX4_takeOnce_1 ?_
  refine lv_iload_n hx hb dX4_takeOnce_4 rfl (lv_at hl 1 rfl) ?_
  refine lv_iand hx hb dX4_takeOnce_5 ?_
  refine lv_topi (fun v1 ev1 => ?_)
  refine lv_if_eq (tgt := 19) hx hb dX4_takeOnce_6 (by decide) (fun c_2 => ?_) (fun c_2 => ?_)
  · skip
    have i_2 : v1.toInt = 0 := (ieq rfl (by decide)).mp c_2
    have hM : M_takeOnce told a0 tl tb fault fplace kind place from_ value = (K_takeOnce_2 told a0 tl tb fault fplace kind place) := (show M_takeOnce told a0 tl tb fault fplace kind place from_ value = (if v1.toInt = 0 then (K_takeOnce_2 told a0 tl tb fault fplace kind place) else (K_takeOnce_3 place kind from_ value told fault fplace)) from (by rw [ev1]; exact hM)).trans (if_pos i_2)
    refine lv_aload_n hx hb dX4_takeOnce_19 rfl (lv_at hl 0 rfl) ?_
    refine lv_dup hx hb dX4_takeOnce_20 rfl ?_
    refine va_get (D := D) (ci := 3) (v := .int told) (C := RX4) (T := TX4) (N := 13) hx hb hts (fun w h => tbC w (tbfX4 w h)) hown hK hP 0 rfl rfl 9 (by decide) (hts (.fieldLink RX4 40 "PowerRails$Reader" "told" "I") (tbC _ wd241)) (fun _ h9 => h9) rfl dX4_takeOnce_21 ?_
    refine lv_iload_n hx hb dX4_takeOnce_24 rfl (lv_at hl 1 rfl) ?_
    refine lv_ior hx hb dX4_takeOnce_25 ?_
    refine lv_topi (fun v3 ev3 => ?_)
    refine va_put (D := D) (ci := 3) (v := .int v3) (ty := .int) (C := RX4) (T := TX4) (N := 13) hx hb hts (fun w h => tbC w (tbfX4 w h)) tyX4 tyX4_ok nmX4 hown hK hP hD hS 0 rfl rfl 9 (by decide) (hts (.fieldLink RX4 40 "PowerRails$Reader" "told" "I") (tbC _ wd241)) (fun _ h9 => h9) rfl (by decide +kernel) rfl rfl (Nat.le_of_ble_eq_true rfl) dX4_takeOnce_26 (fun H locs hP hD hS => ?_)
    obtain ⟨hP, hD⟩ : xPD D A [oX4 rd tp rfa rya rla pl place kind from_ value v3 depth fault fplace, oX8 tp tba tl, oAI tba cI 400 tb] H := ⟨hP, hD⟩
    refine lv_aload_n hx hb dX4_takeOnce_29 rfl (lv_at hl 0 rfl) ?_
    obtain ⟨hPc, hDc, hFc, hC9⟩ := xpk (wc := W_step cI cJ cZ cG cH rd tp rfa rya rla pl place kind from_ value v3 depth fault fplace tba tl tb) hP hD hS hA [0, 1, 2] (by decide +kernel) rfl
    refine va_callv (va_runV (As := []) (rest := []) ⟨hx, hb, hml, hown, hts⟩ (c_step l D cI cJ cZ cG cH H.size rd tp rfa rya rla pl place kind from_ value v3 depth fault fplace tba tl tb (xrng rfl (by omega) (by omega)) (xrng rfl (by omega) (by omega)) (xrng rfl (by omega) (by omega)) (xrng rfl (by omega) (by omega))) (cwV 0 hts (xGV tbC wd276 wd277 wd278 wd60 wd966) rfl rfl rfl (by decide +kernel) ⟨Nat.le_of_ble_eq_true rfl, Nat.le_of_ble_eq_true rfl⟩) ⟨xPc_blind, va_recv hK hPc (ci := 3) (q0 := 0) rfl rfl, xPc_pre hPc hK hDc⟩ rfl rfl hl.1 rfl (lv_room (Nat.le_of_ble_eq_true rfl)) dX4_takeOnce_30 ⟨Nat.le_of_ble_eq_true rfl, Nat.le_of_ble_eq_true rfl⟩) hS (fun q _ h => hFc q h) hFc (fun u t H1 locs ht hvm hw4 hB hz1 hk1 hS => ?_)
    revert hB
    refine xex6r (fun place_5 kind_6 from__7 value_8 fault_9 fplace_10 => ?_)
    refine xan6r (fun hf10_0 hf10_1 hf10_2 hP1 hK1 hD1 => ?_)
    rw [ht] at hP1
    obtain ⟨hP, hD⟩ : xPD D A [oX4 rd tp rfa rya rla pl place_5 kind_6 from__7 value_8 v3 depth fault_9 fplace_10, oX8 tp tba tl, oAI tba cI 400 tb] H1 := xjn 0 hP hD [0, 1, 2] [] hC9 rfl (by decide +kernel) (by decide +kernel) hk1 hFc hP1 hD1
    generalize H1 = H at hP hS ⊢
    have hf10_0 : 0 ≤ place_5.toInt ∧ place_5.toInt ≤ 400 := hf10_0
    have hf10_1 : 0 ≤ from__7.toInt ∧ from__7.toInt ≤ 400 := hf10_1
    have hf10_2 : M_step tl tb fault fplace kind place = (place_5, kind_6, from__7, value_8, fault_9, fplace_10) := hf10_2
    have h9M := congrArg (fun t9 => (K_takeOnce_4 t9.1 t9.2.1 t9.2.2.1 t9.2.2.2.1 v3 t9.2.2.2.2.1 t9.2.2.2.2.2)) hf10_2
    have hM : M_takeOnce told a0 tl tb fault fplace kind place from_ value = (K_takeOnce_4 place_5 kind_6 from__7 value_8 v3 fault_9 fplace_10) := (show M_takeOnce told a0 tl tb fault fplace kind place from_ value = ((fun t9 => (K_takeOnce_4 t9.1 t9.2.1 t9.2.2.1 t9.2.2.2.1 v3 t9.2.2.2.2.1 t9.2.2.2.2.2)) (M_step tl tb fault fplace kind place)) from (by rw [ev3]; exact hM)).trans h9M
    refine W.widen (k := 0) (n := 0) (by decide) (by decide) ?_
    exact W.vret hx hb hr (fun t ht hW => ⟨⟨(), rfl, trivial, ⟨place_5, kind_6, from__7, value_8, v3, fault_9, fplace_10, (xrng rfl (by omega) (by omega)), (xrng rfl (by omega) (by omega)), hM, xB_of9 ht hW hP hK hD [0, 1, 2] (by decide +kernel) rfl⟩⟩, hS.F ht⟩) hS.2.2 dX4_takeOnce_33
  · skip
    have i_2 : ¬ (v1.toInt = 0) := fun h9 => c_2 ((ieq rfl (by decide)).mpr h9)
    have hM : M_takeOnce told a0 tl tb fault fplace kind place from_ value = (K_takeOnce_3 place kind from_ value told fault fplace) := (show M_takeOnce told a0 tl tb fault fplace kind place from_ value = (if v1.toInt = 0 then (K_takeOnce_2 told a0 tl tb fault fplace kind place) else (K_takeOnce_3 place kind from_ value told fault fplace)) from (by rw [ev1]; exact hM)).trans (if_neg i_2)
    refine lv_aload_n hx hb dX4_takeOnce_9 rfl (lv_at hl 0 rfl) ?_
    refine lv_iconst (v := 4) hx hb dX4_takeOnce_10 (by decide) ?_
    refine lv_aload_n hx hb dX4_takeOnce_11 rfl (lv_at hl 0 rfl) ?_
    refine va_get (D := D) (ci := 3) (v := .int from_) (C := RX4) (T := TX4) (N := 13) hx hb hts (fun w h => tbC w (tbfX4 w h)) hown hK hP 0 rfl rfl 7 (by decide) (hts (.fieldLink RX4 88 "PowerRails$Reader" "from" "I") (tbC _ wd239)) (fun _ h9 => h9) rfl dX4_takeOnce_12 ?_
    obtain ⟨hPc, hDc, hFc, hC9⟩ := xpk (wc := W_refuse cI cJ cZ cG cH rd (4 : Int32) from_ tp rfa rya rla pl place kind from_ value told depth fault fplace) hP hD hS hA [0] (by decide +kernel) rfl
    refine va_callv (va_runV (As := [.int 4, .int from_]) (rest := []) ⟨hx, hb, hml, hown, hts⟩ (c_refuse l D cI cJ cZ cG cH s.heap.size rd (4 : Int32) from_ tp rfa rya rla pl place kind from_ value told depth fault fplace (xrng rfl (by omega) (by omega)) (xrng rfl (by omega) (by omega)) (xrng rfl (by omega) (by omega))) (cwV 2 hts (xGV tbC wd285 wd286 wd287 wd60 wd969) rfl rfl rfl (by decide +kernel) ⟨Nat.le_of_ble_eq_true rfl, Nat.le_of_ble_eq_true rfl⟩) ⟨xPc_blind, va_recv hK hPc (ci := 3) (q0 := 0) rfl rfl, xPc_pre hPc hK hDc⟩ rfl rfl hl.1 rfl (lv_room (Nat.le_of_ble_eq_true rfl)) dX4_takeOnce_15 ⟨Nat.le_of_ble_eq_true rfl, Nat.le_of_ble_eq_true rfl⟩) hS (fun q _ h => hFc q h) hFc (fun u t H1 locs ht hvm hw11 hB hz1 hk1 hS => ?_)
    obtain ⟨fault_12, fplace_13, hf13_0, hP1, hK1, hD1⟩ := hB
    rw [ht] at hP1
    obtain ⟨hP, hD⟩ : xPD D A [oX8 tp tba tl, oAI tba cI 400 tb, oX4 rd tp rfa rya rla pl place kind from_ value told depth fault_12 fplace_13] H1 := xjn 2 hP hD [0] [1, 2] hC9 rfl (by decide +kernel) (by decide +kernel) hk1 hFc hP1 hD1
    generalize H1 = H at hP hS ⊢
    have hf13_0 : M_refuse fault (4 : Int32) from_ fplace = (fault_12, fplace_13) := hf13_0
    have h9M := congrArg (fun t9 => (K_takeOnce_5 place kind from_ value told t9.1 t9.2)) hf13_0
    have hM : M_takeOnce told a0 tl tb fault fplace kind place from_ value = (K_takeOnce_5 place kind from_ value told fault_12 fplace_13) := (show M_takeOnce told a0 tl tb fault fplace kind place from_ value = ((fun t9 => (K_takeOnce_5 place kind from_ value told t9.1 t9.2)) (M_refuse fault (4 : Int32) from_ fplace)) from hM).trans h9M
    refine W.widen (k := 0) (n := 0) (by decide) (by decide) ?_
    exact W.vret hx hb hr (fun t ht hW => ⟨⟨(), rfl, trivial, ⟨place, kind, from_, value, told, fault_12, fplace_13, (xrng rfl (by omega) (by omega)), (xrng rfl (by omega) (by omega)), hM, xB_of9 ht hW hP hK hD [2, 0, 1] (by decide +kernel) rfl⟩⟩, hS.F ht⟩) hS.2.2 dX4_takeOnce_18
def K_takeTurn_9 (place_6 : Int32) (kind_7 : Int32) (from__8 : Int32) (value_9 : Int32) (fault_10 : Int32) (fplace_11 : Int32) : (Int32) × (Int32) × (Int32) × (Int32) × (Int32) × (Int32) := (place_6, kind_7, from__8, value_9, fault_10, fplace_11)
def K_takeTurn_7 (tl : Int32) (tb : Nat → Int32) (fault : Int32) (fplace : Int32) (kind : Int32) (place : Int32) : (Int32) × (Int32) × (Int32) × (Int32) × (Int32) × (Int32) := ((fun t9 => (K_takeTurn_9 t9.1 t9.2.1 t9.2.2.1 t9.2.2.2.1 t9.2.2.2.2.1 t9.2.2.2.2.2)) (M_step tl tb fault fplace kind place))
def K_takeTurn_10 (place : Int32) (kind : Int32) (from_ : Int32) (value : Int32) (fault_13 : Int32) (fplace_14 : Int32) : (Int32) × (Int32) × (Int32) × (Int32) × (Int32) × (Int32) := (place, kind, from_, value, fault_13, fplace_14)
def K_takeTurn_8 (place : Int32) (kind : Int32) (from_ : Int32) (value : Int32) (fault : Int32) (fplace : Int32) : (Int32) × (Int32) × (Int32) × (Int32) × (Int32) × (Int32) := ((fun t9 => (K_takeTurn_10 place kind from_ value t9.1 t9.2)) (M_refuse fault (3 : Int32) from_ fplace))
def K_takeTurn_6 (r3 : Int32) (a0 : Int32) (tl : Int32) (tb : Nat → Int32) (fault : Int32) (fplace : Int32) (kind : Int32) (place : Int32) (from_ : Int32) (value : Int32) : (Int32) × (Int32) × (Int32) × (Int32) × (Int32) × (Int32) := (if r3.toInt = a0.toInt then (K_takeTurn_7 tl tb fault fplace kind place) else (K_takeTurn_8 place kind from_ value fault fplace))
def K_takeTurn_4 (a0 : Int32) (tl : Int32) (tb : Nat → Int32) (fault : Int32) (fplace : Int32) (kind : Int32) (place : Int32) (from_ : Int32) (value : Int32) : (Int32) × (Int32) × (Int32) × (Int32) × (Int32) × (Int32) := ((fun t9 => (K_takeTurn_6 t9 a0 tl tb fault fplace kind place from_ value)) (M_railNamed place from_ tb))
def K_takeTurn_11 (place : Int32) (kind : Int32) (from_ : Int32) (value : Int32) (fault_16 : Int32) (fplace_17 : Int32) : (Int32) × (Int32) × (Int32) × (Int32) × (Int32) × (Int32) := (place, kind, from_, value, fault_16, fplace_17)
def K_takeTurn_5 (place : Int32) (kind : Int32) (from_ : Int32) (value : Int32) (fault : Int32) (fplace : Int32) : (Int32) × (Int32) × (Int32) × (Int32) × (Int32) × (Int32) := ((fun t9 => (K_takeTurn_11 place kind from_ value t9.1 t9.2)) (M_refuse fault (2 : Int32) from_ fplace))
def K_takeTurn_2 (kind : Int32) (a0 : Int32) (tl : Int32) (tb : Nat → Int32) (fault : Int32) (fplace : Int32) (place : Int32) (from_ : Int32) (value : Int32) : (Int32) × (Int32) × (Int32) × (Int32) × (Int32) × (Int32) := (if kind.toInt = 1 then (K_takeTurn_4 a0 tl tb fault fplace kind place from_ value) else (K_takeTurn_5 place kind from_ value fault fplace))
def K_takeTurn_3 (place : Int32) (kind : Int32) (from_ : Int32) (value : Int32) (fault : Int32) (fplace : Int32) : (Int32) × (Int32) × (Int32) × (Int32) × (Int32) × (Int32) := (place, kind, from_, value, fault, fplace)
def K_takeTurn_1 (fault : Int32) (kind : Int32) (a0 : Int32) (tl : Int32) (tb : Nat → Int32) (fplace : Int32) (place : Int32) (from_ : Int32) (value : Int32) : (Int32) × (Int32) × (Int32) × (Int32) × (Int32) × (Int32) := (if fault.toInt = 0 then (K_takeTurn_2 kind a0 tl tb fault fplace place from_ value) else (K_takeTurn_3 place kind from_ value fault fplace))
def M_takeTurn (fault : Int32) (kind : Int32) (a0 : Int32) (tl : Int32) (tb : Nat → Int32) (fplace : Int32) (place : Int32) (from_ : Int32) (value : Int32) : (Int32) × (Int32) × (Int32) × (Int32) × (Int32) × (Int32) := (K_takeTurn_1 fault kind a0 tl tb fplace place from_ value)
abbrev W_takeTurn (cI cJ cZ cG cH : ClassId) (rd : Nat) (a0 : Int32) (tp : Nat) (rfa : Nat) (rya : Nat) (rla : Nat) (pl : Nat) (place : Int32) (kind : Int32) (from_ : Int32) (value : Int32) (told : Int32) (depth : Int32) (fault : Int32) (fplace : Int32) (tba : Nat) (tl : Int32) (tb : Nat → Int32) : va_W := [oX4 rd tp rfa rya rla pl place kind from_ value told depth fault fplace, oX8 tp tba tl, oAI tba cI 400 tb]
abbrev Q_takeTurn (D : va_G) (cI cJ cZ cG cH : ClassId) (rd : Nat) (a0 : Int32) (tp : Nat) (rfa : Nat) (rya : Nat) (rla : Nat) (pl : Nat) (place : Int32) (kind : Int32) (from_ : Int32) (value : Int32) (told : Int32) (depth : Int32) (fault : Int32) (fplace : Int32) (tba : Nat) (tl : Int32) (tb : Nat → Int32) (A : Nat → Prop) : Array Value → State → Outcome → State → Prop := va_Qv (fun (_ : Unit) => True) (fun _ t => ∃ (place9 : Int32) (kind9 : Int32) (from_9 : Int32) (value9 : Int32) (fault9 : Int32) (fplace9 : Int32), (0 ≤ place9.toInt ∧ place9.toInt ≤ 400) ∧ (0 ≤ from_9.toInt ∧ from_9.toInt ≤ 400) ∧ (M_takeTurn fault kind a0 tl tb fplace place from_ value = (place9, kind9, from_9, value9, fault9, fplace9)) ∧ xB D (tyL cI cJ cZ cG cH) [oX4 rd tp rfa rya rla pl place9 kind9 from_9 value9 told depth fault9 fplace9, oX8 tp tba tl, oAI tba cI 400 tb] A t) A
abbrev rm_takeTurn : Room := { frames := 3, cells := 0, slots := 0, locals := 64 }
set_option maxRecDepth 100000 in
set_option maxHeartbeats 40000000 in
theorem c_takeTurn (l : Launch) (D : va_G) (cI cJ cZ cG cH : ClassId) (sz : Nat) (rd : Nat) (a0 : Int32) (tp : Nat) (rfa : Nat) (rya : Nat) (rla : Nat) (pl : Nat) (place : Int32) (kind : Int32) (from_ : Int32) (value : Int32) (told : Int32) (depth : Int32) (fault : Int32) (fplace : Int32) (tba : Nat) (tl : Int32) (tb : Nat → Int32) (h_place : 0 ≤ place.toInt ∧ place.toInt ≤ 400) (h_from_ : 0 ≤ from_.toInt ∧ from_.toInt ≤ 400) (h_depth : 0 ≤ depth.toInt ∧ depth.toInt ≤ 6) (h_tl : 0 ≤ tl.toInt ∧ tl.toInt ≤ 400) : Met l yX4_takeTurn (wt yX4_takeTurn cX4_takeTurn 2 none) rm_takeTurn (xPc [.ref rd, .int a0] D (tyL cI cJ cZ cG cH) (W_takeTurn cI cJ cZ cG cH rd a0 tp rfa rya rla pl place kind from_ value told depth fault fplace tba tl tb) sz) (Q_takeTurn D cI cJ cZ cG cH rd a0 tp rfa rya rla pl place kind from_ value told depth fault fplace tba tl tb (va_A (W_takeTurn cI cJ cZ cG cH rd a0 tp rfa rya rla pl place kind from_ value told depth fault fplace tba tl tb) sz)) 0 0 (va_A (W_takeTurn cI cJ cZ cG cH rd a0 tp rfa rya rla pl place kind from_ value told depth fault fplace tba tl tb) sz) := by
  refine xMet (cc := cX4_takeTurn) (maxL := 2) (ret := none) (Qf := Q_takeTurn D cI cJ cZ cG cH rd a0 tp rfa rya rla pl place kind from_ value told depth fault fplace tba tl tb) (by decide) rfl (Nat.le_of_ble_eq_true rfl) ?_
  intro p e s m below meth c ls A hx hb hr hml hts hown hlocks hnm hsz hP hK hD hA hS hl
  have hown : s.vm.findClass RX4 = some m.cls := hown
  have hP : va_P D vwCl [oX4 rd tp rfa rya rla pl place kind from_ value told depth fault fplace, oX8 tp tba tl, oAI tba cI 400 tb] s.heap := hP
  have hD : va_D A [oX4 rd tp rfa rya rla pl place kind from_ value told depth fault fplace, oX8 tp tba tl, oAI tba cI 400 tb] := hD
  have hl : lv_has ls 2 [(0, .ref rd), (1, .int a0)] := hl
  have hM : M_takeTurn fault kind a0 tl tb fplace place from_ value = (K_takeTurn_1 fault kind a0 tl tb fplace place from_ value) := rfl
  refine lv_aload_n hx hb dX4_takeTurn_0 rfl (lv_at hl 0 rfl) ?_
  refine va_get (D := D) (ci := 3) (v := .int fault) (C := RX4) (T := TX4) (N := 13) hx hb hts (fun w h => tbC w (tbfX4 w h)) hown hK hP 0 rfl rfl 11 (by decide) (hts (.fieldLink RX4 43 "PowerRails$Reader" "fault" "I") (tbC _ wd243)) (fun _ h9 => h9) rfl dX4_takeTurn_1 ?_
  refine lv_if_eq (tgt := 8) hx hb dX4_takeTurn_4 (by decide) (fun c_1 => ?_) (fun c_1 => ?_)
  · skip
    have i_1 : fault.toInt = 0 := (ieq rfl (by decide)).mp c_1
    have hM : M_takeTurn fault kind a0 tl tb fplace place from_ value = (K_takeTurn_2 kind a0 tl tb fault fplace place from_ value) := (show M_takeTurn fault kind a0 tl tb fplace place from_ value = (if fault.toInt = 0 then (K_takeTurn_2 kind a0 tl tb fault fplace place from_ value) else (K_takeTurn_3 place kind from_ value fault fplace)) from hM).trans (if_pos i_1)
    refine lv_aload_n hx hb dX4_takeTurn_8 rfl (lv_at hl 0 rfl) ?_
    refine va_get (D := D) (ci := 3) (v := .int kind) (C := RX4) (T := TX4) (N := 13) hx hb hts (fun w h => tbC w (tbfX4 w h)) hown hK hP 0 rfl rfl 6 (by decide) (hts (.fieldLink RX4 60 "PowerRails$Reader" "kind" "I") (tbC _ wd238)) (fun _ h9 => h9) rfl dX4_takeTurn_9 ?_
    refine lv_iconst (v := 1) hx hb dX4_takeTurn_12 (by decide) ?_
    refine lv_icmp_eq (tgt := 28) hx hb dX4_takeTurn_13 (by decide) (fun c_2 => ?_) (fun c_2 => ?_)
    · skip
      have i_2 : kind.toInt = 1 := (ieq rfl (by decide)).mp c_2
      have hM : M_takeTurn fault kind a0 tl tb fplace place from_ value = (K_takeTurn_4 a0 tl tb fault fplace kind place from_ value) := (show M_takeTurn fault kind a0 tl tb fplace place from_ value = (if kind.toInt = 1 then (K_takeTurn_4 a0 tl tb fault fplace kind place from_ value) else (K_takeTurn_5 place kind from_ value fault fplace)) from hM).trans (if_pos i_2)
      refine lv_aload_n hx hb dX4_takeTurn_28 rfl (lv_at hl 0 rfl) ?_
      obtain ⟨hPc, hDc, hFc, hC9⟩ := xpk (wc := W_railNamed cI cJ cZ cG cH rd tp rfa rya rla pl place kind from_ value told depth fault fplace tba tl tb) hP hD hS hA [0, 1, 2] (by decide +kernel) rfl
      refine va_calli (va_runV (As := []) (rest := []) ⟨hx, hb, hml, hown, hts⟩ (c_railNamed l D cI cJ cZ cG cH s.heap.size rd tp rfa rya rla pl place kind from_ value told depth fault fplace tba tl tb (xrng rfl (by omega) (by omega)) (xrng rfl (by omega) (by omega)) (xrng rfl (by omega) (by omega)) (xrng rfl (by omega) (by omega))) (cwV 0 hts (xGV tbC wd336 wd337 wd338 wd60 wd986) rfl rfl rfl (by decide +kernel) ⟨Nat.le_of_ble_eq_true rfl, Nat.le_of_ble_eq_true rfl⟩) ⟨xPc_blind, va_recv hK hPc (ci := 3) (q0 := 0) rfl rfl, xPc_pre hPc hK hDc⟩ rfl rfl hl.1 rfl (lv_room (Nat.le_of_ble_eq_true rfl)) dX4_takeTurn_29 ⟨Nat.le_of_ble_eq_true rfl, Nat.le_of_ble_eq_true rfl⟩) hS (fun q _ h => hFc q h) hFc (fun r3 u t H1 locs ht hvm hw3 hB hz1 hk1 hS => ?_)
      obtain ⟨hru9, hw3⟩ := hw3
      subst hru9
      obtain ⟨hf3_0, hP1, hK1, hD1⟩ := hB
      rw [ht] at hP1
      obtain ⟨hP, hD⟩ : xPD D A [oX4 rd tp rfa rya rla pl place kind from_ value told depth fault fplace, oX8 tp tba tl, oAI tba cI 400 tb] H1 := xjn 0 hP hD [0, 1, 2] [] hC9 rfl (by decide +kernel) (by decide +kernel) hk1 hFc hP1 hD1
      generalize H1 = H at hP hS ⊢
      have hf3_0 : M_railNamed place from_ tb = (r3) := hf3_0
      have hw3 : (r3 = sp_rn place from_ tb) ∧ (r3.toInt = -4 ∨ 0 ≤ r3.toInt) ∧ -4 ≤ r3.toInt ∧ r3.toInt ≤ 7 := hw3
      have h9M := congrArg (fun t9 => (K_takeTurn_6 t9 a0 tl tb fault fplace kind place from_ value)) hf3_0
      have hM : M_takeTurn fault kind a0 tl tb fplace place from_ value = (K_takeTurn_6 r3 a0 tl tb fault fplace kind place from_ value) := (show M_takeTurn fault kind a0 tl tb fplace place from_ value = ((fun t9 => (K_takeTurn_6 t9 a0 tl tb fault fplace kind place from_ value)) (M_railNamed place from_ tb)) from hM).trans h9M
      refine lv_iload_n hx hb dX4_takeTurn_32 rfl (lv_at hl 1 rfl) ?_
      refine lv_icmp_eq (tgt := 48) hx hb dX4_takeTurn_33 (by decide) (fun c_4 => ?_) (fun c_4 => ?_)
      · skip
        have i_4 : r3.toInt = a0.toInt := (ieq rfl rfl).mp c_4
        have hM : M_takeTurn fault kind a0 tl tb fplace place from_ value = (K_takeTurn_7 tl tb fault fplace kind place) := (show M_takeTurn fault kind a0 tl tb fplace place from_ value = (if r3.toInt = a0.toInt then (K_takeTurn_7 tl tb fault fplace kind place) else (K_takeTurn_8 place kind from_ value fault fplace)) from hM).trans (if_pos i_4)
        refine lv_aload_n hx hb dX4_takeTurn_48 rfl (lv_at hl 0 rfl) ?_
        obtain ⟨hPc, hDc, hFc, hC9⟩ := xpk (wc := W_step cI cJ cZ cG cH rd tp rfa rya rla pl place kind from_ value told depth fault fplace tba tl tb) hP hD hS hA [0, 1, 2] (by decide +kernel) rfl
        refine va_callv (va_runV (As := []) (rest := []) ⟨hx, hb, hml, hown, hts⟩ (c_step l D cI cJ cZ cG cH H.size rd tp rfa rya rla pl place kind from_ value told depth fault fplace tba tl tb (xrng rfl (by omega) (by omega)) (xrng rfl (by omega) (by omega)) (xrng rfl (by omega) (by omega)) (xrng rfl (by omega) (by omega))) (cwV 0 hts (xGV tbC wd276 wd277 wd278 wd60 wd966) rfl rfl rfl (by decide +kernel) ⟨Nat.le_of_ble_eq_true rfl, Nat.le_of_ble_eq_true rfl⟩) ⟨xPc_blind, va_recv hK hPc (ci := 3) (q0 := 0) rfl rfl, xPc_pre hPc hK hDc⟩ rfl rfl hl.1 rfl (lv_room (Nat.le_of_ble_eq_true rfl)) dX4_takeTurn_49 ⟨Nat.le_of_ble_eq_true rfl, Nat.le_of_ble_eq_true rfl⟩) hS (fun q _ h => hFc q h) hFc (fun u t H1 locs ht hvm hw5 hB hz1 hk1 hS => ?_)
        revert hB
        refine xex6r (fun place_6 kind_7 from__8 value_9 fault_10 fplace_11 => ?_)
        refine xan6r (fun hf11_0 hf11_1 hf11_2 hP1 hK1 hD1 => ?_)
        rw [ht] at hP1
        obtain ⟨hP, hD⟩ : xPD D A [oX4 rd tp rfa rya rla pl place_6 kind_7 from__8 value_9 told depth fault_10 fplace_11, oX8 tp tba tl, oAI tba cI 400 tb] H1 := xjn 0 hP hD [0, 1, 2] [] hC9 rfl (by decide +kernel) (by decide +kernel) hk1 hFc hP1 hD1
        generalize H1 = H at hP hS ⊢
        have hf11_0 : 0 ≤ place_6.toInt ∧ place_6.toInt ≤ 400 := hf11_0
        have hf11_1 : 0 ≤ from__8.toInt ∧ from__8.toInt ≤ 400 := hf11_1
        have hf11_2 : M_step tl tb fault fplace kind place = (place_6, kind_7, from__8, value_9, fault_10, fplace_11) := hf11_2
        have h9M := congrArg (fun t9 => (K_takeTurn_9 t9.1 t9.2.1 t9.2.2.1 t9.2.2.2.1 t9.2.2.2.2.1 t9.2.2.2.2.2)) hf11_2
        have hM : M_takeTurn fault kind a0 tl tb fplace place from_ value = (K_takeTurn_9 place_6 kind_7 from__8 value_9 fault_10 fplace_11) := (show M_takeTurn fault kind a0 tl tb fplace place from_ value = ((fun t9 => (K_takeTurn_9 t9.1 t9.2.1 t9.2.2.1 t9.2.2.2.1 t9.2.2.2.2.1 t9.2.2.2.2.2)) (M_step tl tb fault fplace kind place)) from hM).trans h9M
        refine W.widen (k := 0) (n := 0) (by decide) (by decide) ?_
        exact W.vret hx hb hr (fun t ht hW => ⟨⟨(), rfl, trivial, ⟨place_6, kind_7, from__8, value_9, fault_10, fplace_11, (xrng rfl (by omega) (by omega)), (xrng rfl (by omega) (by omega)), hM, xB_of9 ht hW hP hK hD [0, 1, 2] (by decide +kernel) rfl⟩⟩, hS.F ht⟩) hS.2.2 dX4_takeTurn_52
      · skip
        have i_4 : ¬ (r3.toInt = a0.toInt) := fun h9 => c_4 ((ieq rfl rfl).mpr h9)
        have hM : M_takeTurn fault kind a0 tl tb fplace place from_ value = (K_takeTurn_8 place kind from_ value fault fplace) := (show M_takeTurn fault kind a0 tl tb fplace place from_ value = (if r3.toInt = a0.toInt then (K_takeTurn_7 tl tb fault fplace kind place) else (K_takeTurn_8 place kind from_ value fault fplace)) from hM).trans (if_neg i_4)
        refine lv_aload_n hx hb dX4_takeTurn_36 rfl (lv_at hl 0 rfl) ?_
        refine lv_iconst (v := 3) hx hb dX4_takeTurn_37 (by decide) ?_
        refine lv_aload_n hx hb dX4_takeTurn_38 rfl (lv_at hl 0 rfl) ?_
        refine va_get (D := D) (ci := 3) (v := .int from_) (C := RX4) (T := TX4) (N := 13) hx hb hts (fun w h => tbC w (tbfX4 w h)) hown hK hP 0 rfl rfl 7 (by decide) (hts (.fieldLink RX4 88 "PowerRails$Reader" "from" "I") (tbC _ wd239)) (fun _ h9 => h9) rfl dX4_takeTurn_39 ?_
        obtain ⟨hPc, hDc, hFc, hC9⟩ := xpk (wc := W_refuse cI cJ cZ cG cH rd (3 : Int32) from_ tp rfa rya rla pl place kind from_ value told depth fault fplace) hP hD hS hA [0] (by decide +kernel) rfl
        refine va_callv (va_runV (As := [.int 3, .int from_]) (rest := []) ⟨hx, hb, hml, hown, hts⟩ (c_refuse l D cI cJ cZ cG cH H.size rd (3 : Int32) from_ tp rfa rya rla pl place kind from_ value told depth fault fplace (xrng rfl (by omega) (by omega)) (xrng rfl (by omega) (by omega)) (xrng rfl (by omega) (by omega))) (cwV 2 hts (xGV tbC wd285 wd286 wd287 wd60 wd969) rfl rfl rfl (by decide +kernel) ⟨Nat.le_of_ble_eq_true rfl, Nat.le_of_ble_eq_true rfl⟩) ⟨xPc_blind, va_recv hK hPc (ci := 3) (q0 := 0) rfl rfl, xPc_pre hPc hK hDc⟩ rfl rfl hl.1 rfl (lv_room (Nat.le_of_ble_eq_true rfl)) dX4_takeTurn_42 ⟨Nat.le_of_ble_eq_true rfl, Nat.le_of_ble_eq_true rfl⟩) hS (fun q _ h => hFc q h) hFc (fun u t H1 locs ht hvm hw12 hB hz1 hk1 hS => ?_)
        obtain ⟨fault_13, fplace_14, hf14_0, hP1, hK1, hD1⟩ := hB
        rw [ht] at hP1
        obtain ⟨hP, hD⟩ : xPD D A [oX8 tp tba tl, oAI tba cI 400 tb, oX4 rd tp rfa rya rla pl place kind from_ value told depth fault_13 fplace_14] H1 := xjn 2 hP hD [0] [1, 2] hC9 rfl (by decide +kernel) (by decide +kernel) hk1 hFc hP1 hD1
        generalize H1 = H at hP hS ⊢
        have hf14_0 : M_refuse fault (3 : Int32) from_ fplace = (fault_13, fplace_14) := hf14_0
        have h9M := congrArg (fun t9 => (K_takeTurn_10 place kind from_ value t9.1 t9.2)) hf14_0
        have hM : M_takeTurn fault kind a0 tl tb fplace place from_ value = (K_takeTurn_10 place kind from_ value fault_13 fplace_14) := (show M_takeTurn fault kind a0 tl tb fplace place from_ value = ((fun t9 => (K_takeTurn_10 place kind from_ value t9.1 t9.2)) (M_refuse fault (3 : Int32) from_ fplace)) from hM).trans h9M
        refine lv_goto (tgt := 52) hx hb dX4_takeTurn_45 (by decide) ?_
        refine W.widen (k := 0) (n := 0) (by decide) (by decide) ?_
        exact W.vret hx hb hr (fun t ht hW => ⟨⟨(), rfl, trivial, ⟨place, kind, from_, value, fault_13, fplace_14, (xrng rfl (by omega) (by omega)), (xrng rfl (by omega) (by omega)), hM, xB_of9 ht hW hP hK hD [2, 0, 1] (by decide +kernel) rfl⟩⟩, hS.F ht⟩) hS.2.2 dX4_takeTurn_52
    · skip
      have i_2 : ¬ (kind.toInt = 1) := fun h9 => c_2 ((ieq rfl (by decide)).mpr h9)
      have hM : M_takeTurn fault kind a0 tl tb fplace place from_ value = (K_takeTurn_5 place kind from_ value fault fplace) := (show M_takeTurn fault kind a0 tl tb fplace place from_ value = (if kind.toInt = 1 then (K_takeTurn_4 a0 tl tb fault fplace kind place from_ value) else (K_takeTurn_5 place kind from_ value fault fplace)) from hM).trans (if_neg i_2)
      refine lv_aload_n hx hb dX4_takeTurn_16 rfl (lv_at hl 0 rfl) ?_
      refine lv_iconst (v := 2) hx hb dX4_takeTurn_17 (by decide) ?_
      refine lv_aload_n hx hb dX4_takeTurn_18 rfl (lv_at hl 0 rfl) ?_
      refine va_get (D := D) (ci := 3) (v := .int from_) (C := RX4) (T := TX4) (N := 13) hx hb hts (fun w h => tbC w (tbfX4 w h)) hown hK hP 0 rfl rfl 7 (by decide) (hts (.fieldLink RX4 88 "PowerRails$Reader" "from" "I") (tbC _ wd239)) (fun _ h9 => h9) rfl dX4_takeTurn_19 ?_
      obtain ⟨hPc, hDc, hFc, hC9⟩ := xpk (wc := W_refuse cI cJ cZ cG cH rd (2 : Int32) from_ tp rfa rya rla pl place kind from_ value told depth fault fplace) hP hD hS hA [0] (by decide +kernel) rfl
      refine va_callv (va_runV (As := [.int 2, .int from_]) (rest := []) ⟨hx, hb, hml, hown, hts⟩ (c_refuse l D cI cJ cZ cG cH s.heap.size rd (2 : Int32) from_ tp rfa rya rla pl place kind from_ value told depth fault fplace (xrng rfl (by omega) (by omega)) (xrng rfl (by omega) (by omega)) (xrng rfl (by omega) (by omega))) (cwV 2 hts (xGV tbC wd285 wd286 wd287 wd60 wd969) rfl rfl rfl (by decide +kernel) ⟨Nat.le_of_ble_eq_true rfl, Nat.le_of_ble_eq_true rfl⟩) ⟨xPc_blind, va_recv hK hPc (ci := 3) (q0 := 0) rfl rfl, xPc_pre hPc hK hDc⟩ rfl rfl hl.1 rfl (lv_room (Nat.le_of_ble_eq_true rfl)) dX4_takeTurn_22 ⟨Nat.le_of_ble_eq_true rfl, Nat.le_of_ble_eq_true rfl⟩) hS (fun q _ h => hFc q h) hFc (fun u t H1 locs ht hvm hw15 hB hz1 hk1 hS => ?_)
      obtain ⟨fault_16, fplace_17, hf17_0, hP1, hK1, hD1⟩ := hB
      rw [ht] at hP1
      obtain ⟨hP, hD⟩ : xPD D A [oX8 tp tba tl, oAI tba cI 400 tb, oX4 rd tp rfa rya rla pl place kind from_ value told depth fault_16 fplace_17] H1 := xjn 2 hP hD [0] [1, 2] hC9 rfl (by decide +kernel) (by decide +kernel) hk1 hFc hP1 hD1
      generalize H1 = H at hP hS ⊢
      have hf17_0 : M_refuse fault (2 : Int32) from_ fplace = (fault_16, fplace_17) := hf17_0
      have h9M := congrArg (fun t9 => (K_takeTurn_11 place kind from_ value t9.1 t9.2)) hf17_0
      have hM : M_takeTurn fault kind a0 tl tb fplace place from_ value = (K_takeTurn_11 place kind from_ value fault_16 fplace_17) := (show M_takeTurn fault kind a0 tl tb fplace place from_ value = ((fun t9 => (K_takeTurn_11 place kind from_ value t9.1 t9.2)) (M_refuse fault (2 : Int32) from_ fplace)) from hM).trans h9M
      refine lv_goto (tgt := 52) hx hb dX4_takeTurn_25 (by decide) ?_
      refine W.widen (k := 0) (n := 0) (by decide) (by decide) ?_
      exact W.vret hx hb hr (fun t ht hW => ⟨⟨(), rfl, trivial, ⟨place, kind, from_, value, fault_16, fplace_17, (xrng rfl (by omega) (by omega)), (xrng rfl (by omega) (by omega)), hM, xB_of9 ht hW hP hK hD [2, 0, 1] (by decide +kernel) rfl⟩⟩, hS.F ht⟩) hS.2.2 dX4_takeTurn_52
  · skip
    have i_1 : ¬ (fault.toInt = 0) := fun h9 => c_1 ((ieq rfl (by decide)).mpr h9)
    have hM : M_takeTurn fault kind a0 tl tb fplace place from_ value = (K_takeTurn_3 place kind from_ value fault fplace) := (show M_takeTurn fault kind a0 tl tb fplace place from_ value = (if fault.toInt = 0 then (K_takeTurn_2 kind a0 tl tb fault fplace place from_ value) else (K_takeTurn_3 place kind from_ value fault fplace)) from hM).trans (if_neg i_1)
    refine W.widen (k := 0) (n := 0) (by decide) (by decide) ?_
    exact W.vret hx hb hr (fun t ht hW => ⟨⟨(), rfl, trivial, ⟨place, kind, from_, value, fault, fplace, (xrng rfl (by omega) (by omega)), (xrng rfl (by omega) (by omega)), hM, xB_of9 ht hW hP hK hD [0, 1, 2] (by decide +kernel) rfl⟩⟩, hS.F ht⟩) hS.2.2 dX4_takeTurn_7
def K_noteUse_3 (rf : Nat → Int32) (a0 : Int32) (from_ : Int32) : (Nat → Int32) := ((upd rf (a0 : Int32).toNatClampNeg from_))
def K_noteUse_2 (rf : Nat → Int32) : (Nat → Int32) := (rf)
def K_noteUse_1 (rf : Nat → Int32) (a0 : Int32) (from_ : Int32) : (Nat → Int32) := (if (rf a0.toNatClampNeg).toInt = (-4) then (K_noteUse_3 rf a0 from_) else (K_noteUse_2 rf))
def M_noteUse (rf : Nat → Int32) (a0 : Int32) (from_ : Int32) : (Nat → Int32) := (K_noteUse_1 rf a0 from_)
abbrev W_noteUse (cI cJ cZ cG cH : ClassId) (rd : Nat) (a0 : Int32) (tp : Nat) (rfa : Nat) (rya : Nat) (rla : Nat) (pl : Nat) (place : Int32) (kind : Int32) (from_ : Int32) (value : Int32) (told : Int32) (depth : Int32) (fault : Int32) (fplace : Int32) (rf : Nat → Int32) : va_W := [oX4 rd tp rfa rya rla pl place kind from_ value told depth fault fplace, oAI rfa cI 8 rf]
abbrev Q_noteUse (D : va_G) (cI cJ cZ cG cH : ClassId) (rd : Nat) (a0 : Int32) (tp : Nat) (rfa : Nat) (rya : Nat) (rla : Nat) (pl : Nat) (place : Int32) (kind : Int32) (from_ : Int32) (value : Int32) (told : Int32) (depth : Int32) (fault : Int32) (fplace : Int32) (rf : Nat → Int32) (A : Nat → Prop) : Array Value → State → Outcome → State → Prop := va_Qv (fun (_ : Unit) => True) (fun _ t => ∃ (rf9 : Nat → Int32), (M_noteUse rf a0 from_ = (rf9)) ∧ xB D (tyL cI cJ cZ cG cH) [oX4 rd tp rfa rya rla pl place kind from_ value told depth fault fplace, oAI rfa cI 8 rf9] A t) A
abbrev rm_noteUse : Room := { frames := 0, cells := 0, slots := 0, locals := 0 }
set_option maxRecDepth 100000 in
set_option maxHeartbeats 40000000 in
theorem c_noteUse (l : Launch) (D : va_G) (cI cJ cZ cG cH : ClassId) (sz : Nat) (rd : Nat) (a0 : Int32) (tp : Nat) (rfa : Nat) (rya : Nat) (rla : Nat) (pl : Nat) (place : Int32) (kind : Int32) (from_ : Int32) (value : Int32) (told : Int32) (depth : Int32) (fault : Int32) (fplace : Int32) (rf : Nat → Int32) (h_a0 : 0 ≤ a0.toInt ∧ a0.toInt ≤ 7) (h_place : 0 ≤ place.toInt ∧ place.toInt ≤ 400) (h_from_ : 0 ≤ from_.toInt ∧ from_.toInt ≤ 400) (h_depth : 0 ≤ depth.toInt ∧ depth.toInt ≤ 6) : Met l yX4_noteUse (wt yX4_noteUse cX4_noteUse 2 none) rm_noteUse (xPc [.ref rd, .int a0] D (tyL cI cJ cZ cG cH) (W_noteUse cI cJ cZ cG cH rd a0 tp rfa rya rla pl place kind from_ value told depth fault fplace rf) sz) (Q_noteUse D cI cJ cZ cG cH rd a0 tp rfa rya rla pl place kind from_ value told depth fault fplace rf (va_A (W_noteUse cI cJ cZ cG cH rd a0 tp rfa rya rla pl place kind from_ value told depth fault fplace rf) sz)) 0 0 (va_A (W_noteUse cI cJ cZ cG cH rd a0 tp rfa rya rla pl place kind from_ value told depth fault fplace rf) sz) := by
  refine xMet (cc := cX4_noteUse) (maxL := 2) (ret := none) (Qf := Q_noteUse D cI cJ cZ cG cH rd a0 tp rfa rya rla pl place kind from_ value told depth fault fplace rf) (by decide) rfl (Nat.le_of_ble_eq_true rfl) ?_
  intro p e s m below meth c ls A hx hb hr hml hts hown hlocks hnm hsz hP hK hD hA hS hl
  have hown : s.vm.findClass RX4 = some m.cls := hown
  have hP : va_P D vwCl [oX4 rd tp rfa rya rla pl place kind from_ value told depth fault fplace, oAI rfa cI 8 rf] s.heap := hP
  have hD : va_D A [oX4 rd tp rfa rya rla pl place kind from_ value told depth fault fplace, oAI rfa cI 8 rf] := hD
  have hl : lv_has ls 2 [(0, .ref rd), (1, .int a0)] := hl
  have hM : M_noteUse rf a0 from_ = (K_noteUse_1 rf a0 from_) := rfl
  refine lv_aload_n hx hb dX4_noteUse_0 rfl (lv_at hl 0 rfl) ?_
  refine va_get (D := D) (ci := 3) (v := .ref rfa) (C := RX4) (T := TX4) (N := 13) hx hb hts (fun w h => tbC w (tbfX4 w h)) hown hK hP 0 rfl rfl 1 (by decide) (hts (.fieldLink RX4 19 "PowerRails$Reader" "firstUse" "[I") (tbC _ wd233)) (fun _ h9 => h9) rfl dX4_noteUse_1 ?_
  refine lv_iload_n hx hb dX4_noteUse_4 rfl (lv_at hl 1 rfl) ?_
  refine va_iald hx hb hK hP 1 0 rfl rfl (vp_in_iff.mpr ⟨by omega, by omega⟩) dX4_noteUse_5 ?_
  refine lv_topi (fun v1 ev1 => ?_)
  refine lv_bipush (v := (-4)) hx hb dX4_noteUse_6 (by decide) ?_
  refine lv_icmp_ne (tgt := 21) hx hb dX4_noteUse_8 (by decide) (fun c_2 => ?_) (fun c_2 => ?_)
  · skip
    have i_2 : ¬ (v1.toInt = (-4)) := fun h9 => c_2 ((ieq rfl (by decide)).mpr h9)
    have hM : M_noteUse rf a0 from_ = (K_noteUse_2 rf) := (show M_noteUse rf a0 from_ = (if v1.toInt = (-4) then (K_noteUse_3 rf a0 from_) else (K_noteUse_2 rf)) from (by rw [ev1]; exact hM)).trans (if_neg i_2)
    refine W.widen (k := 0) (n := 0) (by decide) (by decide) ?_
    exact W.vret hx hb hr (fun t ht hW => ⟨⟨(), rfl, trivial, ⟨rf, hM, xB_of9 ht hW hP hK hD [0, 1] (by decide +kernel) rfl⟩⟩, hS.F ht⟩) hS.2.2 dX4_noteUse_21
  · skip
    have i_2 : v1.toInt = (-4) := (ieq rfl (by decide)).mp c_2
    have hM : M_noteUse rf a0 from_ = (K_noteUse_3 rf a0 from_) := (show M_noteUse rf a0 from_ = (if v1.toInt = (-4) then (K_noteUse_3 rf a0 from_) else (K_noteUse_2 rf)) from (by rw [ev1]; exact hM)).trans (if_pos i_2)
    refine lv_aload_n hx hb dX4_noteUse_11 rfl (lv_at hl 0 rfl) ?_
    refine va_get (D := D) (ci := 3) (v := .ref rfa) (C := RX4) (T := TX4) (N := 13) hx hb hts (fun w h => tbC w (tbfX4 w h)) hown hK hP 0 rfl rfl 1 (by decide) (hts (.fieldLink RX4 19 "PowerRails$Reader" "firstUse" "[I") (tbC _ wd233)) (fun _ h9 => h9) rfl dX4_noteUse_12 ?_
    refine lv_iload_n hx hb dX4_noteUse_15 rfl (lv_at hl 1 rfl) ?_
    refine lv_aload_n hx hb dX4_noteUse_16 rfl (lv_at hl 0 rfl) ?_
    refine va_get (D := D) (ci := 3) (v := .int from_) (C := RX4) (T := TX4) (N := 13) hx hb hts (fun w h => tbC w (tbfX4 w h)) hown hK hP 0 rfl rfl 7 (by decide) (hts (.fieldLink RX4 88 "PowerRails$Reader" "from" "I") (tbC _ wd239)) (fun _ h9 => h9) rfl dX4_noteUse_17 ?_
    refine va_iast hx hb hK hP hD hS 1 0 rfl rfl (vp_in_iff.mpr ⟨by omega, by omega⟩) dX4_noteUse_20 (fun H locs hP hD hS => ?_)
    obtain ⟨f3, ef3⟩ : ∃ fz9 : Nat → Int32, fz9 = upd rf (a0 : Int32).toNatClampNeg from_ := ⟨_, rfl⟩
    have hP : va_P D vwCl [oX4 rd tp rfa rya rla pl place kind from_ value told depth fault fplace, oAI rfa cI 8 f3] H := by rw [ef3]; exact hP
    have hD : va_D A [oX4 rd tp rfa rya rla pl place kind from_ value told depth fault fplace, oAI rfa cI 8 f3] := by rw [ef3]; exact hD
    refine W.widen (k := 0) (n := 0) (by decide) (by decide) ?_
    exact W.vret hx hb hr (fun t ht hW => ⟨⟨(), rfl, trivial, ⟨f3, (by rw [ef3]; exact hM), xB_of9 ht hW hP hK hD [0, 1] (by decide +kernel) rfl⟩⟩, hS.F ht⟩) hS.2.2 dX4_noteUse_21
def K_openDepth_5 (g_3 : Nat → Int64) (ry1 : Nat → Int64) (ry2 : Nat → Int64) (ry3 : Nat → Int64) (ry4 : Nat → Int64) (ry5 : Nat → Int64) (ry6 : Nat → Int64) (g_6 : Nat → Int64) (rl1 : Nat → Int64) (rl2 : Nat → Int64) (rl3 : Nat → Int64) (rl4 : Nat → Int64) (rl5 : Nat → Int64) (rl6 : Nat → Int64) : (Nat → Int64) × (Nat → Int64) × (Nat → Int64) × (Nat → Int64) × (Nat → Int64) × (Nat → Int64) × (Nat → Int64) × (Nat → Int64) × (Nat → Int64) × (Nat → Int64) × (Nat → Int64) × (Nat → Int64) × (Nat → Int64) × (Nat → Int64) := (g_3, ry1, ry2, ry3, ry4, ry5, ry6, g_6, rl1, rl2, rl3, rl4, rl5, rl6)
def K_openDepth_4 (g_3 : Nat → Int64) (ry1 : Nat → Int64) (ry2 : Nat → Int64) (ry3 : Nat → Int64) (ry4 : Nat → Int64) (ry5 : Nat → Int64) (ry6 : Nat → Int64) (rl1 : Nat → Int64) (rl2 : Nat → Int64) (rl3 : Nat → Int64) (rl4 : Nat → Int64) (rl5 : Nat → Int64) (rl6 : Nat → Int64) (rl0 : Nat → Int64) : (Nat → Int64) × (Nat → Int64) × (Nat → Int64) × (Nat → Int64) × (Nat → Int64) × (Nat → Int64) × (Nat → Int64) × (Nat → Int64) × (Nat → Int64) × (Nat → Int64) × (Nat → Int64) × (Nat → Int64) × (Nat → Int64) × (Nat → Int64) := ((fun t9 => (K_openDepth_5 g_3 ry1 ry2 ry3 ry4 ry5 ry6 t9 rl1 rl2 rl3 rl4 rl5 rl6)) (M_fillJ 8 (-1 : Int64) rl0))
def K_openDepth_2 (ry1 : Nat → Int64) (ry2 : Nat → Int64) (ry3 : Nat → Int64) (ry4 : Nat → Int64) (ry5 : Nat → Int64) (ry6 : Nat → Int64) (rl1 : Nat → Int64) (rl2 : Nat → Int64) (rl3 : Nat → Int64) (rl4 : Nat → Int64) (rl5 : Nat → Int64) (rl6 : Nat → Int64) (rl0 : Nat → Int64) (ry0 : Nat → Int64) : (Nat → Int64) × (Nat → Int64) × (Nat → Int64) × (Nat → Int64) × (Nat → Int64) × (Nat → Int64) × (Nat → Int64) × (Nat → Int64) × (Nat → Int64) × (Nat → Int64) × (Nat → Int64) × (Nat → Int64) × (Nat → Int64) × (Nat → Int64) := ((fun t9 => (K_openDepth_4 t9 ry1 ry2 ry3 ry4 ry5 ry6 rl1 rl2 rl3 rl4 rl5 rl6 rl0)) (M_fillJ 8 (0 : Int64) ry0))
def K_openDepth_9 (ry0 : Nat → Int64) (g_9 : Nat → Int64) (ry2 : Nat → Int64) (ry3 : Nat → Int64) (ry4 : Nat → Int64) (ry5 : Nat → Int64) (ry6 : Nat → Int64) (rl0 : Nat → Int64) (g_12 : Nat → Int64) (rl2 : Nat → Int64) (rl3 : Nat → Int64) (rl4 : Nat → Int64) (rl5 : Nat → Int64) (rl6 : Nat → Int64) : (Nat → Int64) × (Nat → Int64) × (Nat → Int64) × (Nat → Int64) × (Nat → Int64) × (Nat → Int64) × (Nat → Int64) × (Nat → Int64) × (Nat → Int64) × (Nat → Int64) × (Nat → Int64) × (Nat → Int64) × (Nat → Int64) × (Nat → Int64) := (ry0, g_9, ry2, ry3, ry4, ry5, ry6, rl0, g_12, rl2, rl3, rl4, rl5, rl6)
def K_openDepth_8 (ry0 : Nat → Int64) (g_9 : Nat → Int64) (ry2 : Nat → Int64) (ry3 : Nat → Int64) (ry4 : Nat → Int64) (ry5 : Nat → Int64) (ry6 : Nat → Int64) (rl0 : Nat → Int64) (rl2 : Nat → Int64) (rl3 : Nat → Int64) (rl4 : Nat → Int64) (rl5 : Nat → Int64) (rl6 : Nat → Int64) (rl1 : Nat → Int64) : (Nat → Int64) × (Nat → Int64) × (Nat → Int64) × (Nat → Int64) × (Nat → Int64) × (Nat → Int64) × (Nat → Int64) × (Nat → Int64) × (Nat → Int64) × (Nat → Int64) × (Nat → Int64) × (Nat → Int64) × (Nat → Int64) × (Nat → Int64) := ((fun t9 => (K_openDepth_9 ry0 g_9 ry2 ry3 ry4 ry5 ry6 rl0 t9 rl2 rl3 rl4 rl5 rl6)) (M_fillJ 8 (-1 : Int64) rl1))
def K_openDepth_6 (ry0 : Nat → Int64) (ry2 : Nat → Int64) (ry3 : Nat → Int64) (ry4 : Nat → Int64) (ry5 : Nat → Int64) (ry6 : Nat → Int64) (rl0 : Nat → Int64) (rl2 : Nat → Int64) (rl3 : Nat → Int64) (rl4 : Nat → Int64) (rl5 : Nat → Int64) (rl6 : Nat → Int64) (rl1 : Nat → Int64) (ry1 : Nat → Int64) : (Nat → Int64) × (Nat → Int64) × (Nat → Int64) × (Nat → Int64) × (Nat → Int64) × (Nat → Int64) × (Nat → Int64) × (Nat → Int64) × (Nat → Int64) × (Nat → Int64) × (Nat → Int64) × (Nat → Int64) × (Nat → Int64) × (Nat → Int64) := ((fun t9 => (K_openDepth_8 ry0 t9 ry2 ry3 ry4 ry5 ry6 rl0 rl2 rl3 rl4 rl5 rl6 rl1)) (M_fillJ 8 (0 : Int64) ry1))
def K_openDepth_13 (ry0 : Nat → Int64) (ry1 : Nat → Int64) (g_15 : Nat → Int64) (ry3 : Nat → Int64) (ry4 : Nat → Int64) (ry5 : Nat → Int64) (ry6 : Nat → Int64) (rl0 : Nat → Int64) (rl1 : Nat → Int64) (g_18 : Nat → Int64) (rl3 : Nat → Int64) (rl4 : Nat → Int64) (rl5 : Nat → Int64) (rl6 : Nat → Int64) : (Nat → Int64) × (Nat → Int64) × (Nat → Int64) × (Nat → Int64) × (Nat → Int64) × (Nat → Int64) × (Nat → Int64) × (Nat → Int64) × (Nat → Int64) × (Nat → Int64) × (Nat → Int64) × (Nat → Int64) × (Nat → Int64) × (Nat → Int64) := (ry0, ry1, g_15, ry3, ry4, ry5, ry6, rl0, rl1, g_18, rl3, rl4, rl5, rl6)
def K_openDepth_12 (ry0 : Nat → Int64) (ry1 : Nat → Int64) (g_15 : Nat → Int64) (ry3 : Nat → Int64) (ry4 : Nat → Int64) (ry5 : Nat → Int64) (ry6 : Nat → Int64) (rl0 : Nat → Int64) (rl1 : Nat → Int64) (rl3 : Nat → Int64) (rl4 : Nat → Int64) (rl5 : Nat → Int64) (rl6 : Nat → Int64) (rl2 : Nat → Int64) : (Nat → Int64) × (Nat → Int64) × (Nat → Int64) × (Nat → Int64) × (Nat → Int64) × (Nat → Int64) × (Nat → Int64) × (Nat → Int64) × (Nat → Int64) × (Nat → Int64) × (Nat → Int64) × (Nat → Int64) × (Nat → Int64) × (Nat → Int64) := ((fun t9 => (K_openDepth_13 ry0 ry1 g_15 ry3 ry4 ry5 ry6 rl0 rl1 t9 rl3 rl4 rl5 rl6)) (M_fillJ 8 (-1 : Int64) rl2))
def K_openDepth_10 (ry0 : Nat → Int64) (ry1 : Nat → Int64) (ry3 : Nat → Int64) (ry4 : Nat → Int64) (ry5 : Nat → Int64) (ry6 : Nat → Int64) (rl0 : Nat → Int64) (rl1 : Nat → Int64) (rl3 : Nat → Int64) (rl4 : Nat → Int64) (rl5 : Nat → Int64) (rl6 : Nat → Int64) (rl2 : Nat → Int64) (ry2 : Nat → Int64) : (Nat → Int64) × (Nat → Int64) × (Nat → Int64) × (Nat → Int64) × (Nat → Int64) × (Nat → Int64) × (Nat → Int64) × (Nat → Int64) × (Nat → Int64) × (Nat → Int64) × (Nat → Int64) × (Nat → Int64) × (Nat → Int64) × (Nat → Int64) := ((fun t9 => (K_openDepth_12 ry0 ry1 t9 ry3 ry4 ry5 ry6 rl0 rl1 rl3 rl4 rl5 rl6 rl2)) (M_fillJ 8 (0 : Int64) ry2))
def K_openDepth_17 (ry0 : Nat → Int64) (ry1 : Nat → Int64) (ry2 : Nat → Int64) (g_21 : Nat → Int64) (ry4 : Nat → Int64) (ry5 : Nat → Int64) (ry6 : Nat → Int64) (rl0 : Nat → Int64) (rl1 : Nat → Int64) (rl2 : Nat → Int64) (g_24 : Nat → Int64) (rl4 : Nat → Int64) (rl5 : Nat → Int64) (rl6 : Nat → Int64) : (Nat → Int64) × (Nat → Int64) × (Nat → Int64) × (Nat → Int64) × (Nat → Int64) × (Nat → Int64) × (Nat → Int64) × (Nat → Int64) × (Nat → Int64) × (Nat → Int64) × (Nat → Int64) × (Nat → Int64) × (Nat → Int64) × (Nat → Int64) := (ry0, ry1, ry2, g_21, ry4, ry5, ry6, rl0, rl1, rl2, g_24, rl4, rl5, rl6)
def K_openDepth_16 (ry0 : Nat → Int64) (ry1 : Nat → Int64) (ry2 : Nat → Int64) (g_21 : Nat → Int64) (ry4 : Nat → Int64) (ry5 : Nat → Int64) (ry6 : Nat → Int64) (rl0 : Nat → Int64) (rl1 : Nat → Int64) (rl2 : Nat → Int64) (rl4 : Nat → Int64) (rl5 : Nat → Int64) (rl6 : Nat → Int64) (rl3 : Nat → Int64) : (Nat → Int64) × (Nat → Int64) × (Nat → Int64) × (Nat → Int64) × (Nat → Int64) × (Nat → Int64) × (Nat → Int64) × (Nat → Int64) × (Nat → Int64) × (Nat → Int64) × (Nat → Int64) × (Nat → Int64) × (Nat → Int64) × (Nat → Int64) := ((fun t9 => (K_openDepth_17 ry0 ry1 ry2 g_21 ry4 ry5 ry6 rl0 rl1 rl2 t9 rl4 rl5 rl6)) (M_fillJ 8 (-1 : Int64) rl3))
def K_openDepth_14 (ry0 : Nat → Int64) (ry1 : Nat → Int64) (ry2 : Nat → Int64) (ry4 : Nat → Int64) (ry5 : Nat → Int64) (ry6 : Nat → Int64) (rl0 : Nat → Int64) (rl1 : Nat → Int64) (rl2 : Nat → Int64) (rl4 : Nat → Int64) (rl5 : Nat → Int64) (rl6 : Nat → Int64) (rl3 : Nat → Int64) (ry3 : Nat → Int64) : (Nat → Int64) × (Nat → Int64) × (Nat → Int64) × (Nat → Int64) × (Nat → Int64) × (Nat → Int64) × (Nat → Int64) × (Nat → Int64) × (Nat → Int64) × (Nat → Int64) × (Nat → Int64) × (Nat → Int64) × (Nat → Int64) × (Nat → Int64) := ((fun t9 => (K_openDepth_16 ry0 ry1 ry2 t9 ry4 ry5 ry6 rl0 rl1 rl2 rl4 rl5 rl6 rl3)) (M_fillJ 8 (0 : Int64) ry3))
def K_openDepth_21 (ry0 : Nat → Int64) (ry1 : Nat → Int64) (ry2 : Nat → Int64) (ry3 : Nat → Int64) (g_27 : Nat → Int64) (ry5 : Nat → Int64) (ry6 : Nat → Int64) (rl0 : Nat → Int64) (rl1 : Nat → Int64) (rl2 : Nat → Int64) (rl3 : Nat → Int64) (g_30 : Nat → Int64) (rl5 : Nat → Int64) (rl6 : Nat → Int64) : (Nat → Int64) × (Nat → Int64) × (Nat → Int64) × (Nat → Int64) × (Nat → Int64) × (Nat → Int64) × (Nat → Int64) × (Nat → Int64) × (Nat → Int64) × (Nat → Int64) × (Nat → Int64) × (Nat → Int64) × (Nat → Int64) × (Nat → Int64) := (ry0, ry1, ry2, ry3, g_27, ry5, ry6, rl0, rl1, rl2, rl3, g_30, rl5, rl6)
def K_openDepth_20 (ry0 : Nat → Int64) (ry1 : Nat → Int64) (ry2 : Nat → Int64) (ry3 : Nat → Int64) (g_27 : Nat → Int64) (ry5 : Nat → Int64) (ry6 : Nat → Int64) (rl0 : Nat → Int64) (rl1 : Nat → Int64) (rl2 : Nat → Int64) (rl3 : Nat → Int64) (rl5 : Nat → Int64) (rl6 : Nat → Int64) (rl4 : Nat → Int64) : (Nat → Int64) × (Nat → Int64) × (Nat → Int64) × (Nat → Int64) × (Nat → Int64) × (Nat → Int64) × (Nat → Int64) × (Nat → Int64) × (Nat → Int64) × (Nat → Int64) × (Nat → Int64) × (Nat → Int64) × (Nat → Int64) × (Nat → Int64) := ((fun t9 => (K_openDepth_21 ry0 ry1 ry2 ry3 g_27 ry5 ry6 rl0 rl1 rl2 rl3 t9 rl5 rl6)) (M_fillJ 8 (-1 : Int64) rl4))
def K_openDepth_18 (ry0 : Nat → Int64) (ry1 : Nat → Int64) (ry2 : Nat → Int64) (ry3 : Nat → Int64) (ry5 : Nat → Int64) (ry6 : Nat → Int64) (rl0 : Nat → Int64) (rl1 : Nat → Int64) (rl2 : Nat → Int64) (rl3 : Nat → Int64) (rl5 : Nat → Int64) (rl6 : Nat → Int64) (rl4 : Nat → Int64) (ry4 : Nat → Int64) : (Nat → Int64) × (Nat → Int64) × (Nat → Int64) × (Nat → Int64) × (Nat → Int64) × (Nat → Int64) × (Nat → Int64) × (Nat → Int64) × (Nat → Int64) × (Nat → Int64) × (Nat → Int64) × (Nat → Int64) × (Nat → Int64) × (Nat → Int64) := ((fun t9 => (K_openDepth_20 ry0 ry1 ry2 ry3 t9 ry5 ry6 rl0 rl1 rl2 rl3 rl5 rl6 rl4)) (M_fillJ 8 (0 : Int64) ry4))
def K_openDepth_25 (ry0 : Nat → Int64) (ry1 : Nat → Int64) (ry2 : Nat → Int64) (ry3 : Nat → Int64) (ry4 : Nat → Int64) (g_33 : Nat → Int64) (ry6 : Nat → Int64) (rl0 : Nat → Int64) (rl1 : Nat → Int64) (rl2 : Nat → Int64) (rl3 : Nat → Int64) (rl4 : Nat → Int64) (g_36 : Nat → Int64) (rl6 : Nat → Int64) : (Nat → Int64) × (Nat → Int64) × (Nat → Int64) × (Nat → Int64) × (Nat → Int64) × (Nat → Int64) × (Nat → Int64) × (Nat → Int64) × (Nat → Int64) × (Nat → Int64) × (Nat → Int64) × (Nat → Int64) × (Nat → Int64) × (Nat → Int64) := (ry0, ry1, ry2, ry3, ry4, g_33, ry6, rl0, rl1, rl2, rl3, rl4, g_36, rl6)
def K_openDepth_24 (ry0 : Nat → Int64) (ry1 : Nat → Int64) (ry2 : Nat → Int64) (ry3 : Nat → Int64) (ry4 : Nat → Int64) (g_33 : Nat → Int64) (ry6 : Nat → Int64) (rl0 : Nat → Int64) (rl1 : Nat → Int64) (rl2 : Nat → Int64) (rl3 : Nat → Int64) (rl4 : Nat → Int64) (rl6 : Nat → Int64) (rl5 : Nat → Int64) : (Nat → Int64) × (Nat → Int64) × (Nat → Int64) × (Nat → Int64) × (Nat → Int64) × (Nat → Int64) × (Nat → Int64) × (Nat → Int64) × (Nat → Int64) × (Nat → Int64) × (Nat → Int64) × (Nat → Int64) × (Nat → Int64) × (Nat → Int64) := ((fun t9 => (K_openDepth_25 ry0 ry1 ry2 ry3 ry4 g_33 ry6 rl0 rl1 rl2 rl3 rl4 t9 rl6)) (M_fillJ 8 (-1 : Int64) rl5))
def K_openDepth_22 (ry0 : Nat → Int64) (ry1 : Nat → Int64) (ry2 : Nat → Int64) (ry3 : Nat → Int64) (ry4 : Nat → Int64) (ry6 : Nat → Int64) (rl0 : Nat → Int64) (rl1 : Nat → Int64) (rl2 : Nat → Int64) (rl3 : Nat → Int64) (rl4 : Nat → Int64) (rl6 : Nat → Int64) (rl5 : Nat → Int64) (ry5 : Nat → Int64) : (Nat → Int64) × (Nat → Int64) × (Nat → Int64) × (Nat → Int64) × (Nat → Int64) × (Nat → Int64) × (Nat → Int64) × (Nat → Int64) × (Nat → Int64) × (Nat → Int64) × (Nat → Int64) × (Nat → Int64) × (Nat → Int64) × (Nat → Int64) := ((fun t9 => (K_openDepth_24 ry0 ry1 ry2 ry3 ry4 t9 ry6 rl0 rl1 rl2 rl3 rl4 rl6 rl5)) (M_fillJ 8 (0 : Int64) ry5))
def K_openDepth_27 (ry0 : Nat → Int64) (ry1 : Nat → Int64) (ry2 : Nat → Int64) (ry3 : Nat → Int64) (ry4 : Nat → Int64) (ry5 : Nat → Int64) (g_39 : Nat → Int64) (rl0 : Nat → Int64) (rl1 : Nat → Int64) (rl2 : Nat → Int64) (rl3 : Nat → Int64) (rl4 : Nat → Int64) (rl5 : Nat → Int64) (g_42 : Nat → Int64) : (Nat → Int64) × (Nat → Int64) × (Nat → Int64) × (Nat → Int64) × (Nat → Int64) × (Nat → Int64) × (Nat → Int64) × (Nat → Int64) × (Nat → Int64) × (Nat → Int64) × (Nat → Int64) × (Nat → Int64) × (Nat → Int64) × (Nat → Int64) := (ry0, ry1, ry2, ry3, ry4, ry5, g_39, rl0, rl1, rl2, rl3, rl4, rl5, g_42)
def K_openDepth_26 (ry0 : Nat → Int64) (ry1 : Nat → Int64) (ry2 : Nat → Int64) (ry3 : Nat → Int64) (ry4 : Nat → Int64) (ry5 : Nat → Int64) (g_39 : Nat → Int64) (rl0 : Nat → Int64) (rl1 : Nat → Int64) (rl2 : Nat → Int64) (rl3 : Nat → Int64) (rl4 : Nat → Int64) (rl5 : Nat → Int64) (rl6 : Nat → Int64) : (Nat → Int64) × (Nat → Int64) × (Nat → Int64) × (Nat → Int64) × (Nat → Int64) × (Nat → Int64) × (Nat → Int64) × (Nat → Int64) × (Nat → Int64) × (Nat → Int64) × (Nat → Int64) × (Nat → Int64) × (Nat → Int64) × (Nat → Int64) := ((fun t9 => (K_openDepth_27 ry0 ry1 ry2 ry3 ry4 ry5 g_39 rl0 rl1 rl2 rl3 rl4 rl5 t9)) (M_fillJ 8 (-1 : Int64) rl6))
def K_openDepth_23 (ry0 : Nat → Int64) (ry1 : Nat → Int64) (ry2 : Nat → Int64) (ry3 : Nat → Int64) (ry4 : Nat → Int64) (ry5 : Nat → Int64) (rl0 : Nat → Int64) (rl1 : Nat → Int64) (rl2 : Nat → Int64) (rl3 : Nat → Int64) (rl4 : Nat → Int64) (rl5 : Nat → Int64) (rl6 : Nat → Int64) (ry6 : Nat → Int64) : (Nat → Int64) × (Nat → Int64) × (Nat → Int64) × (Nat → Int64) × (Nat → Int64) × (Nat → Int64) × (Nat → Int64) × (Nat → Int64) × (Nat → Int64) × (Nat → Int64) × (Nat → Int64) × (Nat → Int64) × (Nat → Int64) × (Nat → Int64) := ((fun t9 => (K_openDepth_26 ry0 ry1 ry2 ry3 ry4 ry5 t9 rl0 rl1 rl2 rl3 rl4 rl5 rl6)) (M_fillJ 8 (0 : Int64) ry6))
def K_openDepth_19 (a0 : Int32) (ry0 : Nat → Int64) (ry1 : Nat → Int64) (ry2 : Nat → Int64) (ry3 : Nat → Int64) (ry4 : Nat → Int64) (ry6 : Nat → Int64) (rl0 : Nat → Int64) (rl1 : Nat → Int64) (rl2 : Nat → Int64) (rl3 : Nat → Int64) (rl4 : Nat → Int64) (rl6 : Nat → Int64) (rl5 : Nat → Int64) (ry5 : Nat → Int64) : (Nat → Int64) × (Nat → Int64) × (Nat → Int64) × (Nat → Int64) × (Nat → Int64) × (Nat → Int64) × (Nat → Int64) × (Nat → Int64) × (Nat → Int64) × (Nat → Int64) × (Nat → Int64) × (Nat → Int64) × (Nat → Int64) × (Nat → Int64) := (if a0.toInt = 5 then (K_openDepth_22 ry0 ry1 ry2 ry3 ry4 ry6 rl0 rl1 rl2 rl3 rl4 rl6 rl5 ry5) else (K_openDepth_23 ry0 ry1 ry2 ry3 ry4 ry5 rl0 rl1 rl2 rl3 rl4 rl5 rl6 ry6))
def K_openDepth_15 (a0 : Int32) (ry0 : Nat → Int64) (ry1 : Nat → Int64) (ry2 : Nat → Int64) (ry3 : Nat → Int64) (ry5 : Nat → Int64) (ry6 : Nat → Int64) (rl0 : Nat → Int64) (rl1 : Nat → Int64) (rl2 : Nat → Int64) (rl3 : Nat → Int64) (rl5 : Nat → Int64) (rl6 : Nat → Int64) (rl4 : Nat → Int64) (ry4 : Nat → Int64) : (Nat → Int64) × (Nat → Int64) × (Nat → Int64) × (Nat → Int64) × (Nat → Int64) × (Nat → Int64) × (Nat → Int64) × (Nat → Int64) × (Nat → Int64) × (Nat → Int64) × (Nat → Int64) × (Nat → Int64) × (Nat → Int64) × (Nat → Int64) := (if a0.toInt = 4 then (K_openDepth_18 ry0 ry1 ry2 ry3 ry5 ry6 rl0 rl1 rl2 rl3 rl5 rl6 rl4 ry4) else (K_openDepth_19 a0 ry0 ry1 ry2 ry3 ry4 ry6 rl0 rl1 rl2 rl3 rl4 rl6 rl5 ry5))
def K_openDepth_11 (a0 : Int32) (ry0 : Nat → Int64) (ry1 : Nat → Int64) (ry2 : Nat → Int64) (ry4 : Nat → Int64) (ry5 : Nat → Int64) (ry6 : Nat → Int64) (rl0 : Nat → Int64) (rl1 : Nat → Int64) (rl2 : Nat → Int64) (rl4 : Nat → Int64) (rl5 : Nat → Int64) (rl6 : Nat → Int64) (rl3 : Nat → Int64) (ry3 : Nat → Int64) : (Nat → Int64) × (Nat → Int64) × (Nat → Int64) × (Nat → Int64) × (Nat → Int64) × (Nat → Int64) × (Nat → Int64) × (Nat → Int64) × (Nat → Int64) × (Nat → Int64) × (Nat → Int64) × (Nat → Int64) × (Nat → Int64) × (Nat → Int64) := (if a0.toInt = 3 then (K_openDepth_14 ry0 ry1 ry2 ry4 ry5 ry6 rl0 rl1 rl2 rl4 rl5 rl6 rl3 ry3) else (K_openDepth_15 a0 ry0 ry1 ry2 ry3 ry5 ry6 rl0 rl1 rl2 rl3 rl5 rl6 rl4 ry4))
def K_openDepth_7 (a0 : Int32) (ry0 : Nat → Int64) (ry1 : Nat → Int64) (ry3 : Nat → Int64) (ry4 : Nat → Int64) (ry5 : Nat → Int64) (ry6 : Nat → Int64) (rl0 : Nat → Int64) (rl1 : Nat → Int64) (rl3 : Nat → Int64) (rl4 : Nat → Int64) (rl5 : Nat → Int64) (rl6 : Nat → Int64) (rl2 : Nat → Int64) (ry2 : Nat → Int64) : (Nat → Int64) × (Nat → Int64) × (Nat → Int64) × (Nat → Int64) × (Nat → Int64) × (Nat → Int64) × (Nat → Int64) × (Nat → Int64) × (Nat → Int64) × (Nat → Int64) × (Nat → Int64) × (Nat → Int64) × (Nat → Int64) × (Nat → Int64) := (if a0.toInt = 2 then (K_openDepth_10 ry0 ry1 ry3 ry4 ry5 ry6 rl0 rl1 rl3 rl4 rl5 rl6 rl2 ry2) else (K_openDepth_11 a0 ry0 ry1 ry2 ry4 ry5 ry6 rl0 rl1 rl2 rl4 rl5 rl6 rl3 ry3))
def K_openDepth_3 (a0 : Int32) (ry0 : Nat → Int64) (ry2 : Nat → Int64) (ry3 : Nat → Int64) (ry4 : Nat → Int64) (ry5 : Nat → Int64) (ry6 : Nat → Int64) (rl0 : Nat → Int64) (rl2 : Nat → Int64) (rl3 : Nat → Int64) (rl4 : Nat → Int64) (rl5 : Nat → Int64) (rl6 : Nat → Int64) (rl1 : Nat → Int64) (ry1 : Nat → Int64) : (Nat → Int64) × (Nat → Int64) × (Nat → Int64) × (Nat → Int64) × (Nat → Int64) × (Nat → Int64) × (Nat → Int64) × (Nat → Int64) × (Nat → Int64) × (Nat → Int64) × (Nat → Int64) × (Nat → Int64) × (Nat → Int64) × (Nat → Int64) := (if a0.toInt = 1 then (K_openDepth_6 ry0 ry2 ry3 ry4 ry5 ry6 rl0 rl2 rl3 rl4 rl5 rl6 rl1 ry1) else (K_openDepth_7 a0 ry0 ry1 ry3 ry4 ry5 ry6 rl0 rl1 rl3 rl4 rl5 rl6 rl2 ry2))
def K_openDepth_1 (a0 : Int32) (ry1 : Nat → Int64) (ry2 : Nat → Int64) (ry3 : Nat → Int64) (ry4 : Nat → Int64) (ry5 : Nat → Int64) (ry6 : Nat → Int64) (rl1 : Nat → Int64) (rl2 : Nat → Int64) (rl3 : Nat → Int64) (rl4 : Nat → Int64) (rl5 : Nat → Int64) (rl6 : Nat → Int64) (rl0 : Nat → Int64) (ry0 : Nat → Int64) : (Nat → Int64) × (Nat → Int64) × (Nat → Int64) × (Nat → Int64) × (Nat → Int64) × (Nat → Int64) × (Nat → Int64) × (Nat → Int64) × (Nat → Int64) × (Nat → Int64) × (Nat → Int64) × (Nat → Int64) × (Nat → Int64) × (Nat → Int64) := (if a0.toInt = 0 then (K_openDepth_2 ry1 ry2 ry3 ry4 ry5 ry6 rl1 rl2 rl3 rl4 rl5 rl6 rl0 ry0) else (K_openDepth_3 a0 ry0 ry2 ry3 ry4 ry5 ry6 rl0 rl2 rl3 rl4 rl5 rl6 rl1 ry1))
def M_openDepth (a0 : Int32) (ry1 : Nat → Int64) (ry2 : Nat → Int64) (ry3 : Nat → Int64) (ry4 : Nat → Int64) (ry5 : Nat → Int64) (ry6 : Nat → Int64) (rl1 : Nat → Int64) (rl2 : Nat → Int64) (rl3 : Nat → Int64) (rl4 : Nat → Int64) (rl5 : Nat → Int64) (rl6 : Nat → Int64) (rl0 : Nat → Int64) (ry0 : Nat → Int64) : (Nat → Int64) × (Nat → Int64) × (Nat → Int64) × (Nat → Int64) × (Nat → Int64) × (Nat → Int64) × (Nat → Int64) × (Nat → Int64) × (Nat → Int64) × (Nat → Int64) × (Nat → Int64) × (Nat → Int64) × (Nat → Int64) × (Nat → Int64) := (K_openDepth_1 a0 ry1 ry2 ry3 ry4 ry5 ry6 rl1 rl2 rl3 rl4 rl5 rl6 rl0 ry0)
abbrev W_openDepth (cI cJ cZ cG cH : ClassId) (rd : Nat) (a0 : Int32) (tp : Nat) (rfa : Nat) (rya : Nat) (rla : Nat) (pl : Nat) (place : Int32) (kind : Int32) (from_ : Int32) (value : Int32) (told : Int32) (depth : Int32) (fault : Int32) (fplace : Int32) (ryf : Nat → Nat) (ry0 : Nat → Int64) (ry1 : Nat → Int64) (ry2 : Nat → Int64) (ry3 : Nat → Int64) (ry4 : Nat → Int64) (ry5 : Nat → Int64) (ry6 : Nat → Int64) (rlf : Nat → Nat) (rl0 : Nat → Int64) (rl1 : Nat → Int64) (rl2 : Nat → Int64) (rl3 : Nat → Int64) (rl4 : Nat → Int64) (rl5 : Nat → Int64) (rl6 : Nat → Int64) : va_W := [oX4 rd tp rfa rya rla pl place kind from_ value told depth fault fplace, oAM rya cH 7 ryf, oAJ (ryf 0) cJ 8 ry0, oAJ (ryf 1) cJ 8 ry1, oAJ (ryf 2) cJ 8 ry2, oAJ (ryf 3) cJ 8 ry3, oAJ (ryf 4) cJ 8 ry4, oAJ (ryf 5) cJ 8 ry5, oAJ (ryf 6) cJ 8 ry6, oAM rla cH 7 rlf, oAJ (rlf 0) cJ 8 rl0, oAJ (rlf 1) cJ 8 rl1, oAJ (rlf 2) cJ 8 rl2, oAJ (rlf 3) cJ 8 rl3, oAJ (rlf 4) cJ 8 rl4, oAJ (rlf 5) cJ 8 rl5, oAJ (rlf 6) cJ 8 rl6]
abbrev Q_openDepth (D : va_G) (cI cJ cZ cG cH : ClassId) (rd : Nat) (a0 : Int32) (tp : Nat) (rfa : Nat) (rya : Nat) (rla : Nat) (pl : Nat) (place : Int32) (kind : Int32) (from_ : Int32) (value : Int32) (told : Int32) (depth : Int32) (fault : Int32) (fplace : Int32) (ryf : Nat → Nat) (ry0 : Nat → Int64) (ry1 : Nat → Int64) (ry2 : Nat → Int64) (ry3 : Nat → Int64) (ry4 : Nat → Int64) (ry5 : Nat → Int64) (ry6 : Nat → Int64) (rlf : Nat → Nat) (rl0 : Nat → Int64) (rl1 : Nat → Int64) (rl2 : Nat → Int64) (rl3 : Nat → Int64) (rl4 : Nat → Int64) (rl5 : Nat → Int64) (rl6 : Nat → Int64) (A : Nat → Prop) : Array Value → State → Outcome → State → Prop := va_Qv (fun (_ : Unit) => True) (fun _ t => ∃ (ry09 : Nat → Int64) (ry19 : Nat → Int64) (ry29 : Nat → Int64) (ry39 : Nat → Int64) (ry49 : Nat → Int64) (ry59 : Nat → Int64) (ry69 : Nat → Int64) (rl09 : Nat → Int64) (rl19 : Nat → Int64) (rl29 : Nat → Int64) (rl39 : Nat → Int64) (rl49 : Nat → Int64) (rl59 : Nat → Int64) (rl69 : Nat → Int64), (M_openDepth a0 ry1 ry2 ry3 ry4 ry5 ry6 rl1 rl2 rl3 rl4 rl5 rl6 rl0 ry0 = (ry09, ry19, ry29, ry39, ry49, ry59, ry69, rl09, rl19, rl29, rl39, rl49, rl59, rl69)) ∧ xB D (tyL cI cJ cZ cG cH) [oX4 rd tp rfa rya rla pl place kind from_ value told a0 fault fplace, oAM rya cH 7 ryf, oAJ (ryf 0) cJ 8 ry09, oAJ (ryf 1) cJ 8 ry19, oAJ (ryf 2) cJ 8 ry29, oAJ (ryf 3) cJ 8 ry39, oAJ (ryf 4) cJ 8 ry49, oAJ (ryf 5) cJ 8 ry59, oAJ (ryf 6) cJ 8 ry69, oAM rla cH 7 rlf, oAJ (rlf 0) cJ 8 rl09, oAJ (rlf 1) cJ 8 rl19, oAJ (rlf 2) cJ 8 rl29, oAJ (rlf 3) cJ 8 rl39, oAJ (rlf 4) cJ 8 rl49, oAJ (rlf 5) cJ 8 rl59, oAJ (rlf 6) cJ 8 rl69] A t) A
abbrev rm_openDepth : Room := { frames := 1, cells := 0, slots := 0, locals := 24 }
set_option maxRecDepth 100000 in
set_option maxHeartbeats 40000000 in
theorem c_openDepth (l : Launch) (D : va_G) (cI cJ cZ cG cH : ClassId) (sz : Nat) (rd : Nat) (a0 : Int32) (tp : Nat) (rfa : Nat) (rya : Nat) (rla : Nat) (pl : Nat) (place : Int32) (kind : Int32) (from_ : Int32) (value : Int32) (told : Int32) (depth : Int32) (fault : Int32) (fplace : Int32) (ryf : Nat → Nat) (ry0 : Nat → Int64) (ry1 : Nat → Int64) (ry2 : Nat → Int64) (ry3 : Nat → Int64) (ry4 : Nat → Int64) (ry5 : Nat → Int64) (ry6 : Nat → Int64) (rlf : Nat → Nat) (rl0 : Nat → Int64) (rl1 : Nat → Int64) (rl2 : Nat → Int64) (rl3 : Nat → Int64) (rl4 : Nat → Int64) (rl5 : Nat → Int64) (rl6 : Nat → Int64) (h_a0 : 0 ≤ a0.toInt ∧ a0.toInt ≤ 6) (h_place : 0 ≤ place.toInt ∧ place.toInt ≤ 400) (h_from_ : 0 ≤ from_.toInt ∧ from_.toInt ≤ 400) (h_depth : 0 ≤ depth.toInt ∧ depth.toInt ≤ 6) : Met l yX4_openDepth (wt yX4_openDepth cX4_openDepth 2 none) rm_openDepth (xPc [.ref rd, .int a0] D (tyL cI cJ cZ cG cH) (W_openDepth cI cJ cZ cG cH rd a0 tp rfa rya rla pl place kind from_ value told depth fault fplace ryf ry0 ry1 ry2 ry3 ry4 ry5 ry6 rlf rl0 rl1 rl2 rl3 rl4 rl5 rl6) sz) (Q_openDepth D cI cJ cZ cG cH rd a0 tp rfa rya rla pl place kind from_ value told depth fault fplace ryf ry0 ry1 ry2 ry3 ry4 ry5 ry6 rlf rl0 rl1 rl2 rl3 rl4 rl5 rl6 (va_A (W_openDepth cI cJ cZ cG cH rd a0 tp rfa rya rla pl place kind from_ value told depth fault fplace ryf ry0 ry1 ry2 ry3 ry4 ry5 ry6 rlf rl0 rl1 rl2 rl3 rl4 rl5 rl6) sz)) 0 0 (va_A (W_openDepth cI cJ cZ cG cH rd a0 tp rfa rya rla pl place kind from_ value told depth fault fplace ryf ry0 ry1 ry2 ry3 ry4 ry5 ry6 rlf rl0 rl1 rl2 rl3 rl4 rl5 rl6) sz) := by
  refine xMet (cc := cX4_openDepth) (maxL := 2) (ret := none) (Qf := Q_openDepth D cI cJ cZ cG cH rd a0 tp rfa rya rla pl place kind from_ value told depth fault fplace ryf ry0 ry1 ry2 ry3 ry4 ry5 ry6 rlf rl0 rl1 rl2 rl3 rl4 rl5 rl6) (by decide) rfl (Nat.le_of_ble_eq_true rfl) ?_
  intro p e s m below meth c ls A hx hb hr hml hts hown hlocks hnm hsz hP hK hD hA hS hl
  have hown : s.vm.findClass RX4 = some m.cls := hown
  have hP : va_P D vwCl [oX4 rd tp rfa rya rla pl place kind from_ value told depth fault fplace, oAM rya cH 7 ryf, oAJ (ryf 0) cJ 8 ry0, oAJ (ryf 1) cJ 8 ry1, oAJ (ryf 2) cJ 8 ry2, oAJ (ryf 3) cJ 8 ry3, oAJ (ryf 4) cJ 8 ry4, oAJ (ryf 5) cJ 8 ry5, oAJ (ryf 6) cJ 8 ry6, oAM rla cH 7 rlf, oAJ (rlf 0) cJ 8 rl0, oAJ (rlf 1) cJ 8 rl1, oAJ (rlf 2) cJ 8 rl2, oAJ (rlf 3) cJ 8 rl3, oAJ (rlf 4) cJ 8 rl4, oAJ (rlf 5) cJ 8 rl5, oAJ (rlf 6) cJ 8 rl6] s.heap := hP
  have hD : va_D A [oX4 rd tp rfa rya rla pl place kind from_ value told depth fault fplace, oAM rya cH 7 ryf, oAJ (ryf 0) cJ 8 ry0, oAJ (ryf 1) cJ 8 ry1, oAJ (ryf 2) cJ 8 ry2, oAJ (ryf 3) cJ 8 ry3, oAJ (ryf 4) cJ 8 ry4, oAJ (ryf 5) cJ 8 ry5, oAJ (ryf 6) cJ 8 ry6, oAM rla cH 7 rlf, oAJ (rlf 0) cJ 8 rl0, oAJ (rlf 1) cJ 8 rl1, oAJ (rlf 2) cJ 8 rl2, oAJ (rlf 3) cJ 8 rl3, oAJ (rlf 4) cJ 8 rl4, oAJ (rlf 5) cJ 8 rl5, oAJ (rlf 6) cJ 8 rl6] := hD
  have hl : lv_has ls 2 [(0, .ref rd), (1, .int a0)] := hl
  have hM : M_openDepth a0 ry1 ry2 ry3 ry4 ry5 ry6 rl1 rl2 rl3 rl4 rl5 rl6 rl0 ry0 = (K_openDepth_1 a0 ry1 ry2 ry3 ry4 ry5 ry6 rl1 rl2 rl3 rl4 rl5 rl6 rl0 ry0) := rfl
  refine lv_aload_n hx hb dX4_openDepth_0 rfl (lv_at hl 0 rfl) ?_
  refine lv_iload_n hx hb dX4_openDepth_1 rfl (lv_at hl 1 rfl) ?_
  refine va_put (D := D) (ci := 3) (v := .int a0) (ty := .int) (C := RX4) (T := TX4) (N := 13) hx hb hts (fun w h => tbC w (tbfX4 w h)) tyX4 tyX4_ok nmX4 hown hK hP hD hS 0 rfl rfl 10 (by decide) (hts (.fieldLink RX4 176 "PowerRails$Reader" "depth" "I") (tbC _ wd242)) (fun _ h9 => h9) rfl (by decide +kernel) rfl rfl (Nat.le_of_ble_eq_true rfl) dX4_openDepth_2 (fun H locs hP hD hS => ?_)
  obtain ⟨hP, hD⟩ : xPD D A [oX4 rd tp rfa rya rla pl place kind from_ value told a0 fault fplace, oAM rya cH 7 ryf, oAJ (ryf 0) cJ 8 ry0, oAJ (ryf 1) cJ 8 ry1, oAJ (ryf 2) cJ 8 ry2, oAJ (ryf 3) cJ 8 ry3, oAJ (ryf 4) cJ 8 ry4, oAJ (ryf 5) cJ 8 ry5, oAJ (ryf 6) cJ 8 ry6, oAM rla cH 7 rlf, oAJ (rlf 0) cJ 8 rl0, oAJ (rlf 1) cJ 8 rl1, oAJ (rlf 2) cJ 8 rl2, oAJ (rlf 3) cJ 8 rl3, oAJ (rlf 4) cJ 8 rl4, oAJ (rlf 5) cJ 8 rl5, oAJ (rlf 6) cJ 8 rl6] H := ⟨hP, hD⟩
  refine lv_aload_n hx hb dX4_openDepth_5 rfl (lv_at hl 0 rfl) ?_
  refine va_get (D := D) (ci := 3) (v := .ref rya) (C := RX4) (T := TX4) (N := 13) hx hb hts (fun w h => tbC w (tbfX4 w h)) hown hK hP 0 rfl rfl 2 (by decide) (hts (.fieldLink RX4 27 "PowerRails$Reader" "any" "[[J") (tbC _ wd234)) (fun _ h9 => h9) rfl dX4_openDepth_6 ?_
  refine lv_iload_n hx hb dX4_openDepth_9 rfl (lv_at hl 1 rfl) ?_
  by_cases h1 : a0.toInt = 0
  · skip
    have hM : M_openDepth a0 ry1 ry2 ry3 ry4 ry5 ry6 rl1 rl2 rl3 rl4 rl5 rl6 rl0 ry0 = (K_openDepth_2 ry1 ry2 ry3 ry4 ry5 ry6 rl1 rl2 rl3 rl4 rl5 rl6 rl0 ry0) := (show M_openDepth a0 ry1 ry2 ry3 ry4 ry5 ry6 rl1 rl2 rl3 rl4 rl5 rl6 rl0 ry0 = (if a0.toInt = 0 then (K_openDepth_2 ry1 ry2 ry3 ry4 ry5 ry6 rl1 rl2 rl3 rl4 rl5 rl6 rl0 ry0) else (K_openDepth_3 a0 ry0 ry2 ry3 ry4 ry5 ry6 rl0 rl2 rl3 rl4 rl5 rl6 rl1 ry1)) from hM).trans (if_pos h1)
    refine xaldA hx hb hK hP 1 4 rfl rfl (vp_in_iff.mpr ⟨by omega, by omega⟩) dX4_openDepth_10 (v := .ref (ryf 0)) (by rw [xclamp (j := 0) (rfl.trans h1)]; rfl) ?_
    refine lv_lconst (v := 0) hx hb dX4_openDepth_11 (by decide) ?_
    obtain ⟨hPc, hDc, hFc, hC9⟩ := xpk (wc := W_fillJ cI cJ cZ cG cH (ryf 0) (0 : Int64) 8 ry0) hP hD hS hA [2] (by decide +kernel) rfl
    refine va_callv (va_runS (As := [.ref (ryf 0), .long 0]) (rest := []) ⟨hx, hb, hml, hown, hts⟩ (c_fillJ l D cI cJ cZ cG cH H.size (ryf 0) (0 : Int64) 8 ry0 (by decide)) (va_cwS 2 hts (xGS tbC wd355 wd356 wd58 wd992) rfl rfl rfl (by decide +kernel) ⟨Nat.le_of_ble_eq_true rfl, Nat.le_of_ble_eq_true rfl⟩) ⟨xPc_blind, xPc_pre hPc hK hDc⟩ rfl rfl hl.1 rfl (lv_room (Nat.le_of_ble_eq_true rfl)) dX4_openDepth_12 ⟨Nat.le_of_ble_eq_true rfl, Nat.le_of_ble_eq_true rfl⟩) hS (fun q _ h => hFc q h) hFc (fun u t H1 locs ht hvm hw2 hB hz1 hk1 hS => ?_)
    obtain ⟨g_3, hf3_0, hf3_1, hP1, hK1, hD1⟩ := hB
    rw [ht] at hP1
    obtain ⟨hP, hD⟩ : xPD D A [oX4 rd tp rfa rya rla pl place kind from_ value told a0 fault fplace, oAM rya cH 7 ryf, oAJ (ryf 1) cJ 8 ry1, oAJ (ryf 2) cJ 8 ry2, oAJ (ryf 3) cJ 8 ry3, oAJ (ryf 4) cJ 8 ry4, oAJ (ryf 5) cJ 8 ry5, oAJ (ryf 6) cJ 8 ry6, oAM rla cH 7 rlf, oAJ (rlf 0) cJ 8 rl0, oAJ (rlf 1) cJ 8 rl1, oAJ (rlf 2) cJ 8 rl2, oAJ (rlf 3) cJ 8 rl3, oAJ (rlf 4) cJ 8 rl4, oAJ (rlf 5) cJ 8 rl5, oAJ (rlf 6) cJ 8 rl6, oAJ (ryf 0) cJ 8 g_3] H1 := xjn 16 hP hD [2] [0, 1, 3, 4, 5, 6, 7, 8, 9, 10, 11, 12, 13, 14, 15, 16] hC9 rfl (by decide +kernel) (by decide +kernel) hk1 hFc hP1 hD1
    generalize H1 = H at hP hS ⊢
    have hf3_0 : ∀ j, j < 8 → g_3 j = (0 : Int64) := hf3_0
    have hf3_1 : M_fillJ 8 (0 : Int64) ry0 = g_3 := hf3_1
    have h9M := congrArg (fun t9 => (K_openDepth_4 t9 ry1 ry2 ry3 ry4 ry5 ry6 rl1 rl2 rl3 rl4 rl5 rl6 rl0)) hf3_1
    have hM : M_openDepth a0 ry1 ry2 ry3 ry4 ry5 ry6 rl1 rl2 rl3 rl4 rl5 rl6 rl0 ry0 = (K_openDepth_4 g_3 ry1 ry2 ry3 ry4 ry5 ry6 rl1 rl2 rl3 rl4 rl5 rl6 rl0) := (show M_openDepth a0 ry1 ry2 ry3 ry4 ry5 ry6 rl1 rl2 rl3 rl4 rl5 rl6 rl0 ry0 = ((fun t9 => (K_openDepth_4 t9 ry1 ry2 ry3 ry4 ry5 ry6 rl1 rl2 rl3 rl4 rl5 rl6 rl0)) (M_fillJ 8 (0 : Int64) ry0)) from hM).trans h9M
    refine lv_aload_n hx hb dX4_openDepth_15 rfl (lv_at hl 0 rfl) ?_
    refine va_get (D := D) (ci := 3) (v := .ref rla) (C := RX4) (T := TX4) (N := 13) hx hb hts (fun w h => tbC w (tbfX4 w h)) hown hK hP 0 rfl rfl 3 (by decide) (hts (.fieldLink RX4 30 "PowerRails$Reader" "all" "[[J") (tbC _ wd235)) (fun _ h9 => h9) rfl dX4_openDepth_16 ?_
    refine lv_iload_n hx hb dX4_openDepth_19 rfl (lv_at hl 1 rfl) ?_
    have h4 : a0.toInt = 0 := by omega
    refine xaldA hx hb hK hP 8 4 rfl rfl (vp_in_iff.mpr ⟨by omega, by omega⟩) dX4_openDepth_20 (v := .ref (rlf 0)) (by rw [xclamp (j := 0) (rfl.trans h4)]; rfl) ?_
    refine lv_ldc2 (v := (-1)) hx hb hown (hts (.constantLong RX4 203 (-1)) (tbC _ wd357)) dX4_openDepth_21 ?_
    obtain ⟨hPc, hDc, hFc, hC9⟩ := xpk (wc := W_fillJ cI cJ cZ cG cH (rlf 0) (-1 : Int64) 8 rl0) hP hD hS hA [9] (by decide +kernel) rfl
    refine va_callv (va_runS (As := [.ref (rlf 0), .long (-1)]) (rest := []) ⟨hx, hb, hml, hown, hts⟩ (c_fillJ l D cI cJ cZ cG cH H.size (rlf 0) (-1 : Int64) 8 rl0 (by decide)) (va_cwS 2 hts (xGS tbC wd355 wd356 wd58 wd992) rfl rfl rfl (by decide +kernel) ⟨Nat.le_of_ble_eq_true rfl, Nat.le_of_ble_eq_true rfl⟩) ⟨xPc_blind, xPc_pre hPc hK hDc⟩ rfl rfl hl.1 rfl (lv_room (Nat.le_of_ble_eq_true rfl)) dX4_openDepth_24 ⟨Nat.le_of_ble_eq_true rfl, Nat.le_of_ble_eq_true rfl⟩) hS (fun q _ h => hFc q h) hFc (fun u t H1 locs ht hvm hw5 hB hz1 hk1 hS => ?_)
    obtain ⟨g_6, hf6_0, hf6_1, hP1, hK1, hD1⟩ := hB
    rw [ht] at hP1
    obtain ⟨hP, hD⟩ : xPD D A [oX4 rd tp rfa rya rla pl place kind from_ value told a0 fault fplace, oAM rya cH 7 ryf, oAJ (ryf 1) cJ 8 ry1, oAJ (ryf 2) cJ 8 ry2, oAJ (ryf 3) cJ 8 ry3, oAJ (ryf 4) cJ 8 ry4, oAJ (ryf 5) cJ 8 ry5, oAJ (ryf 6) cJ 8 ry6, oAM rla cH 7 rlf, oAJ (rlf 1) cJ 8 rl1, oAJ (rlf 2) cJ 8 rl2, oAJ (rlf 3) cJ 8 rl3, oAJ (rlf 4) cJ 8 rl4, oAJ (rlf 5) cJ 8 rl5, oAJ (rlf 6) cJ 8 rl6, oAJ (ryf 0) cJ 8 g_3, oAJ (rlf 0) cJ 8 g_6] H1 := xjn 16 hP hD [9] [0, 1, 2, 3, 4, 5, 6, 7, 8, 10, 11, 12, 13, 14, 15, 16] hC9 rfl (by decide +kernel) (by decide +kernel) hk1 hFc hP1 hD1
    generalize H1 = H at hP hS ⊢
    have hf6_0 : ∀ j, j < 8 → g_6 j = (-1 : Int64) := hf6_0
    have hf6_1 : M_fillJ 8 (-1 : Int64) rl0 = g_6 := hf6_1
    have h9M := congrArg (fun t9 => (K_openDepth_5 g_3 ry1 ry2 ry3 ry4 ry5 ry6 t9 rl1 rl2 rl3 rl4 rl5 rl6)) hf6_1
    have hM : M_openDepth a0 ry1 ry2 ry3 ry4 ry5 ry6 rl1 rl2 rl3 rl4 rl5 rl6 rl0 ry0 = (K_openDepth_5 g_3 ry1 ry2 ry3 ry4 ry5 ry6 g_6 rl1 rl2 rl3 rl4 rl5 rl6) := (show M_openDepth a0 ry1 ry2 ry3 ry4 ry5 ry6 rl1 rl2 rl3 rl4 rl5 rl6 rl0 ry0 = ((fun t9 => (K_openDepth_5 g_3 ry1 ry2 ry3 ry4 ry5 ry6 t9 rl1 rl2 rl3 rl4 rl5 rl6)) (M_fillJ 8 (-1 : Int64) rl0)) from hM).trans h9M
    refine W.widen (k := 0) (n := 0) (by decide) (by decide) ?_
    exact W.vret hx hb hr (fun t ht hW => ⟨⟨(), rfl, trivial, ⟨g_3, ry1, ry2, ry3, ry4, ry5, ry6, g_6, rl1, rl2, rl3, rl4, rl5, rl6, hM, xB_of9 ht hW hP hK hD [0, 1, 15, 2, 3, 4, 5, 6, 7, 8, 16, 9, 10, 11, 12, 13, 14] (by decide +kernel) rfl⟩⟩, hS.F ht⟩) hS.2.2 dX4_openDepth_27
  have hM : M_openDepth a0 ry1 ry2 ry3 ry4 ry5 ry6 rl1 rl2 rl3 rl4 rl5 rl6 rl0 ry0 = (K_openDepth_3 a0 ry0 ry2 ry3 ry4 ry5 ry6 rl0 rl2 rl3 rl4 rl5 rl6 rl1 ry1) := (show M_openDepth a0 ry1 ry2 ry3 ry4 ry5 ry6 rl1 rl2 rl3 rl4 rl5 rl6 rl0 ry0 = (if a0.toInt = 0 then (K_openDepth_2 ry1 ry2 ry3 ry4 ry5 ry6 rl1 rl2 rl3 rl4 rl5 rl6 rl0 ry0) else (K_openDepth_3 a0 ry0 ry2 ry3 ry4 ry5 ry6 rl0 rl2 rl3 rl4 rl5 rl6 rl1 ry1)) from hM).trans (if_neg h1)
  by_cases h7 : a0.toInt = 1
  · skip
    have hM : M_openDepth a0 ry1 ry2 ry3 ry4 ry5 ry6 rl1 rl2 rl3 rl4 rl5 rl6 rl0 ry0 = (K_openDepth_6 ry0 ry2 ry3 ry4 ry5 ry6 rl0 rl2 rl3 rl4 rl5 rl6 rl1 ry1) := (show M_openDepth a0 ry1 ry2 ry3 ry4 ry5 ry6 rl1 rl2 rl3 rl4 rl5 rl6 rl0 ry0 = (if a0.toInt = 1 then (K_openDepth_6 ry0 ry2 ry3 ry4 ry5 ry6 rl0 rl2 rl3 rl4 rl5 rl6 rl1 ry1) else (K_openDepth_7 a0 ry0 ry1 ry3 ry4 ry5 ry6 rl0 rl1 rl3 rl4 rl5 rl6 rl2 ry2)) from hM).trans (if_pos h7)
    refine xaldA hx hb hK hP 1 4 rfl rfl (vp_in_iff.mpr ⟨by omega, by omega⟩) dX4_openDepth_10 (v := .ref (ryf 1)) (by rw [xclamp (j := 1) (rfl.trans h7)]; rfl) ?_
    refine lv_lconst (v := 0) hx hb dX4_openDepth_11 (by decide) ?_
    obtain ⟨hPc, hDc, hFc, hC9⟩ := xpk (wc := W_fillJ cI cJ cZ cG cH (ryf 1) (0 : Int64) 8 ry1) hP hD hS hA [3] (by decide +kernel) rfl
    refine va_callv (va_runS (As := [.ref (ryf 1), .long 0]) (rest := []) ⟨hx, hb, hml, hown, hts⟩ (c_fillJ l D cI cJ cZ cG cH H.size (ryf 1) (0 : Int64) 8 ry1 (by decide)) (va_cwS 2 hts (xGS tbC wd355 wd356 wd58 wd992) rfl rfl rfl (by decide +kernel) ⟨Nat.le_of_ble_eq_true rfl, Nat.le_of_ble_eq_true rfl⟩) ⟨xPc_blind, xPc_pre hPc hK hDc⟩ rfl rfl hl.1 rfl (lv_room (Nat.le_of_ble_eq_true rfl)) dX4_openDepth_12 ⟨Nat.le_of_ble_eq_true rfl, Nat.le_of_ble_eq_true rfl⟩) hS (fun q _ h => hFc q h) hFc (fun u t H1 locs ht hvm hw8 hB hz1 hk1 hS => ?_)
    obtain ⟨g_9, hf9_0, hf9_1, hP1, hK1, hD1⟩ := hB
    rw [ht] at hP1
    obtain ⟨hP, hD⟩ : xPD D A [oX4 rd tp rfa rya rla pl place kind from_ value told a0 fault fplace, oAM rya cH 7 ryf, oAJ (ryf 0) cJ 8 ry0, oAJ (ryf 2) cJ 8 ry2, oAJ (ryf 3) cJ 8 ry3, oAJ (ryf 4) cJ 8 ry4, oAJ (ryf 5) cJ 8 ry5, oAJ (ryf 6) cJ 8 ry6, oAM rla cH 7 rlf, oAJ (rlf 0) cJ 8 rl0, oAJ (rlf 1) cJ 8 rl1, oAJ (rlf 2) cJ 8 rl2, oAJ (rlf 3) cJ 8 rl3, oAJ (rlf 4) cJ 8 rl4, oAJ (rlf 5) cJ 8 rl5, oAJ (rlf 6) cJ 8 rl6, oAJ (ryf 1) cJ 8 g_9] H1 := xjn 16 hP hD [3] [0, 1, 2, 4, 5, 6, 7, 8, 9, 10, 11, 12, 13, 14, 15, 16] hC9 rfl (by decide +kernel) (by decide +kernel) hk1 hFc hP1 hD1
    generalize H1 = H at hP hS ⊢
    have hf9_0 : ∀ j, j < 8 → g_9 j = (0 : Int64) := hf9_0
    have hf9_1 : M_fillJ 8 (0 : Int64) ry1 = g_9 := hf9_1
    have h9M := congrArg (fun t9 => (K_openDepth_8 ry0 t9 ry2 ry3 ry4 ry5 ry6 rl0 rl2 rl3 rl4 rl5 rl6 rl1)) hf9_1
    have hM : M_openDepth a0 ry1 ry2 ry3 ry4 ry5 ry6 rl1 rl2 rl3 rl4 rl5 rl6 rl0 ry0 = (K_openDepth_8 ry0 g_9 ry2 ry3 ry4 ry5 ry6 rl0 rl2 rl3 rl4 rl5 rl6 rl1) := (show M_openDepth a0 ry1 ry2 ry3 ry4 ry5 ry6 rl1 rl2 rl3 rl4 rl5 rl6 rl0 ry0 = ((fun t9 => (K_openDepth_8 ry0 t9 ry2 ry3 ry4 ry5 ry6 rl0 rl2 rl3 rl4 rl5 rl6 rl1)) (M_fillJ 8 (0 : Int64) ry1)) from hM).trans h9M
    refine lv_aload_n hx hb dX4_openDepth_15 rfl (lv_at hl 0 rfl) ?_
    refine va_get (D := D) (ci := 3) (v := .ref rla) (C := RX4) (T := TX4) (N := 13) hx hb hts (fun w h => tbC w (tbfX4 w h)) hown hK hP 0 rfl rfl 3 (by decide) (hts (.fieldLink RX4 30 "PowerRails$Reader" "all" "[[J") (tbC _ wd235)) (fun _ h9 => h9) rfl dX4_openDepth_16 ?_
    refine lv_iload_n hx hb dX4_openDepth_19 rfl (lv_at hl 1 rfl) ?_
    have h10 : a0.toInt = 1 := by omega
    refine xaldA hx hb hK hP 8 4 rfl rfl (vp_in_iff.mpr ⟨by omega, by omega⟩) dX4_openDepth_20 (v := .ref (rlf 1)) (by rw [xclamp (j := 1) (rfl.trans h10)]; rfl) ?_
    refine lv_ldc2 (v := (-1)) hx hb hown (hts (.constantLong RX4 203 (-1)) (tbC _ wd357)) dX4_openDepth_21 ?_
    obtain ⟨hPc, hDc, hFc, hC9⟩ := xpk (wc := W_fillJ cI cJ cZ cG cH (rlf 1) (-1 : Int64) 8 rl1) hP hD hS hA [10] (by decide +kernel) rfl
    refine va_callv (va_runS (As := [.ref (rlf 1), .long (-1)]) (rest := []) ⟨hx, hb, hml, hown, hts⟩ (c_fillJ l D cI cJ cZ cG cH H.size (rlf 1) (-1 : Int64) 8 rl1 (by decide)) (va_cwS 2 hts (xGS tbC wd355 wd356 wd58 wd992) rfl rfl rfl (by decide +kernel) ⟨Nat.le_of_ble_eq_true rfl, Nat.le_of_ble_eq_true rfl⟩) ⟨xPc_blind, xPc_pre hPc hK hDc⟩ rfl rfl hl.1 rfl (lv_room (Nat.le_of_ble_eq_true rfl)) dX4_openDepth_24 ⟨Nat.le_of_ble_eq_true rfl, Nat.le_of_ble_eq_true rfl⟩) hS (fun q _ h => hFc q h) hFc (fun u t H1 locs ht hvm hw11 hB hz1 hk1 hS => ?_)
    obtain ⟨g_12, hf12_0, hf12_1, hP1, hK1, hD1⟩ := hB
    rw [ht] at hP1
    obtain ⟨hP, hD⟩ : xPD D A [oX4 rd tp rfa rya rla pl place kind from_ value told a0 fault fplace, oAM rya cH 7 ryf, oAJ (ryf 0) cJ 8 ry0, oAJ (ryf 2) cJ 8 ry2, oAJ (ryf 3) cJ 8 ry3, oAJ (ryf 4) cJ 8 ry4, oAJ (ryf 5) cJ 8 ry5, oAJ (ryf 6) cJ 8 ry6, oAM rla cH 7 rlf, oAJ (rlf 0) cJ 8 rl0, oAJ (rlf 2) cJ 8 rl2, oAJ (rlf 3) cJ 8 rl3, oAJ (rlf 4) cJ 8 rl4, oAJ (rlf 5) cJ 8 rl5, oAJ (rlf 6) cJ 8 rl6, oAJ (ryf 1) cJ 8 g_9, oAJ (rlf 1) cJ 8 g_12] H1 := xjn 16 hP hD [10] [0, 1, 2, 3, 4, 5, 6, 7, 8, 9, 11, 12, 13, 14, 15, 16] hC9 rfl (by decide +kernel) (by decide +kernel) hk1 hFc hP1 hD1
    generalize H1 = H at hP hS ⊢
    have hf12_0 : ∀ j, j < 8 → g_12 j = (-1 : Int64) := hf12_0
    have hf12_1 : M_fillJ 8 (-1 : Int64) rl1 = g_12 := hf12_1
    have h9M := congrArg (fun t9 => (K_openDepth_9 ry0 g_9 ry2 ry3 ry4 ry5 ry6 rl0 t9 rl2 rl3 rl4 rl5 rl6)) hf12_1
    have hM : M_openDepth a0 ry1 ry2 ry3 ry4 ry5 ry6 rl1 rl2 rl3 rl4 rl5 rl6 rl0 ry0 = (K_openDepth_9 ry0 g_9 ry2 ry3 ry4 ry5 ry6 rl0 g_12 rl2 rl3 rl4 rl5 rl6) := (show M_openDepth a0 ry1 ry2 ry3 ry4 ry5 ry6 rl1 rl2 rl3 rl4 rl5 rl6 rl0 ry0 = ((fun t9 => (K_openDepth_9 ry0 g_9 ry2 ry3 ry4 ry5 ry6 rl0 t9 rl2 rl3 rl4 rl5 rl6)) (M_fillJ 8 (-1 : Int64) rl1)) from hM).trans h9M
    refine W.widen (k := 0) (n := 0) (by decide) (by decide) ?_
    exact W.vret hx hb hr (fun t ht hW => ⟨⟨(), rfl, trivial, ⟨ry0, g_9, ry2, ry3, ry4, ry5, ry6, rl0, g_12, rl2, rl3, rl4, rl5, rl6, hM, xB_of9 ht hW hP hK hD [0, 1, 2, 15, 3, 4, 5, 6, 7, 8, 9, 16, 10, 11, 12, 13, 14] (by decide +kernel) rfl⟩⟩, hS.F ht⟩) hS.2.2 dX4_openDepth_27
  have hM : M_openDepth a0 ry1 ry2 ry3 ry4 ry5 ry6 rl1 rl2 rl3 rl4 rl5 rl6 rl0 ry0 = (K_openDepth_7 a0 ry0 ry1 ry3 ry4 ry5 ry6 rl0 rl1 rl3 rl4 rl5 rl6 rl2 ry2) := (show M_openDepth a0 ry1 ry2 ry3 ry4 ry5 ry6 rl1 rl2 rl3 rl4 rl5 rl6 rl0 ry0 = (if a0.toInt = 1 then (K_openDepth_6 ry0 ry2 ry3 ry4 ry5 ry6 rl0 rl2 rl3 rl4 rl5 rl6 rl1 ry1) else (K_openDepth_7 a0 ry0 ry1 ry3 ry4 ry5 ry6 rl0 rl1 rl3 rl4 rl5 rl6 rl2 ry2)) from hM).trans (if_neg h7)
  by_cases h13 : a0.toInt = 2
  · skip
    have hM : M_openDepth a0 ry1 ry2 ry3 ry4 ry5 ry6 rl1 rl2 rl3 rl4 rl5 rl6 rl0 ry0 = (K_openDepth_10 ry0 ry1 ry3 ry4 ry5 ry6 rl0 rl1 rl3 rl4 rl5 rl6 rl2 ry2) := (show M_openDepth a0 ry1 ry2 ry3 ry4 ry5 ry6 rl1 rl2 rl3 rl4 rl5 rl6 rl0 ry0 = (if a0.toInt = 2 then (K_openDepth_10 ry0 ry1 ry3 ry4 ry5 ry6 rl0 rl1 rl3 rl4 rl5 rl6 rl2 ry2) else (K_openDepth_11 a0 ry0 ry1 ry2 ry4 ry5 ry6 rl0 rl1 rl2 rl4 rl5 rl6 rl3 ry3)) from hM).trans (if_pos h13)
    refine xaldA hx hb hK hP 1 4 rfl rfl (vp_in_iff.mpr ⟨by omega, by omega⟩) dX4_openDepth_10 (v := .ref (ryf 2)) (by rw [xclamp (j := 2) (rfl.trans h13)]; rfl) ?_
    refine lv_lconst (v := 0) hx hb dX4_openDepth_11 (by decide) ?_
    obtain ⟨hPc, hDc, hFc, hC9⟩ := xpk (wc := W_fillJ cI cJ cZ cG cH (ryf 2) (0 : Int64) 8 ry2) hP hD hS hA [4] (by decide +kernel) rfl
    refine va_callv (va_runS (As := [.ref (ryf 2), .long 0]) (rest := []) ⟨hx, hb, hml, hown, hts⟩ (c_fillJ l D cI cJ cZ cG cH H.size (ryf 2) (0 : Int64) 8 ry2 (by decide)) (va_cwS 2 hts (xGS tbC wd355 wd356 wd58 wd992) rfl rfl rfl (by decide +kernel) ⟨Nat.le_of_ble_eq_true rfl, Nat.le_of_ble_eq_true rfl⟩) ⟨xPc_blind, xPc_pre hPc hK hDc⟩ rfl rfl hl.1 rfl (lv_room (Nat.le_of_ble_eq_true rfl)) dX4_openDepth_12 ⟨Nat.le_of_ble_eq_true rfl, Nat.le_of_ble_eq_true rfl⟩) hS (fun q _ h => hFc q h) hFc (fun u t H1 locs ht hvm hw14 hB hz1 hk1 hS => ?_)
    obtain ⟨g_15, hf15_0, hf15_1, hP1, hK1, hD1⟩ := hB
    rw [ht] at hP1
    obtain ⟨hP, hD⟩ : xPD D A [oX4 rd tp rfa rya rla pl place kind from_ value told a0 fault fplace, oAM rya cH 7 ryf, oAJ (ryf 0) cJ 8 ry0, oAJ (ryf 1) cJ 8 ry1, oAJ (ryf 3) cJ 8 ry3, oAJ (ryf 4) cJ 8 ry4, oAJ (ryf 5) cJ 8 ry5, oAJ (ryf 6) cJ 8 ry6, oAM rla cH 7 rlf, oAJ (rlf 0) cJ 8 rl0, oAJ (rlf 1) cJ 8 rl1, oAJ (rlf 2) cJ 8 rl2, oAJ (rlf 3) cJ 8 rl3, oAJ (rlf 4) cJ 8 rl4, oAJ (rlf 5) cJ 8 rl5, oAJ (rlf 6) cJ 8 rl6, oAJ (ryf 2) cJ 8 g_15] H1 := xjn 16 hP hD [4] [0, 1, 2, 3, 5, 6, 7, 8, 9, 10, 11, 12, 13, 14, 15, 16] hC9 rfl (by decide +kernel) (by decide +kernel) hk1 hFc hP1 hD1
    generalize H1 = H at hP hS ⊢
    have hf15_0 : ∀ j, j < 8 → g_15 j = (0 : Int64) := hf15_0
    have hf15_1 : M_fillJ 8 (0 : Int64) ry2 = g_15 := hf15_1
    have h9M := congrArg (fun t9 => (K_openDepth_12 ry0 ry1 t9 ry3 ry4 ry5 ry6 rl0 rl1 rl3 rl4 rl5 rl6 rl2)) hf15_1
    have hM : M_openDepth a0 ry1 ry2 ry3 ry4 ry5 ry6 rl1 rl2 rl3 rl4 rl5 rl6 rl0 ry0 = (K_openDepth_12 ry0 ry1 g_15 ry3 ry4 ry5 ry6 rl0 rl1 rl3 rl4 rl5 rl6 rl2) := (show M_openDepth a0 ry1 ry2 ry3 ry4 ry5 ry6 rl1 rl2 rl3 rl4 rl5 rl6 rl0 ry0 = ((fun t9 => (K_openDepth_12 ry0 ry1 t9 ry3 ry4 ry5 ry6 rl0 rl1 rl3 rl4 rl5 rl6 rl2)) (M_fillJ 8 (0 : Int64) ry2)) from hM).trans h9M
    refine lv_aload_n hx hb dX4_openDepth_15 rfl (lv_at hl 0 rfl) ?_
    refine va_get (D := D) (ci := 3) (v := .ref rla) (C := RX4) (T := TX4) (N := 13) hx hb hts (fun w h => tbC w (tbfX4 w h)) hown hK hP 0 rfl rfl 3 (by decide) (hts (.fieldLink RX4 30 "PowerRails$Reader" "all" "[[J") (tbC _ wd235)) (fun _ h9 => h9) rfl dX4_openDepth_16 ?_
    refine lv_iload_n hx hb dX4_openDepth_19 rfl (lv_at hl 1 rfl) ?_
    have h16 : a0.toInt = 2 := by omega
    refine xaldA hx hb hK hP 8 4 rfl rfl (vp_in_iff.mpr ⟨by omega, by omega⟩) dX4_openDepth_20 (v := .ref (rlf 2)) (by rw [xclamp (j := 2) (rfl.trans h16)]; rfl) ?_
    refine lv_ldc2 (v := (-1)) hx hb hown (hts (.constantLong RX4 203 (-1)) (tbC _ wd357)) dX4_openDepth_21 ?_
    obtain ⟨hPc, hDc, hFc, hC9⟩ := xpk (wc := W_fillJ cI cJ cZ cG cH (rlf 2) (-1 : Int64) 8 rl2) hP hD hS hA [11] (by decide +kernel) rfl
    refine va_callv (va_runS (As := [.ref (rlf 2), .long (-1)]) (rest := []) ⟨hx, hb, hml, hown, hts⟩ (c_fillJ l D cI cJ cZ cG cH H.size (rlf 2) (-1 : Int64) 8 rl2 (by decide)) (va_cwS 2 hts (xGS tbC wd355 wd356 wd58 wd992) rfl rfl rfl (by decide +kernel) ⟨Nat.le_of_ble_eq_true rfl, Nat.le_of_ble_eq_true rfl⟩) ⟨xPc_blind, xPc_pre hPc hK hDc⟩ rfl rfl hl.1 rfl (lv_room (Nat.le_of_ble_eq_true rfl)) dX4_openDepth_24 ⟨Nat.le_of_ble_eq_true rfl, Nat.le_of_ble_eq_true rfl⟩) hS (fun q _ h => hFc q h) hFc (fun u t H1 locs ht hvm hw17 hB hz1 hk1 hS => ?_)
    obtain ⟨g_18, hf18_0, hf18_1, hP1, hK1, hD1⟩ := hB
    rw [ht] at hP1
    obtain ⟨hP, hD⟩ : xPD D A [oX4 rd tp rfa rya rla pl place kind from_ value told a0 fault fplace, oAM rya cH 7 ryf, oAJ (ryf 0) cJ 8 ry0, oAJ (ryf 1) cJ 8 ry1, oAJ (ryf 3) cJ 8 ry3, oAJ (ryf 4) cJ 8 ry4, oAJ (ryf 5) cJ 8 ry5, oAJ (ryf 6) cJ 8 ry6, oAM rla cH 7 rlf, oAJ (rlf 0) cJ 8 rl0, oAJ (rlf 1) cJ 8 rl1, oAJ (rlf 3) cJ 8 rl3, oAJ (rlf 4) cJ 8 rl4, oAJ (rlf 5) cJ 8 rl5, oAJ (rlf 6) cJ 8 rl6, oAJ (ryf 2) cJ 8 g_15, oAJ (rlf 2) cJ 8 g_18] H1 := xjn 16 hP hD [11] [0, 1, 2, 3, 4, 5, 6, 7, 8, 9, 10, 12, 13, 14, 15, 16] hC9 rfl (by decide +kernel) (by decide +kernel) hk1 hFc hP1 hD1
    generalize H1 = H at hP hS ⊢
    have hf18_0 : ∀ j, j < 8 → g_18 j = (-1 : Int64) := hf18_0
    have hf18_1 : M_fillJ 8 (-1 : Int64) rl2 = g_18 := hf18_1
    have h9M := congrArg (fun t9 => (K_openDepth_13 ry0 ry1 g_15 ry3 ry4 ry5 ry6 rl0 rl1 t9 rl3 rl4 rl5 rl6)) hf18_1
    have hM : M_openDepth a0 ry1 ry2 ry3 ry4 ry5 ry6 rl1 rl2 rl3 rl4 rl5 rl6 rl0 ry0 = (K_openDepth_13 ry0 ry1 g_15 ry3 ry4 ry5 ry6 rl0 rl1 g_18 rl3 rl4 rl5 rl6) := (show M_openDepth a0 ry1 ry2 ry3 ry4 ry5 ry6 rl1 rl2 rl3 rl4 rl5 rl6 rl0 ry0 = ((fun t9 => (K_openDepth_13 ry0 ry1 g_15 ry3 ry4 ry5 ry6 rl0 rl1 t9 rl3 rl4 rl5 rl6)) (M_fillJ 8 (-1 : Int64) rl2)) from hM).trans h9M
    refine W.widen (k := 0) (n := 0) (by decide) (by decide) ?_
    exact W.vret hx hb hr (fun t ht hW => ⟨⟨(), rfl, trivial, ⟨ry0, ry1, g_15, ry3, ry4, ry5, ry6, rl0, rl1, g_18, rl3, rl4, rl5, rl6, hM, xB_of9 ht hW hP hK hD [0, 1, 2, 3, 15, 4, 5, 6, 7, 8, 9, 10, 16, 11, 12, 13, 14] (by decide +kernel) rfl⟩⟩, hS.F ht⟩) hS.2.2 dX4_openDepth_27
  have hM : M_openDepth a0 ry1 ry2 ry3 ry4 ry5 ry6 rl1 rl2 rl3 rl4 rl5 rl6 rl0 ry0 = (K_openDepth_11 a0 ry0 ry1 ry2 ry4 ry5 ry6 rl0 rl1 rl2 rl4 rl5 rl6 rl3 ry3) := (show M_openDepth a0 ry1 ry2 ry3 ry4 ry5 ry6 rl1 rl2 rl3 rl4 rl5 rl6 rl0 ry0 = (if a0.toInt = 2 then (K_openDepth_10 ry0 ry1 ry3 ry4 ry5 ry6 rl0 rl1 rl3 rl4 rl5 rl6 rl2 ry2) else (K_openDepth_11 a0 ry0 ry1 ry2 ry4 ry5 ry6 rl0 rl1 rl2 rl4 rl5 rl6 rl3 ry3)) from hM).trans (if_neg h13)
  by_cases h19 : a0.toInt = 3
  · skip
    have hM : M_openDepth a0 ry1 ry2 ry3 ry4 ry5 ry6 rl1 rl2 rl3 rl4 rl5 rl6 rl0 ry0 = (K_openDepth_14 ry0 ry1 ry2 ry4 ry5 ry6 rl0 rl1 rl2 rl4 rl5 rl6 rl3 ry3) := (show M_openDepth a0 ry1 ry2 ry3 ry4 ry5 ry6 rl1 rl2 rl3 rl4 rl5 rl6 rl0 ry0 = (if a0.toInt = 3 then (K_openDepth_14 ry0 ry1 ry2 ry4 ry5 ry6 rl0 rl1 rl2 rl4 rl5 rl6 rl3 ry3) else (K_openDepth_15 a0 ry0 ry1 ry2 ry3 ry5 ry6 rl0 rl1 rl2 rl3 rl5 rl6 rl4 ry4)) from hM).trans (if_pos h19)
    refine xaldA hx hb hK hP 1 4 rfl rfl (vp_in_iff.mpr ⟨by omega, by omega⟩) dX4_openDepth_10 (v := .ref (ryf 3)) (by rw [xclamp (j := 3) (rfl.trans h19)]; rfl) ?_
    refine lv_lconst (v := 0) hx hb dX4_openDepth_11 (by decide) ?_
    obtain ⟨hPc, hDc, hFc, hC9⟩ := xpk (wc := W_fillJ cI cJ cZ cG cH (ryf 3) (0 : Int64) 8 ry3) hP hD hS hA [5] (by decide +kernel) rfl
    refine va_callv (va_runS (As := [.ref (ryf 3), .long 0]) (rest := []) ⟨hx, hb, hml, hown, hts⟩ (c_fillJ l D cI cJ cZ cG cH H.size (ryf 3) (0 : Int64) 8 ry3 (by decide)) (va_cwS 2 hts (xGS tbC wd355 wd356 wd58 wd992) rfl rfl rfl (by decide +kernel) ⟨Nat.le_of_ble_eq_true rfl, Nat.le_of_ble_eq_true rfl⟩) ⟨xPc_blind, xPc_pre hPc hK hDc⟩ rfl rfl hl.1 rfl (lv_room (Nat.le_of_ble_eq_true rfl)) dX4_openDepth_12 ⟨Nat.le_of_ble_eq_true rfl, Nat.le_of_ble_eq_true rfl⟩) hS (fun q _ h => hFc q h) hFc (fun u t H1 locs ht hvm hw20 hB hz1 hk1 hS => ?_)
    obtain ⟨g_21, hf21_0, hf21_1, hP1, hK1, hD1⟩ := hB
    rw [ht] at hP1
    obtain ⟨hP, hD⟩ : xPD D A [oX4 rd tp rfa rya rla pl place kind from_ value told a0 fault fplace, oAM rya cH 7 ryf, oAJ (ryf 0) cJ 8 ry0, oAJ (ryf 1) cJ 8 ry1, oAJ (ryf 2) cJ 8 ry2, oAJ (ryf 4) cJ 8 ry4, oAJ (ryf 5) cJ 8 ry5, oAJ (ryf 6) cJ 8 ry6, oAM rla cH 7 rlf, oAJ (rlf 0) cJ 8 rl0, oAJ (rlf 1) cJ 8 rl1, oAJ (rlf 2) cJ 8 rl2, oAJ (rlf 3) cJ 8 rl3, oAJ (rlf 4) cJ 8 rl4, oAJ (rlf 5) cJ 8 rl5, oAJ (rlf 6) cJ 8 rl6, oAJ (ryf 3) cJ 8 g_21] H1 := xjn 16 hP hD [5] [0, 1, 2, 3, 4, 6, 7, 8, 9, 10, 11, 12, 13, 14, 15, 16] hC9 rfl (by decide +kernel) (by decide +kernel) hk1 hFc hP1 hD1
    generalize H1 = H at hP hS ⊢
    have hf21_0 : ∀ j, j < 8 → g_21 j = (0 : Int64) := hf21_0
    have hf21_1 : M_fillJ 8 (0 : Int64) ry3 = g_21 := hf21_1
    have h9M := congrArg (fun t9 => (K_openDepth_16 ry0 ry1 ry2 t9 ry4 ry5 ry6 rl0 rl1 rl2 rl4 rl5 rl6 rl3)) hf21_1
    have hM : M_openDepth a0 ry1 ry2 ry3 ry4 ry5 ry6 rl1 rl2 rl3 rl4 rl5 rl6 rl0 ry0 = (K_openDepth_16 ry0 ry1 ry2 g_21 ry4 ry5 ry6 rl0 rl1 rl2 rl4 rl5 rl6 rl3) := (show M_openDepth a0 ry1 ry2 ry3 ry4 ry5 ry6 rl1 rl2 rl3 rl4 rl5 rl6 rl0 ry0 = ((fun t9 => (K_openDepth_16 ry0 ry1 ry2 t9 ry4 ry5 ry6 rl0 rl1 rl2 rl4 rl5 rl6 rl3)) (M_fillJ 8 (0 : Int64) ry3)) from hM).trans h9M
    refine lv_aload_n hx hb dX4_openDepth_15 rfl (lv_at hl 0 rfl) ?_
    refine va_get (D := D) (ci := 3) (v := .ref rla) (C := RX4) (T := TX4) (N := 13) hx hb hts (fun w h => tbC w (tbfX4 w h)) hown hK hP 0 rfl rfl 3 (by decide) (hts (.fieldLink RX4 30 "PowerRails$Reader" "all" "[[J") (tbC _ wd235)) (fun _ h9 => h9) rfl dX4_openDepth_16 ?_
    refine lv_iload_n hx hb dX4_openDepth_19 rfl (lv_at hl 1 rfl) ?_
    have h22 : a0.toInt = 3 := by omega
    refine xaldA hx hb hK hP 8 4 rfl rfl (vp_in_iff.mpr ⟨by omega, by omega⟩) dX4_openDepth_20 (v := .ref (rlf 3)) (by rw [xclamp (j := 3) (rfl.trans h22)]; rfl) ?_
    refine lv_ldc2 (v := (-1)) hx hb hown (hts (.constantLong RX4 203 (-1)) (tbC _ wd357)) dX4_openDepth_21 ?_
    obtain ⟨hPc, hDc, hFc, hC9⟩ := xpk (wc := W_fillJ cI cJ cZ cG cH (rlf 3) (-1 : Int64) 8 rl3) hP hD hS hA [12] (by decide +kernel) rfl
    refine va_callv (va_runS (As := [.ref (rlf 3), .long (-1)]) (rest := []) ⟨hx, hb, hml, hown, hts⟩ (c_fillJ l D cI cJ cZ cG cH H.size (rlf 3) (-1 : Int64) 8 rl3 (by decide)) (va_cwS 2 hts (xGS tbC wd355 wd356 wd58 wd992) rfl rfl rfl (by decide +kernel) ⟨Nat.le_of_ble_eq_true rfl, Nat.le_of_ble_eq_true rfl⟩) ⟨xPc_blind, xPc_pre hPc hK hDc⟩ rfl rfl hl.1 rfl (lv_room (Nat.le_of_ble_eq_true rfl)) dX4_openDepth_24 ⟨Nat.le_of_ble_eq_true rfl, Nat.le_of_ble_eq_true rfl⟩) hS (fun q _ h => hFc q h) hFc (fun u t H1 locs ht hvm hw23 hB hz1 hk1 hS => ?_)
    obtain ⟨g_24, hf24_0, hf24_1, hP1, hK1, hD1⟩ := hB
    rw [ht] at hP1
    obtain ⟨hP, hD⟩ : xPD D A [oX4 rd tp rfa rya rla pl place kind from_ value told a0 fault fplace, oAM rya cH 7 ryf, oAJ (ryf 0) cJ 8 ry0, oAJ (ryf 1) cJ 8 ry1, oAJ (ryf 2) cJ 8 ry2, oAJ (ryf 4) cJ 8 ry4, oAJ (ryf 5) cJ 8 ry5, oAJ (ryf 6) cJ 8 ry6, oAM rla cH 7 rlf, oAJ (rlf 0) cJ 8 rl0, oAJ (rlf 1) cJ 8 rl1, oAJ (rlf 2) cJ 8 rl2, oAJ (rlf 4) cJ 8 rl4, oAJ (rlf 5) cJ 8 rl5, oAJ (rlf 6) cJ 8 rl6, oAJ (ryf 3) cJ 8 g_21, oAJ (rlf 3) cJ 8 g_24] H1 := xjn 16 hP hD [12] [0, 1, 2, 3, 4, 5, 6, 7, 8, 9, 10, 11, 13, 14, 15, 16] hC9 rfl (by decide +kernel) (by decide +kernel) hk1 hFc hP1 hD1
    generalize H1 = H at hP hS ⊢
    have hf24_0 : ∀ j, j < 8 → g_24 j = (-1 : Int64) := hf24_0
    have hf24_1 : M_fillJ 8 (-1 : Int64) rl3 = g_24 := hf24_1
    have h9M := congrArg (fun t9 => (K_openDepth_17 ry0 ry1 ry2 g_21 ry4 ry5 ry6 rl0 rl1 rl2 t9 rl4 rl5 rl6)) hf24_1
    have hM : M_openDepth a0 ry1 ry2 ry3 ry4 ry5 ry6 rl1 rl2 rl3 rl4 rl5 rl6 rl0 ry0 = (K_openDepth_17 ry0 ry1 ry2 g_21 ry4 ry5 ry6 rl0 rl1 rl2 g_24 rl4 rl5 rl6) := (show M_openDepth a0 ry1 ry2 ry3 ry4 ry5 ry6 rl1 rl2 rl3 rl4 rl5 rl6 rl0 ry0 = ((fun t9 => (K_openDepth_17 ry0 ry1 ry2 g_21 ry4 ry5 ry6 rl0 rl1 rl2 t9 rl4 rl5 rl6)) (M_fillJ 8 (-1 : Int64) rl3)) from hM).trans h9M
    refine W.widen (k := 0) (n := 0) (by decide) (by decide) ?_
    exact W.vret hx hb hr (fun t ht hW => ⟨⟨(), rfl, trivial, ⟨ry0, ry1, ry2, g_21, ry4, ry5, ry6, rl0, rl1, rl2, g_24, rl4, rl5, rl6, hM, xB_of9 ht hW hP hK hD [0, 1, 2, 3, 4, 15, 5, 6, 7, 8, 9, 10, 11, 16, 12, 13, 14] (by decide +kernel) rfl⟩⟩, hS.F ht⟩) hS.2.2 dX4_openDepth_27
  have hM : M_openDepth a0 ry1 ry2 ry3 ry4 ry5 ry6 rl1 rl2 rl3 rl4 rl5 rl6 rl0 ry0 = (K_openDepth_15 a0 ry0 ry1 ry2 ry3 ry5 ry6 rl0 rl1 rl2 rl3 rl5 rl6 rl4 ry4) := (show M_openDepth a0 ry1 ry2 ry3 ry4 ry5 ry6 rl1 rl2 rl3 rl4 rl5 rl6 rl0 ry0 = (if a0.toInt = 3 then (K_openDepth_14 ry0 ry1 ry2 ry4 ry5 ry6 rl0 rl1 rl2 rl4 rl5 rl6 rl3 ry3) else (K_openDepth_15 a0 ry0 ry1 ry2 ry3 ry5 ry6 rl0 rl1 rl2 rl3 rl5 rl6 rl4 ry4)) from hM).trans (if_neg h19)
  by_cases h25 : a0.toInt = 4
  · skip
    have hM : M_openDepth a0 ry1 ry2 ry3 ry4 ry5 ry6 rl1 rl2 rl3 rl4 rl5 rl6 rl0 ry0 = (K_openDepth_18 ry0 ry1 ry2 ry3 ry5 ry6 rl0 rl1 rl2 rl3 rl5 rl6 rl4 ry4) := (show M_openDepth a0 ry1 ry2 ry3 ry4 ry5 ry6 rl1 rl2 rl3 rl4 rl5 rl6 rl0 ry0 = (if a0.toInt = 4 then (K_openDepth_18 ry0 ry1 ry2 ry3 ry5 ry6 rl0 rl1 rl2 rl3 rl5 rl6 rl4 ry4) else (K_openDepth_19 a0 ry0 ry1 ry2 ry3 ry4 ry6 rl0 rl1 rl2 rl3 rl4 rl6 rl5 ry5)) from hM).trans (if_pos h25)
    refine xaldA hx hb hK hP 1 4 rfl rfl (vp_in_iff.mpr ⟨by omega, by omega⟩) dX4_openDepth_10 (v := .ref (ryf 4)) (by rw [xclamp (j := 4) (rfl.trans h25)]; rfl) ?_
    refine lv_lconst (v := 0) hx hb dX4_openDepth_11 (by decide) ?_
    obtain ⟨hPc, hDc, hFc, hC9⟩ := xpk (wc := W_fillJ cI cJ cZ cG cH (ryf 4) (0 : Int64) 8 ry4) hP hD hS hA [6] (by decide +kernel) rfl
    refine va_callv (va_runS (As := [.ref (ryf 4), .long 0]) (rest := []) ⟨hx, hb, hml, hown, hts⟩ (c_fillJ l D cI cJ cZ cG cH H.size (ryf 4) (0 : Int64) 8 ry4 (by decide)) (va_cwS 2 hts (xGS tbC wd355 wd356 wd58 wd992) rfl rfl rfl (by decide +kernel) ⟨Nat.le_of_ble_eq_true rfl, Nat.le_of_ble_eq_true rfl⟩) ⟨xPc_blind, xPc_pre hPc hK hDc⟩ rfl rfl hl.1 rfl (lv_room (Nat.le_of_ble_eq_true rfl)) dX4_openDepth_12 ⟨Nat.le_of_ble_eq_true rfl, Nat.le_of_ble_eq_true rfl⟩) hS (fun q _ h => hFc q h) hFc (fun u t H1 locs ht hvm hw26 hB hz1 hk1 hS => ?_)
    obtain ⟨g_27, hf27_0, hf27_1, hP1, hK1, hD1⟩ := hB
    rw [ht] at hP1
    obtain ⟨hP, hD⟩ : xPD D A [oX4 rd tp rfa rya rla pl place kind from_ value told a0 fault fplace, oAM rya cH 7 ryf, oAJ (ryf 0) cJ 8 ry0, oAJ (ryf 1) cJ 8 ry1, oAJ (ryf 2) cJ 8 ry2, oAJ (ryf 3) cJ 8 ry3, oAJ (ryf 5) cJ 8 ry5, oAJ (ryf 6) cJ 8 ry6, oAM rla cH 7 rlf, oAJ (rlf 0) cJ 8 rl0, oAJ (rlf 1) cJ 8 rl1, oAJ (rlf 2) cJ 8 rl2, oAJ (rlf 3) cJ 8 rl3, oAJ (rlf 4) cJ 8 rl4, oAJ (rlf 5) cJ 8 rl5, oAJ (rlf 6) cJ 8 rl6, oAJ (ryf 4) cJ 8 g_27] H1 := xjn 16 hP hD [6] [0, 1, 2, 3, 4, 5, 7, 8, 9, 10, 11, 12, 13, 14, 15, 16] hC9 rfl (by decide +kernel) (by decide +kernel) hk1 hFc hP1 hD1
    generalize H1 = H at hP hS ⊢
    have hf27_0 : ∀ j, j < 8 → g_27 j = (0 : Int64) := hf27_0
    have hf27_1 : M_fillJ 8 (0 : Int64) ry4 = g_27 := hf27_1
    have h9M := congrArg (fun t9 => (K_openDepth_20 ry0 ry1 ry2 ry3 t9 ry5 ry6 rl0 rl1 rl2 rl3 rl5 rl6 rl4)) hf27_1
    have hM : M_openDepth a0 ry1 ry2 ry3 ry4 ry5 ry6 rl1 rl2 rl3 rl4 rl5 rl6 rl0 ry0 = (K_openDepth_20 ry0 ry1 ry2 ry3 g_27 ry5 ry6 rl0 rl1 rl2 rl3 rl5 rl6 rl4) := (show M_openDepth a0 ry1 ry2 ry3 ry4 ry5 ry6 rl1 rl2 rl3 rl4 rl5 rl6 rl0 ry0 = ((fun t9 => (K_openDepth_20 ry0 ry1 ry2 ry3 t9 ry5 ry6 rl0 rl1 rl2 rl3 rl5 rl6 rl4)) (M_fillJ 8 (0 : Int64) ry4)) from hM).trans h9M
    refine lv_aload_n hx hb dX4_openDepth_15 rfl (lv_at hl 0 rfl) ?_
    refine va_get (D := D) (ci := 3) (v := .ref rla) (C := RX4) (T := TX4) (N := 13) hx hb hts (fun w h => tbC w (tbfX4 w h)) hown hK hP 0 rfl rfl 3 (by decide) (hts (.fieldLink RX4 30 "PowerRails$Reader" "all" "[[J") (tbC _ wd235)) (fun _ h9 => h9) rfl dX4_openDepth_16 ?_
    refine lv_iload_n hx hb dX4_openDepth_19 rfl (lv_at hl 1 rfl) ?_
    have h28 : a0.toInt = 4 := by omega
    refine xaldA hx hb hK hP 8 4 rfl rfl (vp_in_iff.mpr ⟨by omega, by omega⟩) dX4_openDepth_20 (v := .ref (rlf 4)) (by rw [xclamp (j := 4) (rfl.trans h28)]; rfl) ?_
    refine lv_ldc2 (v := (-1)) hx hb hown (hts (.constantLong RX4 203 (-1)) (tbC _ wd357)) dX4_openDepth_21 ?_
    obtain ⟨hPc, hDc, hFc, hC9⟩ := xpk (wc := W_fillJ cI cJ cZ cG cH (rlf 4) (-1 : Int64) 8 rl4) hP hD hS hA [13] (by decide +kernel) rfl
    refine va_callv (va_runS (As := [.ref (rlf 4), .long (-1)]) (rest := []) ⟨hx, hb, hml, hown, hts⟩ (c_fillJ l D cI cJ cZ cG cH H.size (rlf 4) (-1 : Int64) 8 rl4 (by decide)) (va_cwS 2 hts (xGS tbC wd355 wd356 wd58 wd992) rfl rfl rfl (by decide +kernel) ⟨Nat.le_of_ble_eq_true rfl, Nat.le_of_ble_eq_true rfl⟩) ⟨xPc_blind, xPc_pre hPc hK hDc⟩ rfl rfl hl.1 rfl (lv_room (Nat.le_of_ble_eq_true rfl)) dX4_openDepth_24 ⟨Nat.le_of_ble_eq_true rfl, Nat.le_of_ble_eq_true rfl⟩) hS (fun q _ h => hFc q h) hFc (fun u t H1 locs ht hvm hw29 hB hz1 hk1 hS => ?_)
    obtain ⟨g_30, hf30_0, hf30_1, hP1, hK1, hD1⟩ := hB
    rw [ht] at hP1
    obtain ⟨hP, hD⟩ : xPD D A [oX4 rd tp rfa rya rla pl place kind from_ value told a0 fault fplace, oAM rya cH 7 ryf, oAJ (ryf 0) cJ 8 ry0, oAJ (ryf 1) cJ 8 ry1, oAJ (ryf 2) cJ 8 ry2, oAJ (ryf 3) cJ 8 ry3, oAJ (ryf 5) cJ 8 ry5, oAJ (ryf 6) cJ 8 ry6, oAM rla cH 7 rlf, oAJ (rlf 0) cJ 8 rl0, oAJ (rlf 1) cJ 8 rl1, oAJ (rlf 2) cJ 8 rl2, oAJ (rlf 3) cJ 8 rl3, oAJ (rlf 5) cJ 8 rl5, oAJ (rlf 6) cJ 8 rl6, oAJ (ryf 4) cJ 8 g_27, oAJ (rlf 4) cJ 8 g_30] H1 := xjn 16 hP hD [13] [0, 1, 2, 3, 4, 5, 6, 7, 8, 9, 10, 11, 12, 14, 15, 16] hC9 rfl (by decide +kernel) (by decide +kernel) hk1 hFc hP1 hD1
    generalize H1 = H at hP hS ⊢
    have hf30_0 : ∀ j, j < 8 → g_30 j = (-1 : Int64) := hf30_0
    have hf30_1 : M_fillJ 8 (-1 : Int64) rl4 = g_30 := hf30_1
    have h9M := congrArg (fun t9 => (K_openDepth_21 ry0 ry1 ry2 ry3 g_27 ry5 ry6 rl0 rl1 rl2 rl3 t9 rl5 rl6)) hf30_1
    have hM : M_openDepth a0 ry1 ry2 ry3 ry4 ry5 ry6 rl1 rl2 rl3 rl4 rl5 rl6 rl0 ry0 = (K_openDepth_21 ry0 ry1 ry2 ry3 g_27 ry5 ry6 rl0 rl1 rl2 rl3 g_30 rl5 rl6) := (show M_openDepth a0 ry1 ry2 ry3 ry4 ry5 ry6 rl1 rl2 rl3 rl4 rl5 rl6 rl0 ry0 = ((fun t9 => (K_openDepth_21 ry0 ry1 ry2 ry3 g_27 ry5 ry6 rl0 rl1 rl2 rl3 t9 rl5 rl6)) (M_fillJ 8 (-1 : Int64) rl4)) from hM).trans h9M
    refine W.widen (k := 0) (n := 0) (by decide) (by decide) ?_
    exact W.vret hx hb hr (fun t ht hW => ⟨⟨(), rfl, trivial, ⟨ry0, ry1, ry2, ry3, g_27, ry5, ry6, rl0, rl1, rl2, rl3, g_30, rl5, rl6, hM, xB_of9 ht hW hP hK hD [0, 1, 2, 3, 4, 5, 15, 6, 7, 8, 9, 10, 11, 12, 16, 13, 14] (by decide +kernel) rfl⟩⟩, hS.F ht⟩) hS.2.2 dX4_openDepth_27
  have hM : M_openDepth a0 ry1 ry2 ry3 ry4 ry5 ry6 rl1 rl2 rl3 rl4 rl5 rl6 rl0 ry0 = (K_openDepth_19 a0 ry0 ry1 ry2 ry3 ry4 ry6 rl0 rl1 rl2 rl3 rl4 rl6 rl5 ry5) := (show M_openDepth a0 ry1 ry2 ry3 ry4 ry5 ry6 rl1 rl2 rl3 rl4 rl5 rl6 rl0 ry0 = (if a0.toInt = 4 then (K_openDepth_18 ry0 ry1 ry2 ry3 ry5 ry6 rl0 rl1 rl2 rl3 rl5 rl6 rl4 ry4) else (K_openDepth_19 a0 ry0 ry1 ry2 ry3 ry4 ry6 rl0 rl1 rl2 rl3 rl4 rl6 rl5 ry5)) from hM).trans (if_neg h25)
  by_cases h31 : a0.toInt = 5
  · skip
    have hM : M_openDepth a0 ry1 ry2 ry3 ry4 ry5 ry6 rl1 rl2 rl3 rl4 rl5 rl6 rl0 ry0 = (K_openDepth_22 ry0 ry1 ry2 ry3 ry4 ry6 rl0 rl1 rl2 rl3 rl4 rl6 rl5 ry5) := (show M_openDepth a0 ry1 ry2 ry3 ry4 ry5 ry6 rl1 rl2 rl3 rl4 rl5 rl6 rl0 ry0 = (if a0.toInt = 5 then (K_openDepth_22 ry0 ry1 ry2 ry3 ry4 ry6 rl0 rl1 rl2 rl3 rl4 rl6 rl5 ry5) else (K_openDepth_23 ry0 ry1 ry2 ry3 ry4 ry5 rl0 rl1 rl2 rl3 rl4 rl5 rl6 ry6)) from hM).trans (if_pos h31)
    refine xaldA hx hb hK hP 1 4 rfl rfl (vp_in_iff.mpr ⟨by omega, by omega⟩) dX4_openDepth_10 (v := .ref (ryf 5)) (by rw [xclamp (j := 5) (rfl.trans h31)]; rfl) ?_
    refine lv_lconst (v := 0) hx hb dX4_openDepth_11 (by decide) ?_
    obtain ⟨hPc, hDc, hFc, hC9⟩ := xpk (wc := W_fillJ cI cJ cZ cG cH (ryf 5) (0 : Int64) 8 ry5) hP hD hS hA [7] (by decide +kernel) rfl
    refine va_callv (va_runS (As := [.ref (ryf 5), .long 0]) (rest := []) ⟨hx, hb, hml, hown, hts⟩ (c_fillJ l D cI cJ cZ cG cH H.size (ryf 5) (0 : Int64) 8 ry5 (by decide)) (va_cwS 2 hts (xGS tbC wd355 wd356 wd58 wd992) rfl rfl rfl (by decide +kernel) ⟨Nat.le_of_ble_eq_true rfl, Nat.le_of_ble_eq_true rfl⟩) ⟨xPc_blind, xPc_pre hPc hK hDc⟩ rfl rfl hl.1 rfl (lv_room (Nat.le_of_ble_eq_true rfl)) dX4_openDepth_12 ⟨Nat.le_of_ble_eq_true rfl, Nat.le_of_ble_eq_true rfl⟩) hS (fun q _ h => hFc q h) hFc (fun u t H1 locs ht hvm hw32 hB hz1 hk1 hS => ?_)
    obtain ⟨g_33, hf33_0, hf33_1, hP1, hK1, hD1⟩ := hB
    rw [ht] at hP1
    obtain ⟨hP, hD⟩ : xPD D A [oX4 rd tp rfa rya rla pl place kind from_ value told a0 fault fplace, oAM rya cH 7 ryf, oAJ (ryf 0) cJ 8 ry0, oAJ (ryf 1) cJ 8 ry1, oAJ (ryf 2) cJ 8 ry2, oAJ (ryf 3) cJ 8 ry3, oAJ (ryf 4) cJ 8 ry4, oAJ (ryf 6) cJ 8 ry6, oAM rla cH 7 rlf, oAJ (rlf 0) cJ 8 rl0, oAJ (rlf 1) cJ 8 rl1, oAJ (rlf 2) cJ 8 rl2, oAJ (rlf 3) cJ 8 rl3, oAJ (rlf 4) cJ 8 rl4, oAJ (rlf 5) cJ 8 rl5, oAJ (rlf 6) cJ 8 rl6, oAJ (ryf 5) cJ 8 g_33] H1 := xjn 16 hP hD [7] [0, 1, 2, 3, 4, 5, 6, 8, 9, 10, 11, 12, 13, 14, 15, 16] hC9 rfl (by decide +kernel) (by decide +kernel) hk1 hFc hP1 hD1
    generalize H1 = H at hP hS ⊢
    have hf33_0 : ∀ j, j < 8 → g_33 j = (0 : Int64) := hf33_0
    have hf33_1 : M_fillJ 8 (0 : Int64) ry5 = g_33 := hf33_1
    have h9M := congrArg (fun t9 => (K_openDepth_24 ry0 ry1 ry2 ry3 ry4 t9 ry6 rl0 rl1 rl2 rl3 rl4 rl6 rl5)) hf33_1
    have hM : M_openDepth a0 ry1 ry2 ry3 ry4 ry5 ry6 rl1 rl2 rl3 rl4 rl5 rl6 rl0 ry0 = (K_openDepth_24 ry0 ry1 ry2 ry3 ry4 g_33 ry6 rl0 rl1 rl2 rl3 rl4 rl6 rl5) := (show M_openDepth a0 ry1 ry2 ry3 ry4 ry5 ry6 rl1 rl2 rl3 rl4 rl5 rl6 rl0 ry0 = ((fun t9 => (K_openDepth_24 ry0 ry1 ry2 ry3 ry4 t9 ry6 rl0 rl1 rl2 rl3 rl4 rl6 rl5)) (M_fillJ 8 (0 : Int64) ry5)) from hM).trans h9M
    refine lv_aload_n hx hb dX4_openDepth_15 rfl (lv_at hl 0 rfl) ?_
    refine va_get (D := D) (ci := 3) (v := .ref rla) (C := RX4) (T := TX4) (N := 13) hx hb hts (fun w h => tbC w (tbfX4 w h)) hown hK hP 0 rfl rfl 3 (by decide) (hts (.fieldLink RX4 30 "PowerRails$Reader" "all" "[[J") (tbC _ wd235)) (fun _ h9 => h9) rfl dX4_openDepth_16 ?_
    refine lv_iload_n hx hb dX4_openDepth_19 rfl (lv_at hl 1 rfl) ?_
    have h34 : a0.toInt = 5 := by omega
    refine xaldA hx hb hK hP 8 4 rfl rfl (vp_in_iff.mpr ⟨by omega, by omega⟩) dX4_openDepth_20 (v := .ref (rlf 5)) (by rw [xclamp (j := 5) (rfl.trans h34)]; rfl) ?_
    refine lv_ldc2 (v := (-1)) hx hb hown (hts (.constantLong RX4 203 (-1)) (tbC _ wd357)) dX4_openDepth_21 ?_
    obtain ⟨hPc, hDc, hFc, hC9⟩ := xpk (wc := W_fillJ cI cJ cZ cG cH (rlf 5) (-1 : Int64) 8 rl5) hP hD hS hA [14] (by decide +kernel) rfl
    refine va_callv (va_runS (As := [.ref (rlf 5), .long (-1)]) (rest := []) ⟨hx, hb, hml, hown, hts⟩ (c_fillJ l D cI cJ cZ cG cH H.size (rlf 5) (-1 : Int64) 8 rl5 (by decide)) (va_cwS 2 hts (xGS tbC wd355 wd356 wd58 wd992) rfl rfl rfl (by decide +kernel) ⟨Nat.le_of_ble_eq_true rfl, Nat.le_of_ble_eq_true rfl⟩) ⟨xPc_blind, xPc_pre hPc hK hDc⟩ rfl rfl hl.1 rfl (lv_room (Nat.le_of_ble_eq_true rfl)) dX4_openDepth_24 ⟨Nat.le_of_ble_eq_true rfl, Nat.le_of_ble_eq_true rfl⟩) hS (fun q _ h => hFc q h) hFc (fun u t H1 locs ht hvm hw35 hB hz1 hk1 hS => ?_)
    obtain ⟨g_36, hf36_0, hf36_1, hP1, hK1, hD1⟩ := hB
    rw [ht] at hP1
    obtain ⟨hP, hD⟩ : xPD D A [oX4 rd tp rfa rya rla pl place kind from_ value told a0 fault fplace, oAM rya cH 7 ryf, oAJ (ryf 0) cJ 8 ry0, oAJ (ryf 1) cJ 8 ry1, oAJ (ryf 2) cJ 8 ry2, oAJ (ryf 3) cJ 8 ry3, oAJ (ryf 4) cJ 8 ry4, oAJ (ryf 6) cJ 8 ry6, oAM rla cH 7 rlf, oAJ (rlf 0) cJ 8 rl0, oAJ (rlf 1) cJ 8 rl1, oAJ (rlf 2) cJ 8 rl2, oAJ (rlf 3) cJ 8 rl3, oAJ (rlf 4) cJ 8 rl4, oAJ (rlf 6) cJ 8 rl6, oAJ (ryf 5) cJ 8 g_33, oAJ (rlf 5) cJ 8 g_36] H1 := xjn 16 hP hD [14] [0, 1, 2, 3, 4, 5, 6, 7, 8, 9, 10, 11, 12, 13, 15, 16] hC9 rfl (by decide +kernel) (by decide +kernel) hk1 hFc hP1 hD1
    generalize H1 = H at hP hS ⊢
    have hf36_0 : ∀ j, j < 8 → g_36 j = (-1 : Int64) := hf36_0
    have hf36_1 : M_fillJ 8 (-1 : Int64) rl5 = g_36 := hf36_1
    have h9M := congrArg (fun t9 => (K_openDepth_25 ry0 ry1 ry2 ry3 ry4 g_33 ry6 rl0 rl1 rl2 rl3 rl4 t9 rl6)) hf36_1
    have hM : M_openDepth a0 ry1 ry2 ry3 ry4 ry5 ry6 rl1 rl2 rl3 rl4 rl5 rl6 rl0 ry0 = (K_openDepth_25 ry0 ry1 ry2 ry3 ry4 g_33 ry6 rl0 rl1 rl2 rl3 rl4 g_36 rl6) := (show M_openDepth a0 ry1 ry2 ry3 ry4 ry5 ry6 rl1 rl2 rl3 rl4 rl5 rl6 rl0 ry0 = ((fun t9 => (K_openDepth_25 ry0 ry1 ry2 ry3 ry4 g_33 ry6 rl0 rl1 rl2 rl3 rl4 t9 rl6)) (M_fillJ 8 (-1 : Int64) rl5)) from hM).trans h9M
    refine W.widen (k := 0) (n := 0) (by decide) (by decide) ?_
    exact W.vret hx hb hr (fun t ht hW => ⟨⟨(), rfl, trivial, ⟨ry0, ry1, ry2, ry3, ry4, g_33, ry6, rl0, rl1, rl2, rl3, rl4, g_36, rl6, hM, xB_of9 ht hW hP hK hD [0, 1, 2, 3, 4, 5, 6, 15, 7, 8, 9, 10, 11, 12, 13, 16, 14] (by decide +kernel) rfl⟩⟩, hS.F ht⟩) hS.2.2 dX4_openDepth_27
  have hM : M_openDepth a0 ry1 ry2 ry3 ry4 ry5 ry6 rl1 rl2 rl3 rl4 rl5 rl6 rl0 ry0 = (K_openDepth_23 ry0 ry1 ry2 ry3 ry4 ry5 rl0 rl1 rl2 rl3 rl4 rl5 rl6 ry6) := (show M_openDepth a0 ry1 ry2 ry3 ry4 ry5 ry6 rl1 rl2 rl3 rl4 rl5 rl6 rl0 ry0 = (if a0.toInt = 5 then (K_openDepth_22 ry0 ry1 ry2 ry3 ry4 ry6 rl0 rl1 rl2 rl3 rl4 rl6 rl5 ry5) else (K_openDepth_23 ry0 ry1 ry2 ry3 ry4 ry5 rl0 rl1 rl2 rl3 rl4 rl5 rl6 ry6)) from hM).trans (if_neg h31)
  have h37 : a0.toInt = 6 := by omega
  refine xaldA hx hb hK hP 1 4 rfl rfl (vp_in_iff.mpr ⟨by omega, by omega⟩) dX4_openDepth_10 (v := .ref (ryf 6)) (by rw [xclamp (j := 6) (rfl.trans h37)]; rfl) ?_
  refine lv_lconst (v := 0) hx hb dX4_openDepth_11 (by decide) ?_
  obtain ⟨hPc, hDc, hFc, hC9⟩ := xpk (wc := W_fillJ cI cJ cZ cG cH (ryf 6) (0 : Int64) 8 ry6) hP hD hS hA [8] (by decide +kernel) rfl
  refine va_callv (va_runS (As := [.ref (ryf 6), .long 0]) (rest := []) ⟨hx, hb, hml, hown, hts⟩ (c_fillJ l D cI cJ cZ cG cH H.size (ryf 6) (0 : Int64) 8 ry6 (by decide)) (va_cwS 2 hts (xGS tbC wd355 wd356 wd58 wd992) rfl rfl rfl (by decide +kernel) ⟨Nat.le_of_ble_eq_true rfl, Nat.le_of_ble_eq_true rfl⟩) ⟨xPc_blind, xPc_pre hPc hK hDc⟩ rfl rfl hl.1 rfl (lv_room (Nat.le_of_ble_eq_true rfl)) dX4_openDepth_12 ⟨Nat.le_of_ble_eq_true rfl, Nat.le_of_ble_eq_true rfl⟩) hS (fun q _ h => hFc q h) hFc (fun u t H1 locs ht hvm hw38 hB hz1 hk1 hS => ?_)
  obtain ⟨g_39, hf39_0, hf39_1, hP1, hK1, hD1⟩ := hB
  rw [ht] at hP1
  obtain ⟨hP, hD⟩ : xPD D A [oX4 rd tp rfa rya rla pl place kind from_ value told a0 fault fplace, oAM rya cH 7 ryf, oAJ (ryf 0) cJ 8 ry0, oAJ (ryf 1) cJ 8 ry1, oAJ (ryf 2) cJ 8 ry2, oAJ (ryf 3) cJ 8 ry3, oAJ (ryf 4) cJ 8 ry4, oAJ (ryf 5) cJ 8 ry5, oAM rla cH 7 rlf, oAJ (rlf 0) cJ 8 rl0, oAJ (rlf 1) cJ 8 rl1, oAJ (rlf 2) cJ 8 rl2, oAJ (rlf 3) cJ 8 rl3, oAJ (rlf 4) cJ 8 rl4, oAJ (rlf 5) cJ 8 rl5, oAJ (rlf 6) cJ 8 rl6, oAJ (ryf 6) cJ 8 g_39] H1 := xjn 16 hP hD [8] [0, 1, 2, 3, 4, 5, 6, 7, 9, 10, 11, 12, 13, 14, 15, 16] hC9 rfl (by decide +kernel) (by decide +kernel) hk1 hFc hP1 hD1
  generalize H1 = H at hP hS ⊢
  have hf39_0 : ∀ j, j < 8 → g_39 j = (0 : Int64) := hf39_0
  have hf39_1 : M_fillJ 8 (0 : Int64) ry6 = g_39 := hf39_1
  have h9M := congrArg (fun t9 => (K_openDepth_26 ry0 ry1 ry2 ry3 ry4 ry5 t9 rl0 rl1 rl2 rl3 rl4 rl5 rl6)) hf39_1
  have hM : M_openDepth a0 ry1 ry2 ry3 ry4 ry5 ry6 rl1 rl2 rl3 rl4 rl5 rl6 rl0 ry0 = (K_openDepth_26 ry0 ry1 ry2 ry3 ry4 ry5 g_39 rl0 rl1 rl2 rl3 rl4 rl5 rl6) := (show M_openDepth a0 ry1 ry2 ry3 ry4 ry5 ry6 rl1 rl2 rl3 rl4 rl5 rl6 rl0 ry0 = ((fun t9 => (K_openDepth_26 ry0 ry1 ry2 ry3 ry4 ry5 t9 rl0 rl1 rl2 rl3 rl4 rl5 rl6)) (M_fillJ 8 (0 : Int64) ry6)) from hM).trans h9M
  refine lv_aload_n hx hb dX4_openDepth_15 rfl (lv_at hl 0 rfl) ?_
  refine va_get (D := D) (ci := 3) (v := .ref rla) (C := RX4) (T := TX4) (N := 13) hx hb hts (fun w h => tbC w (tbfX4 w h)) hown hK hP 0 rfl rfl 3 (by decide) (hts (.fieldLink RX4 30 "PowerRails$Reader" "all" "[[J") (tbC _ wd235)) (fun _ h9 => h9) rfl dX4_openDepth_16 ?_
  refine lv_iload_n hx hb dX4_openDepth_19 rfl (lv_at hl 1 rfl) ?_
  have h40 : a0.toInt = 6 := by omega
  refine xaldA hx hb hK hP 8 4 rfl rfl (vp_in_iff.mpr ⟨by omega, by omega⟩) dX4_openDepth_20 (v := .ref (rlf 6)) (by rw [xclamp (j := 6) (rfl.trans h40)]; rfl) ?_
  refine lv_ldc2 (v := (-1)) hx hb hown (hts (.constantLong RX4 203 (-1)) (tbC _ wd357)) dX4_openDepth_21 ?_
  obtain ⟨hPc, hDc, hFc, hC9⟩ := xpk (wc := W_fillJ cI cJ cZ cG cH (rlf 6) (-1 : Int64) 8 rl6) hP hD hS hA [15] (by decide +kernel) rfl
  refine va_callv (va_runS (As := [.ref (rlf 6), .long (-1)]) (rest := []) ⟨hx, hb, hml, hown, hts⟩ (c_fillJ l D cI cJ cZ cG cH H.size (rlf 6) (-1 : Int64) 8 rl6 (by decide)) (va_cwS 2 hts (xGS tbC wd355 wd356 wd58 wd992) rfl rfl rfl (by decide +kernel) ⟨Nat.le_of_ble_eq_true rfl, Nat.le_of_ble_eq_true rfl⟩) ⟨xPc_blind, xPc_pre hPc hK hDc⟩ rfl rfl hl.1 rfl (lv_room (Nat.le_of_ble_eq_true rfl)) dX4_openDepth_24 ⟨Nat.le_of_ble_eq_true rfl, Nat.le_of_ble_eq_true rfl⟩) hS (fun q _ h => hFc q h) hFc (fun u t H1 locs ht hvm hw41 hB hz1 hk1 hS => ?_)
  obtain ⟨g_42, hf42_0, hf42_1, hP1, hK1, hD1⟩ := hB
  rw [ht] at hP1
  obtain ⟨hP, hD⟩ : xPD D A [oX4 rd tp rfa rya rla pl place kind from_ value told a0 fault fplace, oAM rya cH 7 ryf, oAJ (ryf 0) cJ 8 ry0, oAJ (ryf 1) cJ 8 ry1, oAJ (ryf 2) cJ 8 ry2, oAJ (ryf 3) cJ 8 ry3, oAJ (ryf 4) cJ 8 ry4, oAJ (ryf 5) cJ 8 ry5, oAM rla cH 7 rlf, oAJ (rlf 0) cJ 8 rl0, oAJ (rlf 1) cJ 8 rl1, oAJ (rlf 2) cJ 8 rl2, oAJ (rlf 3) cJ 8 rl3, oAJ (rlf 4) cJ 8 rl4, oAJ (rlf 5) cJ 8 rl5, oAJ (ryf 6) cJ 8 g_39, oAJ (rlf 6) cJ 8 g_42] H1 := xjn 16 hP hD [15] [0, 1, 2, 3, 4, 5, 6, 7, 8, 9, 10, 11, 12, 13, 14, 16] hC9 rfl (by decide +kernel) (by decide +kernel) hk1 hFc hP1 hD1
  generalize H1 = H at hP hS ⊢
  have hf42_0 : ∀ j, j < 8 → g_42 j = (-1 : Int64) := hf42_0
  have hf42_1 : M_fillJ 8 (-1 : Int64) rl6 = g_42 := hf42_1
  have h9M := congrArg (fun t9 => (K_openDepth_27 ry0 ry1 ry2 ry3 ry4 ry5 g_39 rl0 rl1 rl2 rl3 rl4 rl5 t9)) hf42_1
  have hM : M_openDepth a0 ry1 ry2 ry3 ry4 ry5 ry6 rl1 rl2 rl3 rl4 rl5 rl6 rl0 ry0 = (K_openDepth_27 ry0 ry1 ry2 ry3 ry4 ry5 g_39 rl0 rl1 rl2 rl3 rl4 rl5 g_42) := (show M_openDepth a0 ry1 ry2 ry3 ry4 ry5 ry6 rl1 rl2 rl3 rl4 rl5 rl6 rl0 ry0 = ((fun t9 => (K_openDepth_27 ry0 ry1 ry2 ry3 ry4 ry5 g_39 rl0 rl1 rl2 rl3 rl4 rl5 t9)) (M_fillJ 8 (-1 : Int64) rl6)) from hM).trans h9M
  refine W.widen (k := 0) (n := 0) (by decide) (by decide) ?_
  exact W.vret hx hb hr (fun t ht hW => ⟨⟨(), rfl, trivial, ⟨ry0, ry1, ry2, ry3, ry4, ry5, g_39, rl0, rl1, rl2, rl3, rl4, rl5, g_42, hM, xB_of9 ht hW hP hK hD [0, 1, 2, 3, 4, 5, 6, 7, 15, 8, 9, 10, 11, 12, 13, 14, 16] (by decide +kernel) rfl⟩⟩, hS.F ht⟩) hS.2.2 dX4_openDepth_27
def K_joinAny_3 (f216 : Nat → Int64) (f217 : Nat → Int64) (f218 : Nat → Int64) (f219 : Nat → Int64) (f220 : Nat → Int64) (f221 : Nat → Int64) (f222 : Nat → Int64) (f223 : Nat → Int64) (f224 : Nat → Int64) (f225 : Nat → Int64) (f226 : Nat → Int64) (f227 : Nat → Int64) (f228 : Nat → Int64) (f229 : Nat → Int64) : (Nat → Int64) × (Nat → Int64) × (Nat → Int64) × (Nat → Int64) × (Nat → Int64) × (Nat → Int64) × (Nat → Int64) × (Nat → Int64) × (Nat → Int64) × (Nat → Int64) × (Nat → Int64) × (Nat → Int64) × (Nat → Int64) × (Nat → Int64) := (f216, f217, f218, f219, f220, f221, f222, f223, f224, f225, f226, f227, f228, f229)
def K_joinAny_5 (rec_2 : (Int32) → (Nat → Int64) → (Nat → Int64) → (Nat → Int64) → (Nat → Int64) → (Nat → Int64) → (Nat → Int64) → (Nat → Int64) → (Nat → Int64) → (Nat → Int64) → (Nat → Int64) → (Nat → Int64) → (Nat → Int64) → (Nat → Int64) → (Nat → Int64) → ((Nat → Int64) × (Nat → Int64) × (Nat → Int64) × (Nat → Int64) × (Nat → Int64) × (Nat → Int64) × (Nat → Int64) × (Nat → Int64) × (Nat → Int64) × (Nat → Int64) × (Nat → Int64) × (Nat → Int64) × (Nat → Int64) × (Nat → Int64))) (x215 : Int32) (f216 : Nat → Int64) (f223 : Nat → Int64) (f217 : Nat → Int64) (f218 : Nat → Int64) (f219 : Nat → Int64) (f220 : Nat → Int64) (f221 : Nat → Int64) (f222 : Nat → Int64) (f224 : Nat → Int64) (f225 : Nat → Int64) (f226 : Nat → Int64) (f227 : Nat → Int64) (f228 : Nat → Int64) (f229 : Nat → Int64) : (Nat → Int64) × (Nat → Int64) × (Nat → Int64) × (Nat → Int64) × (Nat → Int64) × (Nat → Int64) × (Nat → Int64) × (Nat → Int64) × (Nat → Int64) × (Nat → Int64) × (Nat → Int64) × (Nat → Int64) × (Nat → Int64) × (Nat → Int64) := (rec_2 (x215 + 1) (vp_updL f216 (x215 : Int32).toNatClampNeg ((f216 x215.toNatClampNeg) ||| (f223 x215.toNatClampNeg))) f217 f218 f219 f220 f221 f222 (vp_updL f223 (x215 : Int32).toNatClampNeg (-1 : Int64)) f224 f225 f226 f227 f228 f229)
def K_joinAny_7 (rec_2 : (Int32) → (Nat → Int64) → (Nat → Int64) → (Nat → Int64) → (Nat → Int64) → (Nat → Int64) → (Nat → Int64) → (Nat → Int64) → (Nat → Int64) → (Nat → Int64) → (Nat → Int64) → (Nat → Int64) → (Nat → Int64) → (Nat → Int64) → (Nat → Int64) → ((Nat → Int64) × (Nat → Int64) × (Nat → Int64) × (Nat → Int64) × (Nat → Int64) × (Nat → Int64) × (Nat → Int64) × (Nat → Int64) × (Nat → Int64) × (Nat → Int64) × (Nat → Int64) × (Nat → Int64) × (Nat → Int64) × (Nat → Int64))) (x215 : Int32) (f216 : Nat → Int64) (f217 : Nat → Int64) (f224 : Nat → Int64) (f218 : Nat → Int64) (f219 : Nat → Int64) (f220 : Nat → Int64) (f221 : Nat → Int64) (f222 : Nat → Int64) (f223 : Nat → Int64) (f225 : Nat → Int64) (f226 : Nat → Int64) (f227 : Nat → Int64) (f228 : Nat → Int64) (f229 : Nat → Int64) : (Nat → Int64) × (Nat → Int64) × (Nat → Int64) × (Nat → Int64) × (Nat → Int64) × (Nat → Int64) × (Nat → Int64) × (Nat → Int64) × (Nat → Int64) × (Nat → Int64) × (Nat → Int64) × (Nat → Int64) × (Nat → Int64) × (Nat → Int64) := (rec_2 (x215 + 1) f216 (vp_updL f217 (x215 : Int32).toNatClampNeg ((f217 x215.toNatClampNeg) ||| (f224 x215.toNatClampNeg))) f218 f219 f220 f221 f222 f223 (vp_updL f224 (x215 : Int32).toNatClampNeg (-1 : Int64)) f225 f226 f227 f228 f229)
def K_joinAny_9 (rec_2 : (Int32) → (Nat → Int64) → (Nat → Int64) → (Nat → Int64) → (Nat → Int64) → (Nat → Int64) → (Nat → Int64) → (Nat → Int64) → (Nat → Int64) → (Nat → Int64) → (Nat → Int64) → (Nat → Int64) → (Nat → Int64) → (Nat → Int64) → (Nat → Int64) → ((Nat → Int64) × (Nat → Int64) × (Nat → Int64) × (Nat → Int64) × (Nat → Int64) × (Nat → Int64) × (Nat → Int64) × (Nat → Int64) × (Nat → Int64) × (Nat → Int64) × (Nat → Int64) × (Nat → Int64) × (Nat → Int64) × (Nat → Int64))) (x215 : Int32) (f216 : Nat → Int64) (f217 : Nat → Int64) (f218 : Nat → Int64) (f225 : Nat → Int64) (f219 : Nat → Int64) (f220 : Nat → Int64) (f221 : Nat → Int64) (f222 : Nat → Int64) (f223 : Nat → Int64) (f224 : Nat → Int64) (f226 : Nat → Int64) (f227 : Nat → Int64) (f228 : Nat → Int64) (f229 : Nat → Int64) : (Nat → Int64) × (Nat → Int64) × (Nat → Int64) × (Nat → Int64) × (Nat → Int64) × (Nat → Int64) × (Nat → Int64) × (Nat → Int64) × (Nat → Int64) × (Nat → Int64) × (Nat → Int64) × (Nat → Int64) × (Nat → Int64) × (Nat → Int64) := (rec_2 (x215 + 1) f216 f217 (vp_updL f218 (x215 : Int32).toNatClampNeg ((f218 x215.toNatClampNeg) ||| (f225 x215.toNatClampNeg))) f219 f220 f221 f222 f223 f224 (vp_updL f225 (x215 : Int32).toNatClampNeg (-1 : Int64)) f226 f227 f228 f229)
def K_joinAny_11 (rec_2 : (Int32) → (Nat → Int64) → (Nat → Int64) → (Nat → Int64) → (Nat → Int64) → (Nat → Int64) → (Nat → Int64) → (Nat → Int64) → (Nat → Int64) → (Nat → Int64) → (Nat → Int64) → (Nat → Int64) → (Nat → Int64) → (Nat → Int64) → (Nat → Int64) → ((Nat → Int64) × (Nat → Int64) × (Nat → Int64) × (Nat → Int64) × (Nat → Int64) × (Nat → Int64) × (Nat → Int64) × (Nat → Int64) × (Nat → Int64) × (Nat → Int64) × (Nat → Int64) × (Nat → Int64) × (Nat → Int64) × (Nat → Int64))) (x215 : Int32) (f216 : Nat → Int64) (f217 : Nat → Int64) (f218 : Nat → Int64) (f219 : Nat → Int64) (f226 : Nat → Int64) (f220 : Nat → Int64) (f221 : Nat → Int64) (f222 : Nat → Int64) (f223 : Nat → Int64) (f224 : Nat → Int64) (f225 : Nat → Int64) (f227 : Nat → Int64) (f228 : Nat → Int64) (f229 : Nat → Int64) : (Nat → Int64) × (Nat → Int64) × (Nat → Int64) × (Nat → Int64) × (Nat → Int64) × (Nat → Int64) × (Nat → Int64) × (Nat → Int64) × (Nat → Int64) × (Nat → Int64) × (Nat → Int64) × (Nat → Int64) × (Nat → Int64) × (Nat → Int64) := (rec_2 (x215 + 1) f216 f217 f218 (vp_updL f219 (x215 : Int32).toNatClampNeg ((f219 x215.toNatClampNeg) ||| (f226 x215.toNatClampNeg))) f220 f221 f222 f223 f224 f225 (vp_updL f226 (x215 : Int32).toNatClampNeg (-1 : Int64)) f227 f228 f229)
def K_joinAny_13 (rec_2 : (Int32) → (Nat → Int64) → (Nat → Int64) → (Nat → Int64) → (Nat → Int64) → (Nat → Int64) → (Nat → Int64) → (Nat → Int64) → (Nat → Int64) → (Nat → Int64) → (Nat → Int64) → (Nat → Int64) → (Nat → Int64) → (Nat → Int64) → (Nat → Int64) → ((Nat → Int64) × (Nat → Int64) × (Nat → Int64) × (Nat → Int64) × (Nat → Int64) × (Nat → Int64) × (Nat → Int64) × (Nat → Int64) × (Nat → Int64) × (Nat → Int64) × (Nat → Int64) × (Nat → Int64) × (Nat → Int64) × (Nat → Int64))) (x215 : Int32) (f216 : Nat → Int64) (f217 : Nat → Int64) (f218 : Nat → Int64) (f219 : Nat → Int64) (f220 : Nat → Int64) (f227 : Nat → Int64) (f221 : Nat → Int64) (f222 : Nat → Int64) (f223 : Nat → Int64) (f224 : Nat → Int64) (f225 : Nat → Int64) (f226 : Nat → Int64) (f228 : Nat → Int64) (f229 : Nat → Int64) : (Nat → Int64) × (Nat → Int64) × (Nat → Int64) × (Nat → Int64) × (Nat → Int64) × (Nat → Int64) × (Nat → Int64) × (Nat → Int64) × (Nat → Int64) × (Nat → Int64) × (Nat → Int64) × (Nat → Int64) × (Nat → Int64) × (Nat → Int64) := (rec_2 (x215 + 1) f216 f217 f218 f219 (vp_updL f220 (x215 : Int32).toNatClampNeg ((f220 x215.toNatClampNeg) ||| (f227 x215.toNatClampNeg))) f221 f222 f223 f224 f225 f226 (vp_updL f227 (x215 : Int32).toNatClampNeg (-1 : Int64)) f228 f229)
def K_joinAny_15 (rec_2 : (Int32) → (Nat → Int64) → (Nat → Int64) → (Nat → Int64) → (Nat → Int64) → (Nat → Int64) → (Nat → Int64) → (Nat → Int64) → (Nat → Int64) → (Nat → Int64) → (Nat → Int64) → (Nat → Int64) → (Nat → Int64) → (Nat → Int64) → (Nat → Int64) → ((Nat → Int64) × (Nat → Int64) × (Nat → Int64) × (Nat → Int64) × (Nat → Int64) × (Nat → Int64) × (Nat → Int64) × (Nat → Int64) × (Nat → Int64) × (Nat → Int64) × (Nat → Int64) × (Nat → Int64) × (Nat → Int64) × (Nat → Int64))) (x215 : Int32) (f216 : Nat → Int64) (f217 : Nat → Int64) (f218 : Nat → Int64) (f219 : Nat → Int64) (f220 : Nat → Int64) (f221 : Nat → Int64) (f228 : Nat → Int64) (f222 : Nat → Int64) (f223 : Nat → Int64) (f224 : Nat → Int64) (f225 : Nat → Int64) (f226 : Nat → Int64) (f227 : Nat → Int64) (f229 : Nat → Int64) : (Nat → Int64) × (Nat → Int64) × (Nat → Int64) × (Nat → Int64) × (Nat → Int64) × (Nat → Int64) × (Nat → Int64) × (Nat → Int64) × (Nat → Int64) × (Nat → Int64) × (Nat → Int64) × (Nat → Int64) × (Nat → Int64) × (Nat → Int64) := (rec_2 (x215 + 1) f216 f217 f218 f219 f220 (vp_updL f221 (x215 : Int32).toNatClampNeg ((f221 x215.toNatClampNeg) ||| (f228 x215.toNatClampNeg))) f222 f223 f224 f225 f226 f227 (vp_updL f228 (x215 : Int32).toNatClampNeg (-1 : Int64)) f229)
def K_joinAny_16 (rec_2 : (Int32) → (Nat → Int64) → (Nat → Int64) → (Nat → Int64) → (Nat → Int64) → (Nat → Int64) → (Nat → Int64) → (Nat → Int64) → (Nat → Int64) → (Nat → Int64) → (Nat → Int64) → (Nat → Int64) → (Nat → Int64) → (Nat → Int64) → (Nat → Int64) → ((Nat → Int64) × (Nat → Int64) × (Nat → Int64) × (Nat → Int64) × (Nat → Int64) × (Nat → Int64) × (Nat → Int64) × (Nat → Int64) × (Nat → Int64) × (Nat → Int64) × (Nat → Int64) × (Nat → Int64) × (Nat → Int64) × (Nat → Int64))) (x215 : Int32) (f216 : Nat → Int64) (f217 : Nat → Int64) (f218 : Nat → Int64) (f219 : Nat → Int64) (f220 : Nat → Int64) (f221 : Nat → Int64) (f222 : Nat → Int64) (f229 : Nat → Int64) (f223 : Nat → Int64) (f224 : Nat → Int64) (f225 : Nat → Int64) (f226 : Nat → Int64) (f227 : Nat → Int64) (f228 : Nat → Int64) : (Nat → Int64) × (Nat → Int64) × (Nat → Int64) × (Nat → Int64) × (Nat → Int64) × (Nat → Int64) × (Nat → Int64) × (Nat → Int64) × (Nat → Int64) × (Nat → Int64) × (Nat → Int64) × (Nat → Int64) × (Nat → Int64) × (Nat → Int64) := (rec_2 (x215 + 1) f216 f217 f218 f219 f220 f221 (vp_updL f222 (x215 : Int32).toNatClampNeg ((f222 x215.toNatClampNeg) ||| (f229 x215.toNatClampNeg))) f223 f224 f225 f226 f227 f228 (vp_updL f229 (x215 : Int32).toNatClampNeg (-1 : Int64)))
def K_joinAny_14 (depth : Int32) (rec_2 : (Int32) → (Nat → Int64) → (Nat → Int64) → (Nat → Int64) → (Nat → Int64) → (Nat → Int64) → (Nat → Int64) → (Nat → Int64) → (Nat → Int64) → (Nat → Int64) → (Nat → Int64) → (Nat → Int64) → (Nat → Int64) → (Nat → Int64) → (Nat → Int64) → ((Nat → Int64) × (Nat → Int64) × (Nat → Int64) × (Nat → Int64) × (Nat → Int64) × (Nat → Int64) × (Nat → Int64) × (Nat → Int64) × (Nat → Int64) × (Nat → Int64) × (Nat → Int64) × (Nat → Int64) × (Nat → Int64) × (Nat → Int64))) (x215 : Int32) (f216 : Nat → Int64) (f217 : Nat → Int64) (f218 : Nat → Int64) (f219 : Nat → Int64) (f220 : Nat → Int64) (f221 : Nat → Int64) (f228 : Nat → Int64) (f222 : Nat → Int64) (f223 : Nat → Int64) (f224 : Nat → Int64) (f225 : Nat → Int64) (f226 : Nat → Int64) (f227 : Nat → Int64) (f229 : Nat → Int64) : (Nat → Int64) × (Nat → Int64) × (Nat → Int64) × (Nat → Int64) × (Nat → Int64) × (Nat → Int64) × (Nat → Int64) × (Nat → Int64) × (Nat → Int64) × (Nat → Int64) × (Nat → Int64) × (Nat → Int64) × (Nat → Int64) × (Nat → Int64) := (if depth.toInt = 5 then (K_joinAny_15 rec_2 x215 f216 f217 f218 f219 f220 f221 f228 f222 f223 f224 f225 f226 f227 f229) else (K_joinAny_16 rec_2 x215 f216 f217 f218 f219 f220 f221 f222 f229 f223 f224 f225 f226 f227 f228))
def K_joinAny_12 (depth : Int32) (rec_2 : (Int32) → (Nat → Int64) → (Nat → Int64) → (Nat → Int64) → (Nat → Int64) → (Nat → Int64) → (Nat → Int64) → (Nat → Int64) → (Nat → Int64) → (Nat → Int64) → (Nat → Int64) → (Nat → Int64) → (Nat → Int64) → (Nat → Int64) → (Nat → Int64) → ((Nat → Int64) × (Nat → Int64) × (Nat → Int64) × (Nat → Int64) × (Nat → Int64) × (Nat → Int64) × (Nat → Int64) × (Nat → Int64) × (Nat → Int64) × (Nat → Int64) × (Nat → Int64) × (Nat → Int64) × (Nat → Int64) × (Nat → Int64))) (x215 : Int32) (f216 : Nat → Int64) (f217 : Nat → Int64) (f218 : Nat → Int64) (f219 : Nat → Int64) (f220 : Nat → Int64) (f227 : Nat → Int64) (f221 : Nat → Int64) (f222 : Nat → Int64) (f223 : Nat → Int64) (f224 : Nat → Int64) (f225 : Nat → Int64) (f226 : Nat → Int64) (f228 : Nat → Int64) (f229 : Nat → Int64) : (Nat → Int64) × (Nat → Int64) × (Nat → Int64) × (Nat → Int64) × (Nat → Int64) × (Nat → Int64) × (Nat → Int64) × (Nat → Int64) × (Nat → Int64) × (Nat → Int64) × (Nat → Int64) × (Nat → Int64) × (Nat → Int64) × (Nat → Int64) := (if depth.toInt = 4 then (K_joinAny_13 rec_2 x215 f216 f217 f218 f219 f220 f227 f221 f222 f223 f224 f225 f226 f228 f229) else (K_joinAny_14 depth rec_2 x215 f216 f217 f218 f219 f220 f221 f228 f222 f223 f224 f225 f226 f227 f229))
def K_joinAny_10 (depth : Int32) (rec_2 : (Int32) → (Nat → Int64) → (Nat → Int64) → (Nat → Int64) → (Nat → Int64) → (Nat → Int64) → (Nat → Int64) → (Nat → Int64) → (Nat → Int64) → (Nat → Int64) → (Nat → Int64) → (Nat → Int64) → (Nat → Int64) → (Nat → Int64) → (Nat → Int64) → ((Nat → Int64) × (Nat → Int64) × (Nat → Int64) × (Nat → Int64) × (Nat → Int64) × (Nat → Int64) × (Nat → Int64) × (Nat → Int64) × (Nat → Int64) × (Nat → Int64) × (Nat → Int64) × (Nat → Int64) × (Nat → Int64) × (Nat → Int64))) (x215 : Int32) (f216 : Nat → Int64) (f217 : Nat → Int64) (f218 : Nat → Int64) (f219 : Nat → Int64) (f226 : Nat → Int64) (f220 : Nat → Int64) (f221 : Nat → Int64) (f222 : Nat → Int64) (f223 : Nat → Int64) (f224 : Nat → Int64) (f225 : Nat → Int64) (f227 : Nat → Int64) (f228 : Nat → Int64) (f229 : Nat → Int64) : (Nat → Int64) × (Nat → Int64) × (Nat → Int64) × (Nat → Int64) × (Nat → Int64) × (Nat → Int64) × (Nat → Int64) × (Nat → Int64) × (Nat → Int64) × (Nat → Int64) × (Nat → Int64) × (Nat → Int64) × (Nat → Int64) × (Nat → Int64) := (if depth.toInt = 3 then (K_joinAny_11 rec_2 x215 f216 f217 f218 f219 f226 f220 f221 f222 f223 f224 f225 f227 f228 f229) else (K_joinAny_12 depth rec_2 x215 f216 f217 f218 f219 f220 f227 f221 f222 f223 f224 f225 f226 f228 f229))
def K_joinAny_8 (depth : Int32) (rec_2 : (Int32) → (Nat → Int64) → (Nat → Int64) → (Nat → Int64) → (Nat → Int64) → (Nat → Int64) → (Nat → Int64) → (Nat → Int64) → (Nat → Int64) → (Nat → Int64) → (Nat → Int64) → (Nat → Int64) → (Nat → Int64) → (Nat → Int64) → (Nat → Int64) → ((Nat → Int64) × (Nat → Int64) × (Nat → Int64) × (Nat → Int64) × (Nat → Int64) × (Nat → Int64) × (Nat → Int64) × (Nat → Int64) × (Nat → Int64) × (Nat → Int64) × (Nat → Int64) × (Nat → Int64) × (Nat → Int64) × (Nat → Int64))) (x215 : Int32) (f216 : Nat → Int64) (f217 : Nat → Int64) (f218 : Nat → Int64) (f225 : Nat → Int64) (f219 : Nat → Int64) (f220 : Nat → Int64) (f221 : Nat → Int64) (f222 : Nat → Int64) (f223 : Nat → Int64) (f224 : Nat → Int64) (f226 : Nat → Int64) (f227 : Nat → Int64) (f228 : Nat → Int64) (f229 : Nat → Int64) : (Nat → Int64) × (Nat → Int64) × (Nat → Int64) × (Nat → Int64) × (Nat → Int64) × (Nat → Int64) × (Nat → Int64) × (Nat → Int64) × (Nat → Int64) × (Nat → Int64) × (Nat → Int64) × (Nat → Int64) × (Nat → Int64) × (Nat → Int64) := (if depth.toInt = 2 then (K_joinAny_9 rec_2 x215 f216 f217 f218 f225 f219 f220 f221 f222 f223 f224 f226 f227 f228 f229) else (K_joinAny_10 depth rec_2 x215 f216 f217 f218 f219 f226 f220 f221 f222 f223 f224 f225 f227 f228 f229))
def K_joinAny_6 (depth : Int32) (rec_2 : (Int32) → (Nat → Int64) → (Nat → Int64) → (Nat → Int64) → (Nat → Int64) → (Nat → Int64) → (Nat → Int64) → (Nat → Int64) → (Nat → Int64) → (Nat → Int64) → (Nat → Int64) → (Nat → Int64) → (Nat → Int64) → (Nat → Int64) → (Nat → Int64) → ((Nat → Int64) × (Nat → Int64) × (Nat → Int64) × (Nat → Int64) × (Nat → Int64) × (Nat → Int64) × (Nat → Int64) × (Nat → Int64) × (Nat → Int64) × (Nat → Int64) × (Nat → Int64) × (Nat → Int64) × (Nat → Int64) × (Nat → Int64))) (x215 : Int32) (f216 : Nat → Int64) (f217 : Nat → Int64) (f224 : Nat → Int64) (f218 : Nat → Int64) (f219 : Nat → Int64) (f220 : Nat → Int64) (f221 : Nat → Int64) (f222 : Nat → Int64) (f223 : Nat → Int64) (f225 : Nat → Int64) (f226 : Nat → Int64) (f227 : Nat → Int64) (f228 : Nat → Int64) (f229 : Nat → Int64) : (Nat → Int64) × (Nat → Int64) × (Nat → Int64) × (Nat → Int64) × (Nat → Int64) × (Nat → Int64) × (Nat → Int64) × (Nat → Int64) × (Nat → Int64) × (Nat → Int64) × (Nat → Int64) × (Nat → Int64) × (Nat → Int64) × (Nat → Int64) := (if depth.toInt = 1 then (K_joinAny_7 rec_2 x215 f216 f217 f224 f218 f219 f220 f221 f222 f223 f225 f226 f227 f228 f229) else (K_joinAny_8 depth rec_2 x215 f216 f217 f218 f225 f219 f220 f221 f222 f223 f224 f226 f227 f228 f229))
def K_joinAny_4 (depth : Int32) (rec_2 : (Int32) → (Nat → Int64) → (Nat → Int64) → (Nat → Int64) → (Nat → Int64) → (Nat → Int64) → (Nat → Int64) → (Nat → Int64) → (Nat → Int64) → (Nat → Int64) → (Nat → Int64) → (Nat → Int64) → (Nat → Int64) → (Nat → Int64) → (Nat → Int64) → ((Nat → Int64) × (Nat → Int64) × (Nat → Int64) × (Nat → Int64) × (Nat → Int64) × (Nat → Int64) × (Nat → Int64) × (Nat → Int64) × (Nat → Int64) × (Nat → Int64) × (Nat → Int64) × (Nat → Int64) × (Nat → Int64) × (Nat → Int64))) (x215 : Int32) (f216 : Nat → Int64) (f223 : Nat → Int64) (f217 : Nat → Int64) (f218 : Nat → Int64) (f219 : Nat → Int64) (f220 : Nat → Int64) (f221 : Nat → Int64) (f222 : Nat → Int64) (f224 : Nat → Int64) (f225 : Nat → Int64) (f226 : Nat → Int64) (f227 : Nat → Int64) (f228 : Nat → Int64) (f229 : Nat → Int64) : (Nat → Int64) × (Nat → Int64) × (Nat → Int64) × (Nat → Int64) × (Nat → Int64) × (Nat → Int64) × (Nat → Int64) × (Nat → Int64) × (Nat → Int64) × (Nat → Int64) × (Nat → Int64) × (Nat → Int64) × (Nat → Int64) × (Nat → Int64) := (if depth.toInt = 0 then (K_joinAny_5 rec_2 x215 f216 f223 f217 f218 f219 f220 f221 f222 f224 f225 f226 f227 f228 f229) else (K_joinAny_6 depth rec_2 x215 f216 f217 f224 f218 f219 f220 f221 f222 f223 f225 f226 f227 f228 f229))
def K_joinAny_2 (x215 : Int32) (f216 : Nat → Int64) (f217 : Nat → Int64) (f218 : Nat → Int64) (f219 : Nat → Int64) (f220 : Nat → Int64) (f221 : Nat → Int64) (f222 : Nat → Int64) (f223 : Nat → Int64) (f224 : Nat → Int64) (f225 : Nat → Int64) (f226 : Nat → Int64) (f227 : Nat → Int64) (f228 : Nat → Int64) (f229 : Nat → Int64) (depth : Int32) (rec_2 : (Int32) → (Nat → Int64) → (Nat → Int64) → (Nat → Int64) → (Nat → Int64) → (Nat → Int64) → (Nat → Int64) → (Nat → Int64) → (Nat → Int64) → (Nat → Int64) → (Nat → Int64) → (Nat → Int64) → (Nat → Int64) → (Nat → Int64) → (Nat → Int64) → ((Nat → Int64) × (Nat → Int64) × (Nat → Int64) × (Nat → Int64) × (Nat → Int64) × (Nat → Int64) × (Nat → Int64) × (Nat → Int64) × (Nat → Int64) × (Nat → Int64) × (Nat → Int64) × (Nat → Int64) × (Nat → Int64) × (Nat → Int64))) : (Nat → Int64) × (Nat → Int64) × (Nat → Int64) × (Nat → Int64) × (Nat → Int64) × (Nat → Int64) × (Nat → Int64) × (Nat → Int64) × (Nat → Int64) × (Nat → Int64) × (Nat → Int64) × (Nat → Int64) × (Nat → Int64) × (Nat → Int64) := (if 8 ≤ x215.toInt then (K_joinAny_3 f216 f217 f218 f219 f220 f221 f222 f223 f224 f225 f226 f227 f228 f229) else (K_joinAny_4 depth rec_2 x215 f216 f223 f217 f218 f219 f220 f221 f222 f224 f225 f226 f227 f228 f229))
def K_joinAny_L2 (depth : Int32) : Nat → (Int32) → (Nat → Int64) → (Nat → Int64) → (Nat → Int64) → (Nat → Int64) → (Nat → Int64) → (Nat → Int64) → (Nat → Int64) → (Nat → Int64) → (Nat → Int64) → (Nat → Int64) → (Nat → Int64) → (Nat → Int64) → (Nat → Int64) → (Nat → Int64) → (Nat → Int64) × (Nat → Int64) × (Nat → Int64) × (Nat → Int64) × (Nat → Int64) × (Nat → Int64) × (Nat → Int64) × (Nat → Int64) × (Nat → Int64) × (Nat → Int64) × (Nat → Int64) × (Nat → Int64) × (Nat → Int64) × (Nat → Int64)
  | 0, _, _, _, _, _, _, _, _, _, _, _, _, _, _, _ => (fun _ => 0, fun _ => 0, fun _ => 0, fun _ => 0, fun _ => 0, fun _ => 0, fun _ => 0, fun _ => 0, fun _ => 0, fun _ => 0, fun _ => 0, fun _ => 0, fun _ => 0, fun _ => 0)
  | n9 + 1, x215, f216, f217, f218, f219, f220, f221, f222, f223, f224, f225, f226, f227, f228, f229 => (K_joinAny_2 x215 f216 f217 f218 f219 f220 f221 f222 f223 f224 f225 f226 f227 f228 f229 depth (K_joinAny_L2 depth n9))
def K_joinAny_1 (depth : Int32) (ry0 : Nat → Int64) (ry1 : Nat → Int64) (ry2 : Nat → Int64) (ry3 : Nat → Int64) (ry4 : Nat → Int64) (ry5 : Nat → Int64) (ry6 : Nat → Int64) (rl0 : Nat → Int64) (rl1 : Nat → Int64) (rl2 : Nat → Int64) (rl3 : Nat → Int64) (rl4 : Nat → Int64) (rl5 : Nat → Int64) (rl6 : Nat → Int64) : (Nat → Int64) × (Nat → Int64) × (Nat → Int64) × (Nat → Int64) × (Nat → Int64) × (Nat → Int64) × (Nat → Int64) × (Nat → Int64) × (Nat → Int64) × (Nat → Int64) × (Nat → Int64) × (Nat → Int64) × (Nat → Int64) × (Nat → Int64) := (K_joinAny_L2 depth 100000 (0 : Int32) ry0 ry1 ry2 ry3 ry4 ry5 ry6 rl0 rl1 rl2 rl3 rl4 rl5 rl6)
def M_joinAny (depth : Int32) (ry0 : Nat → Int64) (ry1 : Nat → Int64) (ry2 : Nat → Int64) (ry3 : Nat → Int64) (ry4 : Nat → Int64) (ry5 : Nat → Int64) (ry6 : Nat → Int64) (rl0 : Nat → Int64) (rl1 : Nat → Int64) (rl2 : Nat → Int64) (rl3 : Nat → Int64) (rl4 : Nat → Int64) (rl5 : Nat → Int64) (rl6 : Nat → Int64) : (Nat → Int64) × (Nat → Int64) × (Nat → Int64) × (Nat → Int64) × (Nat → Int64) × (Nat → Int64) × (Nat → Int64) × (Nat → Int64) × (Nat → Int64) × (Nat → Int64) × (Nat → Int64) × (Nat → Int64) × (Nat → Int64) × (Nat → Int64) := (K_joinAny_1 depth ry0 ry1 ry2 ry3 ry4 ry5 ry6 rl0 rl1 rl2 rl3 rl4 rl5 rl6)
abbrev W_joinAny (cI cJ cZ cG cH : ClassId) (rd : Nat) (tp : Nat) (rfa : Nat) (rya : Nat) (rla : Nat) (pl : Nat) (place : Int32) (kind : Int32) (from_ : Int32) (value : Int32) (told : Int32) (depth : Int32) (fault : Int32) (fplace : Int32) (ryf : Nat → Nat) (ry0 : Nat → Int64) (ry1 : Nat → Int64) (ry2 : Nat → Int64) (ry3 : Nat → Int64) (ry4 : Nat → Int64) (ry5 : Nat → Int64) (ry6 : Nat → Int64) (rlf : Nat → Nat) (rl0 : Nat → Int64) (rl1 : Nat → Int64) (rl2 : Nat → Int64) (rl3 : Nat → Int64) (rl4 : Nat → Int64) (rl5 : Nat → Int64) (rl6 : Nat → Int64) : va_W := [oX4 rd tp rfa rya rla pl place kind from_ value told depth fault fplace, oAM rya cH 7 ryf, oAJ (ryf 0) cJ 8 ry0, oAJ (ryf 1) cJ 8 ry1, oAJ (ryf 2) cJ 8 ry2, oAJ (ryf 3) cJ 8 ry3, oAJ (ryf 4) cJ 8 ry4, oAJ (ryf 5) cJ 8 ry5, oAJ (ryf 6) cJ 8 ry6, oAM rla cH 7 rlf, oAJ (rlf 0) cJ 8 rl0, oAJ (rlf 1) cJ 8 rl1, oAJ (rlf 2) cJ 8 rl2, oAJ (rlf 3) cJ 8 rl3, oAJ (rlf 4) cJ 8 rl4, oAJ (rlf 5) cJ 8 rl5, oAJ (rlf 6) cJ 8 rl6]
abbrev Q_joinAny (D : va_G) (cI cJ cZ cG cH : ClassId) (rd : Nat) (tp : Nat) (rfa : Nat) (rya : Nat) (rla : Nat) (pl : Nat) (place : Int32) (kind : Int32) (from_ : Int32) (value : Int32) (told : Int32) (depth : Int32) (fault : Int32) (fplace : Int32) (ryf : Nat → Nat) (ry0 : Nat → Int64) (ry1 : Nat → Int64) (ry2 : Nat → Int64) (ry3 : Nat → Int64) (ry4 : Nat → Int64) (ry5 : Nat → Int64) (ry6 : Nat → Int64) (rlf : Nat → Nat) (rl0 : Nat → Int64) (rl1 : Nat → Int64) (rl2 : Nat → Int64) (rl3 : Nat → Int64) (rl4 : Nat → Int64) (rl5 : Nat → Int64) (rl6 : Nat → Int64) (A : Nat → Prop) : Array Value → State → Outcome → State → Prop := va_Qv (fun (_ : Unit) => True) (fun _ t => ∃ (ry09 : Nat → Int64) (ry19 : Nat → Int64) (ry29 : Nat → Int64) (ry39 : Nat → Int64) (ry49 : Nat → Int64) (ry59 : Nat → Int64) (ry69 : Nat → Int64) (rl09 : Nat → Int64) (rl19 : Nat → Int64) (rl29 : Nat → Int64) (rl39 : Nat → Int64) (rl49 : Nat → Int64) (rl59 : Nat → Int64) (rl69 : Nat → Int64), (M_joinAny depth ry0 ry1 ry2 ry3 ry4 ry5 ry6 rl0 rl1 rl2 rl3 rl4 rl5 rl6 = (ry09, ry19, ry29, ry39, ry49, ry59, ry69, rl09, rl19, rl29, rl39, rl49, rl59, rl69)) ∧ xB D (tyL cI cJ cZ cG cH) [oX4 rd tp rfa rya rla pl place kind from_ value told depth fault fplace, oAM rya cH 7 ryf, oAJ (ryf 0) cJ 8 ry09, oAJ (ryf 1) cJ 8 ry19, oAJ (ryf 2) cJ 8 ry29, oAJ (ryf 3) cJ 8 ry39, oAJ (ryf 4) cJ 8 ry49, oAJ (ryf 5) cJ 8 ry59, oAJ (ryf 6) cJ 8 ry69, oAM rla cH 7 rlf, oAJ (rlf 0) cJ 8 rl09, oAJ (rlf 1) cJ 8 rl19, oAJ (rlf 2) cJ 8 rl29, oAJ (rlf 3) cJ 8 rl39, oAJ (rlf 4) cJ 8 rl49, oAJ (rlf 5) cJ 8 rl59, oAJ (rlf 6) cJ 8 rl69] A t) A
abbrev rm_joinAny : Room := { frames := 0, cells := 0, slots := 0, locals := 0 }
set_option maxRecDepth 100000 in
set_option maxHeartbeats 40000000 in
theorem c_joinAny (l : Launch) (D : va_G) (cI cJ cZ cG cH : ClassId) (sz : Nat) (rd : Nat) (tp : Nat) (rfa : Nat) (rya : Nat) (rla : Nat) (pl : Nat) (place : Int32) (kind : Int32) (from_ : Int32) (value : Int32) (told : Int32) (depth : Int32) (fault : Int32) (fplace : Int32) (ryf : Nat → Nat) (ry0 : Nat → Int64) (ry1 : Nat → Int64) (ry2 : Nat → Int64) (ry3 : Nat → Int64) (ry4 : Nat → Int64) (ry5 : Nat → Int64) (ry6 : Nat → Int64) (rlf : Nat → Nat) (rl0 : Nat → Int64) (rl1 : Nat → Int64) (rl2 : Nat → Int64) (rl3 : Nat → Int64) (rl4 : Nat → Int64) (rl5 : Nat → Int64) (rl6 : Nat → Int64) (h_place : 0 ≤ place.toInt ∧ place.toInt ≤ 400) (h_from_ : 0 ≤ from_.toInt ∧ from_.toInt ≤ 400) (h_depth : 0 ≤ depth.toInt ∧ depth.toInt ≤ 6) : Met l yX4_joinAny (wt yX4_joinAny cX4_joinAny 2 none) rm_joinAny (xPc [.ref rd] D (tyL cI cJ cZ cG cH) (W_joinAny cI cJ cZ cG cH rd tp rfa rya rla pl place kind from_ value told depth fault fplace ryf ry0 ry1 ry2 ry3 ry4 ry5 ry6 rlf rl0 rl1 rl2 rl3 rl4 rl5 rl6) sz) (Q_joinAny D cI cJ cZ cG cH rd tp rfa rya rla pl place kind from_ value told depth fault fplace ryf ry0 ry1 ry2 ry3 ry4 ry5 ry6 rlf rl0 rl1 rl2 rl3 rl4 rl5 rl6 (va_A (W_joinAny cI cJ cZ cG cH rd tp rfa rya rla pl place kind from_ value told depth fault fplace ryf ry0 ry1 ry2 ry3 ry4 ry5 ry6 rlf rl0 rl1 rl2 rl3 rl4 rl5 rl6) sz)) 0 0 (va_A (W_joinAny cI cJ cZ cG cH rd tp rfa rya rla pl place kind from_ value told depth fault fplace ryf ry0 ry1 ry2 ry3 ry4 ry5 ry6 rlf rl0 rl1 rl2 rl3 rl4 rl5 rl6) sz) := by
  refine xMet (cc := cX4_joinAny) (maxL := 2) (ret := none) (Qf := Q_joinAny D cI cJ cZ cG cH rd tp rfa rya rla pl place kind from_ value told depth fault fplace ryf ry0 ry1 ry2 ry3 ry4 ry5 ry6 rlf rl0 rl1 rl2 rl3 rl4 rl5 rl6) (by decide) rfl (Nat.le_of_ble_eq_true rfl) ?_
  intro p e s m below meth c ls A hx hb hr hml hts hown hlocks hnm hsz hP hK hD hA hS hl
  have hown : s.vm.findClass RX4 = some m.cls := hown
  have hP : va_P D vwCl [oX4 rd tp rfa rya rla pl place kind from_ value told depth fault fplace, oAM rya cH 7 ryf, oAJ (ryf 0) cJ 8 ry0, oAJ (ryf 1) cJ 8 ry1, oAJ (ryf 2) cJ 8 ry2, oAJ (ryf 3) cJ 8 ry3, oAJ (ryf 4) cJ 8 ry4, oAJ (ryf 5) cJ 8 ry5, oAJ (ryf 6) cJ 8 ry6, oAM rla cH 7 rlf, oAJ (rlf 0) cJ 8 rl0, oAJ (rlf 1) cJ 8 rl1, oAJ (rlf 2) cJ 8 rl2, oAJ (rlf 3) cJ 8 rl3, oAJ (rlf 4) cJ 8 rl4, oAJ (rlf 5) cJ 8 rl5, oAJ (rlf 6) cJ 8 rl6] s.heap := hP
  have hD : va_D A [oX4 rd tp rfa rya rla pl place kind from_ value told depth fault fplace, oAM rya cH 7 ryf, oAJ (ryf 0) cJ 8 ry0, oAJ (ryf 1) cJ 8 ry1, oAJ (ryf 2) cJ 8 ry2, oAJ (ryf 3) cJ 8 ry3, oAJ (ryf 4) cJ 8 ry4, oAJ (ryf 5) cJ 8 ry5, oAJ (ryf 6) cJ 8 ry6, oAM rla cH 7 rlf, oAJ (rlf 0) cJ 8 rl0, oAJ (rlf 1) cJ 8 rl1, oAJ (rlf 2) cJ 8 rl2, oAJ (rlf 3) cJ 8 rl3, oAJ (rlf 4) cJ 8 rl4, oAJ (rlf 5) cJ 8 rl5, oAJ (rlf 6) cJ 8 rl6] := hD
  have hl : lv_has ls 2 [(0, .ref rd)] := hl
  have hM : M_joinAny depth ry0 ry1 ry2 ry3 ry4 ry5 ry6 rl0 rl1 rl2 rl3 rl4 rl5 rl6 = (K_joinAny_1 depth ry0 ry1 ry2 ry3 ry4 ry5 ry6 rl0 rl1 rl2 rl3 rl4 rl5 rl6) := rfl
  refine lv_iconst (v := 0) hx hb dX4_joinAny_0 (by decide) ?_
  refine lv_istore_n (lv' := [(1, .int 0), (0, .ref rd)]) hx hb dX4_joinAny_1 rfl hl (by decide) rfl (fun ls hl => ?_)
  have hl230 : ∀ (nhl230 : Nat) (x215 : Int32) (f216 : Nat → Int64) (f217 : Nat → Int64) (f218 : Nat → Int64) (f219 : Nat → Int64) (f220 : Nat → Int64) (f221 : Nat → Int64) (f222 : Nat → Int64) (f223 : Nat → Int64) (f224 : Nat → Int64) (f225 : Nat → Int64) (f226 : Nat → Int64) (f227 : Nat → Int64) (f228 : Nat → Int64) (f229 : Nat → Int64), ((8 - x215.toInt).toNat < nhl230) → (hx215 : 0 ≤ x215.toInt ∧ x215.toInt ≤ 8) → (hM : M_joinAny depth ry0 ry1 ry2 ry3 ry4 ry5 ry6 rl0 rl1 rl2 rl3 rl4 rl5 rl6 = (K_joinAny_L2 depth nhl230 x215 f216 f217 f218 f219 f220 f221 f222 f223 f224 f225 f226 f227 f228 f229)) → ∀ (H : Heap) (locs : List Loc), va_P D vwCl [oX4 rd tp rfa rya rla pl place kind from_ value told depth fault fplace, oAM rya cH 7 ryf, oAJ (ryf 0) cJ 8 f216, oAJ (ryf 1) cJ 8 f217, oAJ (ryf 2) cJ 8 f218, oAJ (ryf 3) cJ 8 f219, oAJ (ryf 4) cJ 8 f220, oAJ (ryf 5) cJ 8 f221, oAJ (ryf 6) cJ 8 f222, oAM rla cH 7 rlf, oAJ (rlf 0) cJ 8 f223, oAJ (rlf 1) cJ 8 f224, oAJ (rlf 2) cJ 8 f225, oAJ (rlf 3) cJ 8 f226, oAJ (rlf 4) cJ 8 f227, oAJ (rlf 5) cJ 8 f228, oAJ (rlf 6) cJ 8 f229] H → va_D A [oX4 rd tp rfa rya rla pl place kind from_ value told depth fault fplace, oAM rya cH 7 ryf, oAJ (ryf 0) cJ 8 f216, oAJ (ryf 1) cJ 8 f217, oAJ (ryf 2) cJ 8 f218, oAJ (ryf 3) cJ 8 f219, oAJ (ryf 4) cJ 8 f220, oAJ (ryf 5) cJ 8 f221, oAJ (ryf 6) cJ 8 f222, oAM rla cH 7 rlf, oAJ (rlf 0) cJ 8 f223, oAJ (rlf 1) cJ 8 f224, oAJ (rlf 2) cJ 8 f225, oAJ (rlf 3) cJ 8 f226, oAJ (rlf 4) cJ 8 f227, oAJ (rlf 5) cJ 8 f228, oAJ (rlf 6) cJ 8 f229] → va_S A s.heap H locs → ∀ (ls : Array Slot), lv_has ls 2 [(1, .int x215), (0, .ref rd)] → W p l e rm_joinAny s m [Value.ref rd].toArray below meth c H locs 0 0 (MQ below ((Q_joinAny D cI cJ cZ cG cH rd tp rfa rya rla pl place kind from_ value told depth fault fplace ryf ry0 ry1 ry2 ry3 ry4 ry5 ry6 rlf rl0 rl1 rl2 rl3 rl4 rl5 rl6) A) [Value.ref rd].toArray s 0 0 A) (F0 m 2 ls []) := by
    intro nhl230
    induction nhl230 with
    | zero =>
      intro x215 f216 f217 f218 f219 f220 f221 f222 f223 f224 f225 f226 f227 f228 f229 hmhl230
      exact absurd hmhl230 (Nat.not_lt_zero _)
    | succ nhl230 ihhl230 =>
      intro x215 f216 f217 f218 f219 f220 f221 f222 f223 f224 f225 f226 f227 f228 f229 hmhl230 hx215 hM H locs hP hD hS ls hl
      have hM : M_joinAny depth ry0 ry1 ry2 ry3 ry4 ry5 ry6 rl0 rl1 rl2 rl3 rl4 rl5 rl6 = (K_joinAny_2 x215 f216 f217 f218 f219 f220 f221 f222 f223 f224 f225 f226 f227 f228 f229 depth (K_joinAny_L2 depth nhl230)) := hM
      refine lv_iload_n hx hb dX4_joinAny_2 rfl (lv_at hl 0 rfl) ?_
      refine lv_bipush (v := 8) hx hb dX4_joinAny_3 (by decide) ?_
      refine lv_icmp_ge (tgt := 53) hx hb dX4_joinAny_5 (by decide) (fun c_231 => ?_) (fun c_231 => ?_)
      · skip
        have i_231 : 8 ≤ x215.toInt := (ile (by decide) rfl).mp c_231
        have hM : M_joinAny depth ry0 ry1 ry2 ry3 ry4 ry5 ry6 rl0 rl1 rl2 rl3 rl4 rl5 rl6 = (K_joinAny_3 f216 f217 f218 f219 f220 f221 f222 f223 f224 f225 f226 f227 f228 f229) := (show M_joinAny depth ry0 ry1 ry2 ry3 ry4 ry5 ry6 rl0 rl1 rl2 rl3 rl4 rl5 rl6 = (if 8 ≤ x215.toInt then (K_joinAny_3 f216 f217 f218 f219 f220 f221 f222 f223 f224 f225 f226 f227 f228 f229) else (K_joinAny_4 depth (K_joinAny_L2 depth nhl230) x215 f216 f223 f217 f218 f219 f220 f221 f222 f224 f225 f226 f227 f228 f229)) from hM).trans (if_pos i_231)
        refine W.widen (k := 0) (n := 0) (by decide) (by decide) ?_
        exact W.vret hx hb hr (fun t ht hW => ⟨⟨(), rfl, trivial, ⟨f216, f217, f218, f219, f220, f221, f222, f223, f224, f225, f226, f227, f228, f229, hM, xB_of9 ht hW hP hK hD [0, 1, 2, 3, 4, 5, 6, 7, 8, 9, 10, 11, 12, 13, 14, 15, 16] (by decide +kernel) rfl⟩⟩, hS.F ht⟩) hS.2.2 dX4_joinAny_53
      · skip
        have i_231 : ¬ (8 ≤ x215.toInt) := fun h9 => c_231 ((ile (by decide) rfl).mpr h9)
        have hM : M_joinAny depth ry0 ry1 ry2 ry3 ry4 ry5 ry6 rl0 rl1 rl2 rl3 rl4 rl5 rl6 = (K_joinAny_4 depth (K_joinAny_L2 depth nhl230) x215 f216 f223 f217 f218 f219 f220 f221 f222 f224 f225 f226 f227 f228 f229) := (show M_joinAny depth ry0 ry1 ry2 ry3 ry4 ry5 ry6 rl0 rl1 rl2 rl3 rl4 rl5 rl6 = (if 8 ≤ x215.toInt then (K_joinAny_3 f216 f217 f218 f219 f220 f221 f222 f223 f224 f225 f226 f227 f228 f229) else (K_joinAny_4 depth (K_joinAny_L2 depth nhl230) x215 f216 f223 f217 f218 f219 f220 f221 f222 f224 f225 f226 f227 f228 f229)) from hM).trans (if_neg i_231)
        refine lv_aload_n hx hb dX4_joinAny_8 rfl (lv_at hl 1 rfl) ?_
        refine va_get (D := D) (ci := 3) (v := .ref rya) (C := RX4) (T := TX4) (N := 13) hx hb hts (fun w h => tbC w (tbfX4 w h)) hown hK hP 0 rfl rfl 2 (by decide) (hts (.fieldLink RX4 27 "PowerRails$Reader" "any" "[[J") (tbC _ wd234)) (fun _ h9 => h9) rfl dX4_joinAny_9 ?_
        refine lv_aload_n hx hb dX4_joinAny_12 rfl (lv_at hl 1 rfl) ?_
        refine va_get (D := D) (ci := 3) (v := .int depth) (C := RX4) (T := TX4) (N := 13) hx hb hts (fun w h => tbC w (tbfX4 w h)) hown hK hP 0 rfl rfl 10 (by decide) (hts (.fieldLink RX4 176 "PowerRails$Reader" "depth" "I") (tbC _ wd242)) (fun _ h9 => h9) rfl dX4_joinAny_13 ?_
        by_cases h232 : depth.toInt = 0
        · skip
          have hM : M_joinAny depth ry0 ry1 ry2 ry3 ry4 ry5 ry6 rl0 rl1 rl2 rl3 rl4 rl5 rl6 = (K_joinAny_5 (K_joinAny_L2 depth nhl230) x215 f216 f223 f217 f218 f219 f220 f221 f222 f224 f225 f226 f227 f228 f229) := (show M_joinAny depth ry0 ry1 ry2 ry3 ry4 ry5 ry6 rl0 rl1 rl2 rl3 rl4 rl5 rl6 = (if depth.toInt = 0 then (K_joinAny_5 (K_joinAny_L2 depth nhl230) x215 f216 f223 f217 f218 f219 f220 f221 f222 f224 f225 f226 f227 f228 f229) else (K_joinAny_6 depth (K_joinAny_L2 depth nhl230) x215 f216 f217 f224 f218 f219 f220 f221 f222 f223 f225 f226 f227 f228 f229)) from hM).trans (if_pos h232)
          refine xaldA hx hb hK hP 1 4 rfl rfl (vp_in_iff.mpr ⟨by omega, by omega⟩) dX4_joinAny_16 (v := .ref (ryf 0)) (by rw [xclamp (j := 0) (rfl.trans h232)]; rfl) ?_
          refine lv_iload_n hx hb dX4_joinAny_17 rfl (lv_at hl 0 rfl) ?_
          refine lv_dup2_11 hx hb dX4_joinAny_18 rfl rfl ?_
          refine va_lald hx hb hK hP 2 1 rfl rfl (vp_in_iff.mpr ⟨by omega, by omega⟩) dX4_joinAny_19 ?_
          refine lv_topl (fun v233 ev233 => ?_)
          refine lv_aload_n hx hb dX4_joinAny_20 rfl (lv_at hl 1 rfl) ?_
          refine va_get (D := D) (ci := 3) (v := .ref rla) (C := RX4) (T := TX4) (N := 13) hx hb hts (fun w h => tbC w (tbfX4 w h)) hown hK hP 0 rfl rfl 3 (by decide) (hts (.fieldLink RX4 30 "PowerRails$Reader" "all" "[[J") (tbC _ wd235)) (fun _ h9 => h9) rfl dX4_joinAny_21 ?_
          refine lv_aload_n hx hb dX4_joinAny_24 rfl (lv_at hl 1 rfl) ?_
          refine va_get (D := D) (ci := 3) (v := .int depth) (C := RX4) (T := TX4) (N := 13) hx hb hts (fun w h => tbC w (tbfX4 w h)) hown hK hP 0 rfl rfl 10 (by decide) (hts (.fieldLink RX4 176 "PowerRails$Reader" "depth" "I") (tbC _ wd242)) (fun _ h9 => h9) rfl dX4_joinAny_25 ?_
          have h234 : depth.toInt = 0 := by omega
          refine xaldA hx hb hK hP 9 4 rfl rfl (vp_in_iff.mpr ⟨by omega, by omega⟩) dX4_joinAny_28 (v := .ref (rlf 0)) (by rw [xclamp (j := 0) (rfl.trans h234)]; rfl) ?_
          refine lv_iload_n hx hb dX4_joinAny_29 rfl (lv_at hl 0 rfl) ?_
          refine va_lald hx hb hK hP 10 1 rfl rfl (vp_in_iff.mpr ⟨by omega, by omega⟩) dX4_joinAny_30 ?_
          refine lv_topl (fun v235 ev235 => ?_)
          refine lv_lor hx hb dX4_joinAny_31 ?_
          refine lv_topl (fun v236 ev236 => ?_)
          refine va_last hx hb hK hP hD hS 2 1 rfl rfl (vp_in_iff.mpr ⟨by omega, by omega⟩) dX4_joinAny_32 (fun H locs hP hD hS => ?_)
          obtain ⟨f237, ef237⟩ : ∃ fz9 : Nat → Int64, fz9 = vp_updL f216 (x215 : Int32).toNatClampNeg v236 := ⟨_, rfl⟩
          have hP : va_P D vwCl [oX4 rd tp rfa rya rla pl place kind from_ value told depth fault fplace, oAM rya cH 7 ryf, oAJ (ryf 0) cJ 8 f237, oAJ (ryf 1) cJ 8 f217, oAJ (ryf 2) cJ 8 f218, oAJ (ryf 3) cJ 8 f219, oAJ (ryf 4) cJ 8 f220, oAJ (ryf 5) cJ 8 f221, oAJ (ryf 6) cJ 8 f222, oAM rla cH 7 rlf, oAJ (rlf 0) cJ 8 f223, oAJ (rlf 1) cJ 8 f224, oAJ (rlf 2) cJ 8 f225, oAJ (rlf 3) cJ 8 f226, oAJ (rlf 4) cJ 8 f227, oAJ (rlf 5) cJ 8 f228, oAJ (rlf 6) cJ 8 f229] H := by rw [ef237]; exact hP
          have hD : va_D A [oX4 rd tp rfa rya rla pl place kind from_ value told depth fault fplace, oAM rya cH 7 ryf, oAJ (ryf 0) cJ 8 f237, oAJ (ryf 1) cJ 8 f217, oAJ (ryf 2) cJ 8 f218, oAJ (ryf 3) cJ 8 f219, oAJ (ryf 4) cJ 8 f220, oAJ (ryf 5) cJ 8 f221, oAJ (ryf 6) cJ 8 f222, oAM rla cH 7 rlf, oAJ (rlf 0) cJ 8 f223, oAJ (rlf 1) cJ 8 f224, oAJ (rlf 2) cJ 8 f225, oAJ (rlf 3) cJ 8 f226, oAJ (rlf 4) cJ 8 f227, oAJ (rlf 5) cJ 8 f228, oAJ (rlf 6) cJ 8 f229] := by rw [ef237]; exact hD
          refine lv_aload_n hx hb dX4_joinAny_33 rfl (lv_at hl 1 rfl) ?_
          refine va_get (D := D) (ci := 3) (v := .ref rla) (C := RX4) (T := TX4) (N := 13) hx hb hts (fun w h => tbC w (tbfX4 w h)) hown hK hP 0 rfl rfl 3 (by decide) (hts (.fieldLink RX4 30 "PowerRails$Reader" "all" "[[J") (tbC _ wd235)) (fun _ h9 => h9) rfl dX4_joinAny_34 ?_
          refine lv_aload_n hx hb dX4_joinAny_37 rfl (lv_at hl 1 rfl) ?_
          refine va_get (D := D) (ci := 3) (v := .int depth) (C := RX4) (T := TX4) (N := 13) hx hb hts (fun w h => tbC w (tbfX4 w h)) hown hK hP 0 rfl rfl 10 (by decide) (hts (.fieldLink RX4 176 "PowerRails$Reader" "depth" "I") (tbC _ wd242)) (fun _ h9 => h9) rfl dX4_joinAny_38 ?_
          have h238 : depth.toInt = 0 := by omega
          refine xaldA hx hb hK hP 9 4 rfl rfl (vp_in_iff.mpr ⟨by omega, by omega⟩) dX4_joinAny_41 (v := .ref (rlf 0)) (by rw [xclamp (j := 0) (rfl.trans h238)]; rfl) ?_
          refine lv_iload_n hx hb dX4_joinAny_42 rfl (lv_at hl 0 rfl) ?_
          refine lv_ldc2 (v := (-1)) hx hb hown (hts (.constantLong RX4 203 (-1)) (tbC _ wd357)) dX4_joinAny_43 ?_
          refine va_last hx hb hK hP hD hS 10 1 rfl rfl (vp_in_iff.mpr ⟨by omega, by omega⟩) dX4_joinAny_46 (fun H locs hP hD hS => ?_)
          obtain ⟨f239, ef239⟩ : ∃ fz9 : Nat → Int64, fz9 = vp_updL f223 (x215 : Int32).toNatClampNeg (-1) := ⟨_, rfl⟩
          have hP : va_P D vwCl [oX4 rd tp rfa rya rla pl place kind from_ value told depth fault fplace, oAM rya cH 7 ryf, oAJ (ryf 0) cJ 8 f237, oAJ (ryf 1) cJ 8 f217, oAJ (ryf 2) cJ 8 f218, oAJ (ryf 3) cJ 8 f219, oAJ (ryf 4) cJ 8 f220, oAJ (ryf 5) cJ 8 f221, oAJ (ryf 6) cJ 8 f222, oAM rla cH 7 rlf, oAJ (rlf 0) cJ 8 f239, oAJ (rlf 1) cJ 8 f224, oAJ (rlf 2) cJ 8 f225, oAJ (rlf 3) cJ 8 f226, oAJ (rlf 4) cJ 8 f227, oAJ (rlf 5) cJ 8 f228, oAJ (rlf 6) cJ 8 f229] H := by rw [ef239]; exact hP
          have hD : va_D A [oX4 rd tp rfa rya rla pl place kind from_ value told depth fault fplace, oAM rya cH 7 ryf, oAJ (ryf 0) cJ 8 f237, oAJ (ryf 1) cJ 8 f217, oAJ (ryf 2) cJ 8 f218, oAJ (ryf 3) cJ 8 f219, oAJ (ryf 4) cJ 8 f220, oAJ (ryf 5) cJ 8 f221, oAJ (ryf 6) cJ 8 f222, oAM rla cH 7 rlf, oAJ (rlf 0) cJ 8 f239, oAJ (rlf 1) cJ 8 f224, oAJ (rlf 2) cJ 8 f225, oAJ (rlf 3) cJ 8 f226, oAJ (rlf 4) cJ 8 f227, oAJ (rlf 5) cJ 8 f228, oAJ (rlf 6) cJ 8 f229] := by rw [ef239]; exact hD
          obtain ⟨x240, ex240⟩ : ∃ y : Int32, y = x215 + 1 := ⟨_, rfl⟩
          have tx240 : x240.toInt = (x215.toInt + 1) := (congrArg Int32.toInt ex240).trans (xadd rfl (by decide) (by omega) (by omega))
          refine lv_iinc (v := x240) (lv' := [(1, .int x240), (0, .ref rd)]) hx hb dX4_joinAny_47 hl (k := 0) rfl (by rw [ex240]; rfl) (by decide) rfl (fun ls hl => ?_)
          refine lv_goto (tgt := 2) hx hb dX4_joinAny_50 (by decide) ?_
          exact ihhl230 x240 f237 f217 f218 f219 f220 f221 f222 f239 f224 f225 f226 f227 f228 f229 (by omega) (xrng tx240 (by omega) (by omega)) (by rw [ex240, ef239, ef237, ev236, ev235, ev233]; exact hM) _ _ hP hD hS ls (lv_sub hl [0, 1] rfl)
        have hM : M_joinAny depth ry0 ry1 ry2 ry3 ry4 ry5 ry6 rl0 rl1 rl2 rl3 rl4 rl5 rl6 = (K_joinAny_6 depth (K_joinAny_L2 depth nhl230) x215 f216 f217 f224 f218 f219 f220 f221 f222 f223 f225 f226 f227 f228 f229) := (show M_joinAny depth ry0 ry1 ry2 ry3 ry4 ry5 ry6 rl0 rl1 rl2 rl3 rl4 rl5 rl6 = (if depth.toInt = 0 then (K_joinAny_5 (K_joinAny_L2 depth nhl230) x215 f216 f223 f217 f218 f219 f220 f221 f222 f224 f225 f226 f227 f228 f229) else (K_joinAny_6 depth (K_joinAny_L2 depth nhl230) x215 f216 f217 f224 f218 f219 f220 f221 f222 f223 f225 f226 f227 f228 f229)) from hM).trans (if_neg h232)
        by_cases h241 : depth.toInt = 1
        · skip
          have hM : M_joinAny depth ry0 ry1 ry2 ry3 ry4 ry5 ry6 rl0 rl1 rl2 rl3 rl4 rl5 rl6 = (K_joinAny_7 (K_joinAny_L2 depth nhl230) x215 f216 f217 f224 f218 f219 f220 f221 f222 f223 f225 f226 f227 f228 f229) := (show M_joinAny depth ry0 ry1 ry2 ry3 ry4 ry5 ry6 rl0 rl1 rl2 rl3 rl4 rl5 rl6 = (if depth.toInt = 1 then (K_joinAny_7 (K_joinAny_L2 depth nhl230) x215 f216 f217 f224 f218 f219 f220 f221 f222 f223 f225 f226 f227 f228 f229) else (K_joinAny_8 depth (K_joinAny_L2 depth nhl230) x215 f216 f217 f218 f225 f219 f220 f221 f222 f223 f224 f226 f227 f228 f229)) from hM).trans (if_pos h241)
          refine xaldA hx hb hK hP 1 4 rfl rfl (vp_in_iff.mpr ⟨by omega, by omega⟩) dX4_joinAny_16 (v := .ref (ryf 1)) (by rw [xclamp (j := 1) (rfl.trans h241)]; rfl) ?_
          refine lv_iload_n hx hb dX4_joinAny_17 rfl (lv_at hl 0 rfl) ?_
          refine lv_dup2_11 hx hb dX4_joinAny_18 rfl rfl ?_
          refine va_lald hx hb hK hP 3 1 rfl rfl (vp_in_iff.mpr ⟨by omega, by omega⟩) dX4_joinAny_19 ?_
          refine lv_topl (fun v242 ev242 => ?_)
          refine lv_aload_n hx hb dX4_joinAny_20 rfl (lv_at hl 1 rfl) ?_
          refine va_get (D := D) (ci := 3) (v := .ref rla) (C := RX4) (T := TX4) (N := 13) hx hb hts (fun w h => tbC w (tbfX4 w h)) hown hK hP 0 rfl rfl 3 (by decide) (hts (.fieldLink RX4 30 "PowerRails$Reader" "all" "[[J") (tbC _ wd235)) (fun _ h9 => h9) rfl dX4_joinAny_21 ?_
          refine lv_aload_n hx hb dX4_joinAny_24 rfl (lv_at hl 1 rfl) ?_
          refine va_get (D := D) (ci := 3) (v := .int depth) (C := RX4) (T := TX4) (N := 13) hx hb hts (fun w h => tbC w (tbfX4 w h)) hown hK hP 0 rfl rfl 10 (by decide) (hts (.fieldLink RX4 176 "PowerRails$Reader" "depth" "I") (tbC _ wd242)) (fun _ h9 => h9) rfl dX4_joinAny_25 ?_
          have h243 : depth.toInt = 1 := by omega
          refine xaldA hx hb hK hP 9 4 rfl rfl (vp_in_iff.mpr ⟨by omega, by omega⟩) dX4_joinAny_28 (v := .ref (rlf 1)) (by rw [xclamp (j := 1) (rfl.trans h243)]; rfl) ?_
          refine lv_iload_n hx hb dX4_joinAny_29 rfl (lv_at hl 0 rfl) ?_
          refine va_lald hx hb hK hP 11 1 rfl rfl (vp_in_iff.mpr ⟨by omega, by omega⟩) dX4_joinAny_30 ?_
          refine lv_topl (fun v244 ev244 => ?_)
          refine lv_lor hx hb dX4_joinAny_31 ?_
          refine lv_topl (fun v245 ev245 => ?_)
          refine va_last hx hb hK hP hD hS 3 1 rfl rfl (vp_in_iff.mpr ⟨by omega, by omega⟩) dX4_joinAny_32 (fun H locs hP hD hS => ?_)
          obtain ⟨f246, ef246⟩ : ∃ fz9 : Nat → Int64, fz9 = vp_updL f217 (x215 : Int32).toNatClampNeg v245 := ⟨_, rfl⟩
          have hP : va_P D vwCl [oX4 rd tp rfa rya rla pl place kind from_ value told depth fault fplace, oAM rya cH 7 ryf, oAJ (ryf 0) cJ 8 f216, oAJ (ryf 1) cJ 8 f246, oAJ (ryf 2) cJ 8 f218, oAJ (ryf 3) cJ 8 f219, oAJ (ryf 4) cJ 8 f220, oAJ (ryf 5) cJ 8 f221, oAJ (ryf 6) cJ 8 f222, oAM rla cH 7 rlf, oAJ (rlf 0) cJ 8 f223, oAJ (rlf 1) cJ 8 f224, oAJ (rlf 2) cJ 8 f225, oAJ (rlf 3) cJ 8 f226, oAJ (rlf 4) cJ 8 f227, oAJ (rlf 5) cJ 8 f228, oAJ (rlf 6) cJ 8 f229] H := by rw [ef246]; exact hP
          have hD : va_D A [oX4 rd tp rfa rya rla pl place kind from_ value told depth fault fplace, oAM rya cH 7 ryf, oAJ (ryf 0) cJ 8 f216, oAJ (ryf 1) cJ 8 f246, oAJ (ryf 2) cJ 8 f218, oAJ (ryf 3) cJ 8 f219, oAJ (ryf 4) cJ 8 f220, oAJ (ryf 5) cJ 8 f221, oAJ (ryf 6) cJ 8 f222, oAM rla cH 7 rlf, oAJ (rlf 0) cJ 8 f223, oAJ (rlf 1) cJ 8 f224, oAJ (rlf 2) cJ 8 f225, oAJ (rlf 3) cJ 8 f226, oAJ (rlf 4) cJ 8 f227, oAJ (rlf 5) cJ 8 f228, oAJ (rlf 6) cJ 8 f229] := by rw [ef246]; exact hD
          refine lv_aload_n hx hb dX4_joinAny_33 rfl (lv_at hl 1 rfl) ?_
          refine va_get (D := D) (ci := 3) (v := .ref rla) (C := RX4) (T := TX4) (N := 13) hx hb hts (fun w h => tbC w (tbfX4 w h)) hown hK hP 0 rfl rfl 3 (by decide) (hts (.fieldLink RX4 30 "PowerRails$Reader" "all" "[[J") (tbC _ wd235)) (fun _ h9 => h9) rfl dX4_joinAny_34 ?_
          refine lv_aload_n hx hb dX4_joinAny_37 rfl (lv_at hl 1 rfl) ?_
          refine va_get (D := D) (ci := 3) (v := .int depth) (C := RX4) (T := TX4) (N := 13) hx hb hts (fun w h => tbC w (tbfX4 w h)) hown hK hP 0 rfl rfl 10 (by decide) (hts (.fieldLink RX4 176 "PowerRails$Reader" "depth" "I") (tbC _ wd242)) (fun _ h9 => h9) rfl dX4_joinAny_38 ?_
          have h247 : depth.toInt = 1 := by omega
          refine xaldA hx hb hK hP 9 4 rfl rfl (vp_in_iff.mpr ⟨by omega, by omega⟩) dX4_joinAny_41 (v := .ref (rlf 1)) (by rw [xclamp (j := 1) (rfl.trans h247)]; rfl) ?_
          refine lv_iload_n hx hb dX4_joinAny_42 rfl (lv_at hl 0 rfl) ?_
          refine lv_ldc2 (v := (-1)) hx hb hown (hts (.constantLong RX4 203 (-1)) (tbC _ wd357)) dX4_joinAny_43 ?_
          refine va_last hx hb hK hP hD hS 11 1 rfl rfl (vp_in_iff.mpr ⟨by omega, by omega⟩) dX4_joinAny_46 (fun H locs hP hD hS => ?_)
          obtain ⟨f248, ef248⟩ : ∃ fz9 : Nat → Int64, fz9 = vp_updL f224 (x215 : Int32).toNatClampNeg (-1) := ⟨_, rfl⟩
          have hP : va_P D vwCl [oX4 rd tp rfa rya rla pl place kind from_ value told depth fault fplace, oAM rya cH 7 ryf, oAJ (ryf 0) cJ 8 f216, oAJ (ryf 1) cJ 8 f246, oAJ (ryf 2) cJ 8 f218, oAJ (ryf 3) cJ 8 f219, oAJ (ryf 4) cJ 8 f220, oAJ (ryf 5) cJ 8 f221, oAJ (ryf 6) cJ 8 f222, oAM rla cH 7 rlf, oAJ (rlf 0) cJ 8 f223, oAJ (rlf 1) cJ 8 f248, oAJ (rlf 2) cJ 8 f225, oAJ (rlf 3) cJ 8 f226, oAJ (rlf 4) cJ 8 f227, oAJ (rlf 5) cJ 8 f228, oAJ (rlf 6) cJ 8 f229] H := by rw [ef248]; exact hP
          have hD : va_D A [oX4 rd tp rfa rya rla pl place kind from_ value told depth fault fplace, oAM rya cH 7 ryf, oAJ (ryf 0) cJ 8 f216, oAJ (ryf 1) cJ 8 f246, oAJ (ryf 2) cJ 8 f218, oAJ (ryf 3) cJ 8 f219, oAJ (ryf 4) cJ 8 f220, oAJ (ryf 5) cJ 8 f221, oAJ (ryf 6) cJ 8 f222, oAM rla cH 7 rlf, oAJ (rlf 0) cJ 8 f223, oAJ (rlf 1) cJ 8 f248, oAJ (rlf 2) cJ 8 f225, oAJ (rlf 3) cJ 8 f226, oAJ (rlf 4) cJ 8 f227, oAJ (rlf 5) cJ 8 f228, oAJ (rlf 6) cJ 8 f229] := by rw [ef248]; exact hD
          obtain ⟨x249, ex249⟩ : ∃ y : Int32, y = x215 + 1 := ⟨_, rfl⟩
          have tx249 : x249.toInt = (x215.toInt + 1) := (congrArg Int32.toInt ex249).trans (xadd rfl (by decide) (by omega) (by omega))
          refine lv_iinc (v := x249) (lv' := [(1, .int x249), (0, .ref rd)]) hx hb dX4_joinAny_47 hl (k := 0) rfl (by rw [ex249]; rfl) (by decide) rfl (fun ls hl => ?_)
          refine lv_goto (tgt := 2) hx hb dX4_joinAny_50 (by decide) ?_
          exact ihhl230 x249 f216 f246 f218 f219 f220 f221 f222 f223 f248 f225 f226 f227 f228 f229 (by omega) (xrng tx249 (by omega) (by omega)) (by rw [ex249, ef248, ef246, ev245, ev244, ev242]; exact hM) _ _ hP hD hS ls (lv_sub hl [0, 1] rfl)
        have hM : M_joinAny depth ry0 ry1 ry2 ry3 ry4 ry5 ry6 rl0 rl1 rl2 rl3 rl4 rl5 rl6 = (K_joinAny_8 depth (K_joinAny_L2 depth nhl230) x215 f216 f217 f218 f225 f219 f220 f221 f222 f223 f224 f226 f227 f228 f229) := (show M_joinAny depth ry0 ry1 ry2 ry3 ry4 ry5 ry6 rl0 rl1 rl2 rl3 rl4 rl5 rl6 = (if depth.toInt = 1 then (K_joinAny_7 (K_joinAny_L2 depth nhl230) x215 f216 f217 f224 f218 f219 f220 f221 f222 f223 f225 f226 f227 f228 f229) else (K_joinAny_8 depth (K_joinAny_L2 depth nhl230) x215 f216 f217 f218 f225 f219 f220 f221 f222 f223 f224 f226 f227 f228 f229)) from hM).trans (if_neg h241)
        by_cases h250 : depth.toInt = 2
        · skip
          have hM : M_joinAny depth ry0 ry1 ry2 ry3 ry4 ry5 ry6 rl0 rl1 rl2 rl3 rl4 rl5 rl6 = (K_joinAny_9 (K_joinAny_L2 depth nhl230) x215 f216 f217 f218 f225 f219 f220 f221 f222 f223 f224 f226 f227 f228 f229) := (show M_joinAny depth ry0 ry1 ry2 ry3 ry4 ry5 ry6 rl0 rl1 rl2 rl3 rl4 rl5 rl6 = (if depth.toInt = 2 then (K_joinAny_9 (K_joinAny_L2 depth nhl230) x215 f216 f217 f218 f225 f219 f220 f221 f222 f223 f224 f226 f227 f228 f229) else (K_joinAny_10 depth (K_joinAny_L2 depth nhl230) x215 f216 f217 f218 f219 f226 f220 f221 f222 f223 f224 f225 f227 f228 f229)) from hM).trans (if_pos h250)
          refine xaldA hx hb hK hP 1 4 rfl rfl (vp_in_iff.mpr ⟨by omega, by omega⟩) dX4_joinAny_16 (v := .ref (ryf 2)) (by rw [xclamp (j := 2) (rfl.trans h250)]; rfl) ?_
          refine lv_iload_n hx hb dX4_joinAny_17 rfl (lv_at hl 0 rfl) ?_
          refine lv_dup2_11 hx hb dX4_joinAny_18 rfl rfl ?_
          refine va_lald hx hb hK hP 4 1 rfl rfl (vp_in_iff.mpr ⟨by omega, by omega⟩) dX4_joinAny_19 ?_
          refine lv_topl (fun v251 ev251 => ?_)
          refine lv_aload_n hx hb dX4_joinAny_20 rfl (lv_at hl 1 rfl) ?_
          refine va_get (D := D) (ci := 3) (v := .ref rla) (C := RX4) (T := TX4) (N := 13) hx hb hts (fun w h => tbC w (tbfX4 w h)) hown hK hP 0 rfl rfl 3 (by decide) (hts (.fieldLink RX4 30 "PowerRails$Reader" "all" "[[J") (tbC _ wd235)) (fun _ h9 => h9) rfl dX4_joinAny_21 ?_
          refine lv_aload_n hx hb dX4_joinAny_24 rfl (lv_at hl 1 rfl) ?_
          refine va_get (D := D) (ci := 3) (v := .int depth) (C := RX4) (T := TX4) (N := 13) hx hb hts (fun w h => tbC w (tbfX4 w h)) hown hK hP 0 rfl rfl 10 (by decide) (hts (.fieldLink RX4 176 "PowerRails$Reader" "depth" "I") (tbC _ wd242)) (fun _ h9 => h9) rfl dX4_joinAny_25 ?_
          have h252 : depth.toInt = 2 := by omega
          refine xaldA hx hb hK hP 9 4 rfl rfl (vp_in_iff.mpr ⟨by omega, by omega⟩) dX4_joinAny_28 (v := .ref (rlf 2)) (by rw [xclamp (j := 2) (rfl.trans h252)]; rfl) ?_
          refine lv_iload_n hx hb dX4_joinAny_29 rfl (lv_at hl 0 rfl) ?_
          refine va_lald hx hb hK hP 12 1 rfl rfl (vp_in_iff.mpr ⟨by omega, by omega⟩) dX4_joinAny_30 ?_
          refine lv_topl (fun v253 ev253 => ?_)
          refine lv_lor hx hb dX4_joinAny_31 ?_
          refine lv_topl (fun v254 ev254 => ?_)
          refine va_last hx hb hK hP hD hS 4 1 rfl rfl (vp_in_iff.mpr ⟨by omega, by omega⟩) dX4_joinAny_32 (fun H locs hP hD hS => ?_)
          obtain ⟨f255, ef255⟩ : ∃ fz9 : Nat → Int64, fz9 = vp_updL f218 (x215 : Int32).toNatClampNeg v254 := ⟨_, rfl⟩
          have hP : va_P D vwCl [oX4 rd tp rfa rya rla pl place kind from_ value told depth fault fplace, oAM rya cH 7 ryf, oAJ (ryf 0) cJ 8 f216, oAJ (ryf 1) cJ 8 f217, oAJ (ryf 2) cJ 8 f255, oAJ (ryf 3) cJ 8 f219, oAJ (ryf 4) cJ 8 f220, oAJ (ryf 5) cJ 8 f221, oAJ (ryf 6) cJ 8 f222, oAM rla cH 7 rlf, oAJ (rlf 0) cJ 8 f223, oAJ (rlf 1) cJ 8 f224, oAJ (rlf 2) cJ 8 f225, oAJ (rlf 3) cJ 8 f226, oAJ (rlf 4) cJ 8 f227, oAJ (rlf 5) cJ 8 f228, oAJ (rlf 6) cJ 8 f229] H := by rw [ef255]; exact hP
          have hD : va_D A [oX4 rd tp rfa rya rla pl place kind from_ value told depth fault fplace, oAM rya cH 7 ryf, oAJ (ryf 0) cJ 8 f216, oAJ (ryf 1) cJ 8 f217, oAJ (ryf 2) cJ 8 f255, oAJ (ryf 3) cJ 8 f219, oAJ (ryf 4) cJ 8 f220, oAJ (ryf 5) cJ 8 f221, oAJ (ryf 6) cJ 8 f222, oAM rla cH 7 rlf, oAJ (rlf 0) cJ 8 f223, oAJ (rlf 1) cJ 8 f224, oAJ (rlf 2) cJ 8 f225, oAJ (rlf 3) cJ 8 f226, oAJ (rlf 4) cJ 8 f227, oAJ (rlf 5) cJ 8 f228, oAJ (rlf 6) cJ 8 f229] := by rw [ef255]; exact hD
          refine lv_aload_n hx hb dX4_joinAny_33 rfl (lv_at hl 1 rfl) ?_
          refine va_get (D := D) (ci := 3) (v := .ref rla) (C := RX4) (T := TX4) (N := 13) hx hb hts (fun w h => tbC w (tbfX4 w h)) hown hK hP 0 rfl rfl 3 (by decide) (hts (.fieldLink RX4 30 "PowerRails$Reader" "all" "[[J") (tbC _ wd235)) (fun _ h9 => h9) rfl dX4_joinAny_34 ?_
          refine lv_aload_n hx hb dX4_joinAny_37 rfl (lv_at hl 1 rfl) ?_
          refine va_get (D := D) (ci := 3) (v := .int depth) (C := RX4) (T := TX4) (N := 13) hx hb hts (fun w h => tbC w (tbfX4 w h)) hown hK hP 0 rfl rfl 10 (by decide) (hts (.fieldLink RX4 176 "PowerRails$Reader" "depth" "I") (tbC _ wd242)) (fun _ h9 => h9) rfl dX4_joinAny_38 ?_
          have h256 : depth.toInt = 2 := by omega
          refine xaldA hx hb hK hP 9 4 rfl rfl (vp_in_iff.mpr ⟨by omega, by omega⟩) dX4_joinAny_41 (v := .ref (rlf 2)) (by rw [xclamp (j := 2) (rfl.trans h256)]; rfl) ?_
          refine lv_iload_n hx hb dX4_joinAny_42 rfl (lv_at hl 0 rfl) ?_
          refine lv_ldc2 (v := (-1)) hx hb hown (hts (.constantLong RX4 203 (-1)) (tbC _ wd357)) dX4_joinAny_43 ?_
          refine va_last hx hb hK hP hD hS 12 1 rfl rfl (vp_in_iff.mpr ⟨by omega, by omega⟩) dX4_joinAny_46 (fun H locs hP hD hS => ?_)
          obtain ⟨f257, ef257⟩ : ∃ fz9 : Nat → Int64, fz9 = vp_updL f225 (x215 : Int32).toNatClampNeg (-1) := ⟨_, rfl⟩
          have hP : va_P D vwCl [oX4 rd tp rfa rya rla pl place kind from_ value told depth fault fplace, oAM rya cH 7 ryf, oAJ (ryf 0) cJ 8 f216, oAJ (ryf 1) cJ 8 f217, oAJ (ryf 2) cJ 8 f255, oAJ (ryf 3) cJ 8 f219, oAJ (ryf 4) cJ 8 f220, oAJ (ryf 5) cJ 8 f221, oAJ (ryf 6) cJ 8 f222, oAM rla cH 7 rlf, oAJ (rlf 0) cJ 8 f223, oAJ (rlf 1) cJ 8 f224, oAJ (rlf 2) cJ 8 f257, oAJ (rlf 3) cJ 8 f226, oAJ (rlf 4) cJ 8 f227, oAJ (rlf 5) cJ 8 f228, oAJ (rlf 6) cJ 8 f229] H := by rw [ef257]; exact hP
          have hD : va_D A [oX4 rd tp rfa rya rla pl place kind from_ value told depth fault fplace, oAM rya cH 7 ryf, oAJ (ryf 0) cJ 8 f216, oAJ (ryf 1) cJ 8 f217, oAJ (ryf 2) cJ 8 f255, oAJ (ryf 3) cJ 8 f219, oAJ (ryf 4) cJ 8 f220, oAJ (ryf 5) cJ 8 f221, oAJ (ryf 6) cJ 8 f222, oAM rla cH 7 rlf, oAJ (rlf 0) cJ 8 f223, oAJ (rlf 1) cJ 8 f224, oAJ (rlf 2) cJ 8 f257, oAJ (rlf 3) cJ 8 f226, oAJ (rlf 4) cJ 8 f227, oAJ (rlf 5) cJ 8 f228, oAJ (rlf 6) cJ 8 f229] := by rw [ef257]; exact hD
          obtain ⟨x258, ex258⟩ : ∃ y : Int32, y = x215 + 1 := ⟨_, rfl⟩
          have tx258 : x258.toInt = (x215.toInt + 1) := (congrArg Int32.toInt ex258).trans (xadd rfl (by decide) (by omega) (by omega))
          refine lv_iinc (v := x258) (lv' := [(1, .int x258), (0, .ref rd)]) hx hb dX4_joinAny_47 hl (k := 0) rfl (by rw [ex258]; rfl) (by decide) rfl (fun ls hl => ?_)
          refine lv_goto (tgt := 2) hx hb dX4_joinAny_50 (by decide) ?_
          exact ihhl230 x258 f216 f217 f255 f219 f220 f221 f222 f223 f224 f257 f226 f227 f228 f229 (by omega) (xrng tx258 (by omega) (by omega)) (by rw [ex258, ef257, ef255, ev254, ev253, ev251]; exact hM) _ _ hP hD hS ls (lv_sub hl [0, 1] rfl)
        have hM : M_joinAny depth ry0 ry1 ry2 ry3 ry4 ry5 ry6 rl0 rl1 rl2 rl3 rl4 rl5 rl6 = (K_joinAny_10 depth (K_joinAny_L2 depth nhl230) x215 f216 f217 f218 f219 f226 f220 f221 f222 f223 f224 f225 f227 f228 f229) := (show M_joinAny depth ry0 ry1 ry2 ry3 ry4 ry5 ry6 rl0 rl1 rl2 rl3 rl4 rl5 rl6 = (if depth.toInt = 2 then (K_joinAny_9 (K_joinAny_L2 depth nhl230) x215 f216 f217 f218 f225 f219 f220 f221 f222 f223 f224 f226 f227 f228 f229) else (K_joinAny_10 depth (K_joinAny_L2 depth nhl230) x215 f216 f217 f218 f219 f226 f220 f221 f222 f223 f224 f225 f227 f228 f229)) from hM).trans (if_neg h250)
        by_cases h259 : depth.toInt = 3
        · skip
          have hM : M_joinAny depth ry0 ry1 ry2 ry3 ry4 ry5 ry6 rl0 rl1 rl2 rl3 rl4 rl5 rl6 = (K_joinAny_11 (K_joinAny_L2 depth nhl230) x215 f216 f217 f218 f219 f226 f220 f221 f222 f223 f224 f225 f227 f228 f229) := (show M_joinAny depth ry0 ry1 ry2 ry3 ry4 ry5 ry6 rl0 rl1 rl2 rl3 rl4 rl5 rl6 = (if depth.toInt = 3 then (K_joinAny_11 (K_joinAny_L2 depth nhl230) x215 f216 f217 f218 f219 f226 f220 f221 f222 f223 f224 f225 f227 f228 f229) else (K_joinAny_12 depth (K_joinAny_L2 depth nhl230) x215 f216 f217 f218 f219 f220 f227 f221 f222 f223 f224 f225 f226 f228 f229)) from hM).trans (if_pos h259)
          refine xaldA hx hb hK hP 1 4 rfl rfl (vp_in_iff.mpr ⟨by omega, by omega⟩) dX4_joinAny_16 (v := .ref (ryf 3)) (by rw [xclamp (j := 3) (rfl.trans h259)]; rfl) ?_
          refine lv_iload_n hx hb dX4_joinAny_17 rfl (lv_at hl 0 rfl) ?_
          refine lv_dup2_11 hx hb dX4_joinAny_18 rfl rfl ?_
          refine va_lald hx hb hK hP 5 1 rfl rfl (vp_in_iff.mpr ⟨by omega, by omega⟩) dX4_joinAny_19 ?_
          refine lv_topl (fun v260 ev260 => ?_)
          refine lv_aload_n hx hb dX4_joinAny_20 rfl (lv_at hl 1 rfl) ?_
          refine va_get (D := D) (ci := 3) (v := .ref rla) (C := RX4) (T := TX4) (N := 13) hx hb hts (fun w h => tbC w (tbfX4 w h)) hown hK hP 0 rfl rfl 3 (by decide) (hts (.fieldLink RX4 30 "PowerRails$Reader" "all" "[[J") (tbC _ wd235)) (fun _ h9 => h9) rfl dX4_joinAny_21 ?_
          refine lv_aload_n hx hb dX4_joinAny_24 rfl (lv_at hl 1 rfl) ?_
          refine va_get (D := D) (ci := 3) (v := .int depth) (C := RX4) (T := TX4) (N := 13) hx hb hts (fun w h => tbC w (tbfX4 w h)) hown hK hP 0 rfl rfl 10 (by decide) (hts (.fieldLink RX4 176 "PowerRails$Reader" "depth" "I") (tbC _ wd242)) (fun _ h9 => h9) rfl dX4_joinAny_25 ?_
          have h261 : depth.toInt = 3 := by omega
          refine xaldA hx hb hK hP 9 4 rfl rfl (vp_in_iff.mpr ⟨by omega, by omega⟩) dX4_joinAny_28 (v := .ref (rlf 3)) (by rw [xclamp (j := 3) (rfl.trans h261)]; rfl) ?_
          refine lv_iload_n hx hb dX4_joinAny_29 rfl (lv_at hl 0 rfl) ?_
          refine va_lald hx hb hK hP 13 1 rfl rfl (vp_in_iff.mpr ⟨by omega, by omega⟩) dX4_joinAny_30 ?_
          refine lv_topl (fun v262 ev262 => ?_)
          refine lv_lor hx hb dX4_joinAny_31 ?_
          refine lv_topl (fun v263 ev263 => ?_)
          refine va_last hx hb hK hP hD hS 5 1 rfl rfl (vp_in_iff.mpr ⟨by omega, by omega⟩) dX4_joinAny_32 (fun H locs hP hD hS => ?_)
          obtain ⟨f264, ef264⟩ : ∃ fz9 : Nat → Int64, fz9 = vp_updL f219 (x215 : Int32).toNatClampNeg v263 := ⟨_, rfl⟩
          have hP : va_P D vwCl [oX4 rd tp rfa rya rla pl place kind from_ value told depth fault fplace, oAM rya cH 7 ryf, oAJ (ryf 0) cJ 8 f216, oAJ (ryf 1) cJ 8 f217, oAJ (ryf 2) cJ 8 f218, oAJ (ryf 3) cJ 8 f264, oAJ (ryf 4) cJ 8 f220, oAJ (ryf 5) cJ 8 f221, oAJ (ryf 6) cJ 8 f222, oAM rla cH 7 rlf, oAJ (rlf 0) cJ 8 f223, oAJ (rlf 1) cJ 8 f224, oAJ (rlf 2) cJ 8 f225, oAJ (rlf 3) cJ 8 f226, oAJ (rlf 4) cJ 8 f227, oAJ (rlf 5) cJ 8 f228, oAJ (rlf 6) cJ 8 f229] H := by rw [ef264]; exact hP
          have hD : va_D A [oX4 rd tp rfa rya rla pl place kind from_ value told depth fault fplace, oAM rya cH 7 ryf, oAJ (ryf 0) cJ 8 f216, oAJ (ryf 1) cJ 8 f217, oAJ (ryf 2) cJ 8 f218, oAJ (ryf 3) cJ 8 f264, oAJ (ryf 4) cJ 8 f220, oAJ (ryf 5) cJ 8 f221, oAJ (ryf 6) cJ 8 f222, oAM rla cH 7 rlf, oAJ (rlf 0) cJ 8 f223, oAJ (rlf 1) cJ 8 f224, oAJ (rlf 2) cJ 8 f225, oAJ (rlf 3) cJ 8 f226, oAJ (rlf 4) cJ 8 f227, oAJ (rlf 5) cJ 8 f228, oAJ (rlf 6) cJ 8 f229] := by rw [ef264]; exact hD
          refine lv_aload_n hx hb dX4_joinAny_33 rfl (lv_at hl 1 rfl) ?_
          refine va_get (D := D) (ci := 3) (v := .ref rla) (C := RX4) (T := TX4) (N := 13) hx hb hts (fun w h => tbC w (tbfX4 w h)) hown hK hP 0 rfl rfl 3 (by decide) (hts (.fieldLink RX4 30 "PowerRails$Reader" "all" "[[J") (tbC _ wd235)) (fun _ h9 => h9) rfl dX4_joinAny_34 ?_
          refine lv_aload_n hx hb dX4_joinAny_37 rfl (lv_at hl 1 rfl) ?_
          refine va_get (D := D) (ci := 3) (v := .int depth) (C := RX4) (T := TX4) (N := 13) hx hb hts (fun w h => tbC w (tbfX4 w h)) hown hK hP 0 rfl rfl 10 (by decide) (hts (.fieldLink RX4 176 "PowerRails$Reader" "depth" "I") (tbC _ wd242)) (fun _ h9 => h9) rfl dX4_joinAny_38 ?_
          have h265 : depth.toInt = 3 := by omega
          refine xaldA hx hb hK hP 9 4 rfl rfl (vp_in_iff.mpr ⟨by omega, by omega⟩) dX4_joinAny_41 (v := .ref (rlf 3)) (by rw [xclamp (j := 3) (rfl.trans h265)]; rfl) ?_
          refine lv_iload_n hx hb dX4_joinAny_42 rfl (lv_at hl 0 rfl) ?_
          refine lv_ldc2 (v := (-1)) hx hb hown (hts (.constantLong RX4 203 (-1)) (tbC _ wd357)) dX4_joinAny_43 ?_
          refine va_last hx hb hK hP hD hS 13 1 rfl rfl (vp_in_iff.mpr ⟨by omega, by omega⟩) dX4_joinAny_46 (fun H locs hP hD hS => ?_)
          obtain ⟨f266, ef266⟩ : ∃ fz9 : Nat → Int64, fz9 = vp_updL f226 (x215 : Int32).toNatClampNeg (-1) := ⟨_, rfl⟩
          have hP : va_P D vwCl [oX4 rd tp rfa rya rla pl place kind from_ value told depth fault fplace, oAM rya cH 7 ryf, oAJ (ryf 0) cJ 8 f216, oAJ (ryf 1) cJ 8 f217, oAJ (ryf 2) cJ 8 f218, oAJ (ryf 3) cJ 8 f264, oAJ (ryf 4) cJ 8 f220, oAJ (ryf 5) cJ 8 f221, oAJ (ryf 6) cJ 8 f222, oAM rla cH 7 rlf, oAJ (rlf 0) cJ 8 f223, oAJ (rlf 1) cJ 8 f224, oAJ (rlf 2) cJ 8 f225, oAJ (rlf 3) cJ 8 f266, oAJ (rlf 4) cJ 8 f227, oAJ (rlf 5) cJ 8 f228, oAJ (rlf 6) cJ 8 f229] H := by rw [ef266]; exact hP
          have hD : va_D A [oX4 rd tp rfa rya rla pl place kind from_ value told depth fault fplace, oAM rya cH 7 ryf, oAJ (ryf 0) cJ 8 f216, oAJ (ryf 1) cJ 8 f217, oAJ (ryf 2) cJ 8 f218, oAJ (ryf 3) cJ 8 f264, oAJ (ryf 4) cJ 8 f220, oAJ (ryf 5) cJ 8 f221, oAJ (ryf 6) cJ 8 f222, oAM rla cH 7 rlf, oAJ (rlf 0) cJ 8 f223, oAJ (rlf 1) cJ 8 f224, oAJ (rlf 2) cJ 8 f225, oAJ (rlf 3) cJ 8 f266, oAJ (rlf 4) cJ 8 f227, oAJ (rlf 5) cJ 8 f228, oAJ (rlf 6) cJ 8 f229] := by rw [ef266]; exact hD
          obtain ⟨x267, ex267⟩ : ∃ y : Int32, y = x215 + 1 := ⟨_, rfl⟩
          have tx267 : x267.toInt = (x215.toInt + 1) := (congrArg Int32.toInt ex267).trans (xadd rfl (by decide) (by omega) (by omega))
          refine lv_iinc (v := x267) (lv' := [(1, .int x267), (0, .ref rd)]) hx hb dX4_joinAny_47 hl (k := 0) rfl (by rw [ex267]; rfl) (by decide) rfl (fun ls hl => ?_)
          refine lv_goto (tgt := 2) hx hb dX4_joinAny_50 (by decide) ?_
          exact ihhl230 x267 f216 f217 f218 f264 f220 f221 f222 f223 f224 f225 f266 f227 f228 f229 (by omega) (xrng tx267 (by omega) (by omega)) (by rw [ex267, ef266, ef264, ev263, ev262, ev260]; exact hM) _ _ hP hD hS ls (lv_sub hl [0, 1] rfl)
        have hM : M_joinAny depth ry0 ry1 ry2 ry3 ry4 ry5 ry6 rl0 rl1 rl2 rl3 rl4 rl5 rl6 = (K_joinAny_12 depth (K_joinAny_L2 depth nhl230) x215 f216 f217 f218 f219 f220 f227 f221 f222 f223 f224 f225 f226 f228 f229) := (show M_joinAny depth ry0 ry1 ry2 ry3 ry4 ry5 ry6 rl0 rl1 rl2 rl3 rl4 rl5 rl6 = (if depth.toInt = 3 then (K_joinAny_11 (K_joinAny_L2 depth nhl230) x215 f216 f217 f218 f219 f226 f220 f221 f222 f223 f224 f225 f227 f228 f229) else (K_joinAny_12 depth (K_joinAny_L2 depth nhl230) x215 f216 f217 f218 f219 f220 f227 f221 f222 f223 f224 f225 f226 f228 f229)) from hM).trans (if_neg h259)
        by_cases h268 : depth.toInt = 4
        · skip
          have hM : M_joinAny depth ry0 ry1 ry2 ry3 ry4 ry5 ry6 rl0 rl1 rl2 rl3 rl4 rl5 rl6 = (K_joinAny_13 (K_joinAny_L2 depth nhl230) x215 f216 f217 f218 f219 f220 f227 f221 f222 f223 f224 f225 f226 f228 f229) := (show M_joinAny depth ry0 ry1 ry2 ry3 ry4 ry5 ry6 rl0 rl1 rl2 rl3 rl4 rl5 rl6 = (if depth.toInt = 4 then (K_joinAny_13 (K_joinAny_L2 depth nhl230) x215 f216 f217 f218 f219 f220 f227 f221 f222 f223 f224 f225 f226 f228 f229) else (K_joinAny_14 depth (K_joinAny_L2 depth nhl230) x215 f216 f217 f218 f219 f220 f221 f228 f222 f223 f224 f225 f226 f227 f229)) from hM).trans (if_pos h268)
          refine xaldA hx hb hK hP 1 4 rfl rfl (vp_in_iff.mpr ⟨by omega, by omega⟩) dX4_joinAny_16 (v := .ref (ryf 4)) (by rw [xclamp (j := 4) (rfl.trans h268)]; rfl) ?_
          refine lv_iload_n hx hb dX4_joinAny_17 rfl (lv_at hl 0 rfl) ?_
          refine lv_dup2_11 hx hb dX4_joinAny_18 rfl rfl ?_
          refine va_lald hx hb hK hP 6 1 rfl rfl (vp_in_iff.mpr ⟨by omega, by omega⟩) dX4_joinAny_19 ?_
          refine lv_topl (fun v269 ev269 => ?_)
          refine lv_aload_n hx hb dX4_joinAny_20 rfl (lv_at hl 1 rfl) ?_
          refine va_get (D := D) (ci := 3) (v := .ref rla) (C := RX4) (T := TX4) (N := 13) hx hb hts (fun w h => tbC w (tbfX4 w h)) hown hK hP 0 rfl rfl 3 (by decide) (hts (.fieldLink RX4 30 "PowerRails$Reader" "all" "[[J") (tbC _ wd235)) (fun _ h9 => h9) rfl dX4_joinAny_21 ?_
          refine lv_aload_n hx hb dX4_joinAny_24 rfl (lv_at hl 1 rfl) ?_
          refine va_get (D := D) (ci := 3) (v := .int depth) (C := RX4) (T := TX4) (N := 13) hx hb hts (fun w h => tbC w (tbfX4 w h)) hown hK hP 0 rfl rfl 10 (by decide) (hts (.fieldLink RX4 176 "PowerRails$Reader" "depth" "I") (tbC _ wd242)) (fun _ h9 => h9) rfl dX4_joinAny_25 ?_
          have h270 : depth.toInt = 4 := by omega
          refine xaldA hx hb hK hP 9 4 rfl rfl (vp_in_iff.mpr ⟨by omega, by omega⟩) dX4_joinAny_28 (v := .ref (rlf 4)) (by rw [xclamp (j := 4) (rfl.trans h270)]; rfl) ?_
          refine lv_iload_n hx hb dX4_joinAny_29 rfl (lv_at hl 0 rfl) ?_
          refine va_lald hx hb hK hP 14 1 rfl rfl (vp_in_iff.mpr ⟨by omega, by omega⟩) dX4_joinAny_30 ?_
          refine lv_topl (fun v271 ev271 => ?_)
          refine lv_lor hx hb dX4_joinAny_31 ?_
          refine lv_topl (fun v272 ev272 => ?_)
          refine va_last hx hb hK hP hD hS 6 1 rfl rfl (vp_in_iff.mpr ⟨by omega, by omega⟩) dX4_joinAny_32 (fun H locs hP hD hS => ?_)
          obtain ⟨f273, ef273⟩ : ∃ fz9 : Nat → Int64, fz9 = vp_updL f220 (x215 : Int32).toNatClampNeg v272 := ⟨_, rfl⟩
          have hP : va_P D vwCl [oX4 rd tp rfa rya rla pl place kind from_ value told depth fault fplace, oAM rya cH 7 ryf, oAJ (ryf 0) cJ 8 f216, oAJ (ryf 1) cJ 8 f217, oAJ (ryf 2) cJ 8 f218, oAJ (ryf 3) cJ 8 f219, oAJ (ryf 4) cJ 8 f273, oAJ (ryf 5) cJ 8 f221, oAJ (ryf 6) cJ 8 f222, oAM rla cH 7 rlf, oAJ (rlf 0) cJ 8 f223, oAJ (rlf 1) cJ 8 f224, oAJ (rlf 2) cJ 8 f225, oAJ (rlf 3) cJ 8 f226, oAJ (rlf 4) cJ 8 f227, oAJ (rlf 5) cJ 8 f228, oAJ (rlf 6) cJ 8 f229] H := by rw [ef273]; exact hP
          have hD : va_D A [oX4 rd tp rfa rya rla pl place kind from_ value told depth fault fplace, oAM rya cH 7 ryf, oAJ (ryf 0) cJ 8 f216, oAJ (ryf 1) cJ 8 f217, oAJ (ryf 2) cJ 8 f218, oAJ (ryf 3) cJ 8 f219, oAJ (ryf 4) cJ 8 f273, oAJ (ryf 5) cJ 8 f221, oAJ (ryf 6) cJ 8 f222, oAM rla cH 7 rlf, oAJ (rlf 0) cJ 8 f223, oAJ (rlf 1) cJ 8 f224, oAJ (rlf 2) cJ 8 f225, oAJ (rlf 3) cJ 8 f226, oAJ (rlf 4) cJ 8 f227, oAJ (rlf 5) cJ 8 f228, oAJ (rlf 6) cJ 8 f229] := by rw [ef273]; exact hD
          refine lv_aload_n hx hb dX4_joinAny_33 rfl (lv_at hl 1 rfl) ?_
          refine va_get (D := D) (ci := 3) (v := .ref rla) (C := RX4) (T := TX4) (N := 13) hx hb hts (fun w h => tbC w (tbfX4 w h)) hown hK hP 0 rfl rfl 3 (by decide) (hts (.fieldLink RX4 30 "PowerRails$Reader" "all" "[[J") (tbC _ wd235)) (fun _ h9 => h9) rfl dX4_joinAny_34 ?_
          refine lv_aload_n hx hb dX4_joinAny_37 rfl (lv_at hl 1 rfl) ?_
          refine va_get (D := D) (ci := 3) (v := .int depth) (C := RX4) (T := TX4) (N := 13) hx hb hts (fun w h => tbC w (tbfX4 w h)) hown hK hP 0 rfl rfl 10 (by decide) (hts (.fieldLink RX4 176 "PowerRails$Reader" "depth" "I") (tbC _ wd242)) (fun _ h9 => h9) rfl dX4_joinAny_38 ?_
          have h274 : depth.toInt = 4 := by omega
          refine xaldA hx hb hK hP 9 4 rfl rfl (vp_in_iff.mpr ⟨by omega, by omega⟩) dX4_joinAny_41 (v := .ref (rlf 4)) (by rw [xclamp (j := 4) (rfl.trans h274)]; rfl) ?_
          refine lv_iload_n hx hb dX4_joinAny_42 rfl (lv_at hl 0 rfl) ?_
          refine lv_ldc2 (v := (-1)) hx hb hown (hts (.constantLong RX4 203 (-1)) (tbC _ wd357)) dX4_joinAny_43 ?_
          refine va_last hx hb hK hP hD hS 14 1 rfl rfl (vp_in_iff.mpr ⟨by omega, by omega⟩) dX4_joinAny_46 (fun H locs hP hD hS => ?_)
          obtain ⟨f275, ef275⟩ : ∃ fz9 : Nat → Int64, fz9 = vp_updL f227 (x215 : Int32).toNatClampNeg (-1) := ⟨_, rfl⟩
          have hP : va_P D vwCl [oX4 rd tp rfa rya rla pl place kind from_ value told depth fault fplace, oAM rya cH 7 ryf, oAJ (ryf 0) cJ 8 f216, oAJ (ryf 1) cJ 8 f217, oAJ (ryf 2) cJ 8 f218, oAJ (ryf 3) cJ 8 f219, oAJ (ryf 4) cJ 8 f273, oAJ (ryf 5) cJ 8 f221, oAJ (ryf 6) cJ 8 f222, oAM rla cH 7 rlf, oAJ (rlf 0) cJ 8 f223, oAJ (rlf 1) cJ 8 f224, oAJ (rlf 2) cJ 8 f225, oAJ (rlf 3) cJ 8 f226, oAJ (rlf 4) cJ 8 f275, oAJ (rlf 5) cJ 8 f228, oAJ (rlf 6) cJ 8 f229] H := by rw [ef275]; exact hP
          have hD : va_D A [oX4 rd tp rfa rya rla pl place kind from_ value told depth fault fplace, oAM rya cH 7 ryf, oAJ (ryf 0) cJ 8 f216, oAJ (ryf 1) cJ 8 f217, oAJ (ryf 2) cJ 8 f218, oAJ (ryf 3) cJ 8 f219, oAJ (ryf 4) cJ 8 f273, oAJ (ryf 5) cJ 8 f221, oAJ (ryf 6) cJ 8 f222, oAM rla cH 7 rlf, oAJ (rlf 0) cJ 8 f223, oAJ (rlf 1) cJ 8 f224, oAJ (rlf 2) cJ 8 f225, oAJ (rlf 3) cJ 8 f226, oAJ (rlf 4) cJ 8 f275, oAJ (rlf 5) cJ 8 f228, oAJ (rlf 6) cJ 8 f229] := by rw [ef275]; exact hD
          obtain ⟨x276, ex276⟩ : ∃ y : Int32, y = x215 + 1 := ⟨_, rfl⟩
          have tx276 : x276.toInt = (x215.toInt + 1) := (congrArg Int32.toInt ex276).trans (xadd rfl (by decide) (by omega) (by omega))
          refine lv_iinc (v := x276) (lv' := [(1, .int x276), (0, .ref rd)]) hx hb dX4_joinAny_47 hl (k := 0) rfl (by rw [ex276]; rfl) (by decide) rfl (fun ls hl => ?_)
          refine lv_goto (tgt := 2) hx hb dX4_joinAny_50 (by decide) ?_
          exact ihhl230 x276 f216 f217 f218 f219 f273 f221 f222 f223 f224 f225 f226 f275 f228 f229 (by omega) (xrng tx276 (by omega) (by omega)) (by rw [ex276, ef275, ef273, ev272, ev271, ev269]; exact hM) _ _ hP hD hS ls (lv_sub hl [0, 1] rfl)
        have hM : M_joinAny depth ry0 ry1 ry2 ry3 ry4 ry5 ry6 rl0 rl1 rl2 rl3 rl4 rl5 rl6 = (K_joinAny_14 depth (K_joinAny_L2 depth nhl230) x215 f216 f217 f218 f219 f220 f221 f228 f222 f223 f224 f225 f226 f227 f229) := (show M_joinAny depth ry0 ry1 ry2 ry3 ry4 ry5 ry6 rl0 rl1 rl2 rl3 rl4 rl5 rl6 = (if depth.toInt = 4 then (K_joinAny_13 (K_joinAny_L2 depth nhl230) x215 f216 f217 f218 f219 f220 f227 f221 f222 f223 f224 f225 f226 f228 f229) else (K_joinAny_14 depth (K_joinAny_L2 depth nhl230) x215 f216 f217 f218 f219 f220 f221 f228 f222 f223 f224 f225 f226 f227 f229)) from hM).trans (if_neg h268)
        by_cases h277 : depth.toInt = 5
        · skip
          have hM : M_joinAny depth ry0 ry1 ry2 ry3 ry4 ry5 ry6 rl0 rl1 rl2 rl3 rl4 rl5 rl6 = (K_joinAny_15 (K_joinAny_L2 depth nhl230) x215 f216 f217 f218 f219 f220 f221 f228 f222 f223 f224 f225 f226 f227 f229) := (show M_joinAny depth ry0 ry1 ry2 ry3 ry4 ry5 ry6 rl0 rl1 rl2 rl3 rl4 rl5 rl6 = (if depth.toInt = 5 then (K_joinAny_15 (K_joinAny_L2 depth nhl230) x215 f216 f217 f218 f219 f220 f221 f228 f222 f223 f224 f225 f226 f227 f229) else (K_joinAny_16 (K_joinAny_L2 depth nhl230) x215 f216 f217 f218 f219 f220 f221 f222 f229 f223 f224 f225 f226 f227 f228)) from hM).trans (if_pos h277)
          refine xaldA hx hb hK hP 1 4 rfl rfl (vp_in_iff.mpr ⟨by omega, by omega⟩) dX4_joinAny_16 (v := .ref (ryf 5)) (by rw [xclamp (j := 5) (rfl.trans h277)]; rfl) ?_
          refine lv_iload_n hx hb dX4_joinAny_17 rfl (lv_at hl 0 rfl) ?_
          refine lv_dup2_11 hx hb dX4_joinAny_18 rfl rfl ?_
          refine va_lald hx hb hK hP 7 1 rfl rfl (vp_in_iff.mpr ⟨by omega, by omega⟩) dX4_joinAny_19 ?_
          refine lv_topl (fun v278 ev278 => ?_)
          refine lv_aload_n hx hb dX4_joinAny_20 rfl (lv_at hl 1 rfl) ?_
          refine va_get (D := D) (ci := 3) (v := .ref rla) (C := RX4) (T := TX4) (N := 13) hx hb hts (fun w h => tbC w (tbfX4 w h)) hown hK hP 0 rfl rfl 3 (by decide) (hts (.fieldLink RX4 30 "PowerRails$Reader" "all" "[[J") (tbC _ wd235)) (fun _ h9 => h9) rfl dX4_joinAny_21 ?_
          refine lv_aload_n hx hb dX4_joinAny_24 rfl (lv_at hl 1 rfl) ?_
          refine va_get (D := D) (ci := 3) (v := .int depth) (C := RX4) (T := TX4) (N := 13) hx hb hts (fun w h => tbC w (tbfX4 w h)) hown hK hP 0 rfl rfl 10 (by decide) (hts (.fieldLink RX4 176 "PowerRails$Reader" "depth" "I") (tbC _ wd242)) (fun _ h9 => h9) rfl dX4_joinAny_25 ?_
          have h279 : depth.toInt = 5 := by omega
          refine xaldA hx hb hK hP 9 4 rfl rfl (vp_in_iff.mpr ⟨by omega, by omega⟩) dX4_joinAny_28 (v := .ref (rlf 5)) (by rw [xclamp (j := 5) (rfl.trans h279)]; rfl) ?_
          refine lv_iload_n hx hb dX4_joinAny_29 rfl (lv_at hl 0 rfl) ?_
          refine va_lald hx hb hK hP 15 1 rfl rfl (vp_in_iff.mpr ⟨by omega, by omega⟩) dX4_joinAny_30 ?_
          refine lv_topl (fun v280 ev280 => ?_)
          refine lv_lor hx hb dX4_joinAny_31 ?_
          refine lv_topl (fun v281 ev281 => ?_)
          refine va_last hx hb hK hP hD hS 7 1 rfl rfl (vp_in_iff.mpr ⟨by omega, by omega⟩) dX4_joinAny_32 (fun H locs hP hD hS => ?_)
          obtain ⟨f282, ef282⟩ : ∃ fz9 : Nat → Int64, fz9 = vp_updL f221 (x215 : Int32).toNatClampNeg v281 := ⟨_, rfl⟩
          have hP : va_P D vwCl [oX4 rd tp rfa rya rla pl place kind from_ value told depth fault fplace, oAM rya cH 7 ryf, oAJ (ryf 0) cJ 8 f216, oAJ (ryf 1) cJ 8 f217, oAJ (ryf 2) cJ 8 f218, oAJ (ryf 3) cJ 8 f219, oAJ (ryf 4) cJ 8 f220, oAJ (ryf 5) cJ 8 f282, oAJ (ryf 6) cJ 8 f222, oAM rla cH 7 rlf, oAJ (rlf 0) cJ 8 f223, oAJ (rlf 1) cJ 8 f224, oAJ (rlf 2) cJ 8 f225, oAJ (rlf 3) cJ 8 f226, oAJ (rlf 4) cJ 8 f227, oAJ (rlf 5) cJ 8 f228, oAJ (rlf 6) cJ 8 f229] H := by rw [ef282]; exact hP
          have hD : va_D A [oX4 rd tp rfa rya rla pl place kind from_ value told depth fault fplace, oAM rya cH 7 ryf, oAJ (ryf 0) cJ 8 f216, oAJ (ryf 1) cJ 8 f217, oAJ (ryf 2) cJ 8 f218, oAJ (ryf 3) cJ 8 f219, oAJ (ryf 4) cJ 8 f220, oAJ (ryf 5) cJ 8 f282, oAJ (ryf 6) cJ 8 f222, oAM rla cH 7 rlf, oAJ (rlf 0) cJ 8 f223, oAJ (rlf 1) cJ 8 f224, oAJ (rlf 2) cJ 8 f225, oAJ (rlf 3) cJ 8 f226, oAJ (rlf 4) cJ 8 f227, oAJ (rlf 5) cJ 8 f228, oAJ (rlf 6) cJ 8 f229] := by rw [ef282]; exact hD
          refine lv_aload_n hx hb dX4_joinAny_33 rfl (lv_at hl 1 rfl) ?_
          refine va_get (D := D) (ci := 3) (v := .ref rla) (C := RX4) (T := TX4) (N := 13) hx hb hts (fun w h => tbC w (tbfX4 w h)) hown hK hP 0 rfl rfl 3 (by decide) (hts (.fieldLink RX4 30 "PowerRails$Reader" "all" "[[J") (tbC _ wd235)) (fun _ h9 => h9) rfl dX4_joinAny_34 ?_
          refine lv_aload_n hx hb dX4_joinAny_37 rfl (lv_at hl 1 rfl) ?_
          refine va_get (D := D) (ci := 3) (v := .int depth) (C := RX4) (T := TX4) (N := 13) hx hb hts (fun w h => tbC w (tbfX4 w h)) hown hK hP 0 rfl rfl 10 (by decide) (hts (.fieldLink RX4 176 "PowerRails$Reader" "depth" "I") (tbC _ wd242)) (fun _ h9 => h9) rfl dX4_joinAny_38 ?_
          have h283 : depth.toInt = 5 := by omega
          refine xaldA hx hb hK hP 9 4 rfl rfl (vp_in_iff.mpr ⟨by omega, by omega⟩) dX4_joinAny_41 (v := .ref (rlf 5)) (by rw [xclamp (j := 5) (rfl.trans h283)]; rfl) ?_
          refine lv_iload_n hx hb dX4_joinAny_42 rfl (lv_at hl 0 rfl) ?_
          refine lv_ldc2 (v := (-1)) hx hb hown (hts (.constantLong RX4 203 (-1)) (tbC _ wd357)) dX4_joinAny_43 ?_
          refine va_last hx hb hK hP hD hS 15 1 rfl rfl (vp_in_iff.mpr ⟨by omega, by omega⟩) dX4_joinAny_46 (fun H locs hP hD hS => ?_)
          obtain ⟨f284, ef284⟩ : ∃ fz9 : Nat → Int64, fz9 = vp_updL f228 (x215 : Int32).toNatClampNeg (-1) := ⟨_, rfl⟩
          have hP : va_P D vwCl [oX4 rd tp rfa rya rla pl place kind from_ value told depth fault fplace, oAM rya cH 7 ryf, oAJ (ryf 0) cJ 8 f216, oAJ (ryf 1) cJ 8 f217, oAJ (ryf 2) cJ 8 f218, oAJ (ryf 3) cJ 8 f219, oAJ (ryf 4) cJ 8 f220, oAJ (ryf 5) cJ 8 f282, oAJ (ryf 6) cJ 8 f222, oAM rla cH 7 rlf, oAJ (rlf 0) cJ 8 f223, oAJ (rlf 1) cJ 8 f224, oAJ (rlf 2) cJ 8 f225, oAJ (rlf 3) cJ 8 f226, oAJ (rlf 4) cJ 8 f227, oAJ (rlf 5) cJ 8 f284, oAJ (rlf 6) cJ 8 f229] H := by rw [ef284]; exact hP
          have hD : va_D A [oX4 rd tp rfa rya rla pl place kind from_ value told depth fault fplace, oAM rya cH 7 ryf, oAJ (ryf 0) cJ 8 f216, oAJ (ryf 1) cJ 8 f217, oAJ (ryf 2) cJ 8 f218, oAJ (ryf 3) cJ 8 f219, oAJ (ryf 4) cJ 8 f220, oAJ (ryf 5) cJ 8 f282, oAJ (ryf 6) cJ 8 f222, oAM rla cH 7 rlf, oAJ (rlf 0) cJ 8 f223, oAJ (rlf 1) cJ 8 f224, oAJ (rlf 2) cJ 8 f225, oAJ (rlf 3) cJ 8 f226, oAJ (rlf 4) cJ 8 f227, oAJ (rlf 5) cJ 8 f284, oAJ (rlf 6) cJ 8 f229] := by rw [ef284]; exact hD
          obtain ⟨x285, ex285⟩ : ∃ y : Int32, y = x215 + 1 := ⟨_, rfl⟩
          have tx285 : x285.toInt = (x215.toInt + 1) := (congrArg Int32.toInt ex285).trans (xadd rfl (by decide) (by omega) (by omega))
          refine lv_iinc (v := x285) (lv' := [(1, .int x285), (0, .ref rd)]) hx hb dX4_joinAny_47 hl (k := 0) rfl (by rw [ex285]; rfl) (by decide) rfl (fun ls hl => ?_)
          refine lv_goto (tgt := 2) hx hb dX4_joinAny_50 (by decide) ?_
          exact ihhl230 x285 f216 f217 f218 f219 f220 f282 f222 f223 f224 f225 f226 f227 f284 f229 (by omega) (xrng tx285 (by omega) (by omega)) (by rw [ex285, ef284, ef282, ev281, ev280, ev278]; exact hM) _ _ hP hD hS ls (lv_sub hl [0, 1] rfl)
        have hM : M_joinAny depth ry0 ry1 ry2 ry3 ry4 ry5 ry6 rl0 rl1 rl2 rl3 rl4 rl5 rl6 = (K_joinAny_16 (K_joinAny_L2 depth nhl230) x215 f216 f217 f218 f219 f220 f221 f222 f229 f223 f224 f225 f226 f227 f228) := (show M_joinAny depth ry0 ry1 ry2 ry3 ry4 ry5 ry6 rl0 rl1 rl2 rl3 rl4 rl5 rl6 = (if depth.toInt = 5 then (K_joinAny_15 (K_joinAny_L2 depth nhl230) x215 f216 f217 f218 f219 f220 f221 f228 f222 f223 f224 f225 f226 f227 f229) else (K_joinAny_16 (K_joinAny_L2 depth nhl230) x215 f216 f217 f218 f219 f220 f221 f222 f229 f223 f224 f225 f226 f227 f228)) from hM).trans (if_neg h277)
        have h286 : depth.toInt = 6 := by omega
        refine xaldA hx hb hK hP 1 4 rfl rfl (vp_in_iff.mpr ⟨by omega, by omega⟩) dX4_joinAny_16 (v := .ref (ryf 6)) (by rw [xclamp (j := 6) (rfl.trans h286)]; rfl) ?_
        refine lv_iload_n hx hb dX4_joinAny_17 rfl (lv_at hl 0 rfl) ?_
        refine lv_dup2_11 hx hb dX4_joinAny_18 rfl rfl ?_
        refine va_lald hx hb hK hP 8 1 rfl rfl (vp_in_iff.mpr ⟨by omega, by omega⟩) dX4_joinAny_19 ?_
        refine lv_topl (fun v287 ev287 => ?_)
        refine lv_aload_n hx hb dX4_joinAny_20 rfl (lv_at hl 1 rfl) ?_
        refine va_get (D := D) (ci := 3) (v := .ref rla) (C := RX4) (T := TX4) (N := 13) hx hb hts (fun w h => tbC w (tbfX4 w h)) hown hK hP 0 rfl rfl 3 (by decide) (hts (.fieldLink RX4 30 "PowerRails$Reader" "all" "[[J") (tbC _ wd235)) (fun _ h9 => h9) rfl dX4_joinAny_21 ?_
        refine lv_aload_n hx hb dX4_joinAny_24 rfl (lv_at hl 1 rfl) ?_
        refine va_get (D := D) (ci := 3) (v := .int depth) (C := RX4) (T := TX4) (N := 13) hx hb hts (fun w h => tbC w (tbfX4 w h)) hown hK hP 0 rfl rfl 10 (by decide) (hts (.fieldLink RX4 176 "PowerRails$Reader" "depth" "I") (tbC _ wd242)) (fun _ h9 => h9) rfl dX4_joinAny_25 ?_
        have h288 : depth.toInt = 6 := by omega
        refine xaldA hx hb hK hP 9 4 rfl rfl (vp_in_iff.mpr ⟨by omega, by omega⟩) dX4_joinAny_28 (v := .ref (rlf 6)) (by rw [xclamp (j := 6) (rfl.trans h288)]; rfl) ?_
        refine lv_iload_n hx hb dX4_joinAny_29 rfl (lv_at hl 0 rfl) ?_
        refine va_lald hx hb hK hP 16 1 rfl rfl (vp_in_iff.mpr ⟨by omega, by omega⟩) dX4_joinAny_30 ?_
        refine lv_topl (fun v289 ev289 => ?_)
        refine lv_lor hx hb dX4_joinAny_31 ?_
        refine lv_topl (fun v290 ev290 => ?_)
        refine va_last hx hb hK hP hD hS 8 1 rfl rfl (vp_in_iff.mpr ⟨by omega, by omega⟩) dX4_joinAny_32 (fun H locs hP hD hS => ?_)
        obtain ⟨f291, ef291⟩ : ∃ fz9 : Nat → Int64, fz9 = vp_updL f222 (x215 : Int32).toNatClampNeg v290 := ⟨_, rfl⟩
        have hP : va_P D vwCl [oX4 rd tp rfa rya rla pl place kind from_ value told depth fault fplace, oAM rya cH 7 ryf, oAJ (ryf 0) cJ 8 f216, oAJ (ryf 1) cJ 8 f217, oAJ (ryf 2) cJ 8 f218, oAJ (ryf 3) cJ 8 f219, oAJ (ryf 4) cJ 8 f220, oAJ (ryf 5) cJ 8 f221, oAJ (ryf 6) cJ 8 f291, oAM rla cH 7 rlf, oAJ (rlf 0) cJ 8 f223, oAJ (rlf 1) cJ 8 f224, oAJ (rlf 2) cJ 8 f225, oAJ (rlf 3) cJ 8 f226, oAJ (rlf 4) cJ 8 f227, oAJ (rlf 5) cJ 8 f228, oAJ (rlf 6) cJ 8 f229] H := by rw [ef291]; exact hP
        have hD : va_D A [oX4 rd tp rfa rya rla pl place kind from_ value told depth fault fplace, oAM rya cH 7 ryf, oAJ (ryf 0) cJ 8 f216, oAJ (ryf 1) cJ 8 f217, oAJ (ryf 2) cJ 8 f218, oAJ (ryf 3) cJ 8 f219, oAJ (ryf 4) cJ 8 f220, oAJ (ryf 5) cJ 8 f221, oAJ (ryf 6) cJ 8 f291, oAM rla cH 7 rlf, oAJ (rlf 0) cJ 8 f223, oAJ (rlf 1) cJ 8 f224, oAJ (rlf 2) cJ 8 f225, oAJ (rlf 3) cJ 8 f226, oAJ (rlf 4) cJ 8 f227, oAJ (rlf 5) cJ 8 f228, oAJ (rlf 6) cJ 8 f229] := by rw [ef291]; exact hD
        refine lv_aload_n hx hb dX4_joinAny_33 rfl (lv_at hl 1 rfl) ?_
        refine va_get (D := D) (ci := 3) (v := .ref rla) (C := RX4) (T := TX4) (N := 13) hx hb hts (fun w h => tbC w (tbfX4 w h)) hown hK hP 0 rfl rfl 3 (by decide) (hts (.fieldLink RX4 30 "PowerRails$Reader" "all" "[[J") (tbC _ wd235)) (fun _ h9 => h9) rfl dX4_joinAny_34 ?_
        refine lv_aload_n hx hb dX4_joinAny_37 rfl (lv_at hl 1 rfl) ?_
        refine va_get (D := D) (ci := 3) (v := .int depth) (C := RX4) (T := TX4) (N := 13) hx hb hts (fun w h => tbC w (tbfX4 w h)) hown hK hP 0 rfl rfl 10 (by decide) (hts (.fieldLink RX4 176 "PowerRails$Reader" "depth" "I") (tbC _ wd242)) (fun _ h9 => h9) rfl dX4_joinAny_38 ?_
        have h292 : depth.toInt = 6 := by omega
        refine xaldA hx hb hK hP 9 4 rfl rfl (vp_in_iff.mpr ⟨by omega, by omega⟩) dX4_joinAny_41 (v := .ref (rlf 6)) (by rw [xclamp (j := 6) (rfl.trans h292)]; rfl) ?_
        refine lv_iload_n hx hb dX4_joinAny_42 rfl (lv_at hl 0 rfl) ?_
        refine lv_ldc2 (v := (-1)) hx hb hown (hts (.constantLong RX4 203 (-1)) (tbC _ wd357)) dX4_joinAny_43 ?_
        refine va_last hx hb hK hP hD hS 16 1 rfl rfl (vp_in_iff.mpr ⟨by omega, by omega⟩) dX4_joinAny_46 (fun H locs hP hD hS => ?_)
        obtain ⟨f293, ef293⟩ : ∃ fz9 : Nat → Int64, fz9 = vp_updL f229 (x215 : Int32).toNatClampNeg (-1) := ⟨_, rfl⟩
        have hP : va_P D vwCl [oX4 rd tp rfa rya rla pl place kind from_ value told depth fault fplace, oAM rya cH 7 ryf, oAJ (ryf 0) cJ 8 f216, oAJ (ryf 1) cJ 8 f217, oAJ (ryf 2) cJ 8 f218, oAJ (ryf 3) cJ 8 f219, oAJ (ryf 4) cJ 8 f220, oAJ (ryf 5) cJ 8 f221, oAJ (ryf 6) cJ 8 f291, oAM rla cH 7 rlf, oAJ (rlf 0) cJ 8 f223, oAJ (rlf 1) cJ 8 f224, oAJ (rlf 2) cJ 8 f225, oAJ (rlf 3) cJ 8 f226, oAJ (rlf 4) cJ 8 f227, oAJ (rlf 5) cJ 8 f228, oAJ (rlf 6) cJ 8 f293] H := by rw [ef293]; exact hP
        have hD : va_D A [oX4 rd tp rfa rya rla pl place kind from_ value told depth fault fplace, oAM rya cH 7 ryf, oAJ (ryf 0) cJ 8 f216, oAJ (ryf 1) cJ 8 f217, oAJ (ryf 2) cJ 8 f218, oAJ (ryf 3) cJ 8 f219, oAJ (ryf 4) cJ 8 f220, oAJ (ryf 5) cJ 8 f221, oAJ (ryf 6) cJ 8 f291, oAM rla cH 7 rlf, oAJ (rlf 0) cJ 8 f223, oAJ (rlf 1) cJ 8 f224, oAJ (rlf 2) cJ 8 f225, oAJ (rlf 3) cJ 8 f226, oAJ (rlf 4) cJ 8 f227, oAJ (rlf 5) cJ 8 f228, oAJ (rlf 6) cJ 8 f293] := by rw [ef293]; exact hD
        obtain ⟨x294, ex294⟩ : ∃ y : Int32, y = x215 + 1 := ⟨_, rfl⟩
        have tx294 : x294.toInt = (x215.toInt + 1) := (congrArg Int32.toInt ex294).trans (xadd rfl (by decide) (by omega) (by omega))
        refine lv_iinc (v := x294) (lv' := [(1, .int x294), (0, .ref rd)]) hx hb dX4_joinAny_47 hl (k := 0) rfl (by rw [ex294]; rfl) (by decide) rfl (fun ls hl => ?_)
        refine lv_goto (tgt := 2) hx hb dX4_joinAny_50 (by decide) ?_
        exact ihhl230 x294 f216 f217 f218 f219 f220 f221 f291 f223 f224 f225 f226 f227 f228 f293 (by omega) (xrng tx294 (by omega) (by omega)) (by rw [ex294, ef293, ef291, ev290, ev289, ev287]; exact hM) _ _ hP hD hS ls (lv_sub hl [0, 1] rfl)
  exact hl230 100000 0 ry0 ry1 ry2 ry3 ry4 ry5 ry6 rl0 rl1 rl2 rl3 rl4 rl5 rl6 (by have z9_0 : (0 : Int32).toInt = 0 := (by decide); omega) ⟨by decide, by decide⟩ hM _ _ hP hD hS ls (lv_sub hl [0, 1] rfl)
def K_closeDepth_4 (depth : Int32) (ry_2 : Nat → Int64) (ry_3 : Nat → Int64) (ry_4 : Nat → Int64) (ry_5 : Nat → Int64) (ry_6 : Nat → Int64) (ry_7 : Nat → Int64) (ry_8 : Nat → Int64) (f156 : Nat → Int64) (f157 : Nat → Int64) (f158 : Nat → Int64) (f159 : Nat → Int64) (f160 : Nat → Int64) (f161 : Nat → Int64) (rl_15 : Nat → Int64) : (Int32) × (Nat → Int64) × (Nat → Int64) × (Nat → Int64) × (Nat → Int64) × (Nat → Int64) × (Nat → Int64) × (Nat → Int64) × (Nat → Int64) × (Nat → Int64) × (Nat → Int64) × (Nat → Int64) × (Nat → Int64) × (Nat → Int64) × (Nat → Int64) := ((depth - (1 : Int32)), ry_2, ry_3, ry_4, ry_5, ry_6, ry_7, ry_8, f156, f157, f158, f159, f160, f161, rl_15)
def K_closeDepth_6 (rec_3 : (Int32) → (Nat → Int64) → (Nat → Int64) → (Nat → Int64) → (Nat → Int64) → (Nat → Int64) → (Nat → Int64) → ((Int32) × (Nat → Int64) × (Nat → Int64) × (Nat → Int64) × (Nat → Int64) × (Nat → Int64) × (Nat → Int64) × (Nat → Int64) × (Nat → Int64) × (Nat → Int64) × (Nat → Int64) × (Nat → Int64) × (Nat → Int64) × (Nat → Int64) × (Nat → Int64))) (x155 : Int32) (f156 : Nat → Int64) (ry_3 : Nat → Int64) (f157 : Nat → Int64) (f158 : Nat → Int64) (f159 : Nat → Int64) (f160 : Nat → Int64) (f161 : Nat → Int64) : (Int32) × (Nat → Int64) × (Nat → Int64) × (Nat → Int64) × (Nat → Int64) × (Nat → Int64) × (Nat → Int64) × (Nat → Int64) × (Nat → Int64) × (Nat → Int64) × (Nat → Int64) × (Nat → Int64) × (Nat → Int64) × (Nat → Int64) × (Nat → Int64) := (rec_3 (x155 + 1) (vp_updL f156 (x155 : Int32).toNatClampNeg ((f156 x155.toNatClampNeg) &&& (ry_3 x155.toNatClampNeg))) f157 f158 f159 f160 f161)
def K_closeDepth_8 (rec_3 : (Int32) → (Nat → Int64) → (Nat → Int64) → (Nat → Int64) → (Nat → Int64) → (Nat → Int64) → (Nat → Int64) → ((Int32) × (Nat → Int64) × (Nat → Int64) × (Nat → Int64) × (Nat → Int64) × (Nat → Int64) × (Nat → Int64) × (Nat → Int64) × (Nat → Int64) × (Nat → Int64) × (Nat → Int64) × (Nat → Int64) × (Nat → Int64) × (Nat → Int64) × (Nat → Int64))) (x155 : Int32) (f156 : Nat → Int64) (f157 : Nat → Int64) (ry_4 : Nat → Int64) (f158 : Nat → Int64) (f159 : Nat → Int64) (f160 : Nat → Int64) (f161 : Nat → Int64) : (Int32) × (Nat → Int64) × (Nat → Int64) × (Nat → Int64) × (Nat → Int64) × (Nat → Int64) × (Nat → Int64) × (Nat → Int64) × (Nat → Int64) × (Nat → Int64) × (Nat → Int64) × (Nat → Int64) × (Nat → Int64) × (Nat → Int64) × (Nat → Int64) := (rec_3 (x155 + 1) f156 (vp_updL f157 (x155 : Int32).toNatClampNeg ((f157 x155.toNatClampNeg) &&& (ry_4 x155.toNatClampNeg))) f158 f159 f160 f161)
def K_closeDepth_10 (rec_3 : (Int32) → (Nat → Int64) → (Nat → Int64) → (Nat → Int64) → (Nat → Int64) → (Nat → Int64) → (Nat → Int64) → ((Int32) × (Nat → Int64) × (Nat → Int64) × (Nat → Int64) × (Nat → Int64) × (Nat → Int64) × (Nat → Int64) × (Nat → Int64) × (Nat → Int64) × (Nat → Int64) × (Nat → Int64) × (Nat → Int64) × (Nat → Int64) × (Nat → Int64) × (Nat → Int64))) (x155 : Int32) (f156 : Nat → Int64) (f157 : Nat → Int64) (f158 : Nat → Int64) (ry_5 : Nat → Int64) (f159 : Nat → Int64) (f160 : Nat → Int64) (f161 : Nat → Int64) : (Int32) × (Nat → Int64) × (Nat → Int64) × (Nat → Int64) × (Nat → Int64) × (Nat → Int64) × (Nat → Int64) × (Nat → Int64) × (Nat → Int64) × (Nat → Int64) × (Nat → Int64) × (Nat → Int64) × (Nat → Int64) × (Nat → Int64) × (Nat → Int64) := (rec_3 (x155 + 1) f156 f157 (vp_updL f158 (x155 : Int32).toNatClampNeg ((f158 x155.toNatClampNeg) &&& (ry_5 x155.toNatClampNeg))) f159 f160 f161)
def K_closeDepth_12 (rec_3 : (Int32) → (Nat → Int64) → (Nat → Int64) → (Nat → Int64) → (Nat → Int64) → (Nat → Int64) → (Nat → Int64) → ((Int32) × (Nat → Int64) × (Nat → Int64) × (Nat → Int64) × (Nat → Int64) × (Nat → Int64) × (Nat → Int64) × (Nat → Int64) × (Nat → Int64) × (Nat → Int64) × (Nat → Int64) × (Nat → Int64) × (Nat → Int64) × (Nat → Int64) × (Nat → Int64))) (x155 : Int32) (f156 : Nat → Int64) (f157 : Nat → Int64) (f158 : Nat → Int64) (f159 : Nat → Int64) (ry_6 : Nat → Int64) (f160 : Nat → Int64) (f161 : Nat → Int64) : (Int32) × (Nat → Int64) × (Nat → Int64) × (Nat → Int64) × (Nat → Int64) × (Nat → Int64) × (Nat → Int64) × (Nat → Int64) × (Nat → Int64) × (Nat → Int64) × (Nat → Int64) × (Nat → Int64) × (Nat → Int64) × (Nat → Int64) × (Nat → Int64) := (rec_3 (x155 + 1) f156 f157 f158 (vp_updL f159 (x155 : Int32).toNatClampNeg ((f159 x155.toNatClampNeg) &&& (ry_6 x155.toNatClampNeg))) f160 f161)
def K_closeDepth_14 (rec_3 : (Int32) → (Nat → Int64) → (Nat → Int64) → (Nat → Int64) → (Nat → Int64) → (Nat → Int64) → (Nat → Int64) → ((Int32) × (Nat → Int64) × (Nat → Int64) × (Nat → Int64) × (Nat → Int64) × (Nat → Int64) × (Nat → Int64) × (Nat → Int64) × (Nat → Int64) × (Nat → Int64) × (Nat → Int64) × (Nat → Int64) × (Nat → Int64) × (Nat → Int64) × (Nat → Int64))) (x155 : Int32) (f156 : Nat → Int64) (f157 : Nat → Int64) (f158 : Nat → Int64) (f159 : Nat → Int64) (f160 : Nat → Int64) (ry_7 : Nat → Int64) (f161 : Nat → Int64) : (Int32) × (Nat → Int64) × (Nat → Int64) × (Nat → Int64) × (Nat → Int64) × (Nat → Int64) × (Nat → Int64) × (Nat → Int64) × (Nat → Int64) × (Nat → Int64) × (Nat → Int64) × (Nat → Int64) × (Nat → Int64) × (Nat → Int64) × (Nat → Int64) := (rec_3 (x155 + 1) f156 f157 f158 f159 (vp_updL f160 (x155 : Int32).toNatClampNeg ((f160 x155.toNatClampNeg) &&& (ry_7 x155.toNatClampNeg))) f161)
def K_closeDepth_15 (rec_3 : (Int32) → (Nat → Int64) → (Nat → Int64) → (Nat → Int64) → (Nat → Int64) → (Nat → Int64) → (Nat → Int64) → ((Int32) × (Nat → Int64) × (Nat → Int64) × (Nat → Int64) × (Nat → Int64) × (Nat → Int64) × (Nat → Int64) × (Nat → Int64) × (Nat → Int64) × (Nat → Int64) × (Nat → Int64) × (Nat → Int64) × (Nat → Int64) × (Nat → Int64) × (Nat → Int64))) (x155 : Int32) (f156 : Nat → Int64) (f157 : Nat → Int64) (f158 : Nat → Int64) (f159 : Nat → Int64) (f160 : Nat → Int64) (f161 : Nat → Int64) (ry_8 : Nat → Int64) : (Int32) × (Nat → Int64) × (Nat → Int64) × (Nat → Int64) × (Nat → Int64) × (Nat → Int64) × (Nat → Int64) × (Nat → Int64) × (Nat → Int64) × (Nat → Int64) × (Nat → Int64) × (Nat → Int64) × (Nat → Int64) × (Nat → Int64) × (Nat → Int64) := (rec_3 (x155 + 1) f156 f157 f158 f159 f160 (vp_updL f161 (x155 : Int32).toNatClampNeg ((f161 x155.toNatClampNeg) &&& (ry_8 x155.toNatClampNeg))))
def K_closeDepth_13 (depth : Int32) (rec_3 : (Int32) → (Nat → Int64) → (Nat → Int64) → (Nat → Int64) → (Nat → Int64) → (Nat → Int64) → (Nat → Int64) → ((Int32) × (Nat → Int64) × (Nat → Int64) × (Nat → Int64) × (Nat → Int64) × (Nat → Int64) × (Nat → Int64) × (Nat → Int64) × (Nat → Int64) × (Nat → Int64) × (Nat → Int64) × (Nat → Int64) × (Nat → Int64) × (Nat → Int64) × (Nat → Int64))) (x155 : Int32) (f156 : Nat → Int64) (f157 : Nat → Int64) (f158 : Nat → Int64) (f159 : Nat → Int64) (f160 : Nat → Int64) (ry_7 : Nat → Int64) (f161 : Nat → Int64) (ry_8 : Nat → Int64) : (Int32) × (Nat → Int64) × (Nat → Int64) × (Nat → Int64) × (Nat → Int64) × (Nat → Int64) × (Nat → Int64) × (Nat → Int64) × (Nat → Int64) × (Nat → Int64) × (Nat → Int64) × (Nat → Int64) × (Nat → Int64) × (Nat → Int64) × (Nat → Int64) := (if (depth.toInt - 1) = 4 then (K_closeDepth_14 rec_3 x155 f156 f157 f158 f159 f160 ry_7 f161) else (K_closeDepth_15 rec_3 x155 f156 f157 f158 f159 f160 f161 ry_8))
def K_closeDepth_11 (depth : Int32) (rec_3 : (Int32) → (Nat → Int64) → (Nat → Int64) → (Nat → Int64) → (Nat → Int64) → (Nat → Int64) → (Nat → Int64) → ((Int32) × (Nat → Int64) × (Nat → Int64) × (Nat → Int64) × (Nat → Int64) × (Nat → Int64) × (Nat → Int64) × (Nat → Int64) × (Nat → Int64) × (Nat → Int64) × (Nat → Int64) × (Nat → Int64) × (Nat → Int64) × (Nat → Int64) × (Nat → Int64))) (x155 : Int32) (f156 : Nat → Int64) (f157 : Nat → Int64) (f158 : Nat → Int64) (f159 : Nat → Int64) (ry_6 : Nat → Int64) (f160 : Nat → Int64) (f161 : Nat → Int64) (ry_7 : Nat → Int64) (ry_8 : Nat → Int64) : (Int32) × (Nat → Int64) × (Nat → Int64) × (Nat → Int64) × (Nat → Int64) × (Nat → Int64) × (Nat → Int64) × (Nat → Int64) × (Nat → Int64) × (Nat → Int64) × (Nat → Int64) × (Nat → Int64) × (Nat → Int64) × (Nat → Int64) × (Nat → Int64) := (if (depth.toInt - 1) = 3 then (K_closeDepth_12 rec_3 x155 f156 f157 f158 f159 ry_6 f160 f161) else (K_closeDepth_13 depth rec_3 x155 f156 f157 f158 f159 f160 ry_7 f161 ry_8))
def K_closeDepth_9 (depth : Int32) (rec_3 : (Int32) → (Nat → Int64) → (Nat → Int64) → (Nat → Int64) → (Nat → Int64) → (Nat → Int64) → (Nat → Int64) → ((Int32) × (Nat → Int64) × (Nat → Int64) × (Nat → Int64) × (Nat → Int64) × (Nat → Int64) × (Nat → Int64) × (Nat → Int64) × (Nat → Int64) × (Nat → Int64) × (Nat → Int64) × (Nat → Int64) × (Nat → Int64) × (Nat → Int64) × (Nat → Int64))) (x155 : Int32) (f156 : Nat → Int64) (f157 : Nat → Int64) (f158 : Nat → Int64) (ry_5 : Nat → Int64) (f159 : Nat → Int64) (f160 : Nat → Int64) (f161 : Nat → Int64) (ry_6 : Nat → Int64) (ry_7 : Nat → Int64) (ry_8 : Nat → Int64) : (Int32) × (Nat → Int64) × (Nat → Int64) × (Nat → Int64) × (Nat → Int64) × (Nat → Int64) × (Nat → Int64) × (Nat → Int64) × (Nat → Int64) × (Nat → Int64) × (Nat → Int64) × (Nat → Int64) × (Nat → Int64) × (Nat → Int64) × (Nat → Int64) := (if (depth.toInt - 1) = 2 then (K_closeDepth_10 rec_3 x155 f156 f157 f158 ry_5 f159 f160 f161) else (K_closeDepth_11 depth rec_3 x155 f156 f157 f158 f159 ry_6 f160 f161 ry_7 ry_8))
def K_closeDepth_7 (depth : Int32) (rec_3 : (Int32) → (Nat → Int64) → (Nat → Int64) → (Nat → Int64) → (Nat → Int64) → (Nat → Int64) → (Nat → Int64) → ((Int32) × (Nat → Int64) × (Nat → Int64) × (Nat → Int64) × (Nat → Int64) × (Nat → Int64) × (Nat → Int64) × (Nat → Int64) × (Nat → Int64) × (Nat → Int64) × (Nat → Int64) × (Nat → Int64) × (Nat → Int64) × (Nat → Int64) × (Nat → Int64))) (x155 : Int32) (f156 : Nat → Int64) (f157 : Nat → Int64) (ry_4 : Nat → Int64) (f158 : Nat → Int64) (f159 : Nat → Int64) (f160 : Nat → Int64) (f161 : Nat → Int64) (ry_5 : Nat → Int64) (ry_6 : Nat → Int64) (ry_7 : Nat → Int64) (ry_8 : Nat → Int64) : (Int32) × (Nat → Int64) × (Nat → Int64) × (Nat → Int64) × (Nat → Int64) × (Nat → Int64) × (Nat → Int64) × (Nat → Int64) × (Nat → Int64) × (Nat → Int64) × (Nat → Int64) × (Nat → Int64) × (Nat → Int64) × (Nat → Int64) × (Nat → Int64) := (if (depth.toInt - 1) = 1 then (K_closeDepth_8 rec_3 x155 f156 f157 ry_4 f158 f159 f160 f161) else (K_closeDepth_9 depth rec_3 x155 f156 f157 f158 ry_5 f159 f160 f161 ry_6 ry_7 ry_8))
def K_closeDepth_5 (depth : Int32) (rec_3 : (Int32) → (Nat → Int64) → (Nat → Int64) → (Nat → Int64) → (Nat → Int64) → (Nat → Int64) → (Nat → Int64) → ((Int32) × (Nat → Int64) × (Nat → Int64) × (Nat → Int64) × (Nat → Int64) × (Nat → Int64) × (Nat → Int64) × (Nat → Int64) × (Nat → Int64) × (Nat → Int64) × (Nat → Int64) × (Nat → Int64) × (Nat → Int64) × (Nat → Int64) × (Nat → Int64))) (x155 : Int32) (f156 : Nat → Int64) (ry_3 : Nat → Int64) (f157 : Nat → Int64) (f158 : Nat → Int64) (f159 : Nat → Int64) (f160 : Nat → Int64) (f161 : Nat → Int64) (ry_4 : Nat → Int64) (ry_5 : Nat → Int64) (ry_6 : Nat → Int64) (ry_7 : Nat → Int64) (ry_8 : Nat → Int64) : (Int32) × (Nat → Int64) × (Nat → Int64) × (Nat → Int64) × (Nat → Int64) × (Nat → Int64) × (Nat → Int64) × (Nat → Int64) × (Nat → Int64) × (Nat → Int64) × (Nat → Int64) × (Nat → Int64) × (Nat → Int64) × (Nat → Int64) × (Nat → Int64) := (if (depth.toInt - 1) = 0 then (K_closeDepth_6 rec_3 x155 f156 ry_3 f157 f158 f159 f160 f161) else (K_closeDepth_7 depth rec_3 x155 f156 f157 ry_4 f158 f159 f160 f161 ry_5 ry_6 ry_7 ry_8))
def K_closeDepth_3 (x155 : Int32) (depth : Int32) (ry_2 : Nat → Int64) (ry_3 : Nat → Int64) (ry_4 : Nat → Int64) (ry_5 : Nat → Int64) (ry_6 : Nat → Int64) (ry_7 : Nat → Int64) (ry_8 : Nat → Int64) (f156 : Nat → Int64) (f157 : Nat → Int64) (f158 : Nat → Int64) (f159 : Nat → Int64) (f160 : Nat → Int64) (f161 : Nat → Int64) (rl_15 : Nat → Int64) (rec_3 : (Int32) → (Nat → Int64) → (Nat → Int64) → (Nat → Int64) → (Nat → Int64) → (Nat → Int64) → (Nat → Int64) → ((Int32) × (Nat → Int64) × (Nat → Int64) × (Nat → Int64) × (Nat → Int64) × (Nat → Int64) × (Nat → Int64) × (Nat → Int64) × (Nat → Int64) × (Nat → Int64) × (Nat → Int64) × (Nat → Int64) × (Nat → Int64) × (Nat → Int64) × (Nat → Int64))) : (Int32) × (Nat → Int64) × (Nat → Int64) × (Nat → Int64) × (Nat → Int64) × (Nat → Int64) × (Nat → Int64) × (Nat → Int64) × (Nat → Int64) × (Nat → Int64) × (Nat → Int64) × (Nat → Int64) × (Nat → Int64) × (Nat → Int64) × (Nat → Int64) := (if 8 ≤ x155.toInt then (K_closeDepth_4 depth ry_2 ry_3 ry_4 ry_5 ry_6 ry_7 ry_8 f156 f157 f158 f159 f160 f161 rl_15) else (K_closeDepth_5 depth rec_3 x155 f156 ry_3 f157 f158 f159 f160 f161 ry_4 ry_5 ry_6 ry_7 ry_8))
def K_closeDepth_L3 (depth : Int32) (ry_2 : Nat → Int64) (ry_3 : Nat → Int64) (ry_4 : Nat → Int64) (ry_5 : Nat → Int64) (ry_6 : Nat → Int64) (ry_7 : Nat → Int64) (ry_8 : Nat → Int64) (rl_15 : Nat → Int64) : Nat → (Int32) → (Nat → Int64) → (Nat → Int64) → (Nat → Int64) → (Nat → Int64) → (Nat → Int64) → (Nat → Int64) → (Int32) × (Nat → Int64) × (Nat → Int64) × (Nat → Int64) × (Nat → Int64) × (Nat → Int64) × (Nat → Int64) × (Nat → Int64) × (Nat → Int64) × (Nat → Int64) × (Nat → Int64) × (Nat → Int64) × (Nat → Int64) × (Nat → Int64) × (Nat → Int64)
  | 0, _, _, _, _, _, _, _ => (0, fun _ => 0, fun _ => 0, fun _ => 0, fun _ => 0, fun _ => 0, fun _ => 0, fun _ => 0, fun _ => 0, fun _ => 0, fun _ => 0, fun _ => 0, fun _ => 0, fun _ => 0, fun _ => 0)
  | n9 + 1, x155, f156, f157, f158, f159, f160, f161 => (K_closeDepth_3 x155 depth ry_2 ry_3 ry_4 ry_5 ry_6 ry_7 ry_8 f156 f157 f158 f159 f160 f161 rl_15 (K_closeDepth_L3 depth ry_2 ry_3 ry_4 ry_5 ry_6 ry_7 ry_8 rl_15 n9))
def K_closeDepth_2 (depth : Int32) (ry_2 : Nat → Int64) (ry_3 : Nat → Int64) (ry_4 : Nat → Int64) (ry_5 : Nat → Int64) (ry_6 : Nat → Int64) (ry_7 : Nat → Int64) (ry_8 : Nat → Int64) (rl_15 : Nat → Int64) (rl_9 : Nat → Int64) (rl_10 : Nat → Int64) (rl_11 : Nat → Int64) (rl_12 : Nat → Int64) (rl_13 : Nat → Int64) (rl_14 : Nat → Int64) : (Int32) × (Nat → Int64) × (Nat → Int64) × (Nat → Int64) × (Nat → Int64) × (Nat → Int64) × (Nat → Int64) × (Nat → Int64) × (Nat → Int64) × (Nat → Int64) × (Nat → Int64) × (Nat → Int64) × (Nat → Int64) × (Nat → Int64) × (Nat → Int64) := (K_closeDepth_L3 depth ry_2 ry_3 ry_4 ry_5 ry_6 ry_7 ry_8 rl_15 100000 (0 : Int32) rl_9 rl_10 rl_11 rl_12 rl_13 rl_14)
def K_closeDepth_1 (depth : Int32) (ry0 : Nat → Int64) (ry1 : Nat → Int64) (ry2 : Nat → Int64) (ry3 : Nat → Int64) (ry4 : Nat → Int64) (ry5 : Nat → Int64) (ry6 : Nat → Int64) (rl0 : Nat → Int64) (rl1 : Nat → Int64) (rl2 : Nat → Int64) (rl3 : Nat → Int64) (rl4 : Nat → Int64) (rl5 : Nat → Int64) (rl6 : Nat → Int64) : (Int32) × (Nat → Int64) × (Nat → Int64) × (Nat → Int64) × (Nat → Int64) × (Nat → Int64) × (Nat → Int64) × (Nat → Int64) × (Nat → Int64) × (Nat → Int64) × (Nat → Int64) × (Nat → Int64) × (Nat → Int64) × (Nat → Int64) × (Nat → Int64) := ((fun t9 => (K_closeDepth_2 depth t9.1 t9.2.1 t9.2.2.1 t9.2.2.2.1 t9.2.2.2.2.1 t9.2.2.2.2.2.1 t9.2.2.2.2.2.2.1 t9.2.2.2.2.2.2.2.2.2.2.2.2.2 t9.2.2.2.2.2.2.2.1 t9.2.2.2.2.2.2.2.2.1 t9.2.2.2.2.2.2.2.2.2.1 t9.2.2.2.2.2.2.2.2.2.2.1 t9.2.2.2.2.2.2.2.2.2.2.2.1 t9.2.2.2.2.2.2.2.2.2.2.2.2.1)) (M_joinAny depth ry0 ry1 ry2 ry3 ry4 ry5 ry6 rl0 rl1 rl2 rl3 rl4 rl5 rl6))
def M_closeDepth (depth : Int32) (ry0 : Nat → Int64) (ry1 : Nat → Int64) (ry2 : Nat → Int64) (ry3 : Nat → Int64) (ry4 : Nat → Int64) (ry5 : Nat → Int64) (ry6 : Nat → Int64) (rl0 : Nat → Int64) (rl1 : Nat → Int64) (rl2 : Nat → Int64) (rl3 : Nat → Int64) (rl4 : Nat → Int64) (rl5 : Nat → Int64) (rl6 : Nat → Int64) : (Int32) × (Nat → Int64) × (Nat → Int64) × (Nat → Int64) × (Nat → Int64) × (Nat → Int64) × (Nat → Int64) × (Nat → Int64) × (Nat → Int64) × (Nat → Int64) × (Nat → Int64) × (Nat → Int64) × (Nat → Int64) × (Nat → Int64) × (Nat → Int64) := (K_closeDepth_1 depth ry0 ry1 ry2 ry3 ry4 ry5 ry6 rl0 rl1 rl2 rl3 rl4 rl5 rl6)
abbrev W_closeDepth (cI cJ cZ cG cH : ClassId) (rd : Nat) (tp : Nat) (rfa : Nat) (rya : Nat) (rla : Nat) (pl : Nat) (place : Int32) (kind : Int32) (from_ : Int32) (value : Int32) (told : Int32) (depth : Int32) (fault : Int32) (fplace : Int32) (ryf : Nat → Nat) (ry0 : Nat → Int64) (ry1 : Nat → Int64) (ry2 : Nat → Int64) (ry3 : Nat → Int64) (ry4 : Nat → Int64) (ry5 : Nat → Int64) (ry6 : Nat → Int64) (rlf : Nat → Nat) (rl0 : Nat → Int64) (rl1 : Nat → Int64) (rl2 : Nat → Int64) (rl3 : Nat → Int64) (rl4 : Nat → Int64) (rl5 : Nat → Int64) (rl6 : Nat → Int64) : va_W := [oX4 rd tp rfa rya rla pl place kind from_ value told depth fault fplace, oAM rya cH 7 ryf, oAJ (ryf 0) cJ 8 ry0, oAJ (ryf 1) cJ 8 ry1, oAJ (ryf 2) cJ 8 ry2, oAJ (ryf 3) cJ 8 ry3, oAJ (ryf 4) cJ 8 ry4, oAJ (ryf 5) cJ 8 ry5, oAJ (ryf 6) cJ 8 ry6, oAM rla cH 7 rlf, oAJ (rlf 0) cJ 8 rl0, oAJ (rlf 1) cJ 8 rl1, oAJ (rlf 2) cJ 8 rl2, oAJ (rlf 3) cJ 8 rl3, oAJ (rlf 4) cJ 8 rl4, oAJ (rlf 5) cJ 8 rl5, oAJ (rlf 6) cJ 8 rl6]
abbrev Q_closeDepth (D : va_G) (cI cJ cZ cG cH : ClassId) (rd : Nat) (tp : Nat) (rfa : Nat) (rya : Nat) (rla : Nat) (pl : Nat) (place : Int32) (kind : Int32) (from_ : Int32) (value : Int32) (told : Int32) (depth : Int32) (fault : Int32) (fplace : Int32) (ryf : Nat → Nat) (ry0 : Nat → Int64) (ry1 : Nat → Int64) (ry2 : Nat → Int64) (ry3 : Nat → Int64) (ry4 : Nat → Int64) (ry5 : Nat → Int64) (ry6 : Nat → Int64) (rlf : Nat → Nat) (rl0 : Nat → Int64) (rl1 : Nat → Int64) (rl2 : Nat → Int64) (rl3 : Nat → Int64) (rl4 : Nat → Int64) (rl5 : Nat → Int64) (rl6 : Nat → Int64) (A : Nat → Prop) : Array Value → State → Outcome → State → Prop := va_Qv (fun (_ : Unit) => True) (fun _ t => ∃ (depth9 : Int32) (ry09 : Nat → Int64) (ry19 : Nat → Int64) (ry29 : Nat → Int64) (ry39 : Nat → Int64) (ry49 : Nat → Int64) (ry59 : Nat → Int64) (ry69 : Nat → Int64) (rl09 : Nat → Int64) (rl19 : Nat → Int64) (rl29 : Nat → Int64) (rl39 : Nat → Int64) (rl49 : Nat → Int64) (rl59 : Nat → Int64) (rl69 : Nat → Int64), (0 ≤ depth9.toInt ∧ depth9.toInt ≤ 5) ∧ (M_closeDepth depth ry0 ry1 ry2 ry3 ry4 ry5 ry6 rl0 rl1 rl2 rl3 rl4 rl5 rl6 = (depth9, ry09, ry19, ry29, ry39, ry49, ry59, ry69, rl09, rl19, rl29, rl39, rl49, rl59, rl69)) ∧ xB D (tyL cI cJ cZ cG cH) [oX4 rd tp rfa rya rla pl place kind from_ value told depth9 fault fplace, oAM rya cH 7 ryf, oAJ (ryf 0) cJ 8 ry09, oAJ (ryf 1) cJ 8 ry19, oAJ (ryf 2) cJ 8 ry29, oAJ (ryf 3) cJ 8 ry39, oAJ (ryf 4) cJ 8 ry49, oAJ (ryf 5) cJ 8 ry59, oAJ (ryf 6) cJ 8 ry69, oAM rla cH 7 rlf, oAJ (rlf 0) cJ 8 rl09, oAJ (rlf 1) cJ 8 rl19, oAJ (rlf 2) cJ 8 rl29, oAJ (rlf 3) cJ 8 rl39, oAJ (rlf 4) cJ 8 rl49, oAJ (rlf 5) cJ 8 rl59, oAJ (rlf 6) cJ 8 rl69] A t) A
abbrev rm_closeDepth : Room := { frames := 1, cells := 0, slots := 0, locals := 21 }
set_option maxRecDepth 100000 in
set_option maxHeartbeats 40000000 in
theorem c_closeDepth (l : Launch) (D : va_G) (cI cJ cZ cG cH : ClassId) (sz : Nat) (rd : Nat) (tp : Nat) (rfa : Nat) (rya : Nat) (rla : Nat) (pl : Nat) (place : Int32) (kind : Int32) (from_ : Int32) (value : Int32) (told : Int32) (depth : Int32) (fault : Int32) (fplace : Int32) (ryf : Nat → Nat) (ry0 : Nat → Int64) (ry1 : Nat → Int64) (ry2 : Nat → Int64) (ry3 : Nat → Int64) (ry4 : Nat → Int64) (ry5 : Nat → Int64) (ry6 : Nat → Int64) (rlf : Nat → Nat) (rl0 : Nat → Int64) (rl1 : Nat → Int64) (rl2 : Nat → Int64) (rl3 : Nat → Int64) (rl4 : Nat → Int64) (rl5 : Nat → Int64) (rl6 : Nat → Int64) (h_place : 0 ≤ place.toInt ∧ place.toInt ≤ 400) (h_from_ : 0 ≤ from_.toInt ∧ from_.toInt ≤ 400) (h_depth : 1 ≤ depth.toInt ∧ depth.toInt ≤ 6) : Met l yX4_closeDepth (wt yX4_closeDepth cX4_closeDepth 2 none) rm_closeDepth (xPc [.ref rd] D (tyL cI cJ cZ cG cH) (W_closeDepth cI cJ cZ cG cH rd tp rfa rya rla pl place kind from_ value told depth fault fplace ryf ry0 ry1 ry2 ry3 ry4 ry5 ry6 rlf rl0 rl1 rl2 rl3 rl4 rl5 rl6) sz) (Q_closeDepth D cI cJ cZ cG cH rd tp rfa rya rla pl place kind from_ value told depth fault fplace ryf ry0 ry1 ry2 ry3 ry4 ry5 ry6 rlf rl0 rl1 rl2 rl3 rl4 rl5 rl6 (va_A (W_closeDepth cI cJ cZ cG cH rd tp rfa rya rla pl place kind from_ value told depth fault fplace ryf ry0 ry1 ry2 ry3 ry4 ry5 ry6 rlf rl0 rl1 rl2 rl3 rl4 rl5 rl6) sz)) 0 0 (va_A (W_closeDepth cI cJ cZ cG cH rd tp rfa rya rla pl place kind from_ value told depth fault fplace ryf ry0 ry1 ry2 ry3 ry4 ry5 ry6 rlf rl0 rl1 rl2 rl3 rl4 rl5 rl6) sz) := by
  refine xMet (cc := cX4_closeDepth) (maxL := 2) (ret := none) (Qf := Q_closeDepth D cI cJ cZ cG cH rd tp rfa rya rla pl place kind from_ value told depth fault fplace ryf ry0 ry1 ry2 ry3 ry4 ry5 ry6 rlf rl0 rl1 rl2 rl3 rl4 rl5 rl6) (by decide) rfl (Nat.le_of_ble_eq_true rfl) ?_
  intro p e s m below meth c ls A hx hb hr hml hts hown hlocks hnm hsz hP hK hD hA hS hl
  have hown : s.vm.findClass RX4 = some m.cls := hown
  have hP : va_P D vwCl [oX4 rd tp rfa rya rla pl place kind from_ value told depth fault fplace, oAM rya cH 7 ryf, oAJ (ryf 0) cJ 8 ry0, oAJ (ryf 1) cJ 8 ry1, oAJ (ryf 2) cJ 8 ry2, oAJ (ryf 3) cJ 8 ry3, oAJ (ryf 4) cJ 8 ry4, oAJ (ryf 5) cJ 8 ry5, oAJ (ryf 6) cJ 8 ry6, oAM rla cH 7 rlf, oAJ (rlf 0) cJ 8 rl0, oAJ (rlf 1) cJ 8 rl1, oAJ (rlf 2) cJ 8 rl2, oAJ (rlf 3) cJ 8 rl3, oAJ (rlf 4) cJ 8 rl4, oAJ (rlf 5) cJ 8 rl5, oAJ (rlf 6) cJ 8 rl6] s.heap := hP
  have hD : va_D A [oX4 rd tp rfa rya rla pl place kind from_ value told depth fault fplace, oAM rya cH 7 ryf, oAJ (ryf 0) cJ 8 ry0, oAJ (ryf 1) cJ 8 ry1, oAJ (ryf 2) cJ 8 ry2, oAJ (ryf 3) cJ 8 ry3, oAJ (ryf 4) cJ 8 ry4, oAJ (ryf 5) cJ 8 ry5, oAJ (ryf 6) cJ 8 ry6, oAM rla cH 7 rlf, oAJ (rlf 0) cJ 8 rl0, oAJ (rlf 1) cJ 8 rl1, oAJ (rlf 2) cJ 8 rl2, oAJ (rlf 3) cJ 8 rl3, oAJ (rlf 4) cJ 8 rl4, oAJ (rlf 5) cJ 8 rl5, oAJ (rlf 6) cJ 8 rl6] := hD
  have hl : lv_has ls 2 [(0, .ref rd)] := hl
  have hM : M_closeDepth depth ry0 ry1 ry2 ry3 ry4 ry5 ry6 rl0 rl1 rl2 rl3 rl4 rl5 rl6 = (K_closeDepth_1 depth ry0 ry1 ry2 ry3 ry4 ry5 ry6 rl0 rl1 rl2 rl3 rl4 rl5 rl6) := rfl
  refine lv_aload_n hx hb dX4_closeDepth_0 rfl (lv_at hl 0 rfl) ?_
  obtain ⟨hPc, hDc, hFc, hC9⟩ := xpk (wc := W_joinAny cI cJ cZ cG cH rd tp rfa rya rla pl place kind from_ value told depth fault fplace ryf ry0 ry1 ry2 ry3 ry4 ry5 ry6 rlf rl0 rl1 rl2 rl3 rl4 rl5 rl6) hP hD hS hA [0, 1, 2, 3, 4, 5, 6, 7, 8, 9, 10, 11, 12, 13, 14, 15, 16] (by decide +kernel) rfl
  refine va_callv (va_runV (As := []) (rest := []) ⟨hx, hb, hml, hown, hts⟩ (c_joinAny l D cI cJ cZ cG cH s.heap.size rd tp rfa rya rla pl place kind from_ value told depth fault fplace ryf ry0 ry1 ry2 ry3 ry4 ry5 ry6 rlf rl0 rl1 rl2 rl3 rl4 rl5 rl6 (xrng rfl (by omega) (by omega)) (xrng rfl (by omega) (by omega)) (xrng rfl (by omega) (by omega))) (cwV 0 hts (xGV tbC wd374 wd375 wd376 wd60 wd998) rfl rfl rfl (by decide +kernel) ⟨Nat.le_of_ble_eq_true rfl, Nat.le_of_ble_eq_true rfl⟩) ⟨xPc_blind, va_recv hK hPc (ci := 3) (q0 := 0) rfl rfl, xPc_pre hPc hK hDc⟩ rfl rfl hl.1 rfl (lv_room (Nat.le_of_ble_eq_true rfl)) dX4_closeDepth_1 ⟨Nat.le_of_ble_eq_true rfl, Nat.le_of_ble_eq_true rfl⟩) hS (fun q _ h => hFc q h) hFc (fun u t H1 locs ht hvm hw1 hB hz1 hk1 hS => ?_)
  revert hB
  refine xex14r (fun ry_2 ry_3 ry_4 ry_5 ry_6 ry_7 ry_8 rl_9 rl_10 rl_11 rl_12 rl_13 rl_14 rl_15 => ?_)
  refine xan4r (fun hf15_0 hP1 hK1 hD1 => ?_)
  rw [ht] at hP1
  obtain ⟨hP, hD⟩ : xPD D A [oX4 rd tp rfa rya rla pl place kind from_ value told depth fault fplace, oAM rya cH 7 ryf, oAJ (ryf 0) cJ 8 ry_2, oAJ (ryf 1) cJ 8 ry_3, oAJ (ryf 2) cJ 8 ry_4, oAJ (ryf 3) cJ 8 ry_5, oAJ (ryf 4) cJ 8 ry_6, oAJ (ryf 5) cJ 8 ry_7, oAJ (ryf 6) cJ 8 ry_8, oAM rla cH 7 rlf, oAJ (rlf 0) cJ 8 rl_9, oAJ (rlf 1) cJ 8 rl_10, oAJ (rlf 2) cJ 8 rl_11, oAJ (rlf 3) cJ 8 rl_12, oAJ (rlf 4) cJ 8 rl_13, oAJ (rlf 5) cJ 8 rl_14, oAJ (rlf 6) cJ 8 rl_15] H1 := xjn 0 hP hD [0, 1, 2, 3, 4, 5, 6, 7, 8, 9, 10, 11, 12, 13, 14, 15, 16] [] hC9 rfl (by decide +kernel) (by decide +kernel) hk1 hFc hP1 hD1
  generalize H1 = H at hP hS ⊢
  have hf15_0 : M_joinAny depth ry0 ry1 ry2 ry3 ry4 ry5 ry6 rl0 rl1 rl2 rl3 rl4 rl5 rl6 = (ry_2, ry_3, ry_4, ry_5, ry_6, ry_7, ry_8, rl_9, rl_10, rl_11, rl_12, rl_13, rl_14, rl_15) := hf15_0
  have h9M := congrArg (fun t9 => (K_closeDepth_2 depth t9.1 t9.2.1 t9.2.2.1 t9.2.2.2.1 t9.2.2.2.2.1 t9.2.2.2.2.2.1 t9.2.2.2.2.2.2.1 t9.2.2.2.2.2.2.2.2.2.2.2.2.2 t9.2.2.2.2.2.2.2.1 t9.2.2.2.2.2.2.2.2.1 t9.2.2.2.2.2.2.2.2.2.1 t9.2.2.2.2.2.2.2.2.2.2.1 t9.2.2.2.2.2.2.2.2.2.2.2.1 t9.2.2.2.2.2.2.2.2.2.2.2.2.1)) hf15_0
  have hM : M_closeDepth depth ry0 ry1 ry2 ry3 ry4 ry5 ry6 rl0 rl1 rl2 rl3 rl4 rl5 rl6 = (K_closeDepth_2 depth ry_2 ry_3 ry_4 ry_5 ry_6 ry_7 ry_8 rl_15 rl_9 rl_10 rl_11 rl_12 rl_13 rl_14) := (show M_closeDepth depth ry0 ry1 ry2 ry3 ry4 ry5 ry6 rl0 rl1 rl2 rl3 rl4 rl5 rl6 = ((fun t9 => (K_closeDepth_2 depth t9.1 t9.2.1 t9.2.2.1 t9.2.2.2.1 t9.2.2.2.2.1 t9.2.2.2.2.2.1 t9.2.2.2.2.2.2.1 t9.2.2.2.2.2.2.2.2.2.2.2.2.2 t9.2.2.2.2.2.2.2.1 t9.2.2.2.2.2.2.2.2.1 t9.2.2.2.2.2.2.2.2.2.1 t9.2.2.2.2.2.2.2.2.2.2.1 t9.2.2.2.2.2.2.2.2.2.2.2.1 t9.2.2.2.2.2.2.2.2.2.2.2.2.1)) (M_joinAny depth ry0 ry1 ry2 ry3 ry4 ry5 ry6 rl0 rl1 rl2 rl3 rl4 rl5 rl6)) from hM).trans h9M
  refine lv_iconst (v := 0) hx hb dX4_closeDepth_4 (by decide) ?_
  refine lv_istore_n (lv' := [(1, .int 0), (0, .ref rd)]) hx hb dX4_closeDepth_5 rfl hl (by decide) rfl (fun ls hl => ?_)
  have hl162 : ∀ (nhl162 : Nat) (x155 : Int32) (f156 : Nat → Int64) (f157 : Nat → Int64) (f158 : Nat → Int64) (f159 : Nat → Int64) (f160 : Nat → Int64) (f161 : Nat → Int64), ((8 - x155.toInt).toNat < nhl162) → (hx155 : 0 ≤ x155.toInt ∧ x155.toInt ≤ 8) → (hM : M_closeDepth depth ry0 ry1 ry2 ry3 ry4 ry5 ry6 rl0 rl1 rl2 rl3 rl4 rl5 rl6 = (K_closeDepth_L3 depth ry_2 ry_3 ry_4 ry_5 ry_6 ry_7 ry_8 rl_15 nhl162 x155 f156 f157 f158 f159 f160 f161)) → ∀ (H : Heap) (locs : List Loc), va_P D vwCl [oX4 rd tp rfa rya rla pl place kind from_ value told depth fault fplace, oAM rya cH 7 ryf, oAJ (ryf 0) cJ 8 ry_2, oAJ (ryf 1) cJ 8 ry_3, oAJ (ryf 2) cJ 8 ry_4, oAJ (ryf 3) cJ 8 ry_5, oAJ (ryf 4) cJ 8 ry_6, oAJ (ryf 5) cJ 8 ry_7, oAJ (ryf 6) cJ 8 ry_8, oAM rla cH 7 rlf, oAJ (rlf 0) cJ 8 f156, oAJ (rlf 1) cJ 8 f157, oAJ (rlf 2) cJ 8 f158, oAJ (rlf 3) cJ 8 f159, oAJ (rlf 4) cJ 8 f160, oAJ (rlf 5) cJ 8 f161, oAJ (rlf 6) cJ 8 rl_15] H → va_D A [oX4 rd tp rfa rya rla pl place kind from_ value told depth fault fplace, oAM rya cH 7 ryf, oAJ (ryf 0) cJ 8 ry_2, oAJ (ryf 1) cJ 8 ry_3, oAJ (ryf 2) cJ 8 ry_4, oAJ (ryf 3) cJ 8 ry_5, oAJ (ryf 4) cJ 8 ry_6, oAJ (ryf 5) cJ 8 ry_7, oAJ (ryf 6) cJ 8 ry_8, oAM rla cH 7 rlf, oAJ (rlf 0) cJ 8 f156, oAJ (rlf 1) cJ 8 f157, oAJ (rlf 2) cJ 8 f158, oAJ (rlf 3) cJ 8 f159, oAJ (rlf 4) cJ 8 f160, oAJ (rlf 5) cJ 8 f161, oAJ (rlf 6) cJ 8 rl_15] → va_S A s.heap H locs → ∀ (ls : Array Slot), lv_has ls 2 [(1, .int x155), (0, .ref rd)] → W p l e rm_closeDepth s m [Value.ref rd].toArray below meth c H locs 0 0 (MQ below ((Q_closeDepth D cI cJ cZ cG cH rd tp rfa rya rla pl place kind from_ value told depth fault fplace ryf ry0 ry1 ry2 ry3 ry4 ry5 ry6 rlf rl0 rl1 rl2 rl3 rl4 rl5 rl6) A) [Value.ref rd].toArray s 0 0 A) (F0 m 6 ls []) := by
    intro nhl162
    induction nhl162 with
    | zero =>
      intro x155 f156 f157 f158 f159 f160 f161 hmhl162
      exact absurd hmhl162 (Nat.not_lt_zero _)
    | succ nhl162 ihhl162 =>
      intro x155 f156 f157 f158 f159 f160 f161 hmhl162 hx155 hM H locs hP hD hS ls hl
      have hM : M_closeDepth depth ry0 ry1 ry2 ry3 ry4 ry5 ry6 rl0 rl1 rl2 rl3 rl4 rl5 rl6 = (K_closeDepth_3 x155 depth ry_2 ry_3 ry_4 ry_5 ry_6 ry_7 ry_8 f156 f157 f158 f159 f160 f161 rl_15 (K_closeDepth_L3 depth ry_2 ry_3 ry_4 ry_5 ry_6 ry_7 ry_8 rl_15 nhl162)) := hM
      refine lv_iload_n hx hb dX4_closeDepth_6 rfl (lv_at hl 0 rfl) ?_
      refine lv_bipush (v := 8) hx hb dX4_closeDepth_7 (by decide) ?_
      refine lv_icmp_ge (tgt := 45) hx hb dX4_closeDepth_9 (by decide) (fun c_163 => ?_) (fun c_163 => ?_)
      · skip
        have i_163 : 8 ≤ x155.toInt := (ile (by decide) rfl).mp c_163
        have hM : M_closeDepth depth ry0 ry1 ry2 ry3 ry4 ry5 ry6 rl0 rl1 rl2 rl3 rl4 rl5 rl6 = (K_closeDepth_4 depth ry_2 ry_3 ry_4 ry_5 ry_6 ry_7 ry_8 f156 f157 f158 f159 f160 f161 rl_15) := (show M_closeDepth depth ry0 ry1 ry2 ry3 ry4 ry5 ry6 rl0 rl1 rl2 rl3 rl4 rl5 rl6 = (if 8 ≤ x155.toInt then (K_closeDepth_4 depth ry_2 ry_3 ry_4 ry_5 ry_6 ry_7 ry_8 f156 f157 f158 f159 f160 f161 rl_15) else (K_closeDepth_5 depth (K_closeDepth_L3 depth ry_2 ry_3 ry_4 ry_5 ry_6 ry_7 ry_8 rl_15 nhl162) x155 f156 ry_3 f157 f158 f159 f160 f161 ry_4 ry_5 ry_6 ry_7 ry_8)) from hM).trans (if_pos i_163)
        refine lv_aload_n hx hb dX4_closeDepth_45 rfl (lv_at hl 1 rfl) ?_
        refine lv_dup hx hb dX4_closeDepth_46 rfl ?_
        refine va_get (D := D) (ci := 3) (v := .int depth) (C := RX4) (T := TX4) (N := 13) hx hb hts (fun w h => tbC w (tbfX4 w h)) hown hK hP 0 rfl rfl 10 (by decide) (hts (.fieldLink RX4 176 "PowerRails$Reader" "depth" "I") (tbC _ wd242)) (fun _ h9 => h9) rfl dX4_closeDepth_47 ?_
        refine lv_iconst (v := 1) hx hb dX4_closeDepth_50 (by decide) ?_
        refine lv_isub hx hb dX4_closeDepth_51 ?_
        refine lv_topi (fun v164 ev164 => ?_)
        have tv164 : v164.toInt = (depth.toInt - 1) := (congrArg Int32.toInt ev164).trans (xsub rfl (by decide) (by omega) (by omega))
        refine va_put (D := D) (ci := 3) (v := .int v164) (ty := .int) (C := RX4) (T := TX4) (N := 13) hx hb hts (fun w h => tbC w (tbfX4 w h)) tyX4 tyX4_ok nmX4 hown hK hP hD hS 0 rfl rfl 10 (by decide) (hts (.fieldLink RX4 176 "PowerRails$Reader" "depth" "I") (tbC _ wd242)) (fun _ h9 => h9) rfl (by decide +kernel) rfl rfl (Nat.le_of_ble_eq_true rfl) dX4_closeDepth_52 (fun H locs hP hD hS => ?_)
        obtain ⟨hP, hD⟩ : xPD D A [oX4 rd tp rfa rya rla pl place kind from_ value told v164 fault fplace, oAM rya cH 7 ryf, oAJ (ryf 0) cJ 8 ry_2, oAJ (ryf 1) cJ 8 ry_3, oAJ (ryf 2) cJ 8 ry_4, oAJ (ryf 3) cJ 8 ry_5, oAJ (ryf 4) cJ 8 ry_6, oAJ (ryf 5) cJ 8 ry_7, oAJ (ryf 6) cJ 8 ry_8, oAM rla cH 7 rlf, oAJ (rlf 0) cJ 8 f156, oAJ (rlf 1) cJ 8 f157, oAJ (rlf 2) cJ 8 f158, oAJ (rlf 3) cJ 8 f159, oAJ (rlf 4) cJ 8 f160, oAJ (rlf 5) cJ 8 f161, oAJ (rlf 6) cJ 8 rl_15] H := ⟨hP, hD⟩
        refine W.widen (k := 0) (n := 0) (by decide) (by decide) ?_
        exact W.vret hx hb hr (fun t ht hW => ⟨⟨(), rfl, trivial, ⟨v164, ry_2, ry_3, ry_4, ry_5, ry_6, ry_7, ry_8, f156, f157, f158, f159, f160, f161, rl_15, (xrng tv164 (by omega) (by omega)), (by rw [ev164]; exact hM), xB_of9 ht hW hP hK hD [0, 1, 2, 3, 4, 5, 6, 7, 8, 9, 10, 11, 12, 13, 14, 15, 16] (by decide +kernel) rfl⟩⟩, hS.F ht⟩) hS.2.2 dX4_closeDepth_55
      · skip
        have i_163 : ¬ (8 ≤ x155.toInt) := fun h9 => c_163 ((ile (by decide) rfl).mpr h9)
        have hM : M_closeDepth depth ry0 ry1 ry2 ry3 ry4 ry5 ry6 rl0 rl1 rl2 rl3 rl4 rl5 rl6 = (K_closeDepth_5 depth (K_closeDepth_L3 depth ry_2 ry_3 ry_4 ry_5 ry_6 ry_7 ry_8 rl_15 nhl162) x155 f156 ry_3 f157 f158 f159 f160 f161 ry_4 ry_5 ry_6 ry_7 ry_8) := (show M_closeDepth depth ry0 ry1 ry2 ry3 ry4 ry5 ry6 rl0 rl1 rl2 rl3 rl4 rl5 rl6 = (if 8 ≤ x155.toInt then (K_closeDepth_4 depth ry_2 ry_3 ry_4 ry_5 ry_6 ry_7 ry_8 f156 f157 f158 f159 f160 f161 rl_15) else (K_closeDepth_5 depth (K_closeDepth_L3 depth ry_2 ry_3 ry_4 ry_5 ry_6 ry_7 ry_8 rl_15 nhl162) x155 f156 ry_3 f157 f158 f159 f160 f161 ry_4 ry_5 ry_6 ry_7 ry_8)) from hM).trans (if_neg i_163)
        refine lv_aload_n hx hb dX4_closeDepth_12 rfl (lv_at hl 1 rfl) ?_
        refine va_get (D := D) (ci := 3) (v := .ref rla) (C := RX4) (T := TX4) (N := 13) hx hb hts (fun w h => tbC w (tbfX4 w h)) hown hK hP 0 rfl rfl 3 (by decide) (hts (.fieldLink RX4 30 "PowerRails$Reader" "all" "[[J") (tbC _ wd235)) (fun _ h9 => h9) rfl dX4_closeDepth_13 ?_
        refine lv_aload_n hx hb dX4_closeDepth_16 rfl (lv_at hl 1 rfl) ?_
        refine va_get (D := D) (ci := 3) (v := .int depth) (C := RX4) (T := TX4) (N := 13) hx hb hts (fun w h => tbC w (tbfX4 w h)) hown hK hP 0 rfl rfl 10 (by decide) (hts (.fieldLink RX4 176 "PowerRails$Reader" "depth" "I") (tbC _ wd242)) (fun _ h9 => h9) rfl dX4_closeDepth_17 ?_
        refine lv_iconst (v := 1) hx hb dX4_closeDepth_20 (by decide) ?_
        refine lv_isub hx hb dX4_closeDepth_21 ?_
        refine lv_topi (fun v165 ev165 => ?_)
        have tv165 : v165.toInt = (depth.toInt - 1) := (congrArg Int32.toInt ev165).trans (xsub rfl (by decide) (by omega) (by omega))
        by_cases h166 : (depth.toInt - 1) = 0
        · skip
          have hM : M_closeDepth depth ry0 ry1 ry2 ry3 ry4 ry5 ry6 rl0 rl1 rl2 rl3 rl4 rl5 rl6 = (K_closeDepth_6 (K_closeDepth_L3 depth ry_2 ry_3 ry_4 ry_5 ry_6 ry_7 ry_8 rl_15 nhl162) x155 f156 ry_3 f157 f158 f159 f160 f161) := (show M_closeDepth depth ry0 ry1 ry2 ry3 ry4 ry5 ry6 rl0 rl1 rl2 rl3 rl4 rl5 rl6 = (if (depth.toInt - 1) = 0 then (K_closeDepth_6 (K_closeDepth_L3 depth ry_2 ry_3 ry_4 ry_5 ry_6 ry_7 ry_8 rl_15 nhl162) x155 f156 ry_3 f157 f158 f159 f160 f161) else (K_closeDepth_7 depth (K_closeDepth_L3 depth ry_2 ry_3 ry_4 ry_5 ry_6 ry_7 ry_8 rl_15 nhl162) x155 f156 f157 ry_4 f158 f159 f160 f161 ry_5 ry_6 ry_7 ry_8)) from hM).trans (if_pos h166)
          refine xaldA hx hb hK hP 9 4 rfl rfl (vp_in_iff.mpr (by rw [tv165]; omega)) dX4_closeDepth_22 (v := .ref (rlf 0)) (by rw [xclamp (j := 0) (tv165.trans h166)]; rfl) ?_
          refine lv_iload_n hx hb dX4_closeDepth_23 rfl (lv_at hl 0 rfl) ?_
          refine lv_dup2_11 hx hb dX4_closeDepth_24 rfl rfl ?_
          refine va_lald hx hb hK hP 10 1 rfl rfl (vp_in_iff.mpr ⟨by omega, by omega⟩) dX4_closeDepth_25 ?_
          refine lv_topl (fun v167 ev167 => ?_)
          refine lv_aload_n hx hb dX4_closeDepth_26 rfl (lv_at hl 1 rfl) ?_
          refine va_get (D := D) (ci := 3) (v := .ref rya) (C := RX4) (T := TX4) (N := 13) hx hb hts (fun w h => tbC w (tbfX4 w h)) hown hK hP 0 rfl rfl 2 (by decide) (hts (.fieldLink RX4 27 "PowerRails$Reader" "any" "[[J") (tbC _ wd234)) (fun _ h9 => h9) rfl dX4_closeDepth_27 ?_
          refine lv_aload_n hx hb dX4_closeDepth_30 rfl (lv_at hl 1 rfl) ?_
          refine va_get (D := D) (ci := 3) (v := .int depth) (C := RX4) (T := TX4) (N := 13) hx hb hts (fun w h => tbC w (tbfX4 w h)) hown hK hP 0 rfl rfl 10 (by decide) (hts (.fieldLink RX4 176 "PowerRails$Reader" "depth" "I") (tbC _ wd242)) (fun _ h9 => h9) rfl dX4_closeDepth_31 ?_
          have h168 : depth.toInt = 1 := by omega
          refine xaldA hx hb hK hP 1 4 rfl rfl (vp_in_iff.mpr ⟨by omega, by omega⟩) dX4_closeDepth_34 (v := .ref (ryf 1)) (by rw [xclamp (j := 1) (rfl.trans h168)]; rfl) ?_
          refine lv_iload_n hx hb dX4_closeDepth_35 rfl (lv_at hl 0 rfl) ?_
          refine va_lald hx hb hK hP 3 1 rfl rfl (vp_in_iff.mpr ⟨by omega, by omega⟩) dX4_closeDepth_36 ?_
          refine lv_topl (fun v169 ev169 => ?_)
          refine lv_land hx hb dX4_closeDepth_37 ?_
          refine lv_topl (fun v170 ev170 => ?_)
          refine va_last hx hb hK hP hD hS 10 1 rfl rfl (vp_in_iff.mpr ⟨by omega, by omega⟩) dX4_closeDepth_38 (fun H locs hP hD hS => ?_)
          obtain ⟨f171, ef171⟩ : ∃ fz9 : Nat → Int64, fz9 = vp_updL f156 (x155 : Int32).toNatClampNeg v170 := ⟨_, rfl⟩
          have hP : va_P D vwCl [oX4 rd tp rfa rya rla pl place kind from_ value told depth fault fplace, oAM rya cH 7 ryf, oAJ (ryf 0) cJ 8 ry_2, oAJ (ryf 1) cJ 8 ry_3, oAJ (ryf 2) cJ 8 ry_4, oAJ (ryf 3) cJ 8 ry_5, oAJ (ryf 4) cJ 8 ry_6, oAJ (ryf 5) cJ 8 ry_7, oAJ (ryf 6) cJ 8 ry_8, oAM rla cH 7 rlf, oAJ (rlf 0) cJ 8 f171, oAJ (rlf 1) cJ 8 f157, oAJ (rlf 2) cJ 8 f158, oAJ (rlf 3) cJ 8 f159, oAJ (rlf 4) cJ 8 f160, oAJ (rlf 5) cJ 8 f161, oAJ (rlf 6) cJ 8 rl_15] H := by rw [ef171]; exact hP
          have hD : va_D A [oX4 rd tp rfa rya rla pl place kind from_ value told depth fault fplace, oAM rya cH 7 ryf, oAJ (ryf 0) cJ 8 ry_2, oAJ (ryf 1) cJ 8 ry_3, oAJ (ryf 2) cJ 8 ry_4, oAJ (ryf 3) cJ 8 ry_5, oAJ (ryf 4) cJ 8 ry_6, oAJ (ryf 5) cJ 8 ry_7, oAJ (ryf 6) cJ 8 ry_8, oAM rla cH 7 rlf, oAJ (rlf 0) cJ 8 f171, oAJ (rlf 1) cJ 8 f157, oAJ (rlf 2) cJ 8 f158, oAJ (rlf 3) cJ 8 f159, oAJ (rlf 4) cJ 8 f160, oAJ (rlf 5) cJ 8 f161, oAJ (rlf 6) cJ 8 rl_15] := by rw [ef171]; exact hD
          obtain ⟨x172, ex172⟩ : ∃ y : Int32, y = x155 + 1 := ⟨_, rfl⟩
          have tx172 : x172.toInt = (x155.toInt + 1) := (congrArg Int32.toInt ex172).trans (xadd rfl (by decide) (by omega) (by omega))
          refine lv_iinc (v := x172) (lv' := [(1, .int x172), (0, .ref rd)]) hx hb dX4_closeDepth_39 hl (k := 0) rfl (by rw [ex172]; rfl) (by decide) rfl (fun ls hl => ?_)
          refine lv_goto (tgt := 6) hx hb dX4_closeDepth_42 (by decide) ?_
          exact ihhl162 x172 f171 f157 f158 f159 f160 f161 (by omega) (xrng tx172 (by omega) (by omega)) (by rw [ex172, ef171, ev170, ev169, ev167]; exact hM) _ _ hP hD hS ls (lv_sub hl [0, 1] rfl)
        have hM : M_closeDepth depth ry0 ry1 ry2 ry3 ry4 ry5 ry6 rl0 rl1 rl2 rl3 rl4 rl5 rl6 = (K_closeDepth_7 depth (K_closeDepth_L3 depth ry_2 ry_3 ry_4 ry_5 ry_6 ry_7 ry_8 rl_15 nhl162) x155 f156 f157 ry_4 f158 f159 f160 f161 ry_5 ry_6 ry_7 ry_8) := (show M_closeDepth depth ry0 ry1 ry2 ry3 ry4 ry5 ry6 rl0 rl1 rl2 rl3 rl4 rl5 rl6 = (if (depth.toInt - 1) = 0 then (K_closeDepth_6 (K_closeDepth_L3 depth ry_2 ry_3 ry_4 ry_5 ry_6 ry_7 ry_8 rl_15 nhl162) x155 f156 ry_3 f157 f158 f159 f160 f161) else (K_closeDepth_7 depth (K_closeDepth_L3 depth ry_2 ry_3 ry_4 ry_5 ry_6 ry_7 ry_8 rl_15 nhl162) x155 f156 f157 ry_4 f158 f159 f160 f161 ry_5 ry_6 ry_7 ry_8)) from hM).trans (if_neg h166)
        by_cases h173 : (depth.toInt - 1) = 1
        · skip
          have hM : M_closeDepth depth ry0 ry1 ry2 ry3 ry4 ry5 ry6 rl0 rl1 rl2 rl3 rl4 rl5 rl6 = (K_closeDepth_8 (K_closeDepth_L3 depth ry_2 ry_3 ry_4 ry_5 ry_6 ry_7 ry_8 rl_15 nhl162) x155 f156 f157 ry_4 f158 f159 f160 f161) := (show M_closeDepth depth ry0 ry1 ry2 ry3 ry4 ry5 ry6 rl0 rl1 rl2 rl3 rl4 rl5 rl6 = (if (depth.toInt - 1) = 1 then (K_closeDepth_8 (K_closeDepth_L3 depth ry_2 ry_3 ry_4 ry_5 ry_6 ry_7 ry_8 rl_15 nhl162) x155 f156 f157 ry_4 f158 f159 f160 f161) else (K_closeDepth_9 depth (K_closeDepth_L3 depth ry_2 ry_3 ry_4 ry_5 ry_6 ry_7 ry_8 rl_15 nhl162) x155 f156 f157 f158 ry_5 f159 f160 f161 ry_6 ry_7 ry_8)) from hM).trans (if_pos h173)
          refine xaldA hx hb hK hP 9 4 rfl rfl (vp_in_iff.mpr (by rw [tv165]; omega)) dX4_closeDepth_22 (v := .ref (rlf 1)) (by rw [xclamp (j := 1) (tv165.trans h173)]; rfl) ?_
          refine lv_iload_n hx hb dX4_closeDepth_23 rfl (lv_at hl 0 rfl) ?_
          refine lv_dup2_11 hx hb dX4_closeDepth_24 rfl rfl ?_
          refine va_lald hx hb hK hP 11 1 rfl rfl (vp_in_iff.mpr ⟨by omega, by omega⟩) dX4_closeDepth_25 ?_
          refine lv_topl (fun v174 ev174 => ?_)
          refine lv_aload_n hx hb dX4_closeDepth_26 rfl (lv_at hl 1 rfl) ?_
          refine va_get (D := D) (ci := 3) (v := .ref rya) (C := RX4) (T := TX4) (N := 13) hx hb hts (fun w h => tbC w (tbfX4 w h)) hown hK hP 0 rfl rfl 2 (by decide) (hts (.fieldLink RX4 27 "PowerRails$Reader" "any" "[[J") (tbC _ wd234)) (fun _ h9 => h9) rfl dX4_closeDepth_27 ?_
          refine lv_aload_n hx hb dX4_closeDepth_30 rfl (lv_at hl 1 rfl) ?_
          refine va_get (D := D) (ci := 3) (v := .int depth) (C := RX4) (T := TX4) (N := 13) hx hb hts (fun w h => tbC w (tbfX4 w h)) hown hK hP 0 rfl rfl 10 (by decide) (hts (.fieldLink RX4 176 "PowerRails$Reader" "depth" "I") (tbC _ wd242)) (fun _ h9 => h9) rfl dX4_closeDepth_31 ?_
          have h175 : depth.toInt = 2 := by omega
          refine xaldA hx hb hK hP 1 4 rfl rfl (vp_in_iff.mpr ⟨by omega, by omega⟩) dX4_closeDepth_34 (v := .ref (ryf 2)) (by rw [xclamp (j := 2) (rfl.trans h175)]; rfl) ?_
          refine lv_iload_n hx hb dX4_closeDepth_35 rfl (lv_at hl 0 rfl) ?_
          refine va_lald hx hb hK hP 4 1 rfl rfl (vp_in_iff.mpr ⟨by omega, by omega⟩) dX4_closeDepth_36 ?_
          refine lv_topl (fun v176 ev176 => ?_)
          refine lv_land hx hb dX4_closeDepth_37 ?_
          refine lv_topl (fun v177 ev177 => ?_)
          refine va_last hx hb hK hP hD hS 11 1 rfl rfl (vp_in_iff.mpr ⟨by omega, by omega⟩) dX4_closeDepth_38 (fun H locs hP hD hS => ?_)
          obtain ⟨f178, ef178⟩ : ∃ fz9 : Nat → Int64, fz9 = vp_updL f157 (x155 : Int32).toNatClampNeg v177 := ⟨_, rfl⟩
          have hP : va_P D vwCl [oX4 rd tp rfa rya rla pl place kind from_ value told depth fault fplace, oAM rya cH 7 ryf, oAJ (ryf 0) cJ 8 ry_2, oAJ (ryf 1) cJ 8 ry_3, oAJ (ryf 2) cJ 8 ry_4, oAJ (ryf 3) cJ 8 ry_5, oAJ (ryf 4) cJ 8 ry_6, oAJ (ryf 5) cJ 8 ry_7, oAJ (ryf 6) cJ 8 ry_8, oAM rla cH 7 rlf, oAJ (rlf 0) cJ 8 f156, oAJ (rlf 1) cJ 8 f178, oAJ (rlf 2) cJ 8 f158, oAJ (rlf 3) cJ 8 f159, oAJ (rlf 4) cJ 8 f160, oAJ (rlf 5) cJ 8 f161, oAJ (rlf 6) cJ 8 rl_15] H := by rw [ef178]; exact hP
          have hD : va_D A [oX4 rd tp rfa rya rla pl place kind from_ value told depth fault fplace, oAM rya cH 7 ryf, oAJ (ryf 0) cJ 8 ry_2, oAJ (ryf 1) cJ 8 ry_3, oAJ (ryf 2) cJ 8 ry_4, oAJ (ryf 3) cJ 8 ry_5, oAJ (ryf 4) cJ 8 ry_6, oAJ (ryf 5) cJ 8 ry_7, oAJ (ryf 6) cJ 8 ry_8, oAM rla cH 7 rlf, oAJ (rlf 0) cJ 8 f156, oAJ (rlf 1) cJ 8 f178, oAJ (rlf 2) cJ 8 f158, oAJ (rlf 3) cJ 8 f159, oAJ (rlf 4) cJ 8 f160, oAJ (rlf 5) cJ 8 f161, oAJ (rlf 6) cJ 8 rl_15] := by rw [ef178]; exact hD
          obtain ⟨x179, ex179⟩ : ∃ y : Int32, y = x155 + 1 := ⟨_, rfl⟩
          have tx179 : x179.toInt = (x155.toInt + 1) := (congrArg Int32.toInt ex179).trans (xadd rfl (by decide) (by omega) (by omega))
          refine lv_iinc (v := x179) (lv' := [(1, .int x179), (0, .ref rd)]) hx hb dX4_closeDepth_39 hl (k := 0) rfl (by rw [ex179]; rfl) (by decide) rfl (fun ls hl => ?_)
          refine lv_goto (tgt := 6) hx hb dX4_closeDepth_42 (by decide) ?_
          exact ihhl162 x179 f156 f178 f158 f159 f160 f161 (by omega) (xrng tx179 (by omega) (by omega)) (by rw [ex179, ef178, ev177, ev176, ev174]; exact hM) _ _ hP hD hS ls (lv_sub hl [0, 1] rfl)
        have hM : M_closeDepth depth ry0 ry1 ry2 ry3 ry4 ry5 ry6 rl0 rl1 rl2 rl3 rl4 rl5 rl6 = (K_closeDepth_9 depth (K_closeDepth_L3 depth ry_2 ry_3 ry_4 ry_5 ry_6 ry_7 ry_8 rl_15 nhl162) x155 f156 f157 f158 ry_5 f159 f160 f161 ry_6 ry_7 ry_8) := (show M_closeDepth depth ry0 ry1 ry2 ry3 ry4 ry5 ry6 rl0 rl1 rl2 rl3 rl4 rl5 rl6 = (if (depth.toInt - 1) = 1 then (K_closeDepth_8 (K_closeDepth_L3 depth ry_2 ry_3 ry_4 ry_5 ry_6 ry_7 ry_8 rl_15 nhl162) x155 f156 f157 ry_4 f158 f159 f160 f161) else (K_closeDepth_9 depth (K_closeDepth_L3 depth ry_2 ry_3 ry_4 ry_5 ry_6 ry_7 ry_8 rl_15 nhl162) x155 f156 f157 f158 ry_5 f159 f160 f161 ry_6 ry_7 ry_8)) from hM).trans (if_neg h173)
        by_cases h180 : (depth.toInt - 1) = 2
        · skip
          have hM : M_closeDepth depth ry0 ry1 ry2 ry3 ry4 ry5 ry6 rl0 rl1 rl2 rl3 rl4 rl5 rl6 = (K_closeDepth_10 (K_closeDepth_L3 depth ry_2 ry_3 ry_4 ry_5 ry_6 ry_7 ry_8 rl_15 nhl162) x155 f156 f157 f158 ry_5 f159 f160 f161) := (show M_closeDepth depth ry0 ry1 ry2 ry3 ry4 ry5 ry6 rl0 rl1 rl2 rl3 rl4 rl5 rl6 = (if (depth.toInt - 1) = 2 then (K_closeDepth_10 (K_closeDepth_L3 depth ry_2 ry_3 ry_4 ry_5 ry_6 ry_7 ry_8 rl_15 nhl162) x155 f156 f157 f158 ry_5 f159 f160 f161) else (K_closeDepth_11 depth (K_closeDepth_L3 depth ry_2 ry_3 ry_4 ry_5 ry_6 ry_7 ry_8 rl_15 nhl162) x155 f156 f157 f158 f159 ry_6 f160 f161 ry_7 ry_8)) from hM).trans (if_pos h180)
          refine xaldA hx hb hK hP 9 4 rfl rfl (vp_in_iff.mpr (by rw [tv165]; omega)) dX4_closeDepth_22 (v := .ref (rlf 2)) (by rw [xclamp (j := 2) (tv165.trans h180)]; rfl) ?_
          refine lv_iload_n hx hb dX4_closeDepth_23 rfl (lv_at hl 0 rfl) ?_
          refine lv_dup2_11 hx hb dX4_closeDepth_24 rfl rfl ?_
          refine va_lald hx hb hK hP 12 1 rfl rfl (vp_in_iff.mpr ⟨by omega, by omega⟩) dX4_closeDepth_25 ?_
          refine lv_topl (fun v181 ev181 => ?_)
          refine lv_aload_n hx hb dX4_closeDepth_26 rfl (lv_at hl 1 rfl) ?_
          refine va_get (D := D) (ci := 3) (v := .ref rya) (C := RX4) (T := TX4) (N := 13) hx hb hts (fun w h => tbC w (tbfX4 w h)) hown hK hP 0 rfl rfl 2 (by decide) (hts (.fieldLink RX4 27 "PowerRails$Reader" "any" "[[J") (tbC _ wd234)) (fun _ h9 => h9) rfl dX4_closeDepth_27 ?_
          refine lv_aload_n hx hb dX4_closeDepth_30 rfl (lv_at hl 1 rfl) ?_
          refine va_get (D := D) (ci := 3) (v := .int depth) (C := RX4) (T := TX4) (N := 13) hx hb hts (fun w h => tbC w (tbfX4 w h)) hown hK hP 0 rfl rfl 10 (by decide) (hts (.fieldLink RX4 176 "PowerRails$Reader" "depth" "I") (tbC _ wd242)) (fun _ h9 => h9) rfl dX4_closeDepth_31 ?_
          have h182 : depth.toInt = 3 := by omega
          refine xaldA hx hb hK hP 1 4 rfl rfl (vp_in_iff.mpr ⟨by omega, by omega⟩) dX4_closeDepth_34 (v := .ref (ryf 3)) (by rw [xclamp (j := 3) (rfl.trans h182)]; rfl) ?_
          refine lv_iload_n hx hb dX4_closeDepth_35 rfl (lv_at hl 0 rfl) ?_
          refine va_lald hx hb hK hP 5 1 rfl rfl (vp_in_iff.mpr ⟨by omega, by omega⟩) dX4_closeDepth_36 ?_
          refine lv_topl (fun v183 ev183 => ?_)
          refine lv_land hx hb dX4_closeDepth_37 ?_
          refine lv_topl (fun v184 ev184 => ?_)
          refine va_last hx hb hK hP hD hS 12 1 rfl rfl (vp_in_iff.mpr ⟨by omega, by omega⟩) dX4_closeDepth_38 (fun H locs hP hD hS => ?_)
          obtain ⟨f185, ef185⟩ : ∃ fz9 : Nat → Int64, fz9 = vp_updL f158 (x155 : Int32).toNatClampNeg v184 := ⟨_, rfl⟩
          have hP : va_P D vwCl [oX4 rd tp rfa rya rla pl place kind from_ value told depth fault fplace, oAM rya cH 7 ryf, oAJ (ryf 0) cJ 8 ry_2, oAJ (ryf 1) cJ 8 ry_3, oAJ (ryf 2) cJ 8 ry_4, oAJ (ryf 3) cJ 8 ry_5, oAJ (ryf 4) cJ 8 ry_6, oAJ (ryf 5) cJ 8 ry_7, oAJ (ryf 6) cJ 8 ry_8, oAM rla cH 7 rlf, oAJ (rlf 0) cJ 8 f156, oAJ (rlf 1) cJ 8 f157, oAJ (rlf 2) cJ 8 f185, oAJ (rlf 3) cJ 8 f159, oAJ (rlf 4) cJ 8 f160, oAJ (rlf 5) cJ 8 f161, oAJ (rlf 6) cJ 8 rl_15] H := by rw [ef185]; exact hP
          have hD : va_D A [oX4 rd tp rfa rya rla pl place kind from_ value told depth fault fplace, oAM rya cH 7 ryf, oAJ (ryf 0) cJ 8 ry_2, oAJ (ryf 1) cJ 8 ry_3, oAJ (ryf 2) cJ 8 ry_4, oAJ (ryf 3) cJ 8 ry_5, oAJ (ryf 4) cJ 8 ry_6, oAJ (ryf 5) cJ 8 ry_7, oAJ (ryf 6) cJ 8 ry_8, oAM rla cH 7 rlf, oAJ (rlf 0) cJ 8 f156, oAJ (rlf 1) cJ 8 f157, oAJ (rlf 2) cJ 8 f185, oAJ (rlf 3) cJ 8 f159, oAJ (rlf 4) cJ 8 f160, oAJ (rlf 5) cJ 8 f161, oAJ (rlf 6) cJ 8 rl_15] := by rw [ef185]; exact hD
          obtain ⟨x186, ex186⟩ : ∃ y : Int32, y = x155 + 1 := ⟨_, rfl⟩
          have tx186 : x186.toInt = (x155.toInt + 1) := (congrArg Int32.toInt ex186).trans (xadd rfl (by decide) (by omega) (by omega))
          refine lv_iinc (v := x186) (lv' := [(1, .int x186), (0, .ref rd)]) hx hb dX4_closeDepth_39 hl (k := 0) rfl (by rw [ex186]; rfl) (by decide) rfl (fun ls hl => ?_)
          refine lv_goto (tgt := 6) hx hb dX4_closeDepth_42 (by decide) ?_
          exact ihhl162 x186 f156 f157 f185 f159 f160 f161 (by omega) (xrng tx186 (by omega) (by omega)) (by rw [ex186, ef185, ev184, ev183, ev181]; exact hM) _ _ hP hD hS ls (lv_sub hl [0, 1] rfl)
        have hM : M_closeDepth depth ry0 ry1 ry2 ry3 ry4 ry5 ry6 rl0 rl1 rl2 rl3 rl4 rl5 rl6 = (K_closeDepth_11 depth (K_closeDepth_L3 depth ry_2 ry_3 ry_4 ry_5 ry_6 ry_7 ry_8 rl_15 nhl162) x155 f156 f157 f158 f159 ry_6 f160 f161 ry_7 ry_8) := (show M_closeDepth depth ry0 ry1 ry2 ry3 ry4 ry5 ry6 rl0 rl1 rl2 rl3 rl4 rl5 rl6 = (if (depth.toInt - 1) = 2 then (K_closeDepth_10 (K_closeDepth_L3 depth ry_2 ry_3 ry_4 ry_5 ry_6 ry_7 ry_8 rl_15 nhl162) x155 f156 f157 f158 ry_5 f159 f160 f161) else (K_closeDepth_11 depth (K_closeDepth_L3 depth ry_2 ry_3 ry_4 ry_5 ry_6 ry_7 ry_8 rl_15 nhl162) x155 f156 f157 f158 f159 ry_6 f160 f161 ry_7 ry_8)) from hM).trans (if_neg h180)
        by_cases h187 : (depth.toInt - 1) = 3
        · skip
          have hM : M_closeDepth depth ry0 ry1 ry2 ry3 ry4 ry5 ry6 rl0 rl1 rl2 rl3 rl4 rl5 rl6 = (K_closeDepth_12 (K_closeDepth_L3 depth ry_2 ry_3 ry_4 ry_5 ry_6 ry_7 ry_8 rl_15 nhl162) x155 f156 f157 f158 f159 ry_6 f160 f161) := (show M_closeDepth depth ry0 ry1 ry2 ry3 ry4 ry5 ry6 rl0 rl1 rl2 rl3 rl4 rl5 rl6 = (if (depth.toInt - 1) = 3 then (K_closeDepth_12 (K_closeDepth_L3 depth ry_2 ry_3 ry_4 ry_5 ry_6 ry_7 ry_8 rl_15 nhl162) x155 f156 f157 f158 f159 ry_6 f160 f161) else (K_closeDepth_13 depth (K_closeDepth_L3 depth ry_2 ry_3 ry_4 ry_5 ry_6 ry_7 ry_8 rl_15 nhl162) x155 f156 f157 f158 f159 f160 ry_7 f161 ry_8)) from hM).trans (if_pos h187)
          refine xaldA hx hb hK hP 9 4 rfl rfl (vp_in_iff.mpr (by rw [tv165]; omega)) dX4_closeDepth_22 (v := .ref (rlf 3)) (by rw [xclamp (j := 3) (tv165.trans h187)]; rfl) ?_
          refine lv_iload_n hx hb dX4_closeDepth_23 rfl (lv_at hl 0 rfl) ?_
          refine lv_dup2_11 hx hb dX4_closeDepth_24 rfl rfl ?_
          refine va_lald hx hb hK hP 13 1 rfl rfl (vp_in_iff.mpr ⟨by omega, by omega⟩) dX4_closeDepth_25 ?_
          refine lv_topl (fun v188 ev188 => ?_)
          refine lv_aload_n hx hb dX4_closeDepth_26 rfl (lv_at hl 1 rfl) ?_
          refine va_get (D := D) (ci := 3) (v := .ref rya) (C := RX4) (T := TX4) (N := 13) hx hb hts (fun w h => tbC w (tbfX4 w h)) hown hK hP 0 rfl rfl 2 (by decide) (hts (.fieldLink RX4 27 "PowerRails$Reader" "any" "[[J") (tbC _ wd234)) (fun _ h9 => h9) rfl dX4_closeDepth_27 ?_
          refine lv_aload_n hx hb dX4_closeDepth_30 rfl (lv_at hl 1 rfl) ?_
          refine va_get (D := D) (ci := 3) (v := .int depth) (C := RX4) (T := TX4) (N := 13) hx hb hts (fun w h => tbC w (tbfX4 w h)) hown hK hP 0 rfl rfl 10 (by decide) (hts (.fieldLink RX4 176 "PowerRails$Reader" "depth" "I") (tbC _ wd242)) (fun _ h9 => h9) rfl dX4_closeDepth_31 ?_
          have h189 : depth.toInt = 4 := by omega
          refine xaldA hx hb hK hP 1 4 rfl rfl (vp_in_iff.mpr ⟨by omega, by omega⟩) dX4_closeDepth_34 (v := .ref (ryf 4)) (by rw [xclamp (j := 4) (rfl.trans h189)]; rfl) ?_
          refine lv_iload_n hx hb dX4_closeDepth_35 rfl (lv_at hl 0 rfl) ?_
          refine va_lald hx hb hK hP 6 1 rfl rfl (vp_in_iff.mpr ⟨by omega, by omega⟩) dX4_closeDepth_36 ?_
          refine lv_topl (fun v190 ev190 => ?_)
          refine lv_land hx hb dX4_closeDepth_37 ?_
          refine lv_topl (fun v191 ev191 => ?_)
          refine va_last hx hb hK hP hD hS 13 1 rfl rfl (vp_in_iff.mpr ⟨by omega, by omega⟩) dX4_closeDepth_38 (fun H locs hP hD hS => ?_)
          obtain ⟨f192, ef192⟩ : ∃ fz9 : Nat → Int64, fz9 = vp_updL f159 (x155 : Int32).toNatClampNeg v191 := ⟨_, rfl⟩
          have hP : va_P D vwCl [oX4 rd tp rfa rya rla pl place kind from_ value told depth fault fplace, oAM rya cH 7 ryf, oAJ (ryf 0) cJ 8 ry_2, oAJ (ryf 1) cJ 8 ry_3, oAJ (ryf 2) cJ 8 ry_4, oAJ (ryf 3) cJ 8 ry_5, oAJ (ryf 4) cJ 8 ry_6, oAJ (ryf 5) cJ 8 ry_7, oAJ (ryf 6) cJ 8 ry_8, oAM rla cH 7 rlf, oAJ (rlf 0) cJ 8 f156, oAJ (rlf 1) cJ 8 f157, oAJ (rlf 2) cJ 8 f158, oAJ (rlf 3) cJ 8 f192, oAJ (rlf 4) cJ 8 f160, oAJ (rlf 5) cJ 8 f161, oAJ (rlf 6) cJ 8 rl_15] H := by rw [ef192]; exact hP
          have hD : va_D A [oX4 rd tp rfa rya rla pl place kind from_ value told depth fault fplace, oAM rya cH 7 ryf, oAJ (ryf 0) cJ 8 ry_2, oAJ (ryf 1) cJ 8 ry_3, oAJ (ryf 2) cJ 8 ry_4, oAJ (ryf 3) cJ 8 ry_5, oAJ (ryf 4) cJ 8 ry_6, oAJ (ryf 5) cJ 8 ry_7, oAJ (ryf 6) cJ 8 ry_8, oAM rla cH 7 rlf, oAJ (rlf 0) cJ 8 f156, oAJ (rlf 1) cJ 8 f157, oAJ (rlf 2) cJ 8 f158, oAJ (rlf 3) cJ 8 f192, oAJ (rlf 4) cJ 8 f160, oAJ (rlf 5) cJ 8 f161, oAJ (rlf 6) cJ 8 rl_15] := by rw [ef192]; exact hD
          obtain ⟨x193, ex193⟩ : ∃ y : Int32, y = x155 + 1 := ⟨_, rfl⟩
          have tx193 : x193.toInt = (x155.toInt + 1) := (congrArg Int32.toInt ex193).trans (xadd rfl (by decide) (by omega) (by omega))
          refine lv_iinc (v := x193) (lv' := [(1, .int x193), (0, .ref rd)]) hx hb dX4_closeDepth_39 hl (k := 0) rfl (by rw [ex193]; rfl) (by decide) rfl (fun ls hl => ?_)
          refine lv_goto (tgt := 6) hx hb dX4_closeDepth_42 (by decide) ?_
          exact ihhl162 x193 f156 f157 f158 f192 f160 f161 (by omega) (xrng tx193 (by omega) (by omega)) (by rw [ex193, ef192, ev191, ev190, ev188]; exact hM) _ _ hP hD hS ls (lv_sub hl [0, 1] rfl)
        have hM : M_closeDepth depth ry0 ry1 ry2 ry3 ry4 ry5 ry6 rl0 rl1 rl2 rl3 rl4 rl5 rl6 = (K_closeDepth_13 depth (K_closeDepth_L3 depth ry_2 ry_3 ry_4 ry_5 ry_6 ry_7 ry_8 rl_15 nhl162) x155 f156 f157 f158 f159 f160 ry_7 f161 ry_8) := (show M_closeDepth depth ry0 ry1 ry2 ry3 ry4 ry5 ry6 rl0 rl1 rl2 rl3 rl4 rl5 rl6 = (if (depth.toInt - 1) = 3 then (K_closeDepth_12 (K_closeDepth_L3 depth ry_2 ry_3 ry_4 ry_5 ry_6 ry_7 ry_8 rl_15 nhl162) x155 f156 f157 f158 f159 ry_6 f160 f161) else (K_closeDepth_13 depth (K_closeDepth_L3 depth ry_2 ry_3 ry_4 ry_5 ry_6 ry_7 ry_8 rl_15 nhl162) x155 f156 f157 f158 f159 f160 ry_7 f161 ry_8)) from hM).trans (if_neg h187)
        by_cases h194 : (depth.toInt - 1) = 4
        · skip
          have hM : M_closeDepth depth ry0 ry1 ry2 ry3 ry4 ry5 ry6 rl0 rl1 rl2 rl3 rl4 rl5 rl6 = (K_closeDepth_14 (K_closeDepth_L3 depth ry_2 ry_3 ry_4 ry_5 ry_6 ry_7 ry_8 rl_15 nhl162) x155 f156 f157 f158 f159 f160 ry_7 f161) := (show M_closeDepth depth ry0 ry1 ry2 ry3 ry4 ry5 ry6 rl0 rl1 rl2 rl3 rl4 rl5 rl6 = (if (depth.toInt - 1) = 4 then (K_closeDepth_14 (K_closeDepth_L3 depth ry_2 ry_3 ry_4 ry_5 ry_6 ry_7 ry_8 rl_15 nhl162) x155 f156 f157 f158 f159 f160 ry_7 f161) else (K_closeDepth_15 (K_closeDepth_L3 depth ry_2 ry_3 ry_4 ry_5 ry_6 ry_7 ry_8 rl_15 nhl162) x155 f156 f157 f158 f159 f160 f161 ry_8)) from hM).trans (if_pos h194)
          refine xaldA hx hb hK hP 9 4 rfl rfl (vp_in_iff.mpr (by rw [tv165]; omega)) dX4_closeDepth_22 (v := .ref (rlf 4)) (by rw [xclamp (j := 4) (tv165.trans h194)]; rfl) ?_
          refine lv_iload_n hx hb dX4_closeDepth_23 rfl (lv_at hl 0 rfl) ?_
          refine lv_dup2_11 hx hb dX4_closeDepth_24 rfl rfl ?_
          refine va_lald hx hb hK hP 14 1 rfl rfl (vp_in_iff.mpr ⟨by omega, by omega⟩) dX4_closeDepth_25 ?_
          refine lv_topl (fun v195 ev195 => ?_)
          refine lv_aload_n hx hb dX4_closeDepth_26 rfl (lv_at hl 1 rfl) ?_
          refine va_get (D := D) (ci := 3) (v := .ref rya) (C := RX4) (T := TX4) (N := 13) hx hb hts (fun w h => tbC w (tbfX4 w h)) hown hK hP 0 rfl rfl 2 (by decide) (hts (.fieldLink RX4 27 "PowerRails$Reader" "any" "[[J") (tbC _ wd234)) (fun _ h9 => h9) rfl dX4_closeDepth_27 ?_
          refine lv_aload_n hx hb dX4_closeDepth_30 rfl (lv_at hl 1 rfl) ?_
          refine va_get (D := D) (ci := 3) (v := .int depth) (C := RX4) (T := TX4) (N := 13) hx hb hts (fun w h => tbC w (tbfX4 w h)) hown hK hP 0 rfl rfl 10 (by decide) (hts (.fieldLink RX4 176 "PowerRails$Reader" "depth" "I") (tbC _ wd242)) (fun _ h9 => h9) rfl dX4_closeDepth_31 ?_
          have h196 : depth.toInt = 5 := by omega
          refine xaldA hx hb hK hP 1 4 rfl rfl (vp_in_iff.mpr ⟨by omega, by omega⟩) dX4_closeDepth_34 (v := .ref (ryf 5)) (by rw [xclamp (j := 5) (rfl.trans h196)]; rfl) ?_
          refine lv_iload_n hx hb dX4_closeDepth_35 rfl (lv_at hl 0 rfl) ?_
          refine va_lald hx hb hK hP 7 1 rfl rfl (vp_in_iff.mpr ⟨by omega, by omega⟩) dX4_closeDepth_36 ?_
          refine lv_topl (fun v197 ev197 => ?_)
          refine lv_land hx hb dX4_closeDepth_37 ?_
          refine lv_topl (fun v198 ev198 => ?_)
          refine va_last hx hb hK hP hD hS 14 1 rfl rfl (vp_in_iff.mpr ⟨by omega, by omega⟩) dX4_closeDepth_38 (fun H locs hP hD hS => ?_)
          obtain ⟨f199, ef199⟩ : ∃ fz9 : Nat → Int64, fz9 = vp_updL f160 (x155 : Int32).toNatClampNeg v198 := ⟨_, rfl⟩
          have hP : va_P D vwCl [oX4 rd tp rfa rya rla pl place kind from_ value told depth fault fplace, oAM rya cH 7 ryf, oAJ (ryf 0) cJ 8 ry_2, oAJ (ryf 1) cJ 8 ry_3, oAJ (ryf 2) cJ 8 ry_4, oAJ (ryf 3) cJ 8 ry_5, oAJ (ryf 4) cJ 8 ry_6, oAJ (ryf 5) cJ 8 ry_7, oAJ (ryf 6) cJ 8 ry_8, oAM rla cH 7 rlf, oAJ (rlf 0) cJ 8 f156, oAJ (rlf 1) cJ 8 f157, oAJ (rlf 2) cJ 8 f158, oAJ (rlf 3) cJ 8 f159, oAJ (rlf 4) cJ 8 f199, oAJ (rlf 5) cJ 8 f161, oAJ (rlf 6) cJ 8 rl_15] H := by rw [ef199]; exact hP
          have hD : va_D A [oX4 rd tp rfa rya rla pl place kind from_ value told depth fault fplace, oAM rya cH 7 ryf, oAJ (ryf 0) cJ 8 ry_2, oAJ (ryf 1) cJ 8 ry_3, oAJ (ryf 2) cJ 8 ry_4, oAJ (ryf 3) cJ 8 ry_5, oAJ (ryf 4) cJ 8 ry_6, oAJ (ryf 5) cJ 8 ry_7, oAJ (ryf 6) cJ 8 ry_8, oAM rla cH 7 rlf, oAJ (rlf 0) cJ 8 f156, oAJ (rlf 1) cJ 8 f157, oAJ (rlf 2) cJ 8 f158, oAJ (rlf 3) cJ 8 f159, oAJ (rlf 4) cJ 8 f199, oAJ (rlf 5) cJ 8 f161, oAJ (rlf 6) cJ 8 rl_15] := by rw [ef199]; exact hD
          obtain ⟨x200, ex200⟩ : ∃ y : Int32, y = x155 + 1 := ⟨_, rfl⟩
          have tx200 : x200.toInt = (x155.toInt + 1) := (congrArg Int32.toInt ex200).trans (xadd rfl (by decide) (by omega) (by omega))
          refine lv_iinc (v := x200) (lv' := [(1, .int x200), (0, .ref rd)]) hx hb dX4_closeDepth_39 hl (k := 0) rfl (by rw [ex200]; rfl) (by decide) rfl (fun ls hl => ?_)
          refine lv_goto (tgt := 6) hx hb dX4_closeDepth_42 (by decide) ?_
          exact ihhl162 x200 f156 f157 f158 f159 f199 f161 (by omega) (xrng tx200 (by omega) (by omega)) (by rw [ex200, ef199, ev198, ev197, ev195]; exact hM) _ _ hP hD hS ls (lv_sub hl [0, 1] rfl)
        have hM : M_closeDepth depth ry0 ry1 ry2 ry3 ry4 ry5 ry6 rl0 rl1 rl2 rl3 rl4 rl5 rl6 = (K_closeDepth_15 (K_closeDepth_L3 depth ry_2 ry_3 ry_4 ry_5 ry_6 ry_7 ry_8 rl_15 nhl162) x155 f156 f157 f158 f159 f160 f161 ry_8) := (show M_closeDepth depth ry0 ry1 ry2 ry3 ry4 ry5 ry6 rl0 rl1 rl2 rl3 rl4 rl5 rl6 = (if (depth.toInt - 1) = 4 then (K_closeDepth_14 (K_closeDepth_L3 depth ry_2 ry_3 ry_4 ry_5 ry_6 ry_7 ry_8 rl_15 nhl162) x155 f156 f157 f158 f159 f160 ry_7 f161) else (K_closeDepth_15 (K_closeDepth_L3 depth ry_2 ry_3 ry_4 ry_5 ry_6 ry_7 ry_8 rl_15 nhl162) x155 f156 f157 f158 f159 f160 f161 ry_8)) from hM).trans (if_neg h194)
        have h201 : (depth.toInt - 1) = 5 := by omega
        refine xaldA hx hb hK hP 9 4 rfl rfl (vp_in_iff.mpr (by rw [tv165]; omega)) dX4_closeDepth_22 (v := .ref (rlf 5)) (by rw [xclamp (j := 5) (tv165.trans h201)]; rfl) ?_
        refine lv_iload_n hx hb dX4_closeDepth_23 rfl (lv_at hl 0 rfl) ?_
        refine lv_dup2_11 hx hb dX4_closeDepth_24 rfl rfl ?_
        refine va_lald hx hb hK hP 15 1 rfl rfl (vp_in_iff.mpr ⟨by omega, by omega⟩) dX4_closeDepth_25 ?_
        refine lv_topl (fun v202 ev202 => ?_)
        refine lv_aload_n hx hb dX4_closeDepth_26 rfl (lv_at hl 1 rfl) ?_
        refine va_get (D := D) (ci := 3) (v := .ref rya) (C := RX4) (T := TX4) (N := 13) hx hb hts (fun w h => tbC w (tbfX4 w h)) hown hK hP 0 rfl rfl 2 (by decide) (hts (.fieldLink RX4 27 "PowerRails$Reader" "any" "[[J") (tbC _ wd234)) (fun _ h9 => h9) rfl dX4_closeDepth_27 ?_
        refine lv_aload_n hx hb dX4_closeDepth_30 rfl (lv_at hl 1 rfl) ?_
        refine va_get (D := D) (ci := 3) (v := .int depth) (C := RX4) (T := TX4) (N := 13) hx hb hts (fun w h => tbC w (tbfX4 w h)) hown hK hP 0 rfl rfl 10 (by decide) (hts (.fieldLink RX4 176 "PowerRails$Reader" "depth" "I") (tbC _ wd242)) (fun _ h9 => h9) rfl dX4_closeDepth_31 ?_
        have h203 : depth.toInt = 6 := by omega
        refine xaldA hx hb hK hP 1 4 rfl rfl (vp_in_iff.mpr ⟨by omega, by omega⟩) dX4_closeDepth_34 (v := .ref (ryf 6)) (by rw [xclamp (j := 6) (rfl.trans h203)]; rfl) ?_
        refine lv_iload_n hx hb dX4_closeDepth_35 rfl (lv_at hl 0 rfl) ?_
        refine va_lald hx hb hK hP 8 1 rfl rfl (vp_in_iff.mpr ⟨by omega, by omega⟩) dX4_closeDepth_36 ?_
        refine lv_topl (fun v204 ev204 => ?_)
        refine lv_land hx hb dX4_closeDepth_37 ?_
        refine lv_topl (fun v205 ev205 => ?_)
        refine va_last hx hb hK hP hD hS 15 1 rfl rfl (vp_in_iff.mpr ⟨by omega, by omega⟩) dX4_closeDepth_38 (fun H locs hP hD hS => ?_)
        obtain ⟨f206, ef206⟩ : ∃ fz9 : Nat → Int64, fz9 = vp_updL f161 (x155 : Int32).toNatClampNeg v205 := ⟨_, rfl⟩
        have hP : va_P D vwCl [oX4 rd tp rfa rya rla pl place kind from_ value told depth fault fplace, oAM rya cH 7 ryf, oAJ (ryf 0) cJ 8 ry_2, oAJ (ryf 1) cJ 8 ry_3, oAJ (ryf 2) cJ 8 ry_4, oAJ (ryf 3) cJ 8 ry_5, oAJ (ryf 4) cJ 8 ry_6, oAJ (ryf 5) cJ 8 ry_7, oAJ (ryf 6) cJ 8 ry_8, oAM rla cH 7 rlf, oAJ (rlf 0) cJ 8 f156, oAJ (rlf 1) cJ 8 f157, oAJ (rlf 2) cJ 8 f158, oAJ (rlf 3) cJ 8 f159, oAJ (rlf 4) cJ 8 f160, oAJ (rlf 5) cJ 8 f206, oAJ (rlf 6) cJ 8 rl_15] H := by rw [ef206]; exact hP
        have hD : va_D A [oX4 rd tp rfa rya rla pl place kind from_ value told depth fault fplace, oAM rya cH 7 ryf, oAJ (ryf 0) cJ 8 ry_2, oAJ (ryf 1) cJ 8 ry_3, oAJ (ryf 2) cJ 8 ry_4, oAJ (ryf 3) cJ 8 ry_5, oAJ (ryf 4) cJ 8 ry_6, oAJ (ryf 5) cJ 8 ry_7, oAJ (ryf 6) cJ 8 ry_8, oAM rla cH 7 rlf, oAJ (rlf 0) cJ 8 f156, oAJ (rlf 1) cJ 8 f157, oAJ (rlf 2) cJ 8 f158, oAJ (rlf 3) cJ 8 f159, oAJ (rlf 4) cJ 8 f160, oAJ (rlf 5) cJ 8 f206, oAJ (rlf 6) cJ 8 rl_15] := by rw [ef206]; exact hD
        obtain ⟨x207, ex207⟩ : ∃ y : Int32, y = x155 + 1 := ⟨_, rfl⟩
        have tx207 : x207.toInt = (x155.toInt + 1) := (congrArg Int32.toInt ex207).trans (xadd rfl (by decide) (by omega) (by omega))
        refine lv_iinc (v := x207) (lv' := [(1, .int x207), (0, .ref rd)]) hx hb dX4_closeDepth_39 hl (k := 0) rfl (by rw [ex207]; rfl) (by decide) rfl (fun ls hl => ?_)
        refine lv_goto (tgt := 6) hx hb dX4_closeDepth_42 (by decide) ?_
        exact ihhl162 x207 f156 f157 f158 f159 f160 f206 (by omega) (xrng tx207 (by omega) (by omega)) (by rw [ex207, ef206, ev205, ev204, ev202]; exact hM) _ _ hP hD hS ls (lv_sub hl [0, 1] rfl)
  exact hl162 100000 0 rl_9 rl_10 rl_11 rl_12 rl_13 rl_14 (by have z9_0 : (0 : Int32).toInt = 0 := (by decide); omega) ⟨by decide, by decide⟩ hM _ _ hP hD hS ls (lv_sub hl [0, 1] rfl)
def K_joinPart_5 (f217 : Nat → Int64) (f218 : Nat → Int64) (f219 : Nat → Int64) (f220 : Nat → Int64) (f221 : Nat → Int64) (f222 : Nat → Int64) (f223 : Nat → Int64) (pn_5 : Nat → Int32) : (Nat → Int64) × (Nat → Int64) × (Nat → Int64) × (Nat → Int64) × (Nat → Int64) × (Nat → Int64) × (Nat → Int64) × (Nat → Int32) := (f217, f218, f219, f220, f221, f222, f223, pn_5)
def K_joinPart_11 (rec_4 : (Int32) → (Nat → Int64) → (Nat → Int64) → (Nat → Int64) → (Nat → Int64) → (Nat → Int64) → (Nat → Int64) → (Nat → Int64) → ((Nat → Int64) × (Nat → Int64) × (Nat → Int64) × (Nat → Int64) × (Nat → Int64) × (Nat → Int64) × (Nat → Int64) × (Nat → Int32))) (x216 : Int32) (f217 : Nat → Int64) (f218 : Nat → Int64) (f219 : Nat → Int64) (f220 : Nat → Int64) (f221 : Nat → Int64) (f222 : Nat → Int64) (f223 : Nat → Int64) : (Nat → Int64) × (Nat → Int64) × (Nat → Int64) × (Nat → Int64) × (Nat → Int64) × (Nat → Int64) × (Nat → Int64) × (Nat → Int32) := (rec_4 (x216 + 1) (vp_updL f217 (x216 : Int32).toNatClampNeg (0 : Int64)) f218 f219 f220 f221 f222 f223)
def K_joinPart_13 (rec_4 : (Int32) → (Nat → Int64) → (Nat → Int64) → (Nat → Int64) → (Nat → Int64) → (Nat → Int64) → (Nat → Int64) → (Nat → Int64) → ((Nat → Int64) × (Nat → Int64) × (Nat → Int64) × (Nat → Int64) × (Nat → Int64) × (Nat → Int64) × (Nat → Int64) × (Nat → Int32))) (x216 : Int32) (f217 : Nat → Int64) (f218 : Nat → Int64) (f219 : Nat → Int64) (f220 : Nat → Int64) (f221 : Nat → Int64) (f222 : Nat → Int64) (f223 : Nat → Int64) : (Nat → Int64) × (Nat → Int64) × (Nat → Int64) × (Nat → Int64) × (Nat → Int64) × (Nat → Int64) × (Nat → Int64) × (Nat → Int32) := (rec_4 (x216 + 1) f217 (vp_updL f218 (x216 : Int32).toNatClampNeg (0 : Int64)) f219 f220 f221 f222 f223)
def K_joinPart_15 (rec_4 : (Int32) → (Nat → Int64) → (Nat → Int64) → (Nat → Int64) → (Nat → Int64) → (Nat → Int64) → (Nat → Int64) → (Nat → Int64) → ((Nat → Int64) × (Nat → Int64) × (Nat → Int64) × (Nat → Int64) × (Nat → Int64) × (Nat → Int64) × (Nat → Int64) × (Nat → Int32))) (x216 : Int32) (f217 : Nat → Int64) (f218 : Nat → Int64) (f219 : Nat → Int64) (f220 : Nat → Int64) (f221 : Nat → Int64) (f222 : Nat → Int64) (f223 : Nat → Int64) : (Nat → Int64) × (Nat → Int64) × (Nat → Int64) × (Nat → Int64) × (Nat → Int64) × (Nat → Int64) × (Nat → Int64) × (Nat → Int32) := (rec_4 (x216 + 1) f217 f218 (vp_updL f219 (x216 : Int32).toNatClampNeg (0 : Int64)) f220 f221 f222 f223)
def K_joinPart_17 (rec_4 : (Int32) → (Nat → Int64) → (Nat → Int64) → (Nat → Int64) → (Nat → Int64) → (Nat → Int64) → (Nat → Int64) → (Nat → Int64) → ((Nat → Int64) × (Nat → Int64) × (Nat → Int64) × (Nat → Int64) × (Nat → Int64) × (Nat → Int64) × (Nat → Int64) × (Nat → Int32))) (x216 : Int32) (f217 : Nat → Int64) (f218 : Nat → Int64) (f219 : Nat → Int64) (f220 : Nat → Int64) (f221 : Nat → Int64) (f222 : Nat → Int64) (f223 : Nat → Int64) : (Nat → Int64) × (Nat → Int64) × (Nat → Int64) × (Nat → Int64) × (Nat → Int64) × (Nat → Int64) × (Nat → Int64) × (Nat → Int32) := (rec_4 (x216 + 1) f217 f218 f219 (vp_updL f220 (x216 : Int32).toNatClampNeg (0 : Int64)) f221 f222 f223)
def K_joinPart_19 (rec_4 : (Int32) → (Nat → Int64) → (Nat → Int64) → (Nat → Int64) → (Nat → Int64) → (Nat → Int64) → (Nat → Int64) → (Nat → Int64) → ((Nat → Int64) × (Nat → Int64) × (Nat → Int64) × (Nat → Int64) × (Nat → Int64) × (Nat → Int64) × (Nat → Int64) × (Nat → Int32))) (x216 : Int32) (f217 : Nat → Int64) (f218 : Nat → Int64) (f219 : Nat → Int64) (f220 : Nat → Int64) (f221 : Nat → Int64) (f222 : Nat → Int64) (f223 : Nat → Int64) : (Nat → Int64) × (Nat → Int64) × (Nat → Int64) × (Nat → Int64) × (Nat → Int64) × (Nat → Int64) × (Nat → Int64) × (Nat → Int32) := (rec_4 (x216 + 1) f217 f218 f219 f220 (vp_updL f221 (x216 : Int32).toNatClampNeg (0 : Int64)) f222 f223)
def K_joinPart_21 (rec_4 : (Int32) → (Nat → Int64) → (Nat → Int64) → (Nat → Int64) → (Nat → Int64) → (Nat → Int64) → (Nat → Int64) → (Nat → Int64) → ((Nat → Int64) × (Nat → Int64) × (Nat → Int64) × (Nat → Int64) × (Nat → Int64) × (Nat → Int64) × (Nat → Int64) × (Nat → Int32))) (x216 : Int32) (f217 : Nat → Int64) (f218 : Nat → Int64) (f219 : Nat → Int64) (f220 : Nat → Int64) (f221 : Nat → Int64) (f222 : Nat → Int64) (f223 : Nat → Int64) : (Nat → Int64) × (Nat → Int64) × (Nat → Int64) × (Nat → Int64) × (Nat → Int64) × (Nat → Int64) × (Nat → Int64) × (Nat → Int32) := (rec_4 (x216 + 1) f217 f218 f219 f220 f221 (vp_updL f222 (x216 : Int32).toNatClampNeg (0 : Int64)) f223)
def K_joinPart_22 (rec_4 : (Int32) → (Nat → Int64) → (Nat → Int64) → (Nat → Int64) → (Nat → Int64) → (Nat → Int64) → (Nat → Int64) → (Nat → Int64) → ((Nat → Int64) × (Nat → Int64) × (Nat → Int64) × (Nat → Int64) × (Nat → Int64) × (Nat → Int64) × (Nat → Int64) × (Nat → Int32))) (x216 : Int32) (f217 : Nat → Int64) (f218 : Nat → Int64) (f219 : Nat → Int64) (f220 : Nat → Int64) (f221 : Nat → Int64) (f222 : Nat → Int64) (f223 : Nat → Int64) : (Nat → Int64) × (Nat → Int64) × (Nat → Int64) × (Nat → Int64) × (Nat → Int64) × (Nat → Int64) × (Nat → Int64) × (Nat → Int32) := (rec_4 (x216 + 1) f217 f218 f219 f220 f221 f222 (vp_updL f223 (x216 : Int32).toNatClampNeg (0 : Int64)))
def K_joinPart_20 (depth : Int32) (rec_4 : (Int32) → (Nat → Int64) → (Nat → Int64) → (Nat → Int64) → (Nat → Int64) → (Nat → Int64) → (Nat → Int64) → (Nat → Int64) → ((Nat → Int64) × (Nat → Int64) × (Nat → Int64) × (Nat → Int64) × (Nat → Int64) × (Nat → Int64) × (Nat → Int64) × (Nat → Int32))) (x216 : Int32) (f217 : Nat → Int64) (f218 : Nat → Int64) (f219 : Nat → Int64) (f220 : Nat → Int64) (f221 : Nat → Int64) (f222 : Nat → Int64) (f223 : Nat → Int64) : (Nat → Int64) × (Nat → Int64) × (Nat → Int64) × (Nat → Int64) × (Nat → Int64) × (Nat → Int64) × (Nat → Int64) × (Nat → Int32) := (if depth.toInt = 5 then (K_joinPart_21 rec_4 x216 f217 f218 f219 f220 f221 f222 f223) else (K_joinPart_22 rec_4 x216 f217 f218 f219 f220 f221 f222 f223))
def K_joinPart_18 (depth : Int32) (rec_4 : (Int32) → (Nat → Int64) → (Nat → Int64) → (Nat → Int64) → (Nat → Int64) → (Nat → Int64) → (Nat → Int64) → (Nat → Int64) → ((Nat → Int64) × (Nat → Int64) × (Nat → Int64) × (Nat → Int64) × (Nat → Int64) × (Nat → Int64) × (Nat → Int64) × (Nat → Int32))) (x216 : Int32) (f217 : Nat → Int64) (f218 : Nat → Int64) (f219 : Nat → Int64) (f220 : Nat → Int64) (f221 : Nat → Int64) (f222 : Nat → Int64) (f223 : Nat → Int64) : (Nat → Int64) × (Nat → Int64) × (Nat → Int64) × (Nat → Int64) × (Nat → Int64) × (Nat → Int64) × (Nat → Int64) × (Nat → Int32) := (if depth.toInt = 4 then (K_joinPart_19 rec_4 x216 f217 f218 f219 f220 f221 f222 f223) else (K_joinPart_20 depth rec_4 x216 f217 f218 f219 f220 f221 f222 f223))
def K_joinPart_16 (depth : Int32) (rec_4 : (Int32) → (Nat → Int64) → (Nat → Int64) → (Nat → Int64) → (Nat → Int64) → (Nat → Int64) → (Nat → Int64) → (Nat → Int64) → ((Nat → Int64) × (Nat → Int64) × (Nat → Int64) × (Nat → Int64) × (Nat → Int64) × (Nat → Int64) × (Nat → Int64) × (Nat → Int32))) (x216 : Int32) (f217 : Nat → Int64) (f218 : Nat → Int64) (f219 : Nat → Int64) (f220 : Nat → Int64) (f221 : Nat → Int64) (f222 : Nat → Int64) (f223 : Nat → Int64) : (Nat → Int64) × (Nat → Int64) × (Nat → Int64) × (Nat → Int64) × (Nat → Int64) × (Nat → Int64) × (Nat → Int64) × (Nat → Int32) := (if depth.toInt = 3 then (K_joinPart_17 rec_4 x216 f217 f218 f219 f220 f221 f222 f223) else (K_joinPart_18 depth rec_4 x216 f217 f218 f219 f220 f221 f222 f223))
def K_joinPart_14 (depth : Int32) (rec_4 : (Int32) → (Nat → Int64) → (Nat → Int64) → (Nat → Int64) → (Nat → Int64) → (Nat → Int64) → (Nat → Int64) → (Nat → Int64) → ((Nat → Int64) × (Nat → Int64) × (Nat → Int64) × (Nat → Int64) × (Nat → Int64) × (Nat → Int64) × (Nat → Int64) × (Nat → Int32))) (x216 : Int32) (f217 : Nat → Int64) (f218 : Nat → Int64) (f219 : Nat → Int64) (f220 : Nat → Int64) (f221 : Nat → Int64) (f222 : Nat → Int64) (f223 : Nat → Int64) : (Nat → Int64) × (Nat → Int64) × (Nat → Int64) × (Nat → Int64) × (Nat → Int64) × (Nat → Int64) × (Nat → Int64) × (Nat → Int32) := (if depth.toInt = 2 then (K_joinPart_15 rec_4 x216 f217 f218 f219 f220 f221 f222 f223) else (K_joinPart_16 depth rec_4 x216 f217 f218 f219 f220 f221 f222 f223))
def K_joinPart_12 (depth : Int32) (rec_4 : (Int32) → (Nat → Int64) → (Nat → Int64) → (Nat → Int64) → (Nat → Int64) → (Nat → Int64) → (Nat → Int64) → (Nat → Int64) → ((Nat → Int64) × (Nat → Int64) × (Nat → Int64) × (Nat → Int64) × (Nat → Int64) × (Nat → Int64) × (Nat → Int64) × (Nat → Int32))) (x216 : Int32) (f217 : Nat → Int64) (f218 : Nat → Int64) (f219 : Nat → Int64) (f220 : Nat → Int64) (f221 : Nat → Int64) (f222 : Nat → Int64) (f223 : Nat → Int64) : (Nat → Int64) × (Nat → Int64) × (Nat → Int64) × (Nat → Int64) × (Nat → Int64) × (Nat → Int64) × (Nat → Int64) × (Nat → Int32) := (if depth.toInt = 1 then (K_joinPart_13 rec_4 x216 f217 f218 f219 f220 f221 f222 f223) else (K_joinPart_14 depth rec_4 x216 f217 f218 f219 f220 f221 f222 f223))
def K_joinPart_10 (depth : Int32) (rec_4 : (Int32) → (Nat → Int64) → (Nat → Int64) → (Nat → Int64) → (Nat → Int64) → (Nat → Int64) → (Nat → Int64) → (Nat → Int64) → ((Nat → Int64) × (Nat → Int64) × (Nat → Int64) × (Nat → Int64) × (Nat → Int64) × (Nat → Int64) × (Nat → Int64) × (Nat → Int32))) (x216 : Int32) (f217 : Nat → Int64) (f218 : Nat → Int64) (f219 : Nat → Int64) (f220 : Nat → Int64) (f221 : Nat → Int64) (f222 : Nat → Int64) (f223 : Nat → Int64) : (Nat → Int64) × (Nat → Int64) × (Nat → Int64) × (Nat → Int64) × (Nat → Int64) × (Nat → Int64) × (Nat → Int64) × (Nat → Int32) := (if depth.toInt = 0 then (K_joinPart_11 rec_4 x216 f217 f218 f219 f220 f221 f222 f223) else (K_joinPart_12 depth rec_4 x216 f217 f218 f219 f220 f221 f222 f223))
def K_joinPart_9 (rec_4 : (Int32) → (Nat → Int64) → (Nat → Int64) → (Nat → Int64) → (Nat → Int64) → (Nat → Int64) → (Nat → Int64) → (Nat → Int64) → ((Nat → Int64) × (Nat → Int64) × (Nat → Int64) × (Nat → Int64) × (Nat → Int64) × (Nat → Int64) × (Nat → Int64) × (Nat → Int32))) (x216 : Int32) (f217 : Nat → Int64) (f218 : Nat → Int64) (f219 : Nat → Int64) (f220 : Nat → Int64) (f221 : Nat → Int64) (f222 : Nat → Int64) (f223 : Nat → Int64) : (Nat → Int64) × (Nat → Int64) × (Nat → Int64) × (Nat → Int64) × (Nat → Int64) × (Nat → Int64) × (Nat → Int64) × (Nat → Int32) := (rec_4 (x216 + 1) f217 f218 f219 f220 f221 f222 f223)
def K_joinPart_7 (x216 : Int32) (a1 : Int32) (depth : Int32) (rec_4 : (Int32) → (Nat → Int64) → (Nat → Int64) → (Nat → Int64) → (Nat → Int64) → (Nat → Int64) → (Nat → Int64) → (Nat → Int64) → ((Nat → Int64) × (Nat → Int64) × (Nat → Int64) × (Nat → Int64) × (Nat → Int64) × (Nat → Int64) × (Nat → Int64) × (Nat → Int32))) (f217 : Nat → Int64) (f218 : Nat → Int64) (f219 : Nat → Int64) (f220 : Nat → Int64) (f221 : Nat → Int64) (f222 : Nat → Int64) (f223 : Nat → Int64) : (Nat → Int64) × (Nat → Int64) × (Nat → Int64) × (Nat → Int64) × (Nat → Int64) × (Nat → Int64) × (Nat → Int64) × (Nat → Int32) := (if ((x216 >>> ((a1 - (6 : Int32)) &&& 31)) &&& (1 : Int32)).toInt = 0 then (K_joinPart_10 depth rec_4 x216 f217 f218 f219 f220 f221 f222 f223) else (K_joinPart_9 rec_4 x216 f217 f218 f219 f220 f221 f222 f223))
def K_joinPart_23 (rec_4 : (Int32) → (Nat → Int64) → (Nat → Int64) → (Nat → Int64) → (Nat → Int64) → (Nat → Int64) → (Nat → Int64) → (Nat → Int64) → ((Nat → Int64) × (Nat → Int64) × (Nat → Int64) × (Nat → Int64) × (Nat → Int64) × (Nat → Int64) × (Nat → Int64) × (Nat → Int32))) (x216 : Int32) (f217 : Nat → Int64) (a1 : Int32) (f218 : Nat → Int64) (f219 : Nat → Int64) (f220 : Nat → Int64) (f221 : Nat → Int64) (f222 : Nat → Int64) (f223 : Nat → Int64) : (Nat → Int64) × (Nat → Int64) × (Nat → Int64) × (Nat → Int64) × (Nat → Int64) × (Nat → Int64) × (Nat → Int64) × (Nat → Int32) := (rec_4 (x216 + 1) (vp_updL f217 (x216 : Int32).toNatClampNeg ((f217 x216.toNatClampNeg) &&& (xinw.getD (a1 : Int32).toNatClampNeg 0))) f218 f219 f220 f221 f222 f223)
def K_joinPart_25 (rec_4 : (Int32) → (Nat → Int64) → (Nat → Int64) → (Nat → Int64) → (Nat → Int64) → (Nat → Int64) → (Nat → Int64) → (Nat → Int64) → ((Nat → Int64) × (Nat → Int64) × (Nat → Int64) × (Nat → Int64) × (Nat → Int64) × (Nat → Int64) × (Nat → Int64) × (Nat → Int32))) (x216 : Int32) (f217 : Nat → Int64) (f218 : Nat → Int64) (a1 : Int32) (f219 : Nat → Int64) (f220 : Nat → Int64) (f221 : Nat → Int64) (f222 : Nat → Int64) (f223 : Nat → Int64) : (Nat → Int64) × (Nat → Int64) × (Nat → Int64) × (Nat → Int64) × (Nat → Int64) × (Nat → Int64) × (Nat → Int64) × (Nat → Int32) := (rec_4 (x216 + 1) f217 (vp_updL f218 (x216 : Int32).toNatClampNeg ((f218 x216.toNatClampNeg) &&& (xinw.getD (a1 : Int32).toNatClampNeg 0))) f219 f220 f221 f222 f223)
def K_joinPart_27 (rec_4 : (Int32) → (Nat → Int64) → (Nat → Int64) → (Nat → Int64) → (Nat → Int64) → (Nat → Int64) → (Nat → Int64) → (Nat → Int64) → ((Nat → Int64) × (Nat → Int64) × (Nat → Int64) × (Nat → Int64) × (Nat → Int64) × (Nat → Int64) × (Nat → Int64) × (Nat → Int32))) (x216 : Int32) (f217 : Nat → Int64) (f218 : Nat → Int64) (f219 : Nat → Int64) (a1 : Int32) (f220 : Nat → Int64) (f221 : Nat → Int64) (f222 : Nat → Int64) (f223 : Nat → Int64) : (Nat → Int64) × (Nat → Int64) × (Nat → Int64) × (Nat → Int64) × (Nat → Int64) × (Nat → Int64) × (Nat → Int64) × (Nat → Int32) := (rec_4 (x216 + 1) f217 f218 (vp_updL f219 (x216 : Int32).toNatClampNeg ((f219 x216.toNatClampNeg) &&& (xinw.getD (a1 : Int32).toNatClampNeg 0))) f220 f221 f222 f223)
def K_joinPart_29 (rec_4 : (Int32) → (Nat → Int64) → (Nat → Int64) → (Nat → Int64) → (Nat → Int64) → (Nat → Int64) → (Nat → Int64) → (Nat → Int64) → ((Nat → Int64) × (Nat → Int64) × (Nat → Int64) × (Nat → Int64) × (Nat → Int64) × (Nat → Int64) × (Nat → Int64) × (Nat → Int32))) (x216 : Int32) (f217 : Nat → Int64) (f218 : Nat → Int64) (f219 : Nat → Int64) (f220 : Nat → Int64) (a1 : Int32) (f221 : Nat → Int64) (f222 : Nat → Int64) (f223 : Nat → Int64) : (Nat → Int64) × (Nat → Int64) × (Nat → Int64) × (Nat → Int64) × (Nat → Int64) × (Nat → Int64) × (Nat → Int64) × (Nat → Int32) := (rec_4 (x216 + 1) f217 f218 f219 (vp_updL f220 (x216 : Int32).toNatClampNeg ((f220 x216.toNatClampNeg) &&& (xinw.getD (a1 : Int32).toNatClampNeg 0))) f221 f222 f223)
def K_joinPart_31 (rec_4 : (Int32) → (Nat → Int64) → (Nat → Int64) → (Nat → Int64) → (Nat → Int64) → (Nat → Int64) → (Nat → Int64) → (Nat → Int64) → ((Nat → Int64) × (Nat → Int64) × (Nat → Int64) × (Nat → Int64) × (Nat → Int64) × (Nat → Int64) × (Nat → Int64) × (Nat → Int32))) (x216 : Int32) (f217 : Nat → Int64) (f218 : Nat → Int64) (f219 : Nat → Int64) (f220 : Nat → Int64) (f221 : Nat → Int64) (a1 : Int32) (f222 : Nat → Int64) (f223 : Nat → Int64) : (Nat → Int64) × (Nat → Int64) × (Nat → Int64) × (Nat → Int64) × (Nat → Int64) × (Nat → Int64) × (Nat → Int64) × (Nat → Int32) := (rec_4 (x216 + 1) f217 f218 f219 f220 (vp_updL f221 (x216 : Int32).toNatClampNeg ((f221 x216.toNatClampNeg) &&& (xinw.getD (a1 : Int32).toNatClampNeg 0))) f222 f223)
def K_joinPart_33 (rec_4 : (Int32) → (Nat → Int64) → (Nat → Int64) → (Nat → Int64) → (Nat → Int64) → (Nat → Int64) → (Nat → Int64) → (Nat → Int64) → ((Nat → Int64) × (Nat → Int64) × (Nat → Int64) × (Nat → Int64) × (Nat → Int64) × (Nat → Int64) × (Nat → Int64) × (Nat → Int32))) (x216 : Int32) (f217 : Nat → Int64) (f218 : Nat → Int64) (f219 : Nat → Int64) (f220 : Nat → Int64) (f221 : Nat → Int64) (f222 : Nat → Int64) (a1 : Int32) (f223 : Nat → Int64) : (Nat → Int64) × (Nat → Int64) × (Nat → Int64) × (Nat → Int64) × (Nat → Int64) × (Nat → Int64) × (Nat → Int64) × (Nat → Int32) := (rec_4 (x216 + 1) f217 f218 f219 f220 f221 (vp_updL f222 (x216 : Int32).toNatClampNeg ((f222 x216.toNatClampNeg) &&& (xinw.getD (a1 : Int32).toNatClampNeg 0))) f223)
def K_joinPart_34 (rec_4 : (Int32) → (Nat → Int64) → (Nat → Int64) → (Nat → Int64) → (Nat → Int64) → (Nat → Int64) → (Nat → Int64) → (Nat → Int64) → ((Nat → Int64) × (Nat → Int64) × (Nat → Int64) × (Nat → Int64) × (Nat → Int64) × (Nat → Int64) × (Nat → Int64) × (Nat → Int32))) (x216 : Int32) (f217 : Nat → Int64) (f218 : Nat → Int64) (f219 : Nat → Int64) (f220 : Nat → Int64) (f221 : Nat → Int64) (f222 : Nat → Int64) (f223 : Nat → Int64) (a1 : Int32) : (Nat → Int64) × (Nat → Int64) × (Nat → Int64) × (Nat → Int64) × (Nat → Int64) × (Nat → Int64) × (Nat → Int64) × (Nat → Int32) := (rec_4 (x216 + 1) f217 f218 f219 f220 f221 f222 (vp_updL f223 (x216 : Int32).toNatClampNeg ((f223 x216.toNatClampNeg) &&& (xinw.getD (a1 : Int32).toNatClampNeg 0))))
def K_joinPart_32 (depth : Int32) (rec_4 : (Int32) → (Nat → Int64) → (Nat → Int64) → (Nat → Int64) → (Nat → Int64) → (Nat → Int64) → (Nat → Int64) → (Nat → Int64) → ((Nat → Int64) × (Nat → Int64) × (Nat → Int64) × (Nat → Int64) × (Nat → Int64) × (Nat → Int64) × (Nat → Int64) × (Nat → Int32))) (x216 : Int32) (f217 : Nat → Int64) (f218 : Nat → Int64) (f219 : Nat → Int64) (f220 : Nat → Int64) (f221 : Nat → Int64) (f222 : Nat → Int64) (a1 : Int32) (f223 : Nat → Int64) : (Nat → Int64) × (Nat → Int64) × (Nat → Int64) × (Nat → Int64) × (Nat → Int64) × (Nat → Int64) × (Nat → Int64) × (Nat → Int32) := (if depth.toInt = 5 then (K_joinPart_33 rec_4 x216 f217 f218 f219 f220 f221 f222 a1 f223) else (K_joinPart_34 rec_4 x216 f217 f218 f219 f220 f221 f222 f223 a1))
def K_joinPart_30 (depth : Int32) (rec_4 : (Int32) → (Nat → Int64) → (Nat → Int64) → (Nat → Int64) → (Nat → Int64) → (Nat → Int64) → (Nat → Int64) → (Nat → Int64) → ((Nat → Int64) × (Nat → Int64) × (Nat → Int64) × (Nat → Int64) × (Nat → Int64) × (Nat → Int64) × (Nat → Int64) × (Nat → Int32))) (x216 : Int32) (f217 : Nat → Int64) (f218 : Nat → Int64) (f219 : Nat → Int64) (f220 : Nat → Int64) (f221 : Nat → Int64) (a1 : Int32) (f222 : Nat → Int64) (f223 : Nat → Int64) : (Nat → Int64) × (Nat → Int64) × (Nat → Int64) × (Nat → Int64) × (Nat → Int64) × (Nat → Int64) × (Nat → Int64) × (Nat → Int32) := (if depth.toInt = 4 then (K_joinPart_31 rec_4 x216 f217 f218 f219 f220 f221 a1 f222 f223) else (K_joinPart_32 depth rec_4 x216 f217 f218 f219 f220 f221 f222 a1 f223))
def K_joinPart_28 (depth : Int32) (rec_4 : (Int32) → (Nat → Int64) → (Nat → Int64) → (Nat → Int64) → (Nat → Int64) → (Nat → Int64) → (Nat → Int64) → (Nat → Int64) → ((Nat → Int64) × (Nat → Int64) × (Nat → Int64) × (Nat → Int64) × (Nat → Int64) × (Nat → Int64) × (Nat → Int64) × (Nat → Int32))) (x216 : Int32) (f217 : Nat → Int64) (f218 : Nat → Int64) (f219 : Nat → Int64) (f220 : Nat → Int64) (a1 : Int32) (f221 : Nat → Int64) (f222 : Nat → Int64) (f223 : Nat → Int64) : (Nat → Int64) × (Nat → Int64) × (Nat → Int64) × (Nat → Int64) × (Nat → Int64) × (Nat → Int64) × (Nat → Int64) × (Nat → Int32) := (if depth.toInt = 3 then (K_joinPart_29 rec_4 x216 f217 f218 f219 f220 a1 f221 f222 f223) else (K_joinPart_30 depth rec_4 x216 f217 f218 f219 f220 f221 a1 f222 f223))
def K_joinPart_26 (depth : Int32) (rec_4 : (Int32) → (Nat → Int64) → (Nat → Int64) → (Nat → Int64) → (Nat → Int64) → (Nat → Int64) → (Nat → Int64) → (Nat → Int64) → ((Nat → Int64) × (Nat → Int64) × (Nat → Int64) × (Nat → Int64) × (Nat → Int64) × (Nat → Int64) × (Nat → Int64) × (Nat → Int32))) (x216 : Int32) (f217 : Nat → Int64) (f218 : Nat → Int64) (f219 : Nat → Int64) (a1 : Int32) (f220 : Nat → Int64) (f221 : Nat → Int64) (f222 : Nat → Int64) (f223 : Nat → Int64) : (Nat → Int64) × (Nat → Int64) × (Nat → Int64) × (Nat → Int64) × (Nat → Int64) × (Nat → Int64) × (Nat → Int64) × (Nat → Int32) := (if depth.toInt = 2 then (K_joinPart_27 rec_4 x216 f217 f218 f219 a1 f220 f221 f222 f223) else (K_joinPart_28 depth rec_4 x216 f217 f218 f219 f220 a1 f221 f222 f223))
def K_joinPart_24 (depth : Int32) (rec_4 : (Int32) → (Nat → Int64) → (Nat → Int64) → (Nat → Int64) → (Nat → Int64) → (Nat → Int64) → (Nat → Int64) → (Nat → Int64) → ((Nat → Int64) × (Nat → Int64) × (Nat → Int64) × (Nat → Int64) × (Nat → Int64) × (Nat → Int64) × (Nat → Int64) × (Nat → Int32))) (x216 : Int32) (f217 : Nat → Int64) (f218 : Nat → Int64) (a1 : Int32) (f219 : Nat → Int64) (f220 : Nat → Int64) (f221 : Nat → Int64) (f222 : Nat → Int64) (f223 : Nat → Int64) : (Nat → Int64) × (Nat → Int64) × (Nat → Int64) × (Nat → Int64) × (Nat → Int64) × (Nat → Int64) × (Nat → Int64) × (Nat → Int32) := (if depth.toInt = 1 then (K_joinPart_25 rec_4 x216 f217 f218 a1 f219 f220 f221 f222 f223) else (K_joinPart_26 depth rec_4 x216 f217 f218 f219 a1 f220 f221 f222 f223))
def K_joinPart_8 (depth : Int32) (rec_4 : (Int32) → (Nat → Int64) → (Nat → Int64) → (Nat → Int64) → (Nat → Int64) → (Nat → Int64) → (Nat → Int64) → (Nat → Int64) → ((Nat → Int64) × (Nat → Int64) × (Nat → Int64) × (Nat → Int64) × (Nat → Int64) × (Nat → Int64) × (Nat → Int64) × (Nat → Int32))) (x216 : Int32) (f217 : Nat → Int64) (a1 : Int32) (f218 : Nat → Int64) (f219 : Nat → Int64) (f220 : Nat → Int64) (f221 : Nat → Int64) (f222 : Nat → Int64) (f223 : Nat → Int64) : (Nat → Int64) × (Nat → Int64) × (Nat → Int64) × (Nat → Int64) × (Nat → Int64) × (Nat → Int64) × (Nat → Int64) × (Nat → Int32) := (if depth.toInt = 0 then (K_joinPart_23 rec_4 x216 f217 a1 f218 f219 f220 f221 f222 f223) else (K_joinPart_24 depth rec_4 x216 f217 f218 a1 f219 f220 f221 f222 f223))
def K_joinPart_6 (a1 : Int32) (x216 : Int32) (depth : Int32) (rec_4 : (Int32) → (Nat → Int64) → (Nat → Int64) → (Nat → Int64) → (Nat → Int64) → (Nat → Int64) → (Nat → Int64) → (Nat → Int64) → ((Nat → Int64) × (Nat → Int64) × (Nat → Int64) × (Nat → Int64) × (Nat → Int64) × (Nat → Int64) × (Nat → Int64) × (Nat → Int32))) (f217 : Nat → Int64) (f218 : Nat → Int64) (f219 : Nat → Int64) (f220 : Nat → Int64) (f221 : Nat → Int64) (f222 : Nat → Int64) (f223 : Nat → Int64) : (Nat → Int64) × (Nat → Int64) × (Nat → Int64) × (Nat → Int64) × (Nat → Int64) × (Nat → Int64) × (Nat → Int64) × (Nat → Int32) := (if 6 ≤ a1.toInt then (K_joinPart_7 x216 a1 depth rec_4 f217 f218 f219 f220 f221 f222 f223) else (K_joinPart_8 depth rec_4 x216 f217 a1 f218 f219 f220 f221 f222 f223))
def K_joinPart_4 (x216 : Int32) (f217 : Nat → Int64) (f218 : Nat → Int64) (f219 : Nat → Int64) (f220 : Nat → Int64) (f221 : Nat → Int64) (f222 : Nat → Int64) (f223 : Nat → Int64) (pn_5 : Nat → Int32) (a1 : Int32) (depth : Int32) (rec_4 : (Int32) → (Nat → Int64) → (Nat → Int64) → (Nat → Int64) → (Nat → Int64) → (Nat → Int64) → (Nat → Int64) → (Nat → Int64) → ((Nat → Int64) × (Nat → Int64) × (Nat → Int64) × (Nat → Int64) × (Nat → Int64) × (Nat → Int64) × (Nat → Int64) × (Nat → Int32))) : (Nat → Int64) × (Nat → Int64) × (Nat → Int64) × (Nat → Int64) × (Nat → Int64) × (Nat → Int64) × (Nat → Int64) × (Nat → Int32) := (if 8 ≤ x216.toInt then (K_joinPart_5 f217 f218 f219 f220 f221 f222 f223 pn_5) else (K_joinPart_6 a1 x216 depth rec_4 f217 f218 f219 f220 f221 f222 f223))
def K_joinPart_L4 (pn_5 : Nat → Int32) (a1 : Int32) (depth : Int32) : Nat → (Int32) → (Nat → Int64) → (Nat → Int64) → (Nat → Int64) → (Nat → Int64) → (Nat → Int64) → (Nat → Int64) → (Nat → Int64) → (Nat → Int64) × (Nat → Int64) × (Nat → Int64) × (Nat → Int64) × (Nat → Int64) × (Nat → Int64) × (Nat → Int64) × (Nat → Int32)
  | 0, _, _, _, _, _, _, _, _ => (fun _ => 0, fun _ => 0, fun _ => 0, fun _ => 0, fun _ => 0, fun _ => 0, fun _ => 0, fun _ => 0)
  | n9 + 1, x216, f217, f218, f219, f220, f221, f222, f223 => (K_joinPart_4 x216 f217 f218 f219 f220 f221 f222 f223 pn_5 a1 depth (K_joinPart_L4 pn_5 a1 depth n9))
def K_joinPart_3 (pn_5 : Nat → Int32) (a1 : Int32) (depth : Int32) (rl0 : Nat → Int64) (rl1 : Nat → Int64) (rl2 : Nat → Int64) (rl3 : Nat → Int64) (rl4 : Nat → Int64) (rl5 : Nat → Int64) (rl6 : Nat → Int64) : (Nat → Int64) × (Nat → Int64) × (Nat → Int64) × (Nat → Int64) × (Nat → Int64) × (Nat → Int64) × (Nat → Int64) × (Nat → Int32) := (K_joinPart_L4 pn_5 a1 depth 100000 (0 : Int32) rl0 rl1 rl2 rl3 rl4 rl5 rl6)
def K_joinPart_2 (a1 : Int32) (depth : Int32) (rl0 : Nat → Int64) (rl1 : Nat → Int64) (rl2 : Nat → Int64) (rl3 : Nat → Int64) (rl4 : Nat → Int64) (rl5 : Nat → Int64) (rl6 : Nat → Int64) (pn : Nat → Int32) (a0 : Int32) (r1 : Int32) : (Nat → Int64) × (Nat → Int64) × (Nat → Int64) × (Nat → Int64) × (Nat → Int64) × (Nat → Int64) × (Nat → Int64) × (Nat → Int32) := ((fun t9 => (K_joinPart_3 t9 a1 depth rl0 rl1 rl2 rl3 rl4 rl5 rl6)) (M_setNumber pn a0 (7 : Int32) (r1 ||| ((1 : Int32) <<< (a1 &&& 31)))))
def K_joinPart_1 (a1 : Int32) (depth : Int32) (rl0 : Nat → Int64) (rl1 : Nat → Int64) (rl2 : Nat → Int64) (rl3 : Nat → Int64) (rl4 : Nat → Int64) (rl5 : Nat → Int64) (rl6 : Nat → Int64) (pn : Nat → Int32) (a0 : Int32) : (Nat → Int64) × (Nat → Int64) × (Nat → Int64) × (Nat → Int64) × (Nat → Int64) × (Nat → Int64) × (Nat → Int64) × (Nat → Int32) := ((fun t9 => (K_joinPart_2 a1 depth rl0 rl1 rl2 rl3 rl4 rl5 rl6 pn a0 t9)) (M_number pn a0 (7 : Int32)))
def M_joinPart (a1 : Int32) (depth : Int32) (rl0 : Nat → Int64) (rl1 : Nat → Int64) (rl2 : Nat → Int64) (rl3 : Nat → Int64) (rl4 : Nat → Int64) (rl5 : Nat → Int64) (rl6 : Nat → Int64) (pn : Nat → Int32) (a0 : Int32) : (Nat → Int64) × (Nat → Int64) × (Nat → Int64) × (Nat → Int64) × (Nat → Int64) × (Nat → Int64) × (Nat → Int64) × (Nat → Int32) := (K_joinPart_1 a1 depth rl0 rl1 rl2 rl3 rl4 rl5 rl6 pn a0)
abbrev W_joinPart (cI cJ cZ cG cH : ClassId) (rd : Nat) (a0 : Int32) (a1 : Int32) (tp : Nat) (rfa : Nat) (rya : Nat) (rla : Nat) (pl : Nat) (place : Int32) (kind : Int32) (from_ : Int32) (value : Int32) (told : Int32) (depth : Int32) (fault : Int32) (fplace : Int32) (rlf : Nat → Nat) (rl0 : Nat → Int64) (rl1 : Nat → Int64) (rl2 : Nat → Int64) (rl3 : Nat → Int64) (rl4 : Nat → Int64) (rl5 : Nat → Int64) (rl6 : Nat → Int64) (pna : Nat) (pta : Nat) (rails : Int32) (limit : Int32) (retry : Int32) (behind : Int32) (pn : Nat → Int32) (adK : Nat → Nat) (adV : Nat → Nat) (tI : Nat) : va_W := [oX4 rd tp rfa rya rla pl place kind from_ value told depth fault fplace, oAM rla cH 7 rlf, oAJ (rlf 0) cJ 8 rl0, oAJ (rlf 1) cJ 8 rl1, oAJ (rlf 2) cJ 8 rl2, oAJ (rlf 3) cJ 8 rl3, oAJ (rlf 4) cJ 8 rl4, oAJ (rlf 5) cJ 8 rl5, oAJ (rlf 6) cJ 8 rl6, oX3 pl pna pta rails limit retry behind, oAI pna cI 64 pn]
abbrev Q_joinPart (D : va_G) (cI cJ cZ cG cH : ClassId) (rd : Nat) (a0 : Int32) (a1 : Int32) (tp : Nat) (rfa : Nat) (rya : Nat) (rla : Nat) (pl : Nat) (place : Int32) (kind : Int32) (from_ : Int32) (value : Int32) (told : Int32) (depth : Int32) (fault : Int32) (fplace : Int32) (rlf : Nat → Nat) (rl0 : Nat → Int64) (rl1 : Nat → Int64) (rl2 : Nat → Int64) (rl3 : Nat → Int64) (rl4 : Nat → Int64) (rl5 : Nat → Int64) (rl6 : Nat → Int64) (pna : Nat) (pta : Nat) (rails : Int32) (limit : Int32) (retry : Int32) (behind : Int32) (pn : Nat → Int32) (adK : Nat → Nat) (adV : Nat → Nat) (tI : Nat) (A : Nat → Prop) : Array Value → State → Outcome → State → Prop := va_Qv (fun (_ : Unit) => True) (fun _ t => ∃ (rl09 : Nat → Int64) (rl19 : Nat → Int64) (rl29 : Nat → Int64) (rl39 : Nat → Int64) (rl49 : Nat → Int64) (rl59 : Nat → Int64) (rl69 : Nat → Int64) (pn9 : Nat → Int32), (∀ j, j < 64 → 0 ≤ (pn9 j).toInt ∧ (pn9 j).toInt ≤ 511) ∧ (M_joinPart a1 depth rl0 rl1 rl2 rl3 rl4 rl5 rl6 pn a0 = (rl09, rl19, rl29, rl39, rl49, rl59, rl69, pn9)) ∧ xB D (tyL cI cJ cZ cG cH) [oX4 rd tp rfa rya rla pl place kind from_ value told depth fault fplace, oAM rla cH 7 rlf, oAJ (rlf 0) cJ 8 rl09, oAJ (rlf 1) cJ 8 rl19, oAJ (rlf 2) cJ 8 rl29, oAJ (rlf 3) cJ 8 rl39, oAJ (rlf 4) cJ 8 rl49, oAJ (rlf 5) cJ 8 rl59, oAJ (rlf 6) cJ 8 rl69, oX3 pl pna pta rails limit retry behind, oAI pna cI 64 pn9] A t) A
abbrev rm_joinPart : Room := { frames := 1, cells := 0, slots := 0, locals := 23 }
set_option maxRecDepth 100000 in
set_option maxHeartbeats 40000000 in
theorem c_joinPart (l : Launch) (D : va_G) (cI cJ cZ cG cH : ClassId) (sz : Nat) (rd : Nat) (a0 : Int32) (a1 : Int32) (tp : Nat) (rfa : Nat) (rya : Nat) (rla : Nat) (pl : Nat) (place : Int32) (kind : Int32) (from_ : Int32) (value : Int32) (told : Int32) (depth : Int32) (fault : Int32) (fplace : Int32) (rlf : Nat → Nat) (rl0 : Nat → Int64) (rl1 : Nat → Int64) (rl2 : Nat → Int64) (rl3 : Nat → Int64) (rl4 : Nat → Int64) (rl5 : Nat → Int64) (rl6 : Nat → Int64) (pna : Nat) (pta : Nat) (rails : Int32) (limit : Int32) (retry : Int32) (behind : Int32) (pn : Nat → Int32) (adK : Nat → Nat) (adV : Nat → Nat) (tI : Nat) (h_a0 : 0 ≤ a0.toInt ∧ a0.toInt ≤ 7) (h_a1 : 0 ≤ a1.toInt ∧ a1.toInt ≤ 8) (h_place : 0 ≤ place.toInt ∧ place.toInt ≤ 400) (h_from_ : 0 ≤ from_.toInt ∧ from_.toInt ≤ 400) (h_depth : 0 ≤ depth.toInt ∧ depth.toInt ≤ 6) (h_rails : 0 ≤ rails.toInt ∧ rails.toInt ≤ 8) (h_pn : ∀ j, j < 64 → 0 ≤ (pn j).toInt ∧ (pn j).toInt ≤ 511) : Met l yX4_joinPart (wt yX4_joinPart cX4_joinPart 4 none) rm_joinPart (xPcE [.ref rd, .int a0, .int a1] D (tyL cI cJ cZ cG cH) (W_joinPart cI cJ cZ cG cH rd a0 a1 tp rfa rya rla pl place kind from_ value told depth fault fplace rlf rl0 rl1 rl2 rl3 rl4 rl5 rl6 pna pta rails limit retry behind pn adK adV tI) adK adV tI sz) (Q_joinPart D cI cJ cZ cG cH rd a0 a1 tp rfa rya rla pl place kind from_ value told depth fault fplace rlf rl0 rl1 rl2 rl3 rl4 rl5 rl6 pna pta rails limit retry behind pn adK adV tI (va_A (W_joinPart cI cJ cZ cG cH rd a0 a1 tp rfa rya rla pl place kind from_ value told depth fault fplace rlf rl0 rl1 rl2 rl3 rl4 rl5 rl6 pna pta rails limit retry behind pn adK adV tI) sz)) 0 0 (va_A (W_joinPart cI cJ cZ cG cH rd a0 a1 tp rfa rya rla pl place kind from_ value told depth fault fplace rlf rl0 rl1 rl2 rl3 rl4 rl5 rl6 pna pta rails limit retry behind pn adK adV tI) sz) := by
  refine xMetE (cc := cX4_joinPart) (maxL := 4) (ret := none) (Qf := Q_joinPart D cI cJ cZ cG cH rd a0 a1 tp rfa rya rla pl place kind from_ value told depth fault fplace rlf rl0 rl1 rl2 rl3 rl4 rl5 rl6 pna pta rails limit retry behind pn adK adV tI) (by decide) rfl (Nat.le_of_ble_eq_true rfl) ?_
  intro p e s m below meth c ls A hx hb hr hml hts hown hlocks hnm hsz hP hK hD hA hS hl hE
  have hown : s.vm.findClass RX4 = some m.cls := hown
  have hP : va_P D vwCl [oX4 rd tp rfa rya rla pl place kind from_ value told depth fault fplace, oAM rla cH 7 rlf, oAJ (rlf 0) cJ 8 rl0, oAJ (rlf 1) cJ 8 rl1, oAJ (rlf 2) cJ 8 rl2, oAJ (rlf 3) cJ 8 rl3, oAJ (rlf 4) cJ 8 rl4, oAJ (rlf 5) cJ 8 rl5, oAJ (rlf 6) cJ 8 rl6, oX3 pl pna pta rails limit retry behind, oAI pna cI 64 pn] s.heap := hP
  have hD : va_D A [oX4 rd tp rfa rya rla pl place kind from_ value told depth fault fplace, oAM rla cH 7 rlf, oAJ (rlf 0) cJ 8 rl0, oAJ (rlf 1) cJ 8 rl1, oAJ (rlf 2) cJ 8 rl2, oAJ (rlf 3) cJ 8 rl3, oAJ (rlf 4) cJ 8 rl4, oAJ (rlf 5) cJ 8 rl5, oAJ (rlf 6) cJ 8 rl6, oX3 pl pna pta rails limit retry behind, oAI pna cI 64 pn] := hD
  have hl : lv_has ls 4 [(0, .ref rd), (1, .int a0), (2, .int a1)] := hl
  have hM : M_joinPart a1 depth rl0 rl1 rl2 rl3 rl4 rl5 rl6 pn a0 = (K_joinPart_1 a1 depth rl0 rl1 rl2 rl3 rl4 rl5 rl6 pn a0) := rfl
  refine lv_aload_n hx hb dX4_joinPart_0 rfl (lv_at hl 0 rfl) ?_
  refine va_get (D := D) (ci := 3) (v := .ref pl) (C := RX4) (T := TX4) (N := 13) hx hb hts (fun w h => tbC w (tbfX4 w h)) hown hK hP 0 rfl rfl 4 (by decide) (hts (.fieldLink RX4 15 "PowerRails$Reader" "plan" "LPowerRails$Plan;") (tbC _ wd236)) (fun _ h9 => h9) rfl dX4_joinPart_1 ?_
  refine lv_iload_n hx hb dX4_joinPart_4 rfl (lv_at hl 1 rfl) ?_
  refine lv_bipush (v := 7) hx hb dX4_joinPart_5 (by decide) ?_
  refine lv_aload_n hx hb dX4_joinPart_7 rfl (lv_at hl 0 rfl) ?_
  refine va_get (D := D) (ci := 3) (v := .ref pl) (C := RX4) (T := TX4) (N := 13) hx hb hts (fun w h => tbC w (tbfX4 w h)) hown hK hP 0 rfl rfl 4 (by decide) (hts (.fieldLink RX4 15 "PowerRails$Reader" "plan" "LPowerRails$Plan;") (tbC _ wd236)) (fun _ h9 => h9) rfl dX4_joinPart_8 ?_
  refine lv_iload_n hx hb dX4_joinPart_11 rfl (lv_at hl 1 rfl) ?_
  refine lv_bipush (v := 7) hx hb dX4_joinPart_12 (by decide) ?_
  obtain ⟨hPc, hDc, hFc, hC9⟩ := xpk (wc := W_number cI cJ cZ cG cH pl a0 (7 : Int32) pna pta rails limit retry behind pn) hP hD hS hA [9, 10] (by decide +kernel) rfl
  refine va_calli (va_runV (As := [.int a0, .int 7]) (rest := [.int 7, .int a0, .ref pl]) ⟨hx, hb, hml, hown, hts⟩ (c_number l D cI cJ cZ cG cH s.heap.size pl a0 (7 : Int32) pna pta rails limit retry behind pn (xrng rfl (by omega) (by omega)) ⟨by decide, by decide⟩ (xrng rfl (by omega) (by omega)) (xwk_rng h_pn (by decide) (by decide))) (cwV 2 hts (xGV tbC wd367 wd368 wd369 wd59 wd996) rfl rfl rfl (by decide +kernel) ⟨Nat.le_of_ble_eq_true rfl, Nat.le_of_ble_eq_true rfl⟩) ⟨xPc_blind, va_recv hK hPc (ci := 2) (q0 := 0) rfl rfl, xPc_pre hPc hK hDc⟩ rfl rfl hl.1 rfl (lv_room (Nat.le_of_ble_eq_true rfl)) dX4_joinPart_14 ⟨Nat.le_of_ble_eq_true rfl, Nat.le_of_ble_eq_true rfl⟩) hS (fun q _ h => hFc q h) hFc (fun r1 u t H1 locs ht hvm hw1 hB hz1 hk1 hS => ?_)
  obtain ⟨hru9, hw1⟩ := hw1
  subst hru9
  obtain ⟨hf1_0, hP1, hK1, hD1⟩ := hB
  rw [ht] at hP1
  obtain ⟨hP, hD⟩ : xPD D A [oX4 rd tp rfa rya rla pl place kind from_ value told depth fault fplace, oAM rla cH 7 rlf, oAJ (rlf 0) cJ 8 rl0, oAJ (rlf 1) cJ 8 rl1, oAJ (rlf 2) cJ 8 rl2, oAJ (rlf 3) cJ 8 rl3, oAJ (rlf 4) cJ 8 rl4, oAJ (rlf 5) cJ 8 rl5, oAJ (rlf 6) cJ 8 rl6, oX3 pl pna pta rails limit retry behind, oAI pna cI 64 pn] H1 := xjn 9 hP hD [9, 10] [0, 1, 2, 3, 4, 5, 6, 7, 8] hC9 rfl (by decide +kernel) (by decide +kernel) hk1 hFc hP1 hD1
  generalize H1 = H at hP hS ⊢
  have hf1_0 : M_number pn a0 (7 : Int32) = (r1) := hf1_0
  have hw1 : 0 ≤ r1.toInt ∧ r1.toInt ≤ 511 := hw1
  have h9M := congrArg (fun t9 => (K_joinPart_2 a1 depth rl0 rl1 rl2 rl3 rl4 rl5 rl6 pn a0 t9)) hf1_0
  have hM : M_joinPart a1 depth rl0 rl1 rl2 rl3 rl4 rl5 rl6 pn a0 = (K_joinPart_2 a1 depth rl0 rl1 rl2 rl3 rl4 rl5 rl6 pn a0 r1) := (show M_joinPart a1 depth rl0 rl1 rl2 rl3 rl4 rl5 rl6 pn a0 = ((fun t9 => (K_joinPart_2 a1 depth rl0 rl1 rl2 rl3 rl4 rl5 rl6 pn a0 t9)) (M_number pn a0 (7 : Int32))) from hM).trans h9M
  refine lv_iconst (v := 1) hx hb dX4_joinPart_17 (by decide) ?_
  refine lv_iload_n hx hb dX4_joinPart_18 rfl (lv_at hl 2 rfl) ?_
  refine lv_ishl hx hb dX4_joinPart_19 ?_
  refine lv_topi (fun v2 ev2 => ?_)
  have rv2 : 1 ≤ v2.toInt ∧ v2.toInt ≤ 256 := xshl1 8 ev2 (show (a1 : Int32).toInt = a1.toInt from rfl) (by omega) (by omega) (by decide)
  refine lv_ior hx hb dX4_joinPart_20 ?_
  refine lv_topi (fun v3 ev3 => ?_)
  have rv3 : 0 ≤ v3.toInt ∧ v3.toInt ≤ 511 := xorL 9 ev3 (show (r1 : Int32).toInt = r1.toInt from rfl) (show (v2 : Int32).toInt = v2.toInt from rfl) (by decide) (by decide) (by omega) (by omega) (by omega) (by omega)
  obtain ⟨hPc, hDc, hFc, hC9⟩ := xpk (wc := W_setNumber cI cJ cZ cG cH pl a0 (7 : Int32) v3 pna pta rails limit retry behind pn) hP hD hS hA [9, 10] (by decide +kernel) rfl
  refine va_callv (va_runV (As := [.int a0, .int 7, .int v3]) (rest := []) ⟨hx, hb, hml, hown, hts⟩ (c_setNumber l D cI cJ cZ cG cH H.size pl a0 (7 : Int32) v3 pna pta rails limit retry behind pn (xrng rfl (by omega) (by omega)) ⟨by decide, by decide⟩ (xrng rfl (by omega) (by omega)) (xrng rfl (by omega) (by omega)) (xwk_rng h_pn (by decide) (by decide))) (cwV 3 hts (xGV tbC wd342 wd330 wd331 wd59 wd984) rfl rfl rfl (by decide +kernel) ⟨Nat.le_of_ble_eq_true rfl, Nat.le_of_ble_eq_true rfl⟩) ⟨xPc_blind, va_recv hK hPc (ci := 2) (q0 := 0) rfl rfl, xPc_pre hPc hK hDc⟩ rfl rfl hl.1 rfl (lv_room (Nat.le_of_ble_eq_true rfl)) dX4_joinPart_21 ⟨Nat.le_of_ble_eq_true rfl, Nat.le_of_ble_eq_true rfl⟩) hS (fun q _ h => hFc q h) hFc (fun u t H1 locs ht hvm hw4 hB hz1 hk1 hS => ?_)
  obtain ⟨pn_5, hf5_0, hf5_1, hP1, hK1, hD1⟩ := hB
  rw [ht] at hP1
  obtain ⟨hP, hD⟩ : xPD D A [oX4 rd tp rfa rya rla pl place kind from_ value told depth fault fplace, oAM rla cH 7 rlf, oAJ (rlf 0) cJ 8 rl0, oAJ (rlf 1) cJ 8 rl1, oAJ (rlf 2) cJ 8 rl2, oAJ (rlf 3) cJ 8 rl3, oAJ (rlf 4) cJ 8 rl4, oAJ (rlf 5) cJ 8 rl5, oAJ (rlf 6) cJ 8 rl6, oX3 pl pna pta rails limit retry behind, oAI pna cI 64 pn_5] H1 := xjn 9 hP hD [9, 10] [0, 1, 2, 3, 4, 5, 6, 7, 8] hC9 rfl (by decide +kernel) (by decide +kernel) hk1 hFc hP1 hD1
  generalize H1 = H at hP hS ⊢
  have hf5_0 : ∀ j, j < 64 → 0 ≤ (pn_5 j).toInt ∧ (pn_5 j).toInt ≤ 511 := hf5_0
  have hf5_1 : M_setNumber pn a0 (7 : Int32) v3 = (pn_5) := hf5_1
  have h9M := congrArg (fun t9 => (K_joinPart_3 t9 a1 depth rl0 rl1 rl2 rl3 rl4 rl5 rl6)) hf5_1
  have hM : M_joinPart a1 depth rl0 rl1 rl2 rl3 rl4 rl5 rl6 pn a0 = (K_joinPart_3 pn_5 a1 depth rl0 rl1 rl2 rl3 rl4 rl5 rl6) := (show M_joinPart a1 depth rl0 rl1 rl2 rl3 rl4 rl5 rl6 pn a0 = ((fun t9 => (K_joinPart_3 t9 a1 depth rl0 rl1 rl2 rl3 rl4 rl5 rl6)) (M_setNumber pn a0 (7 : Int32) v3)) from (by rw [ev3, ev2]; exact hM)).trans h9M
  refine lv_iconst (v := 0) hx hb dX4_joinPart_24 (by decide) ?_
  refine lv_istore_n (lv' := [(3, .int 0), (0, .ref rd), (1, .int a0), (2, .int a1)]) hx hb dX4_joinPart_25 rfl hl (by decide) rfl (fun ls hl => ?_)
  have hl224 : ∀ (nhl224 : Nat) (x216 : Int32) (f217 : Nat → Int64) (f218 : Nat → Int64) (f219 : Nat → Int64) (f220 : Nat → Int64) (f221 : Nat → Int64) (f222 : Nat → Int64) (f223 : Nat → Int64), ((8 - x216.toInt).toNat < nhl224) → (hx216 : 0 ≤ x216.toInt ∧ x216.toInt ≤ 8) → (hM : M_joinPart a1 depth rl0 rl1 rl2 rl3 rl4 rl5 rl6 pn a0 = (K_joinPart_L4 pn_5 a1 depth nhl224 x216 f217 f218 f219 f220 f221 f222 f223)) → ∀ (H : Heap) (locs : List Loc), va_P D vwCl [oX4 rd tp rfa rya rla pl place kind from_ value told depth fault fplace, oAM rla cH 7 rlf, oAJ (rlf 0) cJ 8 f217, oAJ (rlf 1) cJ 8 f218, oAJ (rlf 2) cJ 8 f219, oAJ (rlf 3) cJ 8 f220, oAJ (rlf 4) cJ 8 f221, oAJ (rlf 5) cJ 8 f222, oAJ (rlf 6) cJ 8 f223, oX3 pl pna pta rails limit retry behind, oAI pna cI 64 pn_5] H → va_D A [oX4 rd tp rfa rya rla pl place kind from_ value told depth fault fplace, oAM rla cH 7 rlf, oAJ (rlf 0) cJ 8 f217, oAJ (rlf 1) cJ 8 f218, oAJ (rlf 2) cJ 8 f219, oAJ (rlf 3) cJ 8 f220, oAJ (rlf 4) cJ 8 f221, oAJ (rlf 5) cJ 8 f222, oAJ (rlf 6) cJ 8 f223, oX3 pl pna pta rails limit retry behind, oAI pna cI 64 pn_5] → va_S A s.heap H locs → ∀ (ls : Array Slot), lv_has ls 4 [(3, .int x216), (0, .ref rd), (1, .int a0), (2, .int a1)] → W p l e rm_joinPart s m [Value.ref rd, Value.int a0, Value.int a1].toArray below meth c H locs 0 0 (MQ below ((Q_joinPart D cI cJ cZ cG cH rd a0 a1 tp rfa rya rla pl place kind from_ value told depth fault fplace rlf rl0 rl1 rl2 rl3 rl4 rl5 rl6 pna pta rails limit retry behind pn adK adV tI) A) [Value.ref rd, Value.int a0, Value.int a1].toArray s 0 0 A) (F0 m 26 ls []) := by
    intro nhl224
    induction nhl224 with
    | zero =>
      intro x216 f217 f218 f219 f220 f221 f222 f223 hmhl224
      exact absurd hmhl224 (Nat.not_lt_zero _)
    | succ nhl224 ihhl224 =>
      intro x216 f217 f218 f219 f220 f221 f222 f223 hmhl224 hx216 hM H locs hP hD hS ls hl
      have hM : M_joinPart a1 depth rl0 rl1 rl2 rl3 rl4 rl5 rl6 pn a0 = (K_joinPart_4 x216 f217 f218 f219 f220 f221 f222 f223 pn_5 a1 depth (K_joinPart_L4 pn_5 a1 depth nhl224)) := hM
      refine lv_iload_n hx hb dX4_joinPart_26 rfl (lv_at hl 0 rfl) ?_
      refine lv_bipush (v := 8) hx hb dX4_joinPart_27 (by decide) ?_
      refine lv_icmp_ge (tgt := 93) hx hb dX4_joinPart_29 (by decide) (fun c_225 => ?_) (fun c_225 => ?_)
      · skip
        have i_225 : 8 ≤ x216.toInt := (ile (by decide) rfl).mp c_225
        have hM : M_joinPart a1 depth rl0 rl1 rl2 rl3 rl4 rl5 rl6 pn a0 = (K_joinPart_5 f217 f218 f219 f220 f221 f222 f223 pn_5) := (show M_joinPart a1 depth rl0 rl1 rl2 rl3 rl4 rl5 rl6 pn a0 = (if 8 ≤ x216.toInt then (K_joinPart_5 f217 f218 f219 f220 f221 f222 f223 pn_5) else (K_joinPart_6 a1 x216 depth (K_joinPart_L4 pn_5 a1 depth nhl224) f217 f218 f219 f220 f221 f222 f223)) from hM).trans (if_pos i_225)
        refine W.widen (k := 0) (n := 0) (by decide) (by decide) ?_
        exact W.vret hx hb hr (fun t ht hW => ⟨⟨(), rfl, trivial, ⟨f217, f218, f219, f220, f221, f222, f223, pn_5, (xwk_rng hf5_0 (by decide) (by decide)), hM, xB_of9 ht hW hP hK hD [0, 1, 2, 3, 4, 5, 6, 7, 8, 9, 10] (by decide +kernel) rfl⟩⟩, hS.F ht⟩) hS.2.2 dX4_joinPart_93
      · skip
        have i_225 : ¬ (8 ≤ x216.toInt) := fun h9 => c_225 ((ile (by decide) rfl).mpr h9)
        have hM : M_joinPart a1 depth rl0 rl1 rl2 rl3 rl4 rl5 rl6 pn a0 = (K_joinPart_6 a1 x216 depth (K_joinPart_L4 pn_5 a1 depth nhl224) f217 f218 f219 f220 f221 f222 f223) := (show M_joinPart a1 depth rl0 rl1 rl2 rl3 rl4 rl5 rl6 pn a0 = (if 8 ≤ x216.toInt then (K_joinPart_5 f217 f218 f219 f220 f221 f222 f223 pn_5) else (K_joinPart_6 a1 x216 depth (K_joinPart_L4 pn_5 a1 depth nhl224) f217 f218 f219 f220 f221 f222 f223)) from hM).trans (if_neg i_225)
        refine lv_iload_n hx hb dX4_joinPart_32 rfl (lv_at hl 3 rfl) ?_
        refine va_gets (v := .ref tI) hx hb hE.Z hS hown (hts (.fieldLink RX4 208 "PowerRails$Reader" "IN_WORD" "[J") (tbC _ wd370)) (fun _ h9 => h9) dX4_joinPart_33 ?_
        refine va_tlen (v := 6) hx hb hE.T hS (by decide) dX4_joinPart_36 ?_
        refine lv_icmp_ge (tgt := 62) hx hb dX4_joinPart_37 (by decide) (fun c_226 => ?_) (fun c_226 => ?_)
        · skip
          have i_226 : 6 ≤ a1.toInt := (ile (by decide) rfl).mp c_226
          have hM : M_joinPart a1 depth rl0 rl1 rl2 rl3 rl4 rl5 rl6 pn a0 = (K_joinPart_7 x216 a1 depth (K_joinPart_L4 pn_5 a1 depth nhl224) f217 f218 f219 f220 f221 f222 f223) := (show M_joinPart a1 depth rl0 rl1 rl2 rl3 rl4 rl5 rl6 pn a0 = (if 6 ≤ a1.toInt then (K_joinPart_7 x216 a1 depth (K_joinPart_L4 pn_5 a1 depth nhl224) f217 f218 f219 f220 f221 f222 f223) else (K_joinPart_8 depth (K_joinPart_L4 pn_5 a1 depth nhl224) x216 f217 a1 f218 f219 f220 f221 f222 f223)) from hM).trans (if_pos i_226)
          refine lv_iload_n hx hb dX4_joinPart_62 rfl (lv_at hl 0 rfl) ?_
          refine lv_iload_n hx hb dX4_joinPart_63 rfl (lv_at hl 3 rfl) ?_
          refine va_gets (v := .ref tI) hx hb hE.Z hS hown (hts (.fieldLink RX4 208 "PowerRails$Reader" "IN_WORD" "[J") (tbC _ wd370)) (fun _ h9 => h9) dX4_joinPart_64 ?_
          refine va_tlen (v := 6) hx hb hE.T hS (by decide) dX4_joinPart_67 ?_
          refine lv_isub hx hb dX4_joinPart_68 ?_
          refine lv_topi (fun v227 ev227 => ?_)
          have tv227 : v227.toInt = (a1.toInt - 6) := (congrArg Int32.toInt ev227).trans (xsub rfl (by decide) (by omega) (by omega))
          refine lv_ishr hx hb dX4_joinPart_69 ?_
          refine lv_topi (fun v228 ev228 => ?_)
          refine lv_iconst (v := 1) hx hb dX4_joinPart_70 (by decide) ?_
          refine lv_iand hx hb dX4_joinPart_71 ?_
          refine lv_topi (fun v229 ev229 => ?_)
          have rv229 : 0 ≤ v229.toInt ∧ v229.toInt ≤ 1 := xandL ev229 (show (1 : Int32).toInt = 1 from (by decide)) (by omega)
          refine lv_if_ne (tgt := 87) hx hb dX4_joinPart_72 (by decide) (fun c_230 => ?_) (fun c_230 => ?_)
          · skip
            have i_230 : ¬ (v229.toInt = 0) := fun h9 => c_230 ((ieq rfl (by decide)).mpr h9)
            have hM : M_joinPart a1 depth rl0 rl1 rl2 rl3 rl4 rl5 rl6 pn a0 = (K_joinPart_9 (K_joinPart_L4 pn_5 a1 depth nhl224) x216 f217 f218 f219 f220 f221 f222 f223) := (show M_joinPart a1 depth rl0 rl1 rl2 rl3 rl4 rl5 rl6 pn a0 = (if v229.toInt = 0 then (K_joinPart_10 depth (K_joinPart_L4 pn_5 a1 depth nhl224) x216 f217 f218 f219 f220 f221 f222 f223) else (K_joinPart_9 (K_joinPart_L4 pn_5 a1 depth nhl224) x216 f217 f218 f219 f220 f221 f222 f223)) from (by rw [ev229, ev228, ev227]; exact hM)).trans (if_neg i_230)
            obtain ⟨x231, ex231⟩ : ∃ y : Int32, y = x216 + 1 := ⟨_, rfl⟩
            have tx231 : x231.toInt = (x216.toInt + 1) := (congrArg Int32.toInt ex231).trans (xadd rfl (by decide) (by omega) (by omega))
            refine lv_iinc (v := x231) (lv' := [(3, .int x231), (0, .ref rd), (1, .int a0), (2, .int a1)]) hx hb dX4_joinPart_87 hl (k := 0) rfl (by rw [ex231]; rfl) (by decide) rfl (fun ls hl => ?_)
            refine lv_goto (tgt := 26) hx hb dX4_joinPart_90 (by decide) ?_
            exact ihhl224 x231 f217 f218 f219 f220 f221 f222 f223 (by omega) (xrng tx231 (by omega) (by omega)) (by rw [ex231]; exact hM) _ _ hP hD hS ls (lv_sub hl [0, 1, 2, 3] rfl)
          · skip
            have i_230 : v229.toInt = 0 := (ieq rfl (by decide)).mp c_230
            have hM : M_joinPart a1 depth rl0 rl1 rl2 rl3 rl4 rl5 rl6 pn a0 = (K_joinPart_10 depth (K_joinPart_L4 pn_5 a1 depth nhl224) x216 f217 f218 f219 f220 f221 f222 f223) := (show M_joinPart a1 depth rl0 rl1 rl2 rl3 rl4 rl5 rl6 pn a0 = (if v229.toInt = 0 then (K_joinPart_10 depth (K_joinPart_L4 pn_5 a1 depth nhl224) x216 f217 f218 f219 f220 f221 f222 f223) else (K_joinPart_9 (K_joinPart_L4 pn_5 a1 depth nhl224) x216 f217 f218 f219 f220 f221 f222 f223)) from (by rw [ev229, ev228, ev227]; exact hM)).trans (if_pos i_230)
            refine lv_aload_n hx hb dX4_joinPart_75 rfl (lv_at hl 1 rfl) ?_
            refine va_get (D := D) (ci := 3) (v := .ref rla) (C := RX4) (T := TX4) (N := 13) hx hb hts (fun w h => tbC w (tbfX4 w h)) hown hK hP 0 rfl rfl 3 (by decide) (hts (.fieldLink RX4 30 "PowerRails$Reader" "all" "[[J") (tbC _ wd235)) (fun _ h9 => h9) rfl dX4_joinPart_76 ?_
            refine lv_aload_n hx hb dX4_joinPart_79 rfl (lv_at hl 1 rfl) ?_
            refine va_get (D := D) (ci := 3) (v := .int depth) (C := RX4) (T := TX4) (N := 13) hx hb hts (fun w h => tbC w (tbfX4 w h)) hown hK hP 0 rfl rfl 10 (by decide) (hts (.fieldLink RX4 176 "PowerRails$Reader" "depth" "I") (tbC _ wd242)) (fun _ h9 => h9) rfl dX4_joinPart_80 ?_
            by_cases h232 : depth.toInt = 0
            · skip
              have hM : M_joinPart a1 depth rl0 rl1 rl2 rl3 rl4 rl5 rl6 pn a0 = (K_joinPart_11 (K_joinPart_L4 pn_5 a1 depth nhl224) x216 f217 f218 f219 f220 f221 f222 f223) := (show M_joinPart a1 depth rl0 rl1 rl2 rl3 rl4 rl5 rl6 pn a0 = (if depth.toInt = 0 then (K_joinPart_11 (K_joinPart_L4 pn_5 a1 depth nhl224) x216 f217 f218 f219 f220 f221 f222 f223) else (K_joinPart_12 depth (K_joinPart_L4 pn_5 a1 depth nhl224) x216 f217 f218 f219 f220 f221 f222 f223)) from hM).trans (if_pos h232)
              refine xaldA hx hb hK hP 1 4 rfl rfl (vp_in_iff.mpr ⟨by omega, by omega⟩) dX4_joinPart_83 (v := .ref (rlf 0)) (by rw [xclamp (j := 0) (rfl.trans h232)]; rfl) ?_
              refine lv_iload_n hx hb dX4_joinPart_84 rfl (lv_at hl 0 rfl) ?_
              refine lv_lconst (v := 0) hx hb dX4_joinPart_85 (by decide) ?_
              refine va_last hx hb hK hP hD hS 2 1 rfl rfl (vp_in_iff.mpr ⟨by omega, by omega⟩) dX4_joinPart_86 (fun H locs hP hD hS => ?_)
              obtain ⟨f233, ef233⟩ : ∃ fz9 : Nat → Int64, fz9 = vp_updL f217 (x216 : Int32).toNatClampNeg 0 := ⟨_, rfl⟩
              have hP : va_P D vwCl [oX4 rd tp rfa rya rla pl place kind from_ value told depth fault fplace, oAM rla cH 7 rlf, oAJ (rlf 0) cJ 8 f233, oAJ (rlf 1) cJ 8 f218, oAJ (rlf 2) cJ 8 f219, oAJ (rlf 3) cJ 8 f220, oAJ (rlf 4) cJ 8 f221, oAJ (rlf 5) cJ 8 f222, oAJ (rlf 6) cJ 8 f223, oX3 pl pna pta rails limit retry behind, oAI pna cI 64 pn_5] H := by rw [ef233]; exact hP
              have hD : va_D A [oX4 rd tp rfa rya rla pl place kind from_ value told depth fault fplace, oAM rla cH 7 rlf, oAJ (rlf 0) cJ 8 f233, oAJ (rlf 1) cJ 8 f218, oAJ (rlf 2) cJ 8 f219, oAJ (rlf 3) cJ 8 f220, oAJ (rlf 4) cJ 8 f221, oAJ (rlf 5) cJ 8 f222, oAJ (rlf 6) cJ 8 f223, oX3 pl pna pta rails limit retry behind, oAI pna cI 64 pn_5] := by rw [ef233]; exact hD
              obtain ⟨x234, ex234⟩ : ∃ y : Int32, y = x216 + 1 := ⟨_, rfl⟩
              have tx234 : x234.toInt = (x216.toInt + 1) := (congrArg Int32.toInt ex234).trans (xadd rfl (by decide) (by omega) (by omega))
              refine lv_iinc (v := x234) (lv' := [(3, .int x234), (0, .ref rd), (1, .int a0), (2, .int a1)]) hx hb dX4_joinPart_87 hl (k := 0) rfl (by rw [ex234]; rfl) (by decide) rfl (fun ls hl => ?_)
              refine lv_goto (tgt := 26) hx hb dX4_joinPart_90 (by decide) ?_
              exact ihhl224 x234 f233 f218 f219 f220 f221 f222 f223 (by omega) (xrng tx234 (by omega) (by omega)) (by rw [ex234, ef233]; exact hM) _ _ hP hD hS ls (lv_sub hl [0, 1, 2, 3] rfl)
            have hM : M_joinPart a1 depth rl0 rl1 rl2 rl3 rl4 rl5 rl6 pn a0 = (K_joinPart_12 depth (K_joinPart_L4 pn_5 a1 depth nhl224) x216 f217 f218 f219 f220 f221 f222 f223) := (show M_joinPart a1 depth rl0 rl1 rl2 rl3 rl4 rl5 rl6 pn a0 = (if depth.toInt = 0 then (K_joinPart_11 (K_joinPart_L4 pn_5 a1 depth nhl224) x216 f217 f218 f219 f220 f221 f222 f223) else (K_joinPart_12 depth (K_joinPart_L4 pn_5 a1 depth nhl224) x216 f217 f218 f219 f220 f221 f222 f223)) from hM).trans (if_neg h232)
            by_cases h235 : depth.toInt = 1
            · skip
              have hM : M_joinPart a1 depth rl0 rl1 rl2 rl3 rl4 rl5 rl6 pn a0 = (K_joinPart_13 (K_joinPart_L4 pn_5 a1 depth nhl224) x216 f217 f218 f219 f220 f221 f222 f223) := (show M_joinPart a1 depth rl0 rl1 rl2 rl3 rl4 rl5 rl6 pn a0 = (if depth.toInt = 1 then (K_joinPart_13 (K_joinPart_L4 pn_5 a1 depth nhl224) x216 f217 f218 f219 f220 f221 f222 f223) else (K_joinPart_14 depth (K_joinPart_L4 pn_5 a1 depth nhl224) x216 f217 f218 f219 f220 f221 f222 f223)) from hM).trans (if_pos h235)
              refine xaldA hx hb hK hP 1 4 rfl rfl (vp_in_iff.mpr ⟨by omega, by omega⟩) dX4_joinPart_83 (v := .ref (rlf 1)) (by rw [xclamp (j := 1) (rfl.trans h235)]; rfl) ?_
              refine lv_iload_n hx hb dX4_joinPart_84 rfl (lv_at hl 0 rfl) ?_
              refine lv_lconst (v := 0) hx hb dX4_joinPart_85 (by decide) ?_
              refine va_last hx hb hK hP hD hS 3 1 rfl rfl (vp_in_iff.mpr ⟨by omega, by omega⟩) dX4_joinPart_86 (fun H locs hP hD hS => ?_)
              obtain ⟨f236, ef236⟩ : ∃ fz9 : Nat → Int64, fz9 = vp_updL f218 (x216 : Int32).toNatClampNeg 0 := ⟨_, rfl⟩
              have hP : va_P D vwCl [oX4 rd tp rfa rya rla pl place kind from_ value told depth fault fplace, oAM rla cH 7 rlf, oAJ (rlf 0) cJ 8 f217, oAJ (rlf 1) cJ 8 f236, oAJ (rlf 2) cJ 8 f219, oAJ (rlf 3) cJ 8 f220, oAJ (rlf 4) cJ 8 f221, oAJ (rlf 5) cJ 8 f222, oAJ (rlf 6) cJ 8 f223, oX3 pl pna pta rails limit retry behind, oAI pna cI 64 pn_5] H := by rw [ef236]; exact hP
              have hD : va_D A [oX4 rd tp rfa rya rla pl place kind from_ value told depth fault fplace, oAM rla cH 7 rlf, oAJ (rlf 0) cJ 8 f217, oAJ (rlf 1) cJ 8 f236, oAJ (rlf 2) cJ 8 f219, oAJ (rlf 3) cJ 8 f220, oAJ (rlf 4) cJ 8 f221, oAJ (rlf 5) cJ 8 f222, oAJ (rlf 6) cJ 8 f223, oX3 pl pna pta rails limit retry behind, oAI pna cI 64 pn_5] := by rw [ef236]; exact hD
              obtain ⟨x237, ex237⟩ : ∃ y : Int32, y = x216 + 1 := ⟨_, rfl⟩
              have tx237 : x237.toInt = (x216.toInt + 1) := (congrArg Int32.toInt ex237).trans (xadd rfl (by decide) (by omega) (by omega))
              refine lv_iinc (v := x237) (lv' := [(3, .int x237), (0, .ref rd), (1, .int a0), (2, .int a1)]) hx hb dX4_joinPart_87 hl (k := 0) rfl (by rw [ex237]; rfl) (by decide) rfl (fun ls hl => ?_)
              refine lv_goto (tgt := 26) hx hb dX4_joinPart_90 (by decide) ?_
              exact ihhl224 x237 f217 f236 f219 f220 f221 f222 f223 (by omega) (xrng tx237 (by omega) (by omega)) (by rw [ex237, ef236]; exact hM) _ _ hP hD hS ls (lv_sub hl [0, 1, 2, 3] rfl)
            have hM : M_joinPart a1 depth rl0 rl1 rl2 rl3 rl4 rl5 rl6 pn a0 = (K_joinPart_14 depth (K_joinPart_L4 pn_5 a1 depth nhl224) x216 f217 f218 f219 f220 f221 f222 f223) := (show M_joinPart a1 depth rl0 rl1 rl2 rl3 rl4 rl5 rl6 pn a0 = (if depth.toInt = 1 then (K_joinPart_13 (K_joinPart_L4 pn_5 a1 depth nhl224) x216 f217 f218 f219 f220 f221 f222 f223) else (K_joinPart_14 depth (K_joinPart_L4 pn_5 a1 depth nhl224) x216 f217 f218 f219 f220 f221 f222 f223)) from hM).trans (if_neg h235)
            by_cases h238 : depth.toInt = 2
            · skip
              have hM : M_joinPart a1 depth rl0 rl1 rl2 rl3 rl4 rl5 rl6 pn a0 = (K_joinPart_15 (K_joinPart_L4 pn_5 a1 depth nhl224) x216 f217 f218 f219 f220 f221 f222 f223) := (show M_joinPart a1 depth rl0 rl1 rl2 rl3 rl4 rl5 rl6 pn a0 = (if depth.toInt = 2 then (K_joinPart_15 (K_joinPart_L4 pn_5 a1 depth nhl224) x216 f217 f218 f219 f220 f221 f222 f223) else (K_joinPart_16 depth (K_joinPart_L4 pn_5 a1 depth nhl224) x216 f217 f218 f219 f220 f221 f222 f223)) from hM).trans (if_pos h238)
              refine xaldA hx hb hK hP 1 4 rfl rfl (vp_in_iff.mpr ⟨by omega, by omega⟩) dX4_joinPart_83 (v := .ref (rlf 2)) (by rw [xclamp (j := 2) (rfl.trans h238)]; rfl) ?_
              refine lv_iload_n hx hb dX4_joinPart_84 rfl (lv_at hl 0 rfl) ?_
              refine lv_lconst (v := 0) hx hb dX4_joinPart_85 (by decide) ?_
              refine va_last hx hb hK hP hD hS 4 1 rfl rfl (vp_in_iff.mpr ⟨by omega, by omega⟩) dX4_joinPart_86 (fun H locs hP hD hS => ?_)
              obtain ⟨f239, ef239⟩ : ∃ fz9 : Nat → Int64, fz9 = vp_updL f219 (x216 : Int32).toNatClampNeg 0 := ⟨_, rfl⟩
              have hP : va_P D vwCl [oX4 rd tp rfa rya rla pl place kind from_ value told depth fault fplace, oAM rla cH 7 rlf, oAJ (rlf 0) cJ 8 f217, oAJ (rlf 1) cJ 8 f218, oAJ (rlf 2) cJ 8 f239, oAJ (rlf 3) cJ 8 f220, oAJ (rlf 4) cJ 8 f221, oAJ (rlf 5) cJ 8 f222, oAJ (rlf 6) cJ 8 f223, oX3 pl pna pta rails limit retry behind, oAI pna cI 64 pn_5] H := by rw [ef239]; exact hP
              have hD : va_D A [oX4 rd tp rfa rya rla pl place kind from_ value told depth fault fplace, oAM rla cH 7 rlf, oAJ (rlf 0) cJ 8 f217, oAJ (rlf 1) cJ 8 f218, oAJ (rlf 2) cJ 8 f239, oAJ (rlf 3) cJ 8 f220, oAJ (rlf 4) cJ 8 f221, oAJ (rlf 5) cJ 8 f222, oAJ (rlf 6) cJ 8 f223, oX3 pl pna pta rails limit retry behind, oAI pna cI 64 pn_5] := by rw [ef239]; exact hD
              obtain ⟨x240, ex240⟩ : ∃ y : Int32, y = x216 + 1 := ⟨_, rfl⟩
              have tx240 : x240.toInt = (x216.toInt + 1) := (congrArg Int32.toInt ex240).trans (xadd rfl (by decide) (by omega) (by omega))
              refine lv_iinc (v := x240) (lv' := [(3, .int x240), (0, .ref rd), (1, .int a0), (2, .int a1)]) hx hb dX4_joinPart_87 hl (k := 0) rfl (by rw [ex240]; rfl) (by decide) rfl (fun ls hl => ?_)
              refine lv_goto (tgt := 26) hx hb dX4_joinPart_90 (by decide) ?_
              exact ihhl224 x240 f217 f218 f239 f220 f221 f222 f223 (by omega) (xrng tx240 (by omega) (by omega)) (by rw [ex240, ef239]; exact hM) _ _ hP hD hS ls (lv_sub hl [0, 1, 2, 3] rfl)
            have hM : M_joinPart a1 depth rl0 rl1 rl2 rl3 rl4 rl5 rl6 pn a0 = (K_joinPart_16 depth (K_joinPart_L4 pn_5 a1 depth nhl224) x216 f217 f218 f219 f220 f221 f222 f223) := (show M_joinPart a1 depth rl0 rl1 rl2 rl3 rl4 rl5 rl6 pn a0 = (if depth.toInt = 2 then (K_joinPart_15 (K_joinPart_L4 pn_5 a1 depth nhl224) x216 f217 f218 f219 f220 f221 f222 f223) else (K_joinPart_16 depth (K_joinPart_L4 pn_5 a1 depth nhl224) x216 f217 f218 f219 f220 f221 f222 f223)) from hM).trans (if_neg h238)
            by_cases h241 : depth.toInt = 3
            · skip
              have hM : M_joinPart a1 depth rl0 rl1 rl2 rl3 rl4 rl5 rl6 pn a0 = (K_joinPart_17 (K_joinPart_L4 pn_5 a1 depth nhl224) x216 f217 f218 f219 f220 f221 f222 f223) := (show M_joinPart a1 depth rl0 rl1 rl2 rl3 rl4 rl5 rl6 pn a0 = (if depth.toInt = 3 then (K_joinPart_17 (K_joinPart_L4 pn_5 a1 depth nhl224) x216 f217 f218 f219 f220 f221 f222 f223) else (K_joinPart_18 depth (K_joinPart_L4 pn_5 a1 depth nhl224) x216 f217 f218 f219 f220 f221 f222 f223)) from hM).trans (if_pos h241)
              refine xaldA hx hb hK hP 1 4 rfl rfl (vp_in_iff.mpr ⟨by omega, by omega⟩) dX4_joinPart_83 (v := .ref (rlf 3)) (by rw [xclamp (j := 3) (rfl.trans h241)]; rfl) ?_
              refine lv_iload_n hx hb dX4_joinPart_84 rfl (lv_at hl 0 rfl) ?_
              refine lv_lconst (v := 0) hx hb dX4_joinPart_85 (by decide) ?_
              refine va_last hx hb hK hP hD hS 5 1 rfl rfl (vp_in_iff.mpr ⟨by omega, by omega⟩) dX4_joinPart_86 (fun H locs hP hD hS => ?_)
              obtain ⟨f242, ef242⟩ : ∃ fz9 : Nat → Int64, fz9 = vp_updL f220 (x216 : Int32).toNatClampNeg 0 := ⟨_, rfl⟩
              have hP : va_P D vwCl [oX4 rd tp rfa rya rla pl place kind from_ value told depth fault fplace, oAM rla cH 7 rlf, oAJ (rlf 0) cJ 8 f217, oAJ (rlf 1) cJ 8 f218, oAJ (rlf 2) cJ 8 f219, oAJ (rlf 3) cJ 8 f242, oAJ (rlf 4) cJ 8 f221, oAJ (rlf 5) cJ 8 f222, oAJ (rlf 6) cJ 8 f223, oX3 pl pna pta rails limit retry behind, oAI pna cI 64 pn_5] H := by rw [ef242]; exact hP
              have hD : va_D A [oX4 rd tp rfa rya rla pl place kind from_ value told depth fault fplace, oAM rla cH 7 rlf, oAJ (rlf 0) cJ 8 f217, oAJ (rlf 1) cJ 8 f218, oAJ (rlf 2) cJ 8 f219, oAJ (rlf 3) cJ 8 f242, oAJ (rlf 4) cJ 8 f221, oAJ (rlf 5) cJ 8 f222, oAJ (rlf 6) cJ 8 f223, oX3 pl pna pta rails limit retry behind, oAI pna cI 64 pn_5] := by rw [ef242]; exact hD
              obtain ⟨x243, ex243⟩ : ∃ y : Int32, y = x216 + 1 := ⟨_, rfl⟩
              have tx243 : x243.toInt = (x216.toInt + 1) := (congrArg Int32.toInt ex243).trans (xadd rfl (by decide) (by omega) (by omega))
              refine lv_iinc (v := x243) (lv' := [(3, .int x243), (0, .ref rd), (1, .int a0), (2, .int a1)]) hx hb dX4_joinPart_87 hl (k := 0) rfl (by rw [ex243]; rfl) (by decide) rfl (fun ls hl => ?_)
              refine lv_goto (tgt := 26) hx hb dX4_joinPart_90 (by decide) ?_
              exact ihhl224 x243 f217 f218 f219 f242 f221 f222 f223 (by omega) (xrng tx243 (by omega) (by omega)) (by rw [ex243, ef242]; exact hM) _ _ hP hD hS ls (lv_sub hl [0, 1, 2, 3] rfl)
            have hM : M_joinPart a1 depth rl0 rl1 rl2 rl3 rl4 rl5 rl6 pn a0 = (K_joinPart_18 depth (K_joinPart_L4 pn_5 a1 depth nhl224) x216 f217 f218 f219 f220 f221 f222 f223) := (show M_joinPart a1 depth rl0 rl1 rl2 rl3 rl4 rl5 rl6 pn a0 = (if depth.toInt = 3 then (K_joinPart_17 (K_joinPart_L4 pn_5 a1 depth nhl224) x216 f217 f218 f219 f220 f221 f222 f223) else (K_joinPart_18 depth (K_joinPart_L4 pn_5 a1 depth nhl224) x216 f217 f218 f219 f220 f221 f222 f223)) from hM).trans (if_neg h241)
            by_cases h244 : depth.toInt = 4
            · skip
              have hM : M_joinPart a1 depth rl0 rl1 rl2 rl3 rl4 rl5 rl6 pn a0 = (K_joinPart_19 (K_joinPart_L4 pn_5 a1 depth nhl224) x216 f217 f218 f219 f220 f221 f222 f223) := (show M_joinPart a1 depth rl0 rl1 rl2 rl3 rl4 rl5 rl6 pn a0 = (if depth.toInt = 4 then (K_joinPart_19 (K_joinPart_L4 pn_5 a1 depth nhl224) x216 f217 f218 f219 f220 f221 f222 f223) else (K_joinPart_20 depth (K_joinPart_L4 pn_5 a1 depth nhl224) x216 f217 f218 f219 f220 f221 f222 f223)) from hM).trans (if_pos h244)
              refine xaldA hx hb hK hP 1 4 rfl rfl (vp_in_iff.mpr ⟨by omega, by omega⟩) dX4_joinPart_83 (v := .ref (rlf 4)) (by rw [xclamp (j := 4) (rfl.trans h244)]; rfl) ?_
              refine lv_iload_n hx hb dX4_joinPart_84 rfl (lv_at hl 0 rfl) ?_
              refine lv_lconst (v := 0) hx hb dX4_joinPart_85 (by decide) ?_
              refine va_last hx hb hK hP hD hS 6 1 rfl rfl (vp_in_iff.mpr ⟨by omega, by omega⟩) dX4_joinPart_86 (fun H locs hP hD hS => ?_)
              obtain ⟨f245, ef245⟩ : ∃ fz9 : Nat → Int64, fz9 = vp_updL f221 (x216 : Int32).toNatClampNeg 0 := ⟨_, rfl⟩
              have hP : va_P D vwCl [oX4 rd tp rfa rya rla pl place kind from_ value told depth fault fplace, oAM rla cH 7 rlf, oAJ (rlf 0) cJ 8 f217, oAJ (rlf 1) cJ 8 f218, oAJ (rlf 2) cJ 8 f219, oAJ (rlf 3) cJ 8 f220, oAJ (rlf 4) cJ 8 f245, oAJ (rlf 5) cJ 8 f222, oAJ (rlf 6) cJ 8 f223, oX3 pl pna pta rails limit retry behind, oAI pna cI 64 pn_5] H := by rw [ef245]; exact hP
              have hD : va_D A [oX4 rd tp rfa rya rla pl place kind from_ value told depth fault fplace, oAM rla cH 7 rlf, oAJ (rlf 0) cJ 8 f217, oAJ (rlf 1) cJ 8 f218, oAJ (rlf 2) cJ 8 f219, oAJ (rlf 3) cJ 8 f220, oAJ (rlf 4) cJ 8 f245, oAJ (rlf 5) cJ 8 f222, oAJ (rlf 6) cJ 8 f223, oX3 pl pna pta rails limit retry behind, oAI pna cI 64 pn_5] := by rw [ef245]; exact hD
              obtain ⟨x246, ex246⟩ : ∃ y : Int32, y = x216 + 1 := ⟨_, rfl⟩
              have tx246 : x246.toInt = (x216.toInt + 1) := (congrArg Int32.toInt ex246).trans (xadd rfl (by decide) (by omega) (by omega))
              refine lv_iinc (v := x246) (lv' := [(3, .int x246), (0, .ref rd), (1, .int a0), (2, .int a1)]) hx hb dX4_joinPart_87 hl (k := 0) rfl (by rw [ex246]; rfl) (by decide) rfl (fun ls hl => ?_)
              refine lv_goto (tgt := 26) hx hb dX4_joinPart_90 (by decide) ?_
              exact ihhl224 x246 f217 f218 f219 f220 f245 f222 f223 (by omega) (xrng tx246 (by omega) (by omega)) (by rw [ex246, ef245]; exact hM) _ _ hP hD hS ls (lv_sub hl [0, 1, 2, 3] rfl)
            have hM : M_joinPart a1 depth rl0 rl1 rl2 rl3 rl4 rl5 rl6 pn a0 = (K_joinPart_20 depth (K_joinPart_L4 pn_5 a1 depth nhl224) x216 f217 f218 f219 f220 f221 f222 f223) := (show M_joinPart a1 depth rl0 rl1 rl2 rl3 rl4 rl5 rl6 pn a0 = (if depth.toInt = 4 then (K_joinPart_19 (K_joinPart_L4 pn_5 a1 depth nhl224) x216 f217 f218 f219 f220 f221 f222 f223) else (K_joinPart_20 depth (K_joinPart_L4 pn_5 a1 depth nhl224) x216 f217 f218 f219 f220 f221 f222 f223)) from hM).trans (if_neg h244)
            by_cases h247 : depth.toInt = 5
            · skip
              have hM : M_joinPart a1 depth rl0 rl1 rl2 rl3 rl4 rl5 rl6 pn a0 = (K_joinPart_21 (K_joinPart_L4 pn_5 a1 depth nhl224) x216 f217 f218 f219 f220 f221 f222 f223) := (show M_joinPart a1 depth rl0 rl1 rl2 rl3 rl4 rl5 rl6 pn a0 = (if depth.toInt = 5 then (K_joinPart_21 (K_joinPart_L4 pn_5 a1 depth nhl224) x216 f217 f218 f219 f220 f221 f222 f223) else (K_joinPart_22 (K_joinPart_L4 pn_5 a1 depth nhl224) x216 f217 f218 f219 f220 f221 f222 f223)) from hM).trans (if_pos h247)
              refine xaldA hx hb hK hP 1 4 rfl rfl (vp_in_iff.mpr ⟨by omega, by omega⟩) dX4_joinPart_83 (v := .ref (rlf 5)) (by rw [xclamp (j := 5) (rfl.trans h247)]; rfl) ?_
              refine lv_iload_n hx hb dX4_joinPart_84 rfl (lv_at hl 0 rfl) ?_
              refine lv_lconst (v := 0) hx hb dX4_joinPart_85 (by decide) ?_
              refine va_last hx hb hK hP hD hS 7 1 rfl rfl (vp_in_iff.mpr ⟨by omega, by omega⟩) dX4_joinPart_86 (fun H locs hP hD hS => ?_)
              obtain ⟨f248, ef248⟩ : ∃ fz9 : Nat → Int64, fz9 = vp_updL f222 (x216 : Int32).toNatClampNeg 0 := ⟨_, rfl⟩
              have hP : va_P D vwCl [oX4 rd tp rfa rya rla pl place kind from_ value told depth fault fplace, oAM rla cH 7 rlf, oAJ (rlf 0) cJ 8 f217, oAJ (rlf 1) cJ 8 f218, oAJ (rlf 2) cJ 8 f219, oAJ (rlf 3) cJ 8 f220, oAJ (rlf 4) cJ 8 f221, oAJ (rlf 5) cJ 8 f248, oAJ (rlf 6) cJ 8 f223, oX3 pl pna pta rails limit retry behind, oAI pna cI 64 pn_5] H := by rw [ef248]; exact hP
              have hD : va_D A [oX4 rd tp rfa rya rla pl place kind from_ value told depth fault fplace, oAM rla cH 7 rlf, oAJ (rlf 0) cJ 8 f217, oAJ (rlf 1) cJ 8 f218, oAJ (rlf 2) cJ 8 f219, oAJ (rlf 3) cJ 8 f220, oAJ (rlf 4) cJ 8 f221, oAJ (rlf 5) cJ 8 f248, oAJ (rlf 6) cJ 8 f223, oX3 pl pna pta rails limit retry behind, oAI pna cI 64 pn_5] := by rw [ef248]; exact hD
              obtain ⟨x249, ex249⟩ : ∃ y : Int32, y = x216 + 1 := ⟨_, rfl⟩
              have tx249 : x249.toInt = (x216.toInt + 1) := (congrArg Int32.toInt ex249).trans (xadd rfl (by decide) (by omega) (by omega))
              refine lv_iinc (v := x249) (lv' := [(3, .int x249), (0, .ref rd), (1, .int a0), (2, .int a1)]) hx hb dX4_joinPart_87 hl (k := 0) rfl (by rw [ex249]; rfl) (by decide) rfl (fun ls hl => ?_)
              refine lv_goto (tgt := 26) hx hb dX4_joinPart_90 (by decide) ?_
              exact ihhl224 x249 f217 f218 f219 f220 f221 f248 f223 (by omega) (xrng tx249 (by omega) (by omega)) (by rw [ex249, ef248]; exact hM) _ _ hP hD hS ls (lv_sub hl [0, 1, 2, 3] rfl)
            have hM : M_joinPart a1 depth rl0 rl1 rl2 rl3 rl4 rl5 rl6 pn a0 = (K_joinPart_22 (K_joinPart_L4 pn_5 a1 depth nhl224) x216 f217 f218 f219 f220 f221 f222 f223) := (show M_joinPart a1 depth rl0 rl1 rl2 rl3 rl4 rl5 rl6 pn a0 = (if depth.toInt = 5 then (K_joinPart_21 (K_joinPart_L4 pn_5 a1 depth nhl224) x216 f217 f218 f219 f220 f221 f222 f223) else (K_joinPart_22 (K_joinPart_L4 pn_5 a1 depth nhl224) x216 f217 f218 f219 f220 f221 f222 f223)) from hM).trans (if_neg h247)
            have h250 : depth.toInt = 6 := by omega
            refine xaldA hx hb hK hP 1 4 rfl rfl (vp_in_iff.mpr ⟨by omega, by omega⟩) dX4_joinPart_83 (v := .ref (rlf 6)) (by rw [xclamp (j := 6) (rfl.trans h250)]; rfl) ?_
            refine lv_iload_n hx hb dX4_joinPart_84 rfl (lv_at hl 0 rfl) ?_
            refine lv_lconst (v := 0) hx hb dX4_joinPart_85 (by decide) ?_
            refine va_last hx hb hK hP hD hS 8 1 rfl rfl (vp_in_iff.mpr ⟨by omega, by omega⟩) dX4_joinPart_86 (fun H locs hP hD hS => ?_)
            obtain ⟨f251, ef251⟩ : ∃ fz9 : Nat → Int64, fz9 = vp_updL f223 (x216 : Int32).toNatClampNeg 0 := ⟨_, rfl⟩
            have hP : va_P D vwCl [oX4 rd tp rfa rya rla pl place kind from_ value told depth fault fplace, oAM rla cH 7 rlf, oAJ (rlf 0) cJ 8 f217, oAJ (rlf 1) cJ 8 f218, oAJ (rlf 2) cJ 8 f219, oAJ (rlf 3) cJ 8 f220, oAJ (rlf 4) cJ 8 f221, oAJ (rlf 5) cJ 8 f222, oAJ (rlf 6) cJ 8 f251, oX3 pl pna pta rails limit retry behind, oAI pna cI 64 pn_5] H := by rw [ef251]; exact hP
            have hD : va_D A [oX4 rd tp rfa rya rla pl place kind from_ value told depth fault fplace, oAM rla cH 7 rlf, oAJ (rlf 0) cJ 8 f217, oAJ (rlf 1) cJ 8 f218, oAJ (rlf 2) cJ 8 f219, oAJ (rlf 3) cJ 8 f220, oAJ (rlf 4) cJ 8 f221, oAJ (rlf 5) cJ 8 f222, oAJ (rlf 6) cJ 8 f251, oX3 pl pna pta rails limit retry behind, oAI pna cI 64 pn_5] := by rw [ef251]; exact hD
            obtain ⟨x252, ex252⟩ : ∃ y : Int32, y = x216 + 1 := ⟨_, rfl⟩
            have tx252 : x252.toInt = (x216.toInt + 1) := (congrArg Int32.toInt ex252).trans (xadd rfl (by decide) (by omega) (by omega))
            refine lv_iinc (v := x252) (lv' := [(3, .int x252), (0, .ref rd), (1, .int a0), (2, .int a1)]) hx hb dX4_joinPart_87 hl (k := 0) rfl (by rw [ex252]; rfl) (by decide) rfl (fun ls hl => ?_)
            refine lv_goto (tgt := 26) hx hb dX4_joinPart_90 (by decide) ?_
            exact ihhl224 x252 f217 f218 f219 f220 f221 f222 f251 (by omega) (xrng tx252 (by omega) (by omega)) (by rw [ex252, ef251]; exact hM) _ _ hP hD hS ls (lv_sub hl [0, 1, 2, 3] rfl)
        · skip
          have i_226 : ¬ (6 ≤ a1.toInt) := fun h9 => c_226 ((ile (by decide) rfl).mpr h9)
          have hM : M_joinPart a1 depth rl0 rl1 rl2 rl3 rl4 rl5 rl6 pn a0 = (K_joinPart_8 depth (K_joinPart_L4 pn_5 a1 depth nhl224) x216 f217 a1 f218 f219 f220 f221 f222 f223) := (show M_joinPart a1 depth rl0 rl1 rl2 rl3 rl4 rl5 rl6 pn a0 = (if 6 ≤ a1.toInt then (K_joinPart_7 x216 a1 depth (K_joinPart_L4 pn_5 a1 depth nhl224) f217 f218 f219 f220 f221 f222 f223) else (K_joinPart_8 depth (K_joinPart_L4 pn_5 a1 depth nhl224) x216 f217 a1 f218 f219 f220 f221 f222 f223)) from hM).trans (if_neg i_226)
          refine lv_aload_n hx hb dX4_joinPart_40 rfl (lv_at hl 1 rfl) ?_
          refine va_get (D := D) (ci := 3) (v := .ref rla) (C := RX4) (T := TX4) (N := 13) hx hb hts (fun w h => tbC w (tbfX4 w h)) hown hK hP 0 rfl rfl 3 (by decide) (hts (.fieldLink RX4 30 "PowerRails$Reader" "all" "[[J") (tbC _ wd235)) (fun _ h9 => h9) rfl dX4_joinPart_41 ?_
          refine lv_aload_n hx hb dX4_joinPart_44 rfl (lv_at hl 1 rfl) ?_
          refine va_get (D := D) (ci := 3) (v := .int depth) (C := RX4) (T := TX4) (N := 13) hx hb hts (fun w h => tbC w (tbfX4 w h)) hown hK hP 0 rfl rfl 10 (by decide) (hts (.fieldLink RX4 176 "PowerRails$Reader" "depth" "I") (tbC _ wd242)) (fun _ h9 => h9) rfl dX4_joinPart_45 ?_
          by_cases h253 : depth.toInt = 0
          · skip
            have hM : M_joinPart a1 depth rl0 rl1 rl2 rl3 rl4 rl5 rl6 pn a0 = (K_joinPart_23 (K_joinPart_L4 pn_5 a1 depth nhl224) x216 f217 a1 f218 f219 f220 f221 f222 f223) := (show M_joinPart a1 depth rl0 rl1 rl2 rl3 rl4 rl5 rl6 pn a0 = (if depth.toInt = 0 then (K_joinPart_23 (K_joinPart_L4 pn_5 a1 depth nhl224) x216 f217 a1 f218 f219 f220 f221 f222 f223) else (K_joinPart_24 depth (K_joinPart_L4 pn_5 a1 depth nhl224) x216 f217 f218 a1 f219 f220 f221 f222 f223)) from hM).trans (if_pos h253)
            refine xaldA hx hb hK hP 1 4 rfl rfl (vp_in_iff.mpr ⟨by omega, by omega⟩) dX4_joinPart_48 (v := .ref (rlf 0)) (by rw [xclamp (j := 0) (rfl.trans h253)]; rfl) ?_
            refine lv_iload_n hx hb dX4_joinPart_49 rfl (lv_at hl 0 rfl) ?_
            refine lv_dup2_11 hx hb dX4_joinPart_50 rfl rfl ?_
            refine va_lald hx hb hK hP 2 1 rfl rfl (vp_in_iff.mpr ⟨by omega, by omega⟩) dX4_joinPart_51 ?_
            refine lv_topl (fun v254 ev254 => ?_)
            refine va_gets (v := .ref tI) hx hb hE.Z hS hown (hts (.fieldLink RX4 208 "PowerRails$Reader" "IN_WORD" "[J") (tbC _ wd370)) (fun _ h9 => h9) dX4_joinPart_52 ?_
            refine lv_iload_n hx hb dX4_joinPart_55 rfl (lv_at hl 3 rfl) ?_
            obtain ⟨v255, ev255⟩ : ∃ z9 : Int64, xinw.getD (a1 : Int32).toNatClampNeg 0 = z9 := ⟨_, rfl⟩
            refine va_tl (v := .long v255) hx hb hE.T hS (vp_in_iff.mpr ⟨by omega, by omega⟩) (congrArg Value.long ev255) dX4_joinPart_56 ?_
            refine lv_land hx hb dX4_joinPart_57 ?_
            refine lv_topl (fun v256 ev256 => ?_)
            refine va_last hx hb hK hP hD hS 2 1 rfl rfl (vp_in_iff.mpr ⟨by omega, by omega⟩) dX4_joinPart_58 (fun H locs hP hD hS => ?_)
            obtain ⟨f257, ef257⟩ : ∃ fz9 : Nat → Int64, fz9 = vp_updL f217 (x216 : Int32).toNatClampNeg v256 := ⟨_, rfl⟩
            have hP : va_P D vwCl [oX4 rd tp rfa rya rla pl place kind from_ value told depth fault fplace, oAM rla cH 7 rlf, oAJ (rlf 0) cJ 8 f257, oAJ (rlf 1) cJ 8 f218, oAJ (rlf 2) cJ 8 f219, oAJ (rlf 3) cJ 8 f220, oAJ (rlf 4) cJ 8 f221, oAJ (rlf 5) cJ 8 f222, oAJ (rlf 6) cJ 8 f223, oX3 pl pna pta rails limit retry behind, oAI pna cI 64 pn_5] H := by rw [ef257]; exact hP
            have hD : va_D A [oX4 rd tp rfa rya rla pl place kind from_ value told depth fault fplace, oAM rla cH 7 rlf, oAJ (rlf 0) cJ 8 f257, oAJ (rlf 1) cJ 8 f218, oAJ (rlf 2) cJ 8 f219, oAJ (rlf 3) cJ 8 f220, oAJ (rlf 4) cJ 8 f221, oAJ (rlf 5) cJ 8 f222, oAJ (rlf 6) cJ 8 f223, oX3 pl pna pta rails limit retry behind, oAI pna cI 64 pn_5] := by rw [ef257]; exact hD
            refine lv_goto (tgt := 87) hx hb dX4_joinPart_59 (by decide) ?_
            obtain ⟨x258, ex258⟩ : ∃ y : Int32, y = x216 + 1 := ⟨_, rfl⟩
            have tx258 : x258.toInt = (x216.toInt + 1) := (congrArg Int32.toInt ex258).trans (xadd rfl (by decide) (by omega) (by omega))
            refine lv_iinc (v := x258) (lv' := [(3, .int x258), (0, .ref rd), (1, .int a0), (2, .int a1)]) hx hb dX4_joinPart_87 hl (k := 0) rfl (by rw [ex258]; rfl) (by decide) rfl (fun ls hl => ?_)
            refine lv_goto (tgt := 26) hx hb dX4_joinPart_90 (by decide) ?_
            exact ihhl224 x258 f257 f218 f219 f220 f221 f222 f223 (by omega) (xrng tx258 (by omega) (by omega)) (by rw [ex258, ef257, ev256, ← ev255, ev254]; exact hM) _ _ hP hD hS ls (lv_sub hl [0, 1, 2, 3] rfl)
          have hM : M_joinPart a1 depth rl0 rl1 rl2 rl3 rl4 rl5 rl6 pn a0 = (K_joinPart_24 depth (K_joinPart_L4 pn_5 a1 depth nhl224) x216 f217 f218 a1 f219 f220 f221 f222 f223) := (show M_joinPart a1 depth rl0 rl1 rl2 rl3 rl4 rl5 rl6 pn a0 = (if depth.toInt = 0 then (K_joinPart_23 (K_joinPart_L4 pn_5 a1 depth nhl224) x216 f217 a1 f218 f219 f220 f221 f222 f223) else (K_joinPart_24 depth (K_joinPart_L4 pn_5 a1 depth nhl224) x216 f217 f218 a1 f219 f220 f221 f222 f223)) from hM).trans (if_neg h253)
          by_cases h259 : depth.toInt = 1
          · skip
            have hM : M_joinPart a1 depth rl0 rl1 rl2 rl3 rl4 rl5 rl6 pn a0 = (K_joinPart_25 (K_joinPart_L4 pn_5 a1 depth nhl224) x216 f217 f218 a1 f219 f220 f221 f222 f223) := (show M_joinPart a1 depth rl0 rl1 rl2 rl3 rl4 rl5 rl6 pn a0 = (if depth.toInt = 1 then (K_joinPart_25 (K_joinPart_L4 pn_5 a1 depth nhl224) x216 f217 f218 a1 f219 f220 f221 f222 f223) else (K_joinPart_26 depth (K_joinPart_L4 pn_5 a1 depth nhl224) x216 f217 f218 f219 a1 f220 f221 f222 f223)) from hM).trans (if_pos h259)
            refine xaldA hx hb hK hP 1 4 rfl rfl (vp_in_iff.mpr ⟨by omega, by omega⟩) dX4_joinPart_48 (v := .ref (rlf 1)) (by rw [xclamp (j := 1) (rfl.trans h259)]; rfl) ?_
            refine lv_iload_n hx hb dX4_joinPart_49 rfl (lv_at hl 0 rfl) ?_
            refine lv_dup2_11 hx hb dX4_joinPart_50 rfl rfl ?_
            refine va_lald hx hb hK hP 3 1 rfl rfl (vp_in_iff.mpr ⟨by omega, by omega⟩) dX4_joinPart_51 ?_
            refine lv_topl (fun v260 ev260 => ?_)
            refine va_gets (v := .ref tI) hx hb hE.Z hS hown (hts (.fieldLink RX4 208 "PowerRails$Reader" "IN_WORD" "[J") (tbC _ wd370)) (fun _ h9 => h9) dX4_joinPart_52 ?_
            refine lv_iload_n hx hb dX4_joinPart_55 rfl (lv_at hl 3 rfl) ?_
            obtain ⟨v261, ev261⟩ : ∃ z9 : Int64, xinw.getD (a1 : Int32).toNatClampNeg 0 = z9 := ⟨_, rfl⟩
            refine va_tl (v := .long v261) hx hb hE.T hS (vp_in_iff.mpr ⟨by omega, by omega⟩) (congrArg Value.long ev261) dX4_joinPart_56 ?_
            refine lv_land hx hb dX4_joinPart_57 ?_
            refine lv_topl (fun v262 ev262 => ?_)
            refine va_last hx hb hK hP hD hS 3 1 rfl rfl (vp_in_iff.mpr ⟨by omega, by omega⟩) dX4_joinPart_58 (fun H locs hP hD hS => ?_)
            obtain ⟨f263, ef263⟩ : ∃ fz9 : Nat → Int64, fz9 = vp_updL f218 (x216 : Int32).toNatClampNeg v262 := ⟨_, rfl⟩
            have hP : va_P D vwCl [oX4 rd tp rfa rya rla pl place kind from_ value told depth fault fplace, oAM rla cH 7 rlf, oAJ (rlf 0) cJ 8 f217, oAJ (rlf 1) cJ 8 f263, oAJ (rlf 2) cJ 8 f219, oAJ (rlf 3) cJ 8 f220, oAJ (rlf 4) cJ 8 f221, oAJ (rlf 5) cJ 8 f222, oAJ (rlf 6) cJ 8 f223, oX3 pl pna pta rails limit retry behind, oAI pna cI 64 pn_5] H := by rw [ef263]; exact hP
            have hD : va_D A [oX4 rd tp rfa rya rla pl place kind from_ value told depth fault fplace, oAM rla cH 7 rlf, oAJ (rlf 0) cJ 8 f217, oAJ (rlf 1) cJ 8 f263, oAJ (rlf 2) cJ 8 f219, oAJ (rlf 3) cJ 8 f220, oAJ (rlf 4) cJ 8 f221, oAJ (rlf 5) cJ 8 f222, oAJ (rlf 6) cJ 8 f223, oX3 pl pna pta rails limit retry behind, oAI pna cI 64 pn_5] := by rw [ef263]; exact hD
            refine lv_goto (tgt := 87) hx hb dX4_joinPart_59 (by decide) ?_
            obtain ⟨x264, ex264⟩ : ∃ y : Int32, y = x216 + 1 := ⟨_, rfl⟩
            have tx264 : x264.toInt = (x216.toInt + 1) := (congrArg Int32.toInt ex264).trans (xadd rfl (by decide) (by omega) (by omega))
            refine lv_iinc (v := x264) (lv' := [(3, .int x264), (0, .ref rd), (1, .int a0), (2, .int a1)]) hx hb dX4_joinPart_87 hl (k := 0) rfl (by rw [ex264]; rfl) (by decide) rfl (fun ls hl => ?_)
            refine lv_goto (tgt := 26) hx hb dX4_joinPart_90 (by decide) ?_
            exact ihhl224 x264 f217 f263 f219 f220 f221 f222 f223 (by omega) (xrng tx264 (by omega) (by omega)) (by rw [ex264, ef263, ev262, ← ev261, ev260]; exact hM) _ _ hP hD hS ls (lv_sub hl [0, 1, 2, 3] rfl)
          have hM : M_joinPart a1 depth rl0 rl1 rl2 rl3 rl4 rl5 rl6 pn a0 = (K_joinPart_26 depth (K_joinPart_L4 pn_5 a1 depth nhl224) x216 f217 f218 f219 a1 f220 f221 f222 f223) := (show M_joinPart a1 depth rl0 rl1 rl2 rl3 rl4 rl5 rl6 pn a0 = (if depth.toInt = 1 then (K_joinPart_25 (K_joinPart_L4 pn_5 a1 depth nhl224) x216 f217 f218 a1 f219 f220 f221 f222 f223) else (K_joinPart_26 depth (K_joinPart_L4 pn_5 a1 depth nhl224) x216 f217 f218 f219 a1 f220 f221 f222 f223)) from hM).trans (if_neg h259)
          by_cases h265 : depth.toInt = 2
          · skip
            have hM : M_joinPart a1 depth rl0 rl1 rl2 rl3 rl4 rl5 rl6 pn a0 = (K_joinPart_27 (K_joinPart_L4 pn_5 a1 depth nhl224) x216 f217 f218 f219 a1 f220 f221 f222 f223) := (show M_joinPart a1 depth rl0 rl1 rl2 rl3 rl4 rl5 rl6 pn a0 = (if depth.toInt = 2 then (K_joinPart_27 (K_joinPart_L4 pn_5 a1 depth nhl224) x216 f217 f218 f219 a1 f220 f221 f222 f223) else (K_joinPart_28 depth (K_joinPart_L4 pn_5 a1 depth nhl224) x216 f217 f218 f219 f220 a1 f221 f222 f223)) from hM).trans (if_pos h265)
            refine xaldA hx hb hK hP 1 4 rfl rfl (vp_in_iff.mpr ⟨by omega, by omega⟩) dX4_joinPart_48 (v := .ref (rlf 2)) (by rw [xclamp (j := 2) (rfl.trans h265)]; rfl) ?_
            refine lv_iload_n hx hb dX4_joinPart_49 rfl (lv_at hl 0 rfl) ?_
            refine lv_dup2_11 hx hb dX4_joinPart_50 rfl rfl ?_
            refine va_lald hx hb hK hP 4 1 rfl rfl (vp_in_iff.mpr ⟨by omega, by omega⟩) dX4_joinPart_51 ?_
            refine lv_topl (fun v266 ev266 => ?_)
            refine va_gets (v := .ref tI) hx hb hE.Z hS hown (hts (.fieldLink RX4 208 "PowerRails$Reader" "IN_WORD" "[J") (tbC _ wd370)) (fun _ h9 => h9) dX4_joinPart_52 ?_
            refine lv_iload_n hx hb dX4_joinPart_55 rfl (lv_at hl 3 rfl) ?_
            obtain ⟨v267, ev267⟩ : ∃ z9 : Int64, xinw.getD (a1 : Int32).toNatClampNeg 0 = z9 := ⟨_, rfl⟩
            refine va_tl (v := .long v267) hx hb hE.T hS (vp_in_iff.mpr ⟨by omega, by omega⟩) (congrArg Value.long ev267) dX4_joinPart_56 ?_
            refine lv_land hx hb dX4_joinPart_57 ?_
            refine lv_topl (fun v268 ev268 => ?_)
            refine va_last hx hb hK hP hD hS 4 1 rfl rfl (vp_in_iff.mpr ⟨by omega, by omega⟩) dX4_joinPart_58 (fun H locs hP hD hS => ?_)
            obtain ⟨f269, ef269⟩ : ∃ fz9 : Nat → Int64, fz9 = vp_updL f219 (x216 : Int32).toNatClampNeg v268 := ⟨_, rfl⟩
            have hP : va_P D vwCl [oX4 rd tp rfa rya rla pl place kind from_ value told depth fault fplace, oAM rla cH 7 rlf, oAJ (rlf 0) cJ 8 f217, oAJ (rlf 1) cJ 8 f218, oAJ (rlf 2) cJ 8 f269, oAJ (rlf 3) cJ 8 f220, oAJ (rlf 4) cJ 8 f221, oAJ (rlf 5) cJ 8 f222, oAJ (rlf 6) cJ 8 f223, oX3 pl pna pta rails limit retry behind, oAI pna cI 64 pn_5] H := by rw [ef269]; exact hP
            have hD : va_D A [oX4 rd tp rfa rya rla pl place kind from_ value told depth fault fplace, oAM rla cH 7 rlf, oAJ (rlf 0) cJ 8 f217, oAJ (rlf 1) cJ 8 f218, oAJ (rlf 2) cJ 8 f269, oAJ (rlf 3) cJ 8 f220, oAJ (rlf 4) cJ 8 f221, oAJ (rlf 5) cJ 8 f222, oAJ (rlf 6) cJ 8 f223, oX3 pl pna pta rails limit retry behind, oAI pna cI 64 pn_5] := by rw [ef269]; exact hD
            refine lv_goto (tgt := 87) hx hb dX4_joinPart_59 (by decide) ?_
            obtain ⟨x270, ex270⟩ : ∃ y : Int32, y = x216 + 1 := ⟨_, rfl⟩
            have tx270 : x270.toInt = (x216.toInt + 1) := (congrArg Int32.toInt ex270).trans (xadd rfl (by decide) (by omega) (by omega))
            refine lv_iinc (v := x270) (lv' := [(3, .int x270), (0, .ref rd), (1, .int a0), (2, .int a1)]) hx hb dX4_joinPart_87 hl (k := 0) rfl (by rw [ex270]; rfl) (by decide) rfl (fun ls hl => ?_)
            refine lv_goto (tgt := 26) hx hb dX4_joinPart_90 (by decide) ?_
            exact ihhl224 x270 f217 f218 f269 f220 f221 f222 f223 (by omega) (xrng tx270 (by omega) (by omega)) (by rw [ex270, ef269, ev268, ← ev267, ev266]; exact hM) _ _ hP hD hS ls (lv_sub hl [0, 1, 2, 3] rfl)
          have hM : M_joinPart a1 depth rl0 rl1 rl2 rl3 rl4 rl5 rl6 pn a0 = (K_joinPart_28 depth (K_joinPart_L4 pn_5 a1 depth nhl224) x216 f217 f218 f219 f220 a1 f221 f222 f223) := (show M_joinPart a1 depth rl0 rl1 rl2 rl3 rl4 rl5 rl6 pn a0 = (if depth.toInt = 2 then (K_joinPart_27 (K_joinPart_L4 pn_5 a1 depth nhl224) x216 f217 f218 f219 a1 f220 f221 f222 f223) else (K_joinPart_28 depth (K_joinPart_L4 pn_5 a1 depth nhl224) x216 f217 f218 f219 f220 a1 f221 f222 f223)) from hM).trans (if_neg h265)
          by_cases h271 : depth.toInt = 3
          · skip
            have hM : M_joinPart a1 depth rl0 rl1 rl2 rl3 rl4 rl5 rl6 pn a0 = (K_joinPart_29 (K_joinPart_L4 pn_5 a1 depth nhl224) x216 f217 f218 f219 f220 a1 f221 f222 f223) := (show M_joinPart a1 depth rl0 rl1 rl2 rl3 rl4 rl5 rl6 pn a0 = (if depth.toInt = 3 then (K_joinPart_29 (K_joinPart_L4 pn_5 a1 depth nhl224) x216 f217 f218 f219 f220 a1 f221 f222 f223) else (K_joinPart_30 depth (K_joinPart_L4 pn_5 a1 depth nhl224) x216 f217 f218 f219 f220 f221 a1 f222 f223)) from hM).trans (if_pos h271)
            refine xaldA hx hb hK hP 1 4 rfl rfl (vp_in_iff.mpr ⟨by omega, by omega⟩) dX4_joinPart_48 (v := .ref (rlf 3)) (by rw [xclamp (j := 3) (rfl.trans h271)]; rfl) ?_
            refine lv_iload_n hx hb dX4_joinPart_49 rfl (lv_at hl 0 rfl) ?_
            refine lv_dup2_11 hx hb dX4_joinPart_50 rfl rfl ?_
            refine va_lald hx hb hK hP 5 1 rfl rfl (vp_in_iff.mpr ⟨by omega, by omega⟩) dX4_joinPart_51 ?_
            refine lv_topl (fun v272 ev272 => ?_)
            refine va_gets (v := .ref tI) hx hb hE.Z hS hown (hts (.fieldLink RX4 208 "PowerRails$Reader" "IN_WORD" "[J") (tbC _ wd370)) (fun _ h9 => h9) dX4_joinPart_52 ?_
            refine lv_iload_n hx hb dX4_joinPart_55 rfl (lv_at hl 3 rfl) ?_
            obtain ⟨v273, ev273⟩ : ∃ z9 : Int64, xinw.getD (a1 : Int32).toNatClampNeg 0 = z9 := ⟨_, rfl⟩
            refine va_tl (v := .long v273) hx hb hE.T hS (vp_in_iff.mpr ⟨by omega, by omega⟩) (congrArg Value.long ev273) dX4_joinPart_56 ?_
            refine lv_land hx hb dX4_joinPart_57 ?_
            refine lv_topl (fun v274 ev274 => ?_)
            refine va_last hx hb hK hP hD hS 5 1 rfl rfl (vp_in_iff.mpr ⟨by omega, by omega⟩) dX4_joinPart_58 (fun H locs hP hD hS => ?_)
            obtain ⟨f275, ef275⟩ : ∃ fz9 : Nat → Int64, fz9 = vp_updL f220 (x216 : Int32).toNatClampNeg v274 := ⟨_, rfl⟩
            have hP : va_P D vwCl [oX4 rd tp rfa rya rla pl place kind from_ value told depth fault fplace, oAM rla cH 7 rlf, oAJ (rlf 0) cJ 8 f217, oAJ (rlf 1) cJ 8 f218, oAJ (rlf 2) cJ 8 f219, oAJ (rlf 3) cJ 8 f275, oAJ (rlf 4) cJ 8 f221, oAJ (rlf 5) cJ 8 f222, oAJ (rlf 6) cJ 8 f223, oX3 pl pna pta rails limit retry behind, oAI pna cI 64 pn_5] H := by rw [ef275]; exact hP
            have hD : va_D A [oX4 rd tp rfa rya rla pl place kind from_ value told depth fault fplace, oAM rla cH 7 rlf, oAJ (rlf 0) cJ 8 f217, oAJ (rlf 1) cJ 8 f218, oAJ (rlf 2) cJ 8 f219, oAJ (rlf 3) cJ 8 f275, oAJ (rlf 4) cJ 8 f221, oAJ (rlf 5) cJ 8 f222, oAJ (rlf 6) cJ 8 f223, oX3 pl pna pta rails limit retry behind, oAI pna cI 64 pn_5] := by rw [ef275]; exact hD
            refine lv_goto (tgt := 87) hx hb dX4_joinPart_59 (by decide) ?_
            obtain ⟨x276, ex276⟩ : ∃ y : Int32, y = x216 + 1 := ⟨_, rfl⟩
            have tx276 : x276.toInt = (x216.toInt + 1) := (congrArg Int32.toInt ex276).trans (xadd rfl (by decide) (by omega) (by omega))
            refine lv_iinc (v := x276) (lv' := [(3, .int x276), (0, .ref rd), (1, .int a0), (2, .int a1)]) hx hb dX4_joinPart_87 hl (k := 0) rfl (by rw [ex276]; rfl) (by decide) rfl (fun ls hl => ?_)
            refine lv_goto (tgt := 26) hx hb dX4_joinPart_90 (by decide) ?_
            exact ihhl224 x276 f217 f218 f219 f275 f221 f222 f223 (by omega) (xrng tx276 (by omega) (by omega)) (by rw [ex276, ef275, ev274, ← ev273, ev272]; exact hM) _ _ hP hD hS ls (lv_sub hl [0, 1, 2, 3] rfl)
          have hM : M_joinPart a1 depth rl0 rl1 rl2 rl3 rl4 rl5 rl6 pn a0 = (K_joinPart_30 depth (K_joinPart_L4 pn_5 a1 depth nhl224) x216 f217 f218 f219 f220 f221 a1 f222 f223) := (show M_joinPart a1 depth rl0 rl1 rl2 rl3 rl4 rl5 rl6 pn a0 = (if depth.toInt = 3 then (K_joinPart_29 (K_joinPart_L4 pn_5 a1 depth nhl224) x216 f217 f218 f219 f220 a1 f221 f222 f223) else (K_joinPart_30 depth (K_joinPart_L4 pn_5 a1 depth nhl224) x216 f217 f218 f219 f220 f221 a1 f222 f223)) from hM).trans (if_neg h271)
          by_cases h277 : depth.toInt = 4
          · skip
            have hM : M_joinPart a1 depth rl0 rl1 rl2 rl3 rl4 rl5 rl6 pn a0 = (K_joinPart_31 (K_joinPart_L4 pn_5 a1 depth nhl224) x216 f217 f218 f219 f220 f221 a1 f222 f223) := (show M_joinPart a1 depth rl0 rl1 rl2 rl3 rl4 rl5 rl6 pn a0 = (if depth.toInt = 4 then (K_joinPart_31 (K_joinPart_L4 pn_5 a1 depth nhl224) x216 f217 f218 f219 f220 f221 a1 f222 f223) else (K_joinPart_32 depth (K_joinPart_L4 pn_5 a1 depth nhl224) x216 f217 f218 f219 f220 f221 f222 a1 f223)) from hM).trans (if_pos h277)
            refine xaldA hx hb hK hP 1 4 rfl rfl (vp_in_iff.mpr ⟨by omega, by omega⟩) dX4_joinPart_48 (v := .ref (rlf 4)) (by rw [xclamp (j := 4) (rfl.trans h277)]; rfl) ?_
            refine lv_iload_n hx hb dX4_joinPart_49 rfl (lv_at hl 0 rfl) ?_
            refine lv_dup2_11 hx hb dX4_joinPart_50 rfl rfl ?_
            refine va_lald hx hb hK hP 6 1 rfl rfl (vp_in_iff.mpr ⟨by omega, by omega⟩) dX4_joinPart_51 ?_
            refine lv_topl (fun v278 ev278 => ?_)
            refine va_gets (v := .ref tI) hx hb hE.Z hS hown (hts (.fieldLink RX4 208 "PowerRails$Reader" "IN_WORD" "[J") (tbC _ wd370)) (fun _ h9 => h9) dX4_joinPart_52 ?_
            refine lv_iload_n hx hb dX4_joinPart_55 rfl (lv_at hl 3 rfl) ?_
            obtain ⟨v279, ev279⟩ : ∃ z9 : Int64, xinw.getD (a1 : Int32).toNatClampNeg 0 = z9 := ⟨_, rfl⟩
            refine va_tl (v := .long v279) hx hb hE.T hS (vp_in_iff.mpr ⟨by omega, by omega⟩) (congrArg Value.long ev279) dX4_joinPart_56 ?_
            refine lv_land hx hb dX4_joinPart_57 ?_
            refine lv_topl (fun v280 ev280 => ?_)
            refine va_last hx hb hK hP hD hS 6 1 rfl rfl (vp_in_iff.mpr ⟨by omega, by omega⟩) dX4_joinPart_58 (fun H locs hP hD hS => ?_)
            obtain ⟨f281, ef281⟩ : ∃ fz9 : Nat → Int64, fz9 = vp_updL f221 (x216 : Int32).toNatClampNeg v280 := ⟨_, rfl⟩
            have hP : va_P D vwCl [oX4 rd tp rfa rya rla pl place kind from_ value told depth fault fplace, oAM rla cH 7 rlf, oAJ (rlf 0) cJ 8 f217, oAJ (rlf 1) cJ 8 f218, oAJ (rlf 2) cJ 8 f219, oAJ (rlf 3) cJ 8 f220, oAJ (rlf 4) cJ 8 f281, oAJ (rlf 5) cJ 8 f222, oAJ (rlf 6) cJ 8 f223, oX3 pl pna pta rails limit retry behind, oAI pna cI 64 pn_5] H := by rw [ef281]; exact hP
            have hD : va_D A [oX4 rd tp rfa rya rla pl place kind from_ value told depth fault fplace, oAM rla cH 7 rlf, oAJ (rlf 0) cJ 8 f217, oAJ (rlf 1) cJ 8 f218, oAJ (rlf 2) cJ 8 f219, oAJ (rlf 3) cJ 8 f220, oAJ (rlf 4) cJ 8 f281, oAJ (rlf 5) cJ 8 f222, oAJ (rlf 6) cJ 8 f223, oX3 pl pna pta rails limit retry behind, oAI pna cI 64 pn_5] := by rw [ef281]; exact hD
            refine lv_goto (tgt := 87) hx hb dX4_joinPart_59 (by decide) ?_
            obtain ⟨x282, ex282⟩ : ∃ y : Int32, y = x216 + 1 := ⟨_, rfl⟩
            have tx282 : x282.toInt = (x216.toInt + 1) := (congrArg Int32.toInt ex282).trans (xadd rfl (by decide) (by omega) (by omega))
            refine lv_iinc (v := x282) (lv' := [(3, .int x282), (0, .ref rd), (1, .int a0), (2, .int a1)]) hx hb dX4_joinPart_87 hl (k := 0) rfl (by rw [ex282]; rfl) (by decide) rfl (fun ls hl => ?_)
            refine lv_goto (tgt := 26) hx hb dX4_joinPart_90 (by decide) ?_
            exact ihhl224 x282 f217 f218 f219 f220 f281 f222 f223 (by omega) (xrng tx282 (by omega) (by omega)) (by rw [ex282, ef281, ev280, ← ev279, ev278]; exact hM) _ _ hP hD hS ls (lv_sub hl [0, 1, 2, 3] rfl)
          have hM : M_joinPart a1 depth rl0 rl1 rl2 rl3 rl4 rl5 rl6 pn a0 = (K_joinPart_32 depth (K_joinPart_L4 pn_5 a1 depth nhl224) x216 f217 f218 f219 f220 f221 f222 a1 f223) := (show M_joinPart a1 depth rl0 rl1 rl2 rl3 rl4 rl5 rl6 pn a0 = (if depth.toInt = 4 then (K_joinPart_31 (K_joinPart_L4 pn_5 a1 depth nhl224) x216 f217 f218 f219 f220 f221 a1 f222 f223) else (K_joinPart_32 depth (K_joinPart_L4 pn_5 a1 depth nhl224) x216 f217 f218 f219 f220 f221 f222 a1 f223)) from hM).trans (if_neg h277)
          by_cases h283 : depth.toInt = 5
          · skip
            have hM : M_joinPart a1 depth rl0 rl1 rl2 rl3 rl4 rl5 rl6 pn a0 = (K_joinPart_33 (K_joinPart_L4 pn_5 a1 depth nhl224) x216 f217 f218 f219 f220 f221 f222 a1 f223) := (show M_joinPart a1 depth rl0 rl1 rl2 rl3 rl4 rl5 rl6 pn a0 = (if depth.toInt = 5 then (K_joinPart_33 (K_joinPart_L4 pn_5 a1 depth nhl224) x216 f217 f218 f219 f220 f221 f222 a1 f223) else (K_joinPart_34 (K_joinPart_L4 pn_5 a1 depth nhl224) x216 f217 f218 f219 f220 f221 f222 f223 a1)) from hM).trans (if_pos h283)
            refine xaldA hx hb hK hP 1 4 rfl rfl (vp_in_iff.mpr ⟨by omega, by omega⟩) dX4_joinPart_48 (v := .ref (rlf 5)) (by rw [xclamp (j := 5) (rfl.trans h283)]; rfl) ?_
            refine lv_iload_n hx hb dX4_joinPart_49 rfl (lv_at hl 0 rfl) ?_
            refine lv_dup2_11 hx hb dX4_joinPart_50 rfl rfl ?_
            refine va_lald hx hb hK hP 7 1 rfl rfl (vp_in_iff.mpr ⟨by omega, by omega⟩) dX4_joinPart_51 ?_
            refine lv_topl (fun v284 ev284 => ?_)
            refine va_gets (v := .ref tI) hx hb hE.Z hS hown (hts (.fieldLink RX4 208 "PowerRails$Reader" "IN_WORD" "[J") (tbC _ wd370)) (fun _ h9 => h9) dX4_joinPart_52 ?_
            refine lv_iload_n hx hb dX4_joinPart_55 rfl (lv_at hl 3 rfl) ?_
            obtain ⟨v285, ev285⟩ : ∃ z9 : Int64, xinw.getD (a1 : Int32).toNatClampNeg 0 = z9 := ⟨_, rfl⟩
            refine va_tl (v := .long v285) hx hb hE.T hS (vp_in_iff.mpr ⟨by omega, by omega⟩) (congrArg Value.long ev285) dX4_joinPart_56 ?_
            refine lv_land hx hb dX4_joinPart_57 ?_
            refine lv_topl (fun v286 ev286 => ?_)
            refine va_last hx hb hK hP hD hS 7 1 rfl rfl (vp_in_iff.mpr ⟨by omega, by omega⟩) dX4_joinPart_58 (fun H locs hP hD hS => ?_)
            obtain ⟨f287, ef287⟩ : ∃ fz9 : Nat → Int64, fz9 = vp_updL f222 (x216 : Int32).toNatClampNeg v286 := ⟨_, rfl⟩
            have hP : va_P D vwCl [oX4 rd tp rfa rya rla pl place kind from_ value told depth fault fplace, oAM rla cH 7 rlf, oAJ (rlf 0) cJ 8 f217, oAJ (rlf 1) cJ 8 f218, oAJ (rlf 2) cJ 8 f219, oAJ (rlf 3) cJ 8 f220, oAJ (rlf 4) cJ 8 f221, oAJ (rlf 5) cJ 8 f287, oAJ (rlf 6) cJ 8 f223, oX3 pl pna pta rails limit retry behind, oAI pna cI 64 pn_5] H := by rw [ef287]; exact hP
            have hD : va_D A [oX4 rd tp rfa rya rla pl place kind from_ value told depth fault fplace, oAM rla cH 7 rlf, oAJ (rlf 0) cJ 8 f217, oAJ (rlf 1) cJ 8 f218, oAJ (rlf 2) cJ 8 f219, oAJ (rlf 3) cJ 8 f220, oAJ (rlf 4) cJ 8 f221, oAJ (rlf 5) cJ 8 f287, oAJ (rlf 6) cJ 8 f223, oX3 pl pna pta rails limit retry behind, oAI pna cI 64 pn_5] := by rw [ef287]; exact hD
            refine lv_goto (tgt := 87) hx hb dX4_joinPart_59 (by decide) ?_
            obtain ⟨x288, ex288⟩ : ∃ y : Int32, y = x216 + 1 := ⟨_, rfl⟩
            have tx288 : x288.toInt = (x216.toInt + 1) := (congrArg Int32.toInt ex288).trans (xadd rfl (by decide) (by omega) (by omega))
            refine lv_iinc (v := x288) (lv' := [(3, .int x288), (0, .ref rd), (1, .int a0), (2, .int a1)]) hx hb dX4_joinPart_87 hl (k := 0) rfl (by rw [ex288]; rfl) (by decide) rfl (fun ls hl => ?_)
            refine lv_goto (tgt := 26) hx hb dX4_joinPart_90 (by decide) ?_
            exact ihhl224 x288 f217 f218 f219 f220 f221 f287 f223 (by omega) (xrng tx288 (by omega) (by omega)) (by rw [ex288, ef287, ev286, ← ev285, ev284]; exact hM) _ _ hP hD hS ls (lv_sub hl [0, 1, 2, 3] rfl)
          have hM : M_joinPart a1 depth rl0 rl1 rl2 rl3 rl4 rl5 rl6 pn a0 = (K_joinPart_34 (K_joinPart_L4 pn_5 a1 depth nhl224) x216 f217 f218 f219 f220 f221 f222 f223 a1) := (show M_joinPart a1 depth rl0 rl1 rl2 rl3 rl4 rl5 rl6 pn a0 = (if depth.toInt = 5 then (K_joinPart_33 (K_joinPart_L4 pn_5 a1 depth nhl224) x216 f217 f218 f219 f220 f221 f222 a1 f223) else (K_joinPart_34 (K_joinPart_L4 pn_5 a1 depth nhl224) x216 f217 f218 f219 f220 f221 f222 f223 a1)) from hM).trans (if_neg h283)
          have h289 : depth.toInt = 6 := by omega
          refine xaldA hx hb hK hP 1 4 rfl rfl (vp_in_iff.mpr ⟨by omega, by omega⟩) dX4_joinPart_48 (v := .ref (rlf 6)) (by rw [xclamp (j := 6) (rfl.trans h289)]; rfl) ?_
          refine lv_iload_n hx hb dX4_joinPart_49 rfl (lv_at hl 0 rfl) ?_
          refine lv_dup2_11 hx hb dX4_joinPart_50 rfl rfl ?_
          refine va_lald hx hb hK hP 8 1 rfl rfl (vp_in_iff.mpr ⟨by omega, by omega⟩) dX4_joinPart_51 ?_
          refine lv_topl (fun v290 ev290 => ?_)
          refine va_gets (v := .ref tI) hx hb hE.Z hS hown (hts (.fieldLink RX4 208 "PowerRails$Reader" "IN_WORD" "[J") (tbC _ wd370)) (fun _ h9 => h9) dX4_joinPart_52 ?_
          refine lv_iload_n hx hb dX4_joinPart_55 rfl (lv_at hl 3 rfl) ?_
          obtain ⟨v291, ev291⟩ : ∃ z9 : Int64, xinw.getD (a1 : Int32).toNatClampNeg 0 = z9 := ⟨_, rfl⟩
          refine va_tl (v := .long v291) hx hb hE.T hS (vp_in_iff.mpr ⟨by omega, by omega⟩) (congrArg Value.long ev291) dX4_joinPart_56 ?_
          refine lv_land hx hb dX4_joinPart_57 ?_
          refine lv_topl (fun v292 ev292 => ?_)
          refine va_last hx hb hK hP hD hS 8 1 rfl rfl (vp_in_iff.mpr ⟨by omega, by omega⟩) dX4_joinPart_58 (fun H locs hP hD hS => ?_)
          obtain ⟨f293, ef293⟩ : ∃ fz9 : Nat → Int64, fz9 = vp_updL f223 (x216 : Int32).toNatClampNeg v292 := ⟨_, rfl⟩
          have hP : va_P D vwCl [oX4 rd tp rfa rya rla pl place kind from_ value told depth fault fplace, oAM rla cH 7 rlf, oAJ (rlf 0) cJ 8 f217, oAJ (rlf 1) cJ 8 f218, oAJ (rlf 2) cJ 8 f219, oAJ (rlf 3) cJ 8 f220, oAJ (rlf 4) cJ 8 f221, oAJ (rlf 5) cJ 8 f222, oAJ (rlf 6) cJ 8 f293, oX3 pl pna pta rails limit retry behind, oAI pna cI 64 pn_5] H := by rw [ef293]; exact hP
          have hD : va_D A [oX4 rd tp rfa rya rla pl place kind from_ value told depth fault fplace, oAM rla cH 7 rlf, oAJ (rlf 0) cJ 8 f217, oAJ (rlf 1) cJ 8 f218, oAJ (rlf 2) cJ 8 f219, oAJ (rlf 3) cJ 8 f220, oAJ (rlf 4) cJ 8 f221, oAJ (rlf 5) cJ 8 f222, oAJ (rlf 6) cJ 8 f293, oX3 pl pna pta rails limit retry behind, oAI pna cI 64 pn_5] := by rw [ef293]; exact hD
          refine lv_goto (tgt := 87) hx hb dX4_joinPart_59 (by decide) ?_
          obtain ⟨x294, ex294⟩ : ∃ y : Int32, y = x216 + 1 := ⟨_, rfl⟩
          have tx294 : x294.toInt = (x216.toInt + 1) := (congrArg Int32.toInt ex294).trans (xadd rfl (by decide) (by omega) (by omega))
          refine lv_iinc (v := x294) (lv' := [(3, .int x294), (0, .ref rd), (1, .int a0), (2, .int a1)]) hx hb dX4_joinPart_87 hl (k := 0) rfl (by rw [ex294]; rfl) (by decide) rfl (fun ls hl => ?_)
          refine lv_goto (tgt := 26) hx hb dX4_joinPart_90 (by decide) ?_
          exact ihhl224 x294 f217 f218 f219 f220 f221 f222 f293 (by omega) (xrng tx294 (by omega) (by omega)) (by rw [ex294, ef293, ev292, ← ev291, ev290]; exact hM) _ _ hP hD hS ls (lv_sub hl [0, 1, 2, 3] rfl)
  exact hl224 100000 0 rl0 rl1 rl2 rl3 rl4 rl5 rl6 (by have z9_0 : (0 : Int32).toInt = 0 := (by decide); omega) ⟨by decide, by decide⟩ hM _ _ hP hD hS ls (lv_sub hl [0, 1, 2, 3] rfl)
def K_findNotTold_5 (fault : Int32) (fplace : Int32) : (Int32) × (Int32) := (fault, fplace)
def K_findNotTold_7 (fault_32 : Int32) (fplace_33 : Int32) : (Int32) × (Int32) := (fault_32, fplace_33)
def K_findNotTold_6 (fault : Int32) (x27 : Int32) (fplace : Int32) : (Int32) × (Int32) := ((fun t9 => (K_findNotTold_7 t9.1 t9.2)) (M_refuse fault (6 : Int32) x27 fplace))
def K_findNotTold_3 (x27 : Int32) (fault : Int32) (fplace : Int32) : (Int32) × (Int32) := (if 400 ≤ x27.toInt then (K_findNotTold_5 fault fplace) else (K_findNotTold_6 fault x27 fplace))
def K_findNotTold_8 (rec_2 : (Int32) → (Int32) → ((Int32) × (Int32))) (x26 : Int32) (x27 : Int32) : (Int32) × (Int32) := (rec_2 (x26 + 1) x27)
def K_findNotTold_9 (rec_2 : (Int32) → (Int32) → ((Int32) × (Int32))) (x26 : Int32) (rf : Nat → Int32) (x27 : Int32) : (Int32) × (Int32) := (rec_2 (x26 + 1) (if (rf x26.toNatClampNeg) < x27 then (rf x26.toNatClampNeg) else x27))
def K_findNotTold_4 (rf : Nat → Int32) (x26 : Int32) (rec_2 : (Int32) → (Int32) → ((Int32) × (Int32))) (x27 : Int32) : (Int32) × (Int32) := (if (rf x26.toNatClampNeg).toInt = (-4) then (K_findNotTold_8 rec_2 x26 x27) else (K_findNotTold_9 rec_2 x26 rf x27))
def K_findNotTold_2 (x26 : Int32) (x27 : Int32) (fault : Int32) (fplace : Int32) (rf : Nat → Int32) (rec_2 : (Int32) → (Int32) → ((Int32) × (Int32))) : (Int32) × (Int32) := (if 8 ≤ x26.toInt then (K_findNotTold_3 x27 fault fplace) else (K_findNotTold_4 rf x26 rec_2 x27))
def K_findNotTold_L2 (fault : Int32) (fplace : Int32) (rf : Nat → Int32) : Nat → (Int32) → (Int32) → (Int32) × (Int32)
  | 0, _, _ => (0, 0)
  | n9 + 1, x26, x27 => (K_findNotTold_2 x26 x27 fault fplace rf (K_findNotTold_L2 fault fplace rf n9))
def K_findNotTold_1 (fault : Int32) (fplace : Int32) (rf : Nat → Int32) (rails : Int32) : (Int32) × (Int32) := (K_findNotTold_L2 fault fplace rf 100000 rails (400 : Int32))
def M_findNotTold (fault : Int32) (fplace : Int32) (rf : Nat → Int32) (rails : Int32) : (Int32) × (Int32) := (K_findNotTold_1 fault fplace rf rails)
abbrev W_findNotTold (cI cJ cZ cG cH : ClassId) (rd : Nat) (tp : Nat) (rfa : Nat) (rya : Nat) (rla : Nat) (pl : Nat) (place : Int32) (kind : Int32) (from_ : Int32) (value : Int32) (told : Int32) (depth : Int32) (fault : Int32) (fplace : Int32) (rf : Nat → Int32) (pna : Nat) (pta : Nat) (rails : Int32) (limit : Int32) (retry : Int32) (behind : Int32) : va_W := [oX4 rd tp rfa rya rla pl place kind from_ value told depth fault fplace, oAI rfa cI 8 rf, oX3 pl pna pta rails limit retry behind]
abbrev Q_findNotTold (D : va_G) (cI cJ cZ cG cH : ClassId) (rd : Nat) (tp : Nat) (rfa : Nat) (rya : Nat) (rla : Nat) (pl : Nat) (place : Int32) (kind : Int32) (from_ : Int32) (value : Int32) (told : Int32) (depth : Int32) (fault : Int32) (fplace : Int32) (rf : Nat → Int32) (pna : Nat) (pta : Nat) (rails : Int32) (limit : Int32) (retry : Int32) (behind : Int32) (A : Nat → Prop) : Array Value → State → Outcome → State → Prop := va_Qv (fun (_ : Unit) => True) (fun _ t => ∃ (fault9 : Int32) (fplace9 : Int32), (M_findNotTold fault fplace rf rails = (fault9, fplace9)) ∧ xB D (tyL cI cJ cZ cG cH) [oX4 rd tp rfa rya rla pl place kind from_ value told depth fault9 fplace9, oAI rfa cI 8 rf, oX3 pl pna pta rails limit retry behind] A t) A
abbrev rm_findNotTold : Room := { frames := 1, cells := 0, slots := 0, locals := 22 }
set_option maxRecDepth 100000 in
set_option maxHeartbeats 40000000 in
theorem c_findNotTold (l : Launch) (D : va_G) (cI cJ cZ cG cH : ClassId) (sz : Nat) (rd : Nat) (tp : Nat) (rfa : Nat) (rya : Nat) (rla : Nat) (pl : Nat) (place : Int32) (kind : Int32) (from_ : Int32) (value : Int32) (told : Int32) (depth : Int32) (fault : Int32) (fplace : Int32) (rf : Nat → Int32) (pna : Nat) (pta : Nat) (rails : Int32) (limit : Int32) (retry : Int32) (behind : Int32) (h_place : 0 ≤ place.toInt ∧ place.toInt ≤ 400) (h_from_ : 0 ≤ from_.toInt ∧ from_.toInt ≤ 400) (h_depth : 0 ≤ depth.toInt ∧ depth.toInt ≤ 6) (h_rails : 0 ≤ rails.toInt ∧ rails.toInt ≤ 8) : Met l yX4_findNotTold (wt yX4_findNotTold cX4_findNotTold 3 none) rm_findNotTold (xPc [.ref rd] D (tyL cI cJ cZ cG cH) (W_findNotTold cI cJ cZ cG cH rd tp rfa rya rla pl place kind from_ value told depth fault fplace rf pna pta rails limit retry behind) sz) (Q_findNotTold D cI cJ cZ cG cH rd tp rfa rya rla pl place kind from_ value told depth fault fplace rf pna pta rails limit retry behind (va_A (W_findNotTold cI cJ cZ cG cH rd tp rfa rya rla pl place kind from_ value told depth fault fplace rf pna pta rails limit retry behind) sz)) 0 0 (va_A (W_findNotTold cI cJ cZ cG cH rd tp rfa rya rla pl place kind from_ value told depth fault fplace rf pna pta rails limit retry behind) sz) := by
  refine xMet (cc := cX4_findNotTold) (maxL := 3) (ret := none) (Qf := Q_findNotTold D cI cJ cZ cG cH rd tp rfa rya rla pl place kind from_ value told depth fault fplace rf pna pta rails limit retry behind) (by decide) rfl (Nat.le_of_ble_eq_true rfl) ?_
  intro p e s m below meth c ls A hx hb hr hml hts hown hlocks hnm hsz hP hK hD hA hS hl
  have hown : s.vm.findClass RX4 = some m.cls := hown
  have hP : va_P D vwCl [oX4 rd tp rfa rya rla pl place kind from_ value told depth fault fplace, oAI rfa cI 8 rf, oX3 pl pna pta rails limit retry behind] s.heap := hP
  have hD : va_D A [oX4 rd tp rfa rya rla pl place kind from_ value told depth fault fplace, oAI rfa cI 8 rf, oX3 pl pna pta rails limit retry behind] := hD
  have hl : lv_has ls 3 [(0, .ref rd)] := hl
  have hM : M_findNotTold fault fplace rf rails = (K_findNotTold_1 fault fplace rf rails) := rfl
  refine lv_sipush (v := 400) hx hb dX4_findNotTold_0 (by decide) ?_
  refine lv_istore_n (lv' := [(1, .int 400), (0, .ref rd)]) hx hb dX4_findNotTold_3 rfl hl (by decide) rfl (fun ls hl => ?_)
  refine lv_aload_n hx hb dX4_findNotTold_4 rfl (lv_at hl 1 rfl) ?_
  refine va_get (D := D) (ci := 3) (v := .ref pl) (C := RX4) (T := TX4) (N := 13) hx hb hts (fun w h => tbC w (tbfX4 w h)) hown hK hP 0 rfl rfl 4 (by decide) (hts (.fieldLink RX4 15 "PowerRails$Reader" "plan" "LPowerRails$Plan;") (tbC _ wd236)) (fun _ h9 => h9) rfl dX4_findNotTold_5 ?_
  refine va_get (D := D) (ci := 2) (v := .int rails) (C := RX3) (T := TX3) (N := 6) hx hb hts (fun w h => tbC w (tbfX3 w h)) hown hK hP 2 rfl rfl 2 (by decide) (hts (.fieldLink RX4 138 "PowerRails$Plan" "rails" "I") (tbC _ wd211)) (fun _ h9 => h9) rfl dX4_findNotTold_8 ?_
  refine lv_istore_n (lv' := [(2, .int rails), (1, .int 400), (0, .ref rd)]) hx hb dX4_findNotTold_11 rfl hl (by decide) rfl (fun ls hl => ?_)
  have hl28 : ∀ (nhl28 : Nat) (x26 : Int32) (x27 : Int32), ((8 - x26.toInt).toNat < nhl28) → (hx26 : 0 ≤ x26.toInt ∧ x26.toInt ≤ 8) → (hM : M_findNotTold fault fplace rf rails = (K_findNotTold_L2 fault fplace rf nhl28 x26 x27)) → ∀ (H : Heap) (locs : List Loc), va_P D vwCl [oX4 rd tp rfa rya rla pl place kind from_ value told depth fault fplace, oAI rfa cI 8 rf, oX3 pl pna pta rails limit retry behind] H → va_D A [oX4 rd tp rfa rya rla pl place kind from_ value told depth fault fplace, oAI rfa cI 8 rf, oX3 pl pna pta rails limit retry behind] → va_S A s.heap H locs → ∀ (ls : Array Slot), lv_has ls 3 [(2, .int x26), (1, .int x27), (0, .ref rd)] → W p l e rm_findNotTold s m [Value.ref rd].toArray below meth c H locs 0 0 (MQ below ((Q_findNotTold D cI cJ cZ cG cH rd tp rfa rya rla pl place kind from_ value told depth fault fplace rf pna pta rails limit retry behind) A) [Value.ref rd].toArray s 0 0 A) (F0 m 12 ls []) := by
    intro nhl28
    induction nhl28 with
    | zero =>
      intro x26 x27 hmhl28
      exact absurd hmhl28 (Nat.not_lt_zero _)
    | succ nhl28 ihhl28 =>
      intro x26 x27 hmhl28 hx26 hM H locs hP hD hS ls hl
      have hM : M_findNotTold fault fplace rf rails = (K_findNotTold_2 x26 x27 fault fplace rf (K_findNotTold_L2 fault fplace rf nhl28)) := hM
      refine lv_iload_n hx hb dX4_findNotTold_12 rfl (lv_at hl 0 rfl) ?_
      refine lv_bipush (v := 8) hx hb dX4_findNotTold_13 (by decide) ?_
      refine lv_icmp_ge (tgt := 46) hx hb dX4_findNotTold_15 (by decide) (fun c_29 => ?_) (fun c_29 => ?_)
      · skip
        have i_29 : 8 ≤ x26.toInt := (ile (by decide) rfl).mp c_29
        have hM : M_findNotTold fault fplace rf rails = (K_findNotTold_3 x27 fault fplace) := (show M_findNotTold fault fplace rf rails = (if 8 ≤ x26.toInt then (K_findNotTold_3 x27 fault fplace) else (K_findNotTold_4 rf x26 (K_findNotTold_L2 fault fplace rf nhl28) x27)) from hM).trans (if_pos i_29)
        refine lv_iload_n hx hb dX4_findNotTold_46 rfl (lv_at hl 1 rfl) ?_
        refine lv_sipush (v := 400) hx hb dX4_findNotTold_47 (by decide) ?_
        refine lv_icmp_ge (tgt := 60) hx hb dX4_findNotTold_50 (by decide) (fun c_30 => ?_) (fun c_30 => ?_)
        · skip
          have i_30 : 400 ≤ x27.toInt := (ile (by decide) rfl).mp c_30
          have hM : M_findNotTold fault fplace rf rails = (K_findNotTold_5 fault fplace) := (show M_findNotTold fault fplace rf rails = (if 400 ≤ x27.toInt then (K_findNotTold_5 fault fplace) else (K_findNotTold_6 fault x27 fplace)) from hM).trans (if_pos i_30)
          refine W.widen (k := 0) (n := 0) (by decide) (by decide) ?_
          exact W.vret hx hb hr (fun t ht hW => ⟨⟨(), rfl, trivial, ⟨fault, fplace, hM, xB_of9 ht hW hP hK hD [0, 1, 2] (by decide +kernel) rfl⟩⟩, hS.F ht⟩) hS.2.2 dX4_findNotTold_60
        · skip
          have i_30 : ¬ (400 ≤ x27.toInt) := fun h9 => c_30 ((ile (by decide) rfl).mpr h9)
          have hM : M_findNotTold fault fplace rf rails = (K_findNotTold_6 fault x27 fplace) := (show M_findNotTold fault fplace rf rails = (if 400 ≤ x27.toInt then (K_findNotTold_5 fault fplace) else (K_findNotTold_6 fault x27 fplace)) from hM).trans (if_neg i_30)
          refine lv_aload_n hx hb dX4_findNotTold_53 rfl (lv_at hl 2 rfl) ?_
          refine lv_bipush (v := 6) hx hb dX4_findNotTold_54 (by decide) ?_
          refine lv_iload_n hx hb dX4_findNotTold_56 rfl (lv_at hl 1 rfl) ?_
          obtain ⟨hPc, hDc, hFc, hC9⟩ := xpk (wc := W_refuse cI cJ cZ cG cH rd (6 : Int32) x27 tp rfa rya rla pl place kind from_ value told depth fault fplace) hP hD hS hA [0] (by decide +kernel) rfl
          refine va_callv (va_runV (As := [.int 6, .int x27]) (rest := []) ⟨hx, hb, hml, hown, hts⟩ (c_refuse l D cI cJ cZ cG cH H.size rd (6 : Int32) x27 tp rfa rya rla pl place kind from_ value told depth fault fplace (xrng rfl (by omega) (by omega)) (xrng rfl (by omega) (by omega)) (xrng rfl (by omega) (by omega))) (cwV 2 hts (xGV tbC wd285 wd286 wd287 wd60 wd969) rfl rfl rfl (by decide +kernel) ⟨Nat.le_of_ble_eq_true rfl, Nat.le_of_ble_eq_true rfl⟩) ⟨xPc_blind, va_recv hK hPc (ci := 3) (q0 := 0) rfl rfl, xPc_pre hPc hK hDc⟩ rfl rfl hl.1 rfl (lv_room (Nat.le_of_ble_eq_true rfl)) dX4_findNotTold_57 ⟨Nat.le_of_ble_eq_true rfl, Nat.le_of_ble_eq_true rfl⟩) hS (fun q _ h => hFc q h) hFc (fun u t H1 locs ht hvm hw31 hB hz1 hk1 hS => ?_)
          obtain ⟨fault_32, fplace_33, hf33_0, hP1, hK1, hD1⟩ := hB
          rw [ht] at hP1
          obtain ⟨hP, hD⟩ : xPD D A [oAI rfa cI 8 rf, oX3 pl pna pta rails limit retry behind, oX4 rd tp rfa rya rla pl place kind from_ value told depth fault_32 fplace_33] H1 := xjn 2 hP hD [0] [1, 2] hC9 rfl (by decide +kernel) (by decide +kernel) hk1 hFc hP1 hD1
          generalize H1 = H at hP hS ⊢
          have hf33_0 : M_refuse fault (6 : Int32) x27 fplace = (fault_32, fplace_33) := hf33_0
          have h9M := congrArg (fun t9 => (K_findNotTold_7 t9.1 t9.2)) hf33_0
          have hM : M_findNotTold fault fplace rf rails = (K_findNotTold_7 fault_32 fplace_33) := (show M_findNotTold fault fplace rf rails = ((fun t9 => (K_findNotTold_7 t9.1 t9.2)) (M_refuse fault (6 : Int32) x27 fplace)) from hM).trans h9M
          refine W.widen (k := 0) (n := 0) (by decide) (by decide) ?_
          exact W.vret hx hb hr (fun t ht hW => ⟨⟨(), rfl, trivial, ⟨fault_32, fplace_33, hM, xB_of9 ht hW hP hK hD [2, 0, 1] (by decide +kernel) rfl⟩⟩, hS.F ht⟩) hS.2.2 dX4_findNotTold_60
      · skip
        have i_29 : ¬ (8 ≤ x26.toInt) := fun h9 => c_29 ((ile (by decide) rfl).mpr h9)
        have hM : M_findNotTold fault fplace rf rails = (K_findNotTold_4 rf x26 (K_findNotTold_L2 fault fplace rf nhl28) x27) := (show M_findNotTold fault fplace rf rails = (if 8 ≤ x26.toInt then (K_findNotTold_3 x27 fault fplace) else (K_findNotTold_4 rf x26 (K_findNotTold_L2 fault fplace rf nhl28) x27)) from hM).trans (if_neg i_29)
        refine lv_aload_n hx hb dX4_findNotTold_18 rfl (lv_at hl 2 rfl) ?_
        refine va_get (D := D) (ci := 3) (v := .ref rfa) (C := RX4) (T := TX4) (N := 13) hx hb hts (fun w h => tbC w (tbfX4 w h)) hown hK hP 0 rfl rfl 1 (by decide) (hts (.fieldLink RX4 19 "PowerRails$Reader" "firstUse" "[I") (tbC _ wd233)) (fun _ h9 => h9) rfl dX4_findNotTold_19 ?_
        refine lv_iload_n hx hb dX4_findNotTold_22 rfl (lv_at hl 0 rfl) ?_
        refine va_iald hx hb hK hP 1 0 rfl rfl (vp_in_iff.mpr ⟨by omega, by omega⟩) dX4_findNotTold_23 ?_
        refine lv_topi (fun v34 ev34 => ?_)
        refine lv_bipush (v := (-4)) hx hb dX4_findNotTold_24 (by decide) ?_
        refine lv_icmp_eq (tgt := 40) hx hb dX4_findNotTold_26 (by decide) (fun c_35 => ?_) (fun c_35 => ?_)
        · skip
          have i_35 : v34.toInt = (-4) := (ieq rfl (by decide)).mp c_35
          have hM : M_findNotTold fault fplace rf rails = (K_findNotTold_8 (K_findNotTold_L2 fault fplace rf nhl28) x26 x27) := (show M_findNotTold fault fplace rf rails = (if v34.toInt = (-4) then (K_findNotTold_8 (K_findNotTold_L2 fault fplace rf nhl28) x26 x27) else (K_findNotTold_9 (K_findNotTold_L2 fault fplace rf nhl28) x26 rf x27)) from (by rw [ev34]; exact hM)).trans (if_pos i_35)
          obtain ⟨x36, ex36⟩ : ∃ y : Int32, y = x26 + 1 := ⟨_, rfl⟩
          have tx36 : x36.toInt = (x26.toInt + 1) := (congrArg Int32.toInt ex36).trans (xadd rfl (by decide) (by omega) (by omega))
          refine lv_iinc (v := x36) (lv' := [(2, .int x36), (1, .int x27), (0, .ref rd)]) hx hb dX4_findNotTold_40 hl (k := 0) rfl (by rw [ex36]; rfl) (by decide) rfl (fun ls hl => ?_)
          refine lv_goto (tgt := 12) hx hb dX4_findNotTold_43 (by decide) ?_
          exact ihhl28 x36 x27 (by omega) (xrng tx36 (by omega) (by omega)) (by rw [ex36]; exact hM) _ _ hP hD hS ls (lv_sub hl [0, 1, 2] rfl)
        · skip
          have i_35 : ¬ (v34.toInt = (-4)) := fun h9 => c_35 ((ieq rfl (by decide)).mpr h9)
          have hM : M_findNotTold fault fplace rf rails = (K_findNotTold_9 (K_findNotTold_L2 fault fplace rf nhl28) x26 rf x27) := (show M_findNotTold fault fplace rf rails = (if v34.toInt = (-4) then (K_findNotTold_8 (K_findNotTold_L2 fault fplace rf nhl28) x26 x27) else (K_findNotTold_9 (K_findNotTold_L2 fault fplace rf nhl28) x26 rf x27)) from (by rw [ev34]; exact hM)).trans (if_neg i_35)
          refine lv_iload_n hx hb dX4_findNotTold_29 rfl (lv_at hl 1 rfl) ?_
          refine lv_aload_n hx hb dX4_findNotTold_30 rfl (lv_at hl 2 rfl) ?_
          refine va_get (D := D) (ci := 3) (v := .ref rfa) (C := RX4) (T := TX4) (N := 13) hx hb hts (fun w h => tbC w (tbfX4 w h)) hown hK hP 0 rfl rfl 1 (by decide) (hts (.fieldLink RX4 19 "PowerRails$Reader" "firstUse" "[I") (tbC _ wd233)) (fun _ h9 => h9) rfl dX4_findNotTold_31 ?_
          refine lv_iload_n hx hb dX4_findNotTold_34 rfl (lv_at hl 0 rfl) ?_
          refine va_iald hx hb hK hP 1 0 rfl rfl (vp_in_iff.mpr ⟨by omega, by omega⟩) dX4_findNotTold_35 ?_
          refine lv_topi (fun v37 ev37 => ?_)
          have qv37 : v37.toInt = v34.toInt := by rw [ev37, ev34]
          refine va_mmin hx hb (hml.trans hl.1.symm) hown (hts (.methodLink RX4 211 Lib.Math.min.name) (tbC _ wd392)) (hts (.static Lib.Math.min.name) (tbC _ wd393)) (hts (.initialized "java/lang/Math") (tbC _ wd67)) (hts (.code Lib.Math.min.name Lib.Math.min.code 2 (some .int)) (tbC _ wd1003)) (Nat.le_of_ble_eq_true rfl) (Nat.le_of_ble_eq_true rfl) (Nat.le_of_ble_eq_true rfl) (Nat.le_of_ble_eq_true rfl) dX4_findNotTold_36 ?_
          refine lv_topi (fun v38 ev38 => ?_)
          have rv38 : (v38.toInt = x27.toInt ∨ v38.toInt = v34.toInt) ∧ v38.toInt ≤ x27.toInt ∧ v38.toInt ≤ v34.toInt := xminL ev38 (show (x27 : Int32).toInt = x27.toInt from rfl) (show (v37 : Int32).toInt = v34.toInt from qv37)
          refine lv_istore_n (lv' := [(1, .int v38), (2, .int x26), (0, .ref rd)]) hx hb dX4_findNotTold_39 rfl hl (by decide) rfl (fun ls hl => ?_)
          obtain ⟨x39, ex39⟩ : ∃ y : Int32, y = x26 + 1 := ⟨_, rfl⟩
          have tx39 : x39.toInt = (x26.toInt + 1) := (congrArg Int32.toInt ex39).trans (xadd rfl (by decide) (by omega) (by omega))
          refine lv_iinc (v := x39) (lv' := [(2, .int x39), (1, .int v38), (0, .ref rd)]) hx hb dX4_findNotTold_40 hl (k := 1) rfl (by rw [ex39]; rfl) (by decide) rfl (fun ls hl => ?_)
          refine lv_goto (tgt := 12) hx hb dX4_findNotTold_43 (by decide) ?_
          exact ihhl28 x39 v38 (by omega) (xrng tx39 (by omega) (by omega)) (by rw [ex39, ev38, ev37]; exact hM) _ _ hP hD hS ls (lv_sub hl [0, 1, 2] rfl)
  exact hl28 100000 rails 400 (by have z9_0 : (400 : Int32).toInt = 400 := (by decide); omega) (xrng rfl (by omega) (by omega)) hM _ _ hP hD hS ls (lv_sub hl [0, 1, 2] rfl)
