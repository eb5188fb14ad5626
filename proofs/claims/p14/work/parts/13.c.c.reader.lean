def K_readRule_8 (place : Int32) (kind : Int32) (from_ : Int32) (value : Int32) (told : Int32) (fault_6 : Int32) (fplace_7 : Int32) (limit : Int32) (retry : Int32) (behind : Int32) : (Int32) × (Int32) × (Int32) × (Int32) × (Int32) × (Int32) × (Int32) × (Int32) × (Int32) × (Int32) := (place, kind, from_, value, told, fault_6, fplace_7, limit, retry, behind)
def K_readRule_6 (place : Int32) (kind : Int32) (from_ : Int32) (value : Int32) (told : Int32) (limit : Int32) (retry : Int32) (behind : Int32) (fault : Int32) (fplace : Int32) : (Int32) × (Int32) × (Int32) × (Int32) × (Int32) × (Int32) × (Int32) × (Int32) × (Int32) × (Int32) := ((fun t9 => (K_readRule_8 place kind from_ value told t9.1 t9.2 limit retry behind)) (M_refuse fault (2 : Int32) from_ fplace))
def K_readRule_11 (place_26 : Int32) (kind_27 : Int32) (from__28 : Int32) (value_29 : Int32) (told_13 : Int32) (fault_30 : Int32) (fplace_31 : Int32) (limit : Int32) (r16 : Int32) (r25 : Int32) : (Int32) × (Int32) × (Int32) × (Int32) × (Int32) × (Int32) × (Int32) × (Int32) × (Int32) × (Int32) := (place_26, kind_27, from__28, value_29, told_13, fault_30, fplace_31, limit, r16, r25)
def K_readRule_10 (told_13 : Int32) (limit : Int32) (r16 : Int32) (fault_21 : Int32) (kind_18 : Int32) (value_20 : Int32) (place_17 : Int32) (from__19 : Int32) (fplace_22 : Int32) (tl : Int32) (tb : Nat → Int32) : (Int32) × (Int32) × (Int32) × (Int32) × (Int32) × (Int32) × (Int32) × (Int32) × (Int32) × (Int32) := ((fun t9 => (K_readRule_11 t9.2.1 t9.2.2.1 t9.2.2.2.1 t9.2.2.2.2.1 told_13 t9.2.2.2.2.2.1 t9.2.2.2.2.2.2 limit r16 t9.1)) (M_takeNumber fault_21 kind_18 value_20 (1 : Int32) place_17 from__19 fplace_22 (99 : Int32) tl tb))
def K_readRule_9 (told_13 : Int32) (limit : Int32) (tl : Int32) (tb : Nat → Int32) (fault_14 : Int32) (kind_10 : Int32) (value_12 : Int32) (place_9 : Int32) (from__11 : Int32) (fplace_15 : Int32) : (Int32) × (Int32) × (Int32) × (Int32) × (Int32) × (Int32) × (Int32) × (Int32) × (Int32) × (Int32) := ((fun t9 => (K_readRule_10 told_13 limit t9.1 t9.2.2.2.2.2.1 t9.2.2.1 t9.2.2.2.2.1 t9.2.1 t9.2.2.2.1 t9.2.2.2.2.2.2 tl tb)) (M_takeNumber fault_14 kind_10 value_12 (0 : Int32) place_9 from__11 fplace_15 (9 : Int32) tl tb))
def K_readRule_7 (limit : Int32) (tl : Int32) (tb : Nat → Int32) (told : Int32) (fault : Int32) (fplace : Int32) (kind : Int32) (place : Int32) (from_ : Int32) (value : Int32) : (Int32) × (Int32) × (Int32) × (Int32) × (Int32) × (Int32) × (Int32) × (Int32) × (Int32) × (Int32) := ((fun t9 => (K_readRule_9 t9.2.2.2.2.1 limit tl tb t9.2.2.2.2.2.1 t9.2.1 t9.2.2.2.1 t9.1 t9.2.2.1 t9.2.2.2.2.2.2)) (M_takeOnce told (2 : Int32) tl tb fault fplace kind place from_ value))
def K_readRule_5 (r3 : Int32) (place : Int32) (kind : Int32) (from_ : Int32) (value : Int32) (told : Int32) (limit : Int32) (retry : Int32) (behind : Int32) (fault : Int32) (fplace : Int32) (tl : Int32) (tb : Nat → Int32) : (Int32) × (Int32) × (Int32) × (Int32) × (Int32) × (Int32) × (Int32) × (Int32) × (Int32) × (Int32) := (if r3.toInt = 0 then (K_readRule_6 place kind from_ value told limit retry behind fault fplace) else (K_readRule_7 limit tl tb told fault fplace kind place from_ value))
def K_readRule_3 (place : Int32) (kind : Int32) (from_ : Int32) (value : Int32) (told : Int32) (limit : Int32) (retry : Int32) (behind : Int32) (fault : Int32) (fplace : Int32) (tl : Int32) (tb : Nat → Int32) : (Int32) × (Int32) × (Int32) × (Int32) × (Int32) × (Int32) × (Int32) × (Int32) × (Int32) × (Int32) := ((fun t9 => (K_readRule_5 t9 place kind from_ value told limit retry behind fault fplace tl tb)) (M_isWord kind place from_ 5 tb 8))
def K_readRule_13 (place_43 : Int32) (kind_44 : Int32) (from__45 : Int32) (value_46 : Int32) (told_39 : Int32) (fault_47 : Int32) (fplace_48 : Int32) (r42 : Int32) (retry : Int32) (behind : Int32) : (Int32) × (Int32) × (Int32) × (Int32) × (Int32) × (Int32) × (Int32) × (Int32) × (Int32) × (Int32) := (place_43, kind_44, from__45, value_46, told_39, fault_47, fplace_48, r42, retry, behind)
def K_readRule_12 (told_39 : Int32) (retry : Int32) (behind : Int32) (fault_40 : Int32) (kind_36 : Int32) (value_38 : Int32) (place_35 : Int32) (from__37 : Int32) (fplace_41 : Int32) (tl : Int32) (tb : Nat → Int32) : (Int32) × (Int32) × (Int32) × (Int32) × (Int32) × (Int32) × (Int32) × (Int32) × (Int32) × (Int32) := ((fun t9 => (K_readRule_13 t9.2.1 t9.2.2.1 t9.2.2.2.1 t9.2.2.2.2.1 told_39 t9.2.2.2.2.2.1 t9.2.2.2.2.2.2 t9.1 retry behind)) (M_takeNumber fault_40 kind_36 value_38 (1 : Int32) place_35 from__37 fplace_41 (999 : Int32) tl tb))
def K_readRule_4 (retry : Int32) (behind : Int32) (tl : Int32) (tb : Nat → Int32) (told : Int32) (fault : Int32) (fplace : Int32) (kind : Int32) (place : Int32) (from_ : Int32) (value : Int32) : (Int32) × (Int32) × (Int32) × (Int32) × (Int32) × (Int32) × (Int32) × (Int32) × (Int32) × (Int32) := ((fun t9 => (K_readRule_12 t9.2.2.2.2.1 retry behind t9.2.2.2.2.2.1 t9.2.1 t9.2.2.2.1 t9.1 t9.2.2.1 t9.2.2.2.2.2.2 tl tb)) (M_takeOnce told (1 : Int32) tl tb fault fplace kind place from_ value))
def K_readRule_2 (r1 : Int32) (place : Int32) (kind : Int32) (from_ : Int32) (value : Int32) (told : Int32) (limit : Int32) (retry : Int32) (behind : Int32) (fault : Int32) (fplace : Int32) (tl : Int32) (tb : Nat → Int32) : (Int32) × (Int32) × (Int32) × (Int32) × (Int32) × (Int32) × (Int32) × (Int32) × (Int32) × (Int32) := (if r1.toInt = 0 then (K_readRule_3 place kind from_ value told limit retry behind fault fplace tl tb) else (K_readRule_4 retry behind tl tb told fault fplace kind place from_ value))
def K_readRule_1 (place : Int32) (kind : Int32) (from_ : Int32) (value : Int32) (told : Int32) (limit : Int32) (retry : Int32) (behind : Int32) (fault : Int32) (fplace : Int32) (tl : Int32) (tb : Nat → Int32) : (Int32) × (Int32) × (Int32) × (Int32) × (Int32) × (Int32) × (Int32) × (Int32) × (Int32) × (Int32) := ((fun t9 => (K_readRule_2 t9 place kind from_ value told limit retry behind fault fplace tl tb)) (M_isWord kind place from_ 5 tb 7))
def M_readRule (place : Int32) (kind : Int32) (from_ : Int32) (value : Int32) (told : Int32) (limit : Int32) (retry : Int32) (behind : Int32) (fault : Int32) (fplace : Int32) (tl : Int32) (tb : Nat → Int32) : (Int32) × (Int32) × (Int32) × (Int32) × (Int32) × (Int32) × (Int32) × (Int32) × (Int32) × (Int32) := (K_readRule_1 place kind from_ value told limit retry behind fault fplace tl tb)
abbrev W_readRule (cI cJ cZ cG cH : ClassId) (rd : Nat) (tp : Nat) (rfa : Nat) (rya : Nat) (rla : Nat) (pl : Nat) (place : Int32) (kind : Int32) (from_ : Int32) (value : Int32) (told : Int32) (depth : Int32) (fault : Int32) (fplace : Int32) (tba : Nat) (tl : Int32) (tb : Nat → Int32) (pna : Nat) (pta : Nat) (rails : Int32) (limit : Int32) (retry : Int32) (behind : Int32) (adK : Nat → Nat) (adV : Nat → Nat) (tI : Nat) : va_W := [oX4 rd tp rfa rya rla pl place kind from_ value told depth fault fplace, oX8 tp tba tl, oAI tba cI 400 tb, oX3 pl pna pta rails limit retry behind]
abbrev Q_readRule (D : va_G) (cI cJ cZ cG cH : ClassId) (rd : Nat) (tp : Nat) (rfa : Nat) (rya : Nat) (rla : Nat) (pl : Nat) (place : Int32) (kind : Int32) (from_ : Int32) (value : Int32) (told : Int32) (depth : Int32) (fault : Int32) (fplace : Int32) (tba : Nat) (tl : Int32) (tb : Nat → Int32) (pna : Nat) (pta : Nat) (rails : Int32) (limit : Int32) (retry : Int32) (behind : Int32) (adK : Nat → Nat) (adV : Nat → Nat) (tI : Nat) (A : Nat → Prop) : Array Value → State → Outcome → State → Prop := va_Qv (fun (_ : Unit) => True) (fun _ t => ∃ (place9 : Int32) (kind9 : Int32) (from_9 : Int32) (value9 : Int32) (told9 : Int32) (fault9 : Int32) (fplace9 : Int32) (limit9 : Int32) (retry9 : Int32) (behind9 : Int32), (0 ≤ place9.toInt ∧ place9.toInt ≤ 400) ∧ (0 ≤ from_9.toInt ∧ from_9.toInt ≤ 400) ∧ (M_readRule place kind from_ value told limit retry behind fault fplace tl tb = (place9, kind9, from_9, value9, told9, fault9, fplace9, limit9, retry9, behind9)) ∧ xB D (tyL cI cJ cZ cG cH) [oX4 rd tp rfa rya rla pl place9 kind9 from_9 value9 told9 depth fault9 fplace9, oX8 tp tba tl, oAI tba cI 400 tb, oX3 pl pna pta rails limit9 retry9 behind9] A t) A
abbrev rm_readRule : Room := { frames := 5, cells := 0, slots := 0, locals := 107 }
set_option maxRecDepth 100000 in
set_option maxHeartbeats 40000000 in
theorem c_readRule (l : Launch) (D : va_G) (cI cJ cZ cG cH : ClassId) (sz : Nat) (rd : Nat) (tp : Nat) (rfa : Nat) (rya : Nat) (rla : Nat) (pl : Nat) (place : Int32) (kind : Int32) (from_ : Int32) (value : Int32) (told : Int32) (depth : Int32) (fault : Int32) (fplace : Int32) (tba : Nat) (tl : Int32) (tb : Nat → Int32) (pna : Nat) (pta : Nat) (rails : Int32) (limit : Int32) (retry : Int32) (behind : Int32) (adK : Nat → Nat) (adV : Nat → Nat) (tI : Nat) (h_place : 0 ≤ place.toInt ∧ place.toInt ≤ 400) (h_from_ : 0 ≤ from_.toInt ∧ from_.toInt ≤ 400) (h_depth : 0 ≤ depth.toInt ∧ depth.toInt ≤ 6) (h_tl : 0 ≤ tl.toInt ∧ tl.toInt ≤ 400) (h_rails : 0 ≤ rails.toInt ∧ rails.toInt ≤ 8) : Met l yX4_readRule (wt yX4_readRule cX4_readRule 1 none) rm_readRule (xPcE [.ref rd] D (tyL cI cJ cZ cG cH) (W_readRule cI cJ cZ cG cH rd tp rfa rya rla pl place kind from_ value told depth fault fplace tba tl tb pna pta rails limit retry behind adK adV tI) adK adV tI sz) (Q_readRule D cI cJ cZ cG cH rd tp rfa rya rla pl place kind from_ value told depth fault fplace tba tl tb pna pta rails limit retry behind adK adV tI (va_A (W_readRule cI cJ cZ cG cH rd tp rfa rya rla pl place kind from_ value told depth fault fplace tba tl tb pna pta rails limit retry behind adK adV tI) sz)) 0 0 (va_A (W_readRule cI cJ cZ cG cH rd tp rfa rya rla pl place kind from_ value told depth fault fplace tba tl tb pna pta rails limit retry behind adK adV tI) sz) := by
  refine xMetE (cc := cX4_readRule) (maxL := 1) (ret := none) (Qf := Q_readRule D cI cJ cZ cG cH rd tp rfa rya rla pl place kind from_ value told depth fault fplace tba tl tb pna pta rails limit retry behind adK adV tI) (by decide) rfl (Nat.le_of_ble_eq_true rfl) ?_
  intro p e s m below meth c ls A hx hb hr hml hts hown hlocks hnm hsz hP hK hD hA hS hl hE
  have hown : s.vm.findClass RX4 = some m.cls := hown
  have hP : va_P D vwCl [oX4 rd tp rfa rya rla pl place kind from_ value told depth fault fplace, oX8 tp tba tl, oAI tba cI 400 tb, oX3 pl pna pta rails limit retry behind] s.heap := hP
  have hD : va_D A [oX4 rd tp rfa rya rla pl place kind from_ value told depth fault fplace, oX8 tp tba tl, oAI tba cI 400 tb, oX3 pl pna pta rails limit retry behind] := hD
  have hl : lv_has ls 1 [(0, .ref rd)] := hl
  have hM : M_readRule place kind from_ value told limit retry behind fault fplace tl tb = (K_readRule_1 place kind from_ value told limit retry behind fault fplace tl tb) := rfl
  refine lv_aload_n hx hb dX4_readRule_0 rfl (lv_at hl 0 rfl) ?_
  refine va_ldcS hx hb hown (hE.R 7 (by decide)) dX4_readRule_1 ?_
  obtain ⟨hPc, hDc, hFc, hC9⟩ := xpk (wc := W_isWord cI cJ cZ cG cH rd tp rfa rya rla pl place kind from_ value told depth fault fplace tba tl tb adK adV tI 7 5) hP hD hS hA [0, 1, 2] (by decide +kernel) rfl
  refine va_calli (va_runV (As := [.ref (adK 7)]) (rest := []) ⟨hx, hb, hml, hown, hts⟩ (c_isWord l D cI cJ cZ cG cH s.heap.size rd tp rfa rya rla pl place kind from_ value told depth fault fplace tba tl tb adK adV tI 7 5 (xrng rfl (by omega) (by omega)) (xrng rfl (by omega) (by omega)) (xrng rfl (by omega) (by omega)) (xrng rfl (by omega) (by omega)) (by first | decide | assumption) (by first | decide | assumption) (by first | decide | assumption)) (cwV 1 hts (xGV tbC wd288 wd289 wd290 wd60 wd970) rfl rfl rfl (by decide +kernel) ⟨Nat.le_of_ble_eq_true rfl, Nat.le_of_ble_eq_true rfl⟩) ⟨xPcE_blind, va_recv hK hPc (ci := 3) (q0 := 0) rfl rfl, xPcE_pre hPc hK hDc hE hS hFc⟩ rfl rfl hl.1 rfl (lv_room (Nat.le_of_ble_eq_true rfl)) dX4_readRule_3 ⟨Nat.le_of_ble_eq_true rfl, Nat.le_of_ble_eq_true rfl⟩) hS (fun q _ h => hFc q h) hFc (fun r1 u t H1 locs ht hvm hw1 hB hz1 hk1 hS => ?_)
  obtain ⟨hru9, hw1⟩ := hw1
  subst hru9
  obtain ⟨hf1_0, hP1, hK1, hD1⟩ := hB
  rw [ht] at hP1
  obtain ⟨hP, hD⟩ : xPD D A [oX3 pl pna pta rails limit retry behind, oX4 rd tp rfa rya rla pl place kind from_ value told depth fault fplace, oX8 tp tba tl, oAI tba cI 400 tb] H1 := xjn 1 hP hD [0, 1, 2] [3] hC9 rfl (by decide +kernel) (by decide +kernel) hk1 hFc hP1 hD1
  generalize H1 = H at hP hS ⊢
  have hf1_0 : M_isWord kind place from_ 5 tb 7 = (r1) := hf1_0
  have hw1 : 0 ≤ r1.toInt ∧ r1.toInt ≤ 1 := hw1
  have h9M := congrArg (fun t9 => (K_readRule_2 t9 place kind from_ value told limit retry behind fault fplace tl tb)) hf1_0
  have hM : M_readRule place kind from_ value told limit retry behind fault fplace tl tb = (K_readRule_2 r1 place kind from_ value told limit retry behind fault fplace tl tb) := (show M_readRule place kind from_ value told limit retry behind fault fplace tl tb = ((fun t9 => (K_readRule_2 t9 place kind from_ value told limit retry behind fault fplace tl tb)) (M_isWord kind place from_ 5 tb 7)) from hM).trans h9M
  refine lv_if_eq (tgt := 32) hx hb dX4_readRule_6 (by decide) (fun c_2 => ?_) (fun c_2 => ?_)
  · skip
    have i_2 : r1.toInt = 0 := (ieq rfl (by decide)).mp c_2
    have hM : M_readRule place kind from_ value told limit retry behind fault fplace tl tb = (K_readRule_3 place kind from_ value told limit retry behind fault fplace tl tb) := (show M_readRule place kind from_ value told limit retry behind fault fplace tl tb = (if r1.toInt = 0 then (K_readRule_3 place kind from_ value told limit retry behind fault fplace tl tb) else (K_readRule_4 retry behind tl tb told fault fplace kind place from_ value)) from hM).trans (if_pos i_2)
    refine lv_aload_n hx hb dX4_readRule_32 rfl (lv_at hl 0 rfl) ?_
    refine va_ldcS hx hb hown (hE.R 8 (by decide)) dX4_readRule_33 ?_
    obtain ⟨hPc, hDc, hFc, hC9⟩ := xpk (wc := W_isWord cI cJ cZ cG cH rd tp rfa rya rla pl place kind from_ value told depth fault fplace tba tl tb adK adV tI 8 5) hP hD hS hA [1, 2, 3] (by decide +kernel) rfl
    refine va_calli (va_runV (As := [.ref (adK 8)]) (rest := []) ⟨hx, hb, hml, hown, hts⟩ (c_isWord l D cI cJ cZ cG cH H.size rd tp rfa rya rla pl place kind from_ value told depth fault fplace tba tl tb adK adV tI 8 5 (xrng rfl (by omega) (by omega)) (xrng rfl (by omega) (by omega)) (xrng rfl (by omega) (by omega)) (xrng rfl (by omega) (by omega)) (by first | decide | assumption) (by first | decide | assumption) (by first | decide | assumption)) (cwV 1 hts (xGV tbC wd288 wd289 wd290 wd60 wd970) rfl rfl rfl (by decide +kernel) ⟨Nat.le_of_ble_eq_true rfl, Nat.le_of_ble_eq_true rfl⟩) ⟨xPcE_blind, va_recv hK hPc (ci := 3) (q0 := 0) rfl rfl, xPcE_pre hPc hK hDc hE hS hFc⟩ rfl rfl hl.1 rfl (lv_room (Nat.le_of_ble_eq_true rfl)) dX4_readRule_35 ⟨Nat.le_of_ble_eq_true rfl, Nat.le_of_ble_eq_true rfl⟩) hS (fun q _ h => hFc q h) hFc (fun r3 u t H1 locs ht hvm hw3 hB hz1 hk1 hS => ?_)
    obtain ⟨hru9, hw3⟩ := hw3
    subst hru9
    obtain ⟨hf3_0, hP1, hK1, hD1⟩ := hB
    rw [ht] at hP1
    obtain ⟨hP, hD⟩ : xPD D A [oX3 pl pna pta rails limit retry behind, oX4 rd tp rfa rya rla pl place kind from_ value told depth fault fplace, oX8 tp tba tl, oAI tba cI 400 tb] H1 := xjn 1 hP hD [1, 2, 3] [0] hC9 rfl (by decide +kernel) (by decide +kernel) hk1 hFc hP1 hD1
    generalize H1 = H at hP hS ⊢
    have hf3_0 : M_isWord kind place from_ 5 tb 8 = (r3) := hf3_0
    have hw3 : 0 ≤ r3.toInt ∧ r3.toInt ≤ 1 := hw3
    have h9M := congrArg (fun t9 => (K_readRule_5 t9 place kind from_ value told limit retry behind fault fplace tl tb)) hf3_0
    have hM : M_readRule place kind from_ value told limit retry behind fault fplace tl tb = (K_readRule_5 r3 place kind from_ value told limit retry behind fault fplace tl tb) := (show M_readRule place kind from_ value told limit retry behind fault fplace tl tb = ((fun t9 => (K_readRule_5 t9 place kind from_ value told limit retry behind fault fplace tl tb)) (M_isWord kind place from_ 5 tb 8)) from hM).trans h9M
    refine lv_if_eq (tgt := 77) hx hb dX4_readRule_38 (by decide) (fun c_4 => ?_) (fun c_4 => ?_)
    · skip
      have i_4 : r3.toInt = 0 := (ieq rfl (by decide)).mp c_4
      have hM : M_readRule place kind from_ value told limit retry behind fault fplace tl tb = (K_readRule_6 place kind from_ value told limit retry behind fault fplace) := (show M_readRule place kind from_ value told limit retry behind fault fplace tl tb = (if r3.toInt = 0 then (K_readRule_6 place kind from_ value told limit retry behind fault fplace) else (K_readRule_7 limit tl tb told fault fplace kind place from_ value)) from hM).trans (if_pos i_4)
      refine lv_aload_n hx hb dX4_readRule_77 rfl (lv_at hl 0 rfl) ?_
      refine lv_iconst (v := 2) hx hb dX4_readRule_78 (by decide) ?_
      refine lv_aload_n hx hb dX4_readRule_79 rfl (lv_at hl 0 rfl) ?_
      refine va_get (D := D) (ci := 3) (v := .int from_) (C := RX4) (T := TX4) (N := 13) hx hb hts (fun w h => tbC w (tbfX4 w h)) hown hK hP 1 rfl rfl 7 (by decide) (hts (.fieldLink RX4 88 "PowerRails$Reader" "from" "I") (tbC _ wd239)) (fun _ h9 => h9) rfl dX4_readRule_80 ?_
      obtain ⟨hPc, hDc, hFc, hC9⟩ := xpk (wc := W_refuse cI cJ cZ cG cH rd (2 : Int32) from_ tp rfa rya rla pl place kind from_ value told depth fault fplace) hP hD hS hA [1] (by decide +kernel) rfl
      refine va_callv (va_runV (As := [.int 2, .int from_]) (rest := []) ⟨hx, hb, hml, hown, hts⟩ (c_refuse l D cI cJ cZ cG cH H.size rd (2 : Int32) from_ tp rfa rya rla pl place kind from_ value told depth fault fplace (xrng rfl (by omega) (by omega)) (xrng rfl (by omega) (by omega)) (xrng rfl (by omega) (by omega))) (cwV 2 hts (xGV tbC wd285 wd286 wd287 wd60 wd969) rfl rfl rfl (by decide +kernel) ⟨Nat.le_of_ble_eq_true rfl, Nat.le_of_ble_eq_true rfl⟩) ⟨xPc_blind, va_recv hK hPc (ci := 3) (q0 := 0) rfl rfl, xPc_pre hPc hK hDc⟩ rfl rfl hl.1 rfl (lv_room (Nat.le_of_ble_eq_true rfl)) dX4_readRule_83 ⟨Nat.le_of_ble_eq_true rfl, Nat.le_of_ble_eq_true rfl⟩) hS (fun q _ h => hFc q h) hFc (fun u t H1 locs ht hvm hw5 hB hz1 hk1 hS => ?_)
      obtain ⟨fault_6, fplace_7, hf7_0, hP1, hK1, hD1⟩ := hB
      rw [ht] at hP1
      obtain ⟨hP, hD⟩ : xPD D A [oX3 pl pna pta rails limit retry behind, oX8 tp tba tl, oAI tba cI 400 tb, oX4 rd tp rfa rya rla pl place kind from_ value told depth fault_6 fplace_7] H1 := xjn 3 hP hD [1] [0, 2, 3] hC9 rfl (by decide +kernel) (by decide +kernel) hk1 hFc hP1 hD1
      generalize H1 = H at hP hS ⊢
      have hf7_0 : M_refuse fault (2 : Int32) from_ fplace = (fault_6, fplace_7) := hf7_0
      have h9M := congrArg (fun t9 => (K_readRule_8 place kind from_ value told t9.1 t9.2 limit retry behind)) hf7_0
      have hM : M_readRule place kind from_ value told limit retry behind fault fplace tl tb = (K_readRule_8 place kind from_ value told fault_6 fplace_7 limit retry behind) := (show M_readRule place kind from_ value told limit retry behind fault fplace tl tb = ((fun t9 => (K_readRule_8 place kind from_ value told t9.1 t9.2 limit retry behind)) (M_refuse fault (2 : Int32) from_ fplace)) from hM).trans h9M
      refine W.widen (k := 0) (n := 0) (by decide) (by decide) ?_
      exact W.vret hx hb hr (fun t ht hW => ⟨⟨(), rfl, trivial, ⟨place, kind, from_, value, told, fault_6, fplace_7, limit, retry, behind, (xrng rfl (by omega) (by omega)), (xrng rfl (by omega) (by omega)), hM, xB_of9 ht hW hP hK hD [3, 1, 2, 0] (by decide +kernel) rfl⟩⟩, hS.F ht⟩) hS.2.2 dX4_readRule_86
    · skip
      have i_4 : ¬ (r3.toInt = 0) := fun h9 => c_4 ((ieq rfl (by decide)).mpr h9)
      have hM : M_readRule place kind from_ value told limit retry behind fault fplace tl tb = (K_readRule_7 limit tl tb told fault fplace kind place from_ value) := (show M_readRule place kind from_ value told limit retry behind fault fplace tl tb = (if r3.toInt = 0 then (K_readRule_6 place kind from_ value told limit retry behind fault fplace) else (K_readRule_7 limit tl tb told fault fplace kind place from_ value)) from hM).trans (if_neg i_4)
      refine lv_aload_n hx hb dX4_readRule_41 rfl (lv_at hl 0 rfl) ?_
      refine lv_iconst (v := 2) hx hb dX4_readRule_42 (by decide) ?_
      obtain ⟨hPc, hDc, hFc, hC9⟩ := xpk (wc := W_takeOnce cI cJ cZ cG cH rd (2 : Int32) tp rfa rya rla pl place kind from_ value told depth fault fplace tba tl tb) hP hD hS hA [1, 2, 3] (by decide +kernel) rfl
      refine va_callv (va_runV (As := [.int 2]) (rest := []) ⟨hx, hb, hml, hown, hts⟩ (c_takeOnce l D cI cJ cZ cG cH H.size rd (2 : Int32) tp rfa rya rla pl place kind from_ value told depth fault fplace tba tl tb (xrng rfl (by omega) (by omega)) (xrng rfl (by omega) (by omega)) (xrng rfl (by omega) (by omega)) (xrng rfl (by omega) (by omega))) (cwV 1 hts (xGV tbC wd346 wd347 wd348 wd60 wd989) rfl rfl rfl (by decide +kernel) ⟨Nat.le_of_ble_eq_true rfl, Nat.le_of_ble_eq_true rfl⟩) ⟨xPc_blind, va_recv hK hPc (ci := 3) (q0 := 0) rfl rfl, xPc_pre hPc hK hDc⟩ rfl rfl hl.1 rfl (lv_room (Nat.le_of_ble_eq_true rfl)) dX4_readRule_43 ⟨Nat.le_of_ble_eq_true rfl, Nat.le_of_ble_eq_true rfl⟩) hS (fun q _ h => hFc q h) hFc (fun u t H1 locs ht hvm hw8 hB hz1 hk1 hS => ?_)
      revert hB
      refine xex7r (fun place_9 kind_10 from__11 value_12 told_13 fault_14 fplace_15 => ?_)
      refine xan6r (fun hf15_0 hf15_1 hf15_2 hP1 hK1 hD1 => ?_)
      rw [ht] at hP1
      obtain ⟨hP, hD⟩ : xPD D A [oX3 pl pna pta rails limit retry behind, oX4 rd tp rfa rya rla pl place_9 kind_10 from__11 value_12 told_13 depth fault_14 fplace_15, oX8 tp tba tl, oAI tba cI 400 tb] H1 := xjn 1 hP hD [1, 2, 3] [0] hC9 rfl (by decide +kernel) (by decide +kernel) hk1 hFc hP1 hD1
      generalize H1 = H at hP hS ⊢
      have hf15_0 : 0 ≤ place_9.toInt ∧ place_9.toInt ≤ 400 := hf15_0
      have hf15_1 : 0 ≤ from__11.toInt ∧ from__11.toInt ≤ 400 := hf15_1
      have hf15_2 : M_takeOnce told (2 : Int32) tl tb fault fplace kind place from_ value = (place_9, kind_10, from__11, value_12, told_13, fault_14, fplace_15) := hf15_2
      have h9M := congrArg (fun t9 => (K_readRule_9 t9.2.2.2.2.1 limit tl tb t9.2.2.2.2.2.1 t9.2.1 t9.2.2.2.1 t9.1 t9.2.2.1 t9.2.2.2.2.2.2)) hf15_2
      have hM : M_readRule place kind from_ value told limit retry behind fault fplace tl tb = (K_readRule_9 told_13 limit tl tb fault_14 kind_10 value_12 place_9 from__11 fplace_15) := (show M_readRule place kind from_ value told limit retry behind fault fplace tl tb = ((fun t9 => (K_readRule_9 t9.2.2.2.2.1 limit tl tb t9.2.2.2.2.2.1 t9.2.1 t9.2.2.2.1 t9.1 t9.2.2.1 t9.2.2.2.2.2.2)) (M_takeOnce told (2 : Int32) tl tb fault fplace kind place from_ value)) from hM).trans h9M
      refine lv_aload_n hx hb dX4_readRule_46 rfl (lv_at hl 0 rfl) ?_
      refine va_get (D := D) (ci := 3) (v := .ref pl) (C := RX4) (T := TX4) (N := 13) hx hb hts (fun w h => tbC w (tbfX4 w h)) hown hK hP 1 rfl rfl 4 (by decide) (hts (.fieldLink RX4 15 "PowerRails$Reader" "plan" "LPowerRails$Plan;") (tbC _ wd236)) (fun _ h9 => h9) rfl dX4_readRule_47 ?_
      refine lv_aload_n hx hb dX4_readRule_50 rfl (lv_at hl 0 rfl) ?_
      refine lv_iconst (v := 0) hx hb dX4_readRule_51 (by decide) ?_
      refine lv_bipush (v := 9) hx hb dX4_readRule_52 (by decide) ?_
      obtain ⟨hPc, hDc, hFc, hC9⟩ := xpk (wc := W_takeNumber cI cJ cZ cG cH rd (0 : Int32) (9 : Int32) tp rfa rya rla pl place_9 kind_10 from__11 value_12 told_13 depth fault_14 fplace_15 tba tl tb) hP hD hS hA [1, 2, 3] (by decide +kernel) rfl
      refine va_calli (va_runV (As := [.int 0, .int 9]) (rest := [.ref pl]) ⟨hx, hb, hml, hown, hts⟩ (c_takeNumber l D cI cJ cZ cG cH H.size rd (0 : Int32) (9 : Int32) tp rfa rya rla pl place_9 kind_10 from__11 value_12 told_13 depth fault_14 fplace_15 tba tl tb (xrng rfl (by omega) (by omega)) (xrng rfl (by omega) (by omega)) (xrng rfl (by omega) (by omega)) (xrng rfl (by omega) (by omega))) (cwV 2 hts (xGV tbC wd339 wd340 wd341 wd60 wd987) rfl rfl rfl (by decide +kernel) ⟨Nat.le_of_ble_eq_true rfl, Nat.le_of_ble_eq_true rfl⟩) ⟨xPc_blind, va_recv hK hPc (ci := 3) (q0 := 0) rfl rfl, xPc_pre hPc hK hDc⟩ rfl rfl hl.1 rfl (lv_room (Nat.le_of_ble_eq_true rfl)) dX4_readRule_54 ⟨Nat.le_of_ble_eq_true rfl, Nat.le_of_ble_eq_true rfl⟩) hS (fun q _ h => hFc q h) hFc (fun r16 u t H1 locs ht hvm hw16 hB hz1 hk1 hS => ?_)
      obtain ⟨hru9, hw16⟩ := hw16
      subst hru9
      revert hB
      refine xex6r (fun place_17 kind_18 from__19 value_20 fault_21 fplace_22 => ?_)
      refine xan6r (fun hf22_0 hf22_1 hf22_2 hP1 hK1 hD1 => ?_)
      rw [ht] at hP1
      obtain ⟨hP, hD⟩ : xPD D A [oX3 pl pna pta rails limit retry behind, oX4 rd tp rfa rya rla pl place_17 kind_18 from__19 value_20 told_13 depth fault_21 fplace_22, oX8 tp tba tl, oAI tba cI 400 tb] H1 := xjn 1 hP hD [1, 2, 3] [0] hC9 rfl (by decide +kernel) (by decide +kernel) hk1 hFc hP1 hD1
      generalize H1 = H at hP hS ⊢
      have hf22_0 : 0 ≤ place_17.toInt ∧ place_17.toInt ≤ 400 := hf22_0
      have hf22_1 : 0 ≤ from__19.toInt ∧ from__19.toInt ≤ 400 := hf22_1
      have hf22_2 : M_takeNumber fault_14 kind_10 value_12 (0 : Int32) place_9 from__11 fplace_15 (9 : Int32) tl tb = (r16, place_17, kind_18, from__19, value_20, fault_21, fplace_22) := hf22_2
      have hw16 : (0 : Int32).toInt ≤ r16.toInt ∧ (r16.toInt ≤ (0 : Int32).toInt ∨ r16.toInt ≤ (9 : Int32).toInt) := hw16
      have ez23 : (0 : Int32).toInt = 0 := by decide
      have ez24 : (9 : Int32).toInt = 9 := by decide
      have h9M := congrArg (fun t9 => (K_readRule_10 told_13 limit t9.1 t9.2.2.2.2.2.1 t9.2.2.1 t9.2.2.2.2.1 t9.2.1 t9.2.2.2.1 t9.2.2.2.2.2.2 tl tb)) hf22_2
      have hM : M_readRule place kind from_ value told limit retry behind fault fplace tl tb = (K_readRule_10 told_13 limit r16 fault_21 kind_18 value_20 place_17 from__19 fplace_22 tl tb) := (show M_readRule place kind from_ value told limit retry behind fault fplace tl tb = ((fun t9 => (K_readRule_10 told_13 limit t9.1 t9.2.2.2.2.2.1 t9.2.2.1 t9.2.2.2.2.1 t9.2.1 t9.2.2.2.1 t9.2.2.2.2.2.2 tl tb)) (M_takeNumber fault_14 kind_10 value_12 (0 : Int32) place_9 from__11 fplace_15 (9 : Int32) tl tb)) from hM).trans h9M
      refine va_put (D := D) (ci := 2) (v := .int r16) (ty := .int) (C := RX3) (T := TX3) (N := 6) hx hb hts (fun w h => tbC w (tbfX3 w h)) tyX3 tyX3_ok nmX3 hown hK hP hD hS 0 rfl rfl 4 (by decide) (hts (.fieldLink RX4 133 "PowerRails$Plan" "retry" "I") (tbC _ wd220)) (fun _ h9 => h9) rfl (by decide +kernel) rfl rfl (Nat.le_of_ble_eq_true rfl) dX4_readRule_57 (fun H locs hP hD hS => ?_)
      obtain ⟨hP, hD⟩ : xPD D A [oX3 pl pna pta rails limit r16 behind, oX4 rd tp rfa rya rla pl place_17 kind_18 from__19 value_20 told_13 depth fault_21 fplace_22, oX8 tp tba tl, oAI tba cI 400 tb] H := ⟨hP, hD⟩
      refine lv_aload_n hx hb dX4_readRule_60 rfl (lv_at hl 0 rfl) ?_
      refine va_get (D := D) (ci := 3) (v := .ref pl) (C := RX4) (T := TX4) (N := 13) hx hb hts (fun w h => tbC w (tbfX4 w h)) hown hK hP 1 rfl rfl 4 (by decide) (hts (.fieldLink RX4 15 "PowerRails$Reader" "plan" "LPowerRails$Plan;") (tbC _ wd236)) (fun _ h9 => h9) rfl dX4_readRule_61 ?_
      refine lv_aload_n hx hb dX4_readRule_64 rfl (lv_at hl 0 rfl) ?_
      refine lv_iconst (v := 1) hx hb dX4_readRule_65 (by decide) ?_
      refine lv_bipush (v := 99) hx hb dX4_readRule_66 (by decide) ?_
      obtain ⟨hPc, hDc, hFc, hC9⟩ := xpk (wc := W_takeNumber cI cJ cZ cG cH rd (1 : Int32) (99 : Int32) tp rfa rya rla pl place_17 kind_18 from__19 value_20 told_13 depth fault_21 fplace_22 tba tl tb) hP hD hS hA [1, 2, 3] (by decide +kernel) rfl
      refine va_calli (va_runV (As := [.int 1, .int 99]) (rest := [.ref pl]) ⟨hx, hb, hml, hown, hts⟩ (c_takeNumber l D cI cJ cZ cG cH H.size rd (1 : Int32) (99 : Int32) tp rfa rya rla pl place_17 kind_18 from__19 value_20 told_13 depth fault_21 fplace_22 tba tl tb (xrng rfl (by omega) (by omega)) (xrng rfl (by omega) (by omega)) (xrng rfl (by omega) (by omega)) (xrng rfl (by omega) (by omega))) (cwV 2 hts (xGV tbC wd339 wd340 wd341 wd60 wd987) rfl rfl rfl (by decide +kernel) ⟨Nat.le_of_ble_eq_true rfl, Nat.le_of_ble_eq_true rfl⟩) ⟨xPc_blind, va_recv hK hPc (ci := 3) (q0 := 0) rfl rfl, xPc_pre hPc hK hDc⟩ rfl rfl hl.1 rfl (lv_room (Nat.le_of_ble_eq_true rfl)) dX4_readRule_68 ⟨Nat.le_of_ble_eq_true rfl, Nat.le_of_ble_eq_true rfl⟩) hS (fun q _ h => hFc q h) hFc (fun r25 u t H1 locs ht hvm hw25 hB hz1 hk1 hS => ?_)
      obtain ⟨hru9, hw25⟩ := hw25
      subst hru9
      revert hB
      refine xex6r (fun place_26 kind_27 from__28 value_29 fault_30 fplace_31 => ?_)
      refine xan6r (fun hf31_0 hf31_1 hf31_2 hP1 hK1 hD1 => ?_)
      rw [ht] at hP1
      obtain ⟨hP, hD⟩ : xPD D A [oX3 pl pna pta rails limit r16 behind, oX4 rd tp rfa rya rla pl place_26 kind_27 from__28 value_29 told_13 depth fault_30 fplace_31, oX8 tp tba tl, oAI tba cI 400 tb] H1 := xjn 1 hP hD [1, 2, 3] [0] hC9 rfl (by decide +kernel) (by decide +kernel) hk1 hFc hP1 hD1
      generalize H1 = H at hP hS ⊢
      have hf31_0 : 0 ≤ place_26.toInt ∧ place_26.toInt ≤ 400 := hf31_0
      have hf31_1 : 0 ≤ from__28.toInt ∧ from__28.toInt ≤ 400 := hf31_1
      have hf31_2 : M_takeNumber fault_21 kind_18 value_20 (1 : Int32) place_17 from__19 fplace_22 (99 : Int32) tl tb = (r25, place_26, kind_27, from__28, value_29, fault_30, fplace_31) := hf31_2
      have hw25 : (1 : Int32).toInt ≤ r25.toInt ∧ (r25.toInt ≤ (1 : Int32).toInt ∨ r25.toInt ≤ (99 : Int32).toInt) := hw25
      have ez32 : (1 : Int32).toInt = 1 := by decide
      have ez33 : (99 : Int32).toInt = 99 := by decide
      have h9M := congrArg (fun t9 => (K_readRule_11 t9.2.1 t9.2.2.1 t9.2.2.2.1 t9.2.2.2.2.1 told_13 t9.2.2.2.2.2.1 t9.2.2.2.2.2.2 limit r16 t9.1)) hf31_2
      have hM : M_readRule place kind from_ value told limit retry behind fault fplace tl tb = (K_readRule_11 place_26 kind_27 from__28 value_29 told_13 fault_30 fplace_31 limit r16 r25) := (show M_readRule place kind from_ value told limit retry behind fault fplace tl tb = ((fun t9 => (K_readRule_11 t9.2.1 t9.2.2.1 t9.2.2.2.1 t9.2.2.2.2.1 told_13 t9.2.2.2.2.2.1 t9.2.2.2.2.2.2 limit r16 t9.1)) (M_takeNumber fault_21 kind_18 value_20 (1 : Int32) place_17 from__19 fplace_22 (99 : Int32) tl tb)) from hM).trans h9M
      refine va_put (D := D) (ci := 2) (v := .int r25) (ty := .int) (C := RX3) (T := TX3) (N := 6) hx hb hts (fun w h => tbC w (tbfX3 w h)) tyX3 tyX3_ok nmX3 hown hK hP hD hS 0 rfl rfl 5 (by decide) (hts (.fieldLink RX4 135 "PowerRails$Plan" "behind" "I") (tbC _ wd224)) (fun _ h9 => h9) rfl (by decide +kernel) rfl rfl (Nat.le_of_ble_eq_true rfl) dX4_readRule_71 (fun H locs hP hD hS => ?_)
      obtain ⟨hP, hD⟩ : xPD D A [oX3 pl pna pta rails limit r16 r25, oX4 rd tp rfa rya rla pl place_26 kind_27 from__28 value_29 told_13 depth fault_30 fplace_31, oX8 tp tba tl, oAI tba cI 400 tb] H := ⟨hP, hD⟩
      refine lv_goto (tgt := 86) hx hb dX4_readRule_74 (by decide) ?_
      refine W.widen (k := 0) (n := 0) (by decide) (by decide) ?_
      exact W.vret hx hb hr (fun t ht hW => ⟨⟨(), rfl, trivial, ⟨place_26, kind_27, from__28, value_29, told_13, fault_30, fplace_31, limit, r16, r25, (xrng rfl (by omega) (by omega)), (xrng rfl (by omega) (by omega)), hM, xB_of9 ht hW hP hK hD [1, 2, 3, 0] (by decide +kernel) rfl⟩⟩, hS.F ht⟩) hS.2.2 dX4_readRule_86
  · skip
    have i_2 : ¬ (r1.toInt = 0) := fun h9 => c_2 ((ieq rfl (by decide)).mpr h9)
    have hM : M_readRule place kind from_ value told limit retry behind fault fplace tl tb = (K_readRule_4 retry behind tl tb told fault fplace kind place from_ value) := (show M_readRule place kind from_ value told limit retry behind fault fplace tl tb = (if r1.toInt = 0 then (K_readRule_3 place kind from_ value told limit retry behind fault fplace tl tb) else (K_readRule_4 retry behind tl tb told fault fplace kind place from_ value)) from hM).trans (if_neg i_2)
    refine lv_aload_n hx hb dX4_readRule_9 rfl (lv_at hl 0 rfl) ?_
    refine lv_iconst (v := 1) hx hb dX4_readRule_10 (by decide) ?_
    obtain ⟨hPc, hDc, hFc, hC9⟩ := xpk (wc := W_takeOnce cI cJ cZ cG cH rd (1 : Int32) tp rfa rya rla pl place kind from_ value told depth fault fplace tba tl tb) hP hD hS hA [1, 2, 3] (by decide +kernel) rfl
    refine va_callv (va_runV (As := [.int 1]) (rest := []) ⟨hx, hb, hml, hown, hts⟩ (c_takeOnce l D cI cJ cZ cG cH H.size rd (1 : Int32) tp rfa rya rla pl place kind from_ value told depth fault fplace tba tl tb (xrng rfl (by omega) (by omega)) (xrng rfl (by omega) (by omega)) (xrng rfl (by omega) (by omega)) (xrng rfl (by omega) (by omega))) (cwV 1 hts (xGV tbC wd346 wd347 wd348 wd60 wd989) rfl rfl rfl (by decide +kernel) ⟨Nat.le_of_ble_eq_true rfl, Nat.le_of_ble_eq_true rfl⟩) ⟨xPc_blind, va_recv hK hPc (ci := 3) (q0 := 0) rfl rfl, xPc_pre hPc hK hDc⟩ rfl rfl hl.1 rfl (lv_room (Nat.le_of_ble_eq_true rfl)) dX4_readRule_11 ⟨Nat.le_of_ble_eq_true rfl, Nat.le_of_ble_eq_true rfl⟩) hS (fun q _ h => hFc q h) hFc (fun u t H1 locs ht hvm hw34 hB hz1 hk1 hS => ?_)
    revert hB
    refine xex7r (fun place_35 kind_36 from__37 value_38 told_39 fault_40 fplace_41 => ?_)
    refine xan6r (fun hf41_0 hf41_1 hf41_2 hP1 hK1 hD1 => ?_)
    rw [ht] at hP1
    obtain ⟨hP, hD⟩ : xPD D A [oX3 pl pna pta rails limit retry behind, oX4 rd tp rfa rya rla pl place_35 kind_36 from__37 value_38 told_39 depth fault_40 fplace_41, oX8 tp tba tl, oAI tba cI 400 tb] H1 := xjn 1 hP hD [1, 2, 3] [0] hC9 rfl (by decide +kernel) (by decide +kernel) hk1 hFc hP1 hD1
    generalize H1 = H at hP hS ⊢
    have hf41_0 : 0 ≤ place_35.toInt ∧ place_35.toInt ≤ 400 := hf41_0
    have hf41_1 : 0 ≤ from__37.toInt ∧ from__37.toInt ≤ 400 := hf41_1
    have hf41_2 : M_takeOnce told (1 : Int32) tl tb fault fplace kind place from_ value = (place_35, kind_36, from__37, value_38, told_39, fault_40, fplace_41) := hf41_2
    have h9M := congrArg (fun t9 => (K_readRule_12 t9.2.2.2.2.1 retry behind t9.2.2.2.2.2.1 t9.2.1 t9.2.2.2.1 t9.1 t9.2.2.1 t9.2.2.2.2.2.2 tl tb)) hf41_2
    have hM : M_readRule place kind from_ value told limit retry behind fault fplace tl tb = (K_readRule_12 told_39 retry behind fault_40 kind_36 value_38 place_35 from__37 fplace_41 tl tb) := (show M_readRule place kind from_ value told limit retry behind fault fplace tl tb = ((fun t9 => (K_readRule_12 t9.2.2.2.2.1 retry behind t9.2.2.2.2.2.1 t9.2.1 t9.2.2.2.1 t9.1 t9.2.2.1 t9.2.2.2.2.2.2 tl tb)) (M_takeOnce told (1 : Int32) tl tb fault fplace kind place from_ value)) from hM).trans h9M
    refine lv_aload_n hx hb dX4_readRule_14 rfl (lv_at hl 0 rfl) ?_
    refine va_get (D := D) (ci := 3) (v := .ref pl) (C := RX4) (T := TX4) (N := 13) hx hb hts (fun w h => tbC w (tbfX4 w h)) hown hK hP 1 rfl rfl 4 (by decide) (hts (.fieldLink RX4 15 "PowerRails$Reader" "plan" "LPowerRails$Plan;") (tbC _ wd236)) (fun _ h9 => h9) rfl dX4_readRule_15 ?_
    refine lv_aload_n hx hb dX4_readRule_18 rfl (lv_at hl 0 rfl) ?_
    refine lv_iconst (v := 1) hx hb dX4_readRule_19 (by decide) ?_
    refine lv_sipush (v := 999) hx hb dX4_readRule_20 (by decide) ?_
    obtain ⟨hPc, hDc, hFc, hC9⟩ := xpk (wc := W_takeNumber cI cJ cZ cG cH rd (1 : Int32) (999 : Int32) tp rfa rya rla pl place_35 kind_36 from__37 value_38 told_39 depth fault_40 fplace_41 tba tl tb) hP hD hS hA [1, 2, 3] (by decide +kernel) rfl
    refine va_calli (va_runV (As := [.int 1, .int 999]) (rest := [.ref pl]) ⟨hx, hb, hml, hown, hts⟩ (c_takeNumber l D cI cJ cZ cG cH H.size rd (1 : Int32) (999 : Int32) tp rfa rya rla pl place_35 kind_36 from__37 value_38 told_39 depth fault_40 fplace_41 tba tl tb (xrng rfl (by omega) (by omega)) (xrng rfl (by omega) (by omega)) (xrng rfl (by omega) (by omega)) (xrng rfl (by omega) (by omega))) (cwV 2 hts (xGV tbC wd339 wd340 wd341 wd60 wd987) rfl rfl rfl (by decide +kernel) ⟨Nat.le_of_ble_eq_true rfl, Nat.le_of_ble_eq_true rfl⟩) ⟨xPc_blind, va_recv hK hPc (ci := 3) (q0 := 0) rfl rfl, xPc_pre hPc hK hDc⟩ rfl rfl hl.1 rfl (lv_room (Nat.le_of_ble_eq_true rfl)) dX4_readRule_23 ⟨Nat.le_of_ble_eq_true rfl, Nat.le_of_ble_eq_true rfl⟩) hS (fun q _ h => hFc q h) hFc (fun r42 u t H1 locs ht hvm hw42 hB hz1 hk1 hS => ?_)
    obtain ⟨hru9, hw42⟩ := hw42
    subst hru9
    revert hB
    refine xex6r (fun place_43 kind_44 from__45 value_46 fault_47 fplace_48 => ?_)
    refine xan6r (fun hf48_0 hf48_1 hf48_2 hP1 hK1 hD1 => ?_)
    rw [ht] at hP1
    obtain ⟨hP, hD⟩ : xPD D A [oX3 pl pna pta rails limit retry behind, oX4 rd tp rfa rya rla pl place_43 kind_44 from__45 value_46 told_39 depth fault_47 fplace_48, oX8 tp tba tl, oAI tba cI 400 tb] H1 := xjn 1 hP hD [1, 2, 3] [0] hC9 rfl (by decide +kernel) (by decide +kernel) hk1 hFc hP1 hD1
    generalize H1 = H at hP hS ⊢
    have hf48_0 : 0 ≤ place_43.toInt ∧ place_43.toInt ≤ 400 := hf48_0
    have hf48_1 : 0 ≤ from__45.toInt ∧ from__45.toInt ≤ 400 := hf48_1
    have hf48_2 : M_takeNumber fault_40 kind_36 value_38 (1 : Int32) place_35 from__37 fplace_41 (999 : Int32) tl tb = (r42, place_43, kind_44, from__45, value_46, fault_47, fplace_48) := hf48_2
    have hw42 : (1 : Int32).toInt ≤ r42.toInt ∧ (r42.toInt ≤ (1 : Int32).toInt ∨ r42.toInt ≤ (999 : Int32).toInt) := hw42
    have ez49 : (1 : Int32).toInt = 1 := by decide
    have ez50 : (999 : Int32).toInt = 999 := by decide
    have h9M := congrArg (fun t9 => (K_readRule_13 t9.2.1 t9.2.2.1 t9.2.2.2.1 t9.2.2.2.2.1 told_39 t9.2.2.2.2.2.1 t9.2.2.2.2.2.2 t9.1 retry behind)) hf48_2
    have hM : M_readRule place kind from_ value told limit retry behind fault fplace tl tb = (K_readRule_13 place_43 kind_44 from__45 value_46 told_39 fault_47 fplace_48 r42 retry behind) := (show M_readRule place kind from_ value told limit retry behind fault fplace tl tb = ((fun t9 => (K_readRule_13 t9.2.1 t9.2.2.1 t9.2.2.2.1 t9.2.2.2.2.1 told_39 t9.2.2.2.2.2.1 t9.2.2.2.2.2.2 t9.1 retry behind)) (M_takeNumber fault_40 kind_36 value_38 (1 : Int32) place_35 from__37 fplace_41 (999 : Int32) tl tb)) from hM).trans h9M
    refine va_put (D := D) (ci := 2) (v := .int r42) (ty := .int) (C := RX3) (T := TX3) (N := 6) hx hb hts (fun w h => tbC w (tbfX3 w h)) tyX3 tyX3_ok nmX3 hown hK hP hD hS 0 rfl rfl 3 (by decide) (hts (.fieldLink RX4 129 "PowerRails$Plan" "limit" "I") (tbC _ wd216)) (fun _ h9 => h9) rfl (by decide +kernel) rfl rfl (Nat.le_of_ble_eq_true rfl) dX4_readRule_26 (fun H locs hP hD hS => ?_)
    obtain ⟨hP, hD⟩ : xPD D A [oX3 pl pna pta rails r42 retry behind, oX4 rd tp rfa rya rla pl place_43 kind_44 from__45 value_46 told_39 depth fault_47 fplace_48, oX8 tp tba tl, oAI tba cI 400 tb] H := ⟨hP, hD⟩
    refine lv_goto (tgt := 86) hx hb dX4_readRule_29 (by decide) ?_
    refine W.widen (k := 0) (n := 0) (by decide) (by decide) ?_
    exact W.vret hx hb hr (fun t ht hW => ⟨⟨(), rfl, trivial, ⟨place_43, kind_44, from__45, value_46, told_39, fault_47, fplace_48, r42, retry, behind, (xrng rfl (by omega) (by omega)), (xrng rfl (by omega) (by omega)), hM, xB_of9 ht hW hP hK hD [1, 2, 3, 0] (by decide +kernel) rfl⟩⟩, hS.F ht⟩) hS.2.2 dX4_readRule_86
