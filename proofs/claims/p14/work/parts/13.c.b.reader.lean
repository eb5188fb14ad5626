def K_readWith_14 (place : Int32) (kind : Int32) (from_ : Int32) (value : Int32) (told : Int32) (fault_10 : Int32) (fplace_11 : Int32) (pn : Nat → Int32) : (Int32) × (Int32) × (Int32) × (Int32) × (Int32) × (Int32) × (Int32) × (Nat → Int32) := (place, kind, from_, value, told, fault_10, fplace_11, pn)
def K_readWith_12 (place : Int32) (kind : Int32) (from_ : Int32) (value : Int32) (told : Int32) (pn : Nat → Int32) (fault : Int32) (fplace : Int32) : (Int32) × (Int32) × (Int32) × (Int32) × (Int32) × (Int32) × (Int32) × (Nat → Int32) := ((fun t9 => (K_readWith_14 place kind from_ value told t9.1 t9.2 pn)) (M_refuse fault (2 : Int32) from_ fplace))
def K_readWith_17 (place_21 : Int32) (kind_22 : Int32) (from__23 : Int32) (value_24 : Int32) (told_17 : Int32) (fault_25 : Int32) (fplace_26 : Int32) (pn_30 : Nat → Int32) : (Int32) × (Int32) × (Int32) × (Int32) × (Int32) × (Int32) × (Int32) × (Nat → Int32) := (place_21, kind_22, from__23, value_24, told_17, fault_25, fplace_26, pn_30)
def K_readWith_16 (place_21 : Int32) (kind_22 : Int32) (from__23 : Int32) (value_24 : Int32) (told_17 : Int32) (fault_25 : Int32) (fplace_26 : Int32) (pn : Nat → Int32) (a0 : Int32) (r20 : Int32) : (Int32) × (Int32) × (Int32) × (Int32) × (Int32) × (Int32) × (Int32) × (Nat → Int32) := ((fun t9 => (K_readWith_17 place_21 kind_22 from__23 value_24 told_17 fault_25 fplace_26 t9)) (M_setNumber pn a0 (6 : Int32) r20))
def K_readWith_15 (told_17 : Int32) (pn : Nat → Int32) (a0 : Int32) (fault_18 : Int32) (kind_14 : Int32) (value_16 : Int32) (place_13 : Int32) (from__15 : Int32) (fplace_19 : Int32) (tl : Int32) (tb : Nat → Int32) : (Int32) × (Int32) × (Int32) × (Int32) × (Int32) × (Int32) × (Int32) × (Nat → Int32) := ((fun t9 => (K_readWith_16 t9.2.1 t9.2.2.1 t9.2.2.2.1 t9.2.2.2.2.1 told_17 t9.2.2.2.2.2.1 t9.2.2.2.2.2.2 pn a0 t9.1)) (M_takeNumber fault_18 kind_14 value_16 (1 : Int32) place_13 from__15 fplace_19 (99 : Int32) tl tb))
def K_readWith_13 (pn : Nat → Int32) (a0 : Int32) (tl : Int32) (tb : Nat → Int32) (told : Int32) (fault : Int32) (fplace : Int32) (kind : Int32) (place : Int32) (from_ : Int32) (value : Int32) : (Int32) × (Int32) × (Int32) × (Int32) × (Int32) × (Int32) × (Int32) × (Nat → Int32) := ((fun t9 => (K_readWith_15 t9.2.2.2.2.1 pn a0 t9.2.2.2.2.2.1 t9.2.1 t9.2.2.2.1 t9.1 t9.2.2.1 t9.2.2.2.2.2.2 tl tb)) (M_takeOnce told (32 : Int32) tl tb fault fplace kind place from_ value))
def K_readWith_11 (r7 : Int32) (place : Int32) (kind : Int32) (from_ : Int32) (value : Int32) (told : Int32) (pn : Nat → Int32) (fault : Int32) (fplace : Int32) (a0 : Int32) (tl : Int32) (tb : Nat → Int32) : (Int32) × (Int32) × (Int32) × (Int32) × (Int32) × (Int32) × (Int32) × (Nat → Int32) := (if r7.toInt = 0 then (K_readWith_12 place kind from_ value told pn fault fplace) else (K_readWith_13 pn a0 tl tb told fault fplace kind place from_ value))
def K_readWith_9 (place : Int32) (kind : Int32) (from_ : Int32) (value : Int32) (told : Int32) (pn : Nat → Int32) (fault : Int32) (fplace : Int32) (a0 : Int32) (tl : Int32) (tb : Nat → Int32) : (Int32) × (Int32) × (Int32) × (Int32) × (Int32) × (Int32) × (Int32) × (Nat → Int32) := ((fun t9 => (K_readWith_11 t9 place kind from_ value told pn fault fplace a0 tl tb)) (M_isWord kind place from_ 6 tb 5))
def K_readWith_20 (place_40 : Int32) (kind_41 : Int32) (from__42 : Int32) (value_43 : Int32) (told_36 : Int32) (fault_44 : Int32) (fplace_45 : Int32) (pn_49 : Nat → Int32) : (Int32) × (Int32) × (Int32) × (Int32) × (Int32) × (Int32) × (Int32) × (Nat → Int32) := (place_40, kind_41, from__42, value_43, told_36, fault_44, fplace_45, pn_49)
def K_readWith_19 (place_40 : Int32) (kind_41 : Int32) (from__42 : Int32) (value_43 : Int32) (told_36 : Int32) (fault_44 : Int32) (fplace_45 : Int32) (pn : Nat → Int32) (a0 : Int32) (r39 : Int32) : (Int32) × (Int32) × (Int32) × (Int32) × (Int32) × (Int32) × (Int32) × (Nat → Int32) := ((fun t9 => (K_readWith_20 place_40 kind_41 from__42 value_43 told_36 fault_44 fplace_45 t9)) (M_setNumber pn a0 (5 : Int32) r39))
def K_readWith_18 (told_36 : Int32) (pn : Nat → Int32) (a0 : Int32) (fault_37 : Int32) (kind_33 : Int32) (value_35 : Int32) (place_32 : Int32) (from__34 : Int32) (fplace_38 : Int32) (tl : Int32) (tb : Nat → Int32) : (Int32) × (Int32) × (Int32) × (Int32) × (Int32) × (Int32) × (Int32) × (Nat → Int32) := ((fun t9 => (K_readWith_19 t9.2.1 t9.2.2.1 t9.2.2.2.1 t9.2.2.2.2.1 told_36 t9.2.2.2.2.2.1 t9.2.2.2.2.2.2 pn a0 t9.1)) (M_takeNumber fault_37 kind_33 value_35 (0 : Int32) place_32 from__34 fplace_38 (9 : Int32) tl tb))
def K_readWith_10 (pn : Nat → Int32) (a0 : Int32) (tl : Int32) (tb : Nat → Int32) (told : Int32) (fault : Int32) (fplace : Int32) (kind : Int32) (place : Int32) (from_ : Int32) (value : Int32) : (Int32) × (Int32) × (Int32) × (Int32) × (Int32) × (Int32) × (Int32) × (Nat → Int32) := ((fun t9 => (K_readWith_18 t9.2.2.2.2.1 pn a0 t9.2.2.2.2.2.1 t9.2.1 t9.2.2.2.1 t9.1 t9.2.2.1 t9.2.2.2.2.2.2 tl tb)) (M_takeOnce told (16 : Int32) tl tb fault fplace kind place from_ value))
def K_readWith_8 (r5 : Int32) (place : Int32) (kind : Int32) (from_ : Int32) (value : Int32) (told : Int32) (pn : Nat → Int32) (fault : Int32) (fplace : Int32) (a0 : Int32) (tl : Int32) (tb : Nat → Int32) : (Int32) × (Int32) × (Int32) × (Int32) × (Int32) × (Int32) × (Int32) × (Nat → Int32) := (if r5.toInt = 0 then (K_readWith_9 place kind from_ value told pn fault fplace a0 tl tb) else (K_readWith_10 pn a0 tl tb told fault fplace kind place from_ value))
def K_readWith_6 (place : Int32) (kind : Int32) (from_ : Int32) (value : Int32) (told : Int32) (pn : Nat → Int32) (fault : Int32) (fplace : Int32) (a0 : Int32) (tl : Int32) (tb : Nat → Int32) : (Int32) × (Int32) × (Int32) × (Int32) × (Int32) × (Int32) × (Int32) × (Nat → Int32) := ((fun t9 => (K_readWith_8 t9 place kind from_ value told pn fault fplace a0 tl tb)) (M_isWord kind place from_ 4 tb 4))
def K_readWith_25 (place_70 : Int32) (kind_71 : Int32) (from__72 : Int32) (value_73 : Int32) (told_55 : Int32) (fault_74 : Int32) (fplace_75 : Int32) (pn_79 : Nat → Int32) : (Int32) × (Int32) × (Int32) × (Int32) × (Int32) × (Int32) × (Int32) × (Nat → Int32) := (place_70, kind_71, from__72, value_73, told_55, fault_74, fplace_75, pn_79)
def K_readWith_24 (place_70 : Int32) (kind_71 : Int32) (from__72 : Int32) (value_73 : Int32) (told_55 : Int32) (fault_74 : Int32) (fplace_75 : Int32) (pn_68 : Nat → Int32) (a0 : Int32) (r69 : Int32) : (Int32) × (Int32) × (Int32) × (Int32) × (Int32) × (Int32) × (Int32) × (Nat → Int32) := ((fun t9 => (K_readWith_25 place_70 kind_71 from__72 value_73 told_55 fault_74 fplace_75 t9)) (M_setNumber pn_68 a0 (4 : Int32) r69))
def K_readWith_23 (told_55 : Int32) (pn_68 : Nat → Int32) (a0 : Int32) (fault_63 : Int32) (kind_60 : Int32) (value_62 : Int32) (place_59 : Int32) (from__61 : Int32) (fplace_64 : Int32) (tl : Int32) (tb : Nat → Int32) : (Int32) × (Int32) × (Int32) × (Int32) × (Int32) × (Int32) × (Int32) × (Nat → Int32) := ((fun t9 => (K_readWith_24 t9.2.1 t9.2.2.1 t9.2.2.2.1 t9.2.2.2.2.1 told_55 t9.2.2.2.2.2.1 t9.2.2.2.2.2.2 pn_68 a0 t9.1)) (M_takeNumber fault_63 kind_60 value_62 (0 : Int32) place_59 from__61 fplace_64 (99 : Int32) tl tb))
def K_readWith_22 (told_55 : Int32) (a0 : Int32) (fault_63 : Int32) (kind_60 : Int32) (value_62 : Int32) (place_59 : Int32) (from__61 : Int32) (fplace_64 : Int32) (tl : Int32) (tb : Nat → Int32) (pn : Nat → Int32) (r58 : Int32) : (Int32) × (Int32) × (Int32) × (Int32) × (Int32) × (Int32) × (Int32) × (Nat → Int32) := ((fun t9 => (K_readWith_23 told_55 t9 a0 fault_63 kind_60 value_62 place_59 from__61 fplace_64 tl tb)) (M_setNumber pn a0 (3 : Int32) r58))
def K_readWith_21 (told_55 : Int32) (a0 : Int32) (tl : Int32) (tb : Nat → Int32) (pn : Nat → Int32) (fault_56 : Int32) (kind_52 : Int32) (value_54 : Int32) (place_51 : Int32) (from__53 : Int32) (fplace_57 : Int32) : (Int32) × (Int32) × (Int32) × (Int32) × (Int32) × (Int32) × (Int32) × (Nat → Int32) := ((fun t9 => (K_readWith_22 told_55 a0 t9.2.2.2.2.2.1 t9.2.2.1 t9.2.2.2.2.1 t9.2.1 t9.2.2.2.1 t9.2.2.2.2.2.2 tl tb pn t9.1)) (M_takeNumber fault_56 kind_52 value_54 (0 : Int32) place_51 from__53 fplace_57 (99 : Int32) tl tb))
def K_readWith_7 (a0 : Int32) (tl : Int32) (tb : Nat → Int32) (pn : Nat → Int32) (told : Int32) (fault : Int32) (fplace : Int32) (kind : Int32) (place : Int32) (from_ : Int32) (value : Int32) : (Int32) × (Int32) × (Int32) × (Int32) × (Int32) × (Int32) × (Int32) × (Nat → Int32) := ((fun t9 => (K_readWith_21 t9.2.2.2.2.1 a0 tl tb pn t9.2.2.2.2.2.1 t9.2.1 t9.2.2.2.1 t9.1 t9.2.2.1 t9.2.2.2.2.2.2)) (M_takeOnce told (8 : Int32) tl tb fault fplace kind place from_ value))
def K_readWith_5 (r3 : Int32) (place : Int32) (kind : Int32) (from_ : Int32) (value : Int32) (told : Int32) (pn : Nat → Int32) (fault : Int32) (fplace : Int32) (a0 : Int32) (tl : Int32) (tb : Nat → Int32) : (Int32) × (Int32) × (Int32) × (Int32) × (Int32) × (Int32) × (Int32) × (Nat → Int32) := (if r3.toInt = 0 then (K_readWith_6 place kind from_ value told pn fault fplace a0 tl tb) else (K_readWith_7 a0 tl tb pn told fault fplace kind place from_ value))
def K_readWith_3 (place : Int32) (kind : Int32) (from_ : Int32) (value : Int32) (told : Int32) (pn : Nat → Int32) (fault : Int32) (fplace : Int32) (a0 : Int32) (tl : Int32) (tb : Nat → Int32) : (Int32) × (Int32) × (Int32) × (Int32) × (Int32) × (Int32) × (Int32) × (Nat → Int32) := ((fun t9 => (K_readWith_5 t9 place kind from_ value told pn fault fplace a0 tl tb)) (M_isWord kind place from_ 4 tb 3))
def K_readWith_28 (place_89 : Int32) (kind_90 : Int32) (from__91 : Int32) (value_92 : Int32) (told_85 : Int32) (fault_93 : Int32) (fplace_94 : Int32) (pn_98 : Nat → Int32) : (Int32) × (Int32) × (Int32) × (Int32) × (Int32) × (Int32) × (Int32) × (Nat → Int32) := (place_89, kind_90, from__91, value_92, told_85, fault_93, fplace_94, pn_98)
def K_readWith_27 (place_89 : Int32) (kind_90 : Int32) (from__91 : Int32) (value_92 : Int32) (told_85 : Int32) (fault_93 : Int32) (fplace_94 : Int32) (pn : Nat → Int32) (a0 : Int32) (r88 : Int32) : (Int32) × (Int32) × (Int32) × (Int32) × (Int32) × (Int32) × (Int32) × (Nat → Int32) := ((fun t9 => (K_readWith_28 place_89 kind_90 from__91 value_92 told_85 fault_93 fplace_94 t9)) (M_setNumber pn a0 (2 : Int32) r88))
def K_readWith_26 (told_85 : Int32) (pn : Nat → Int32) (a0 : Int32) (fault_86 : Int32) (kind_82 : Int32) (value_84 : Int32) (place_81 : Int32) (from__83 : Int32) (fplace_87 : Int32) (tl : Int32) (tb : Nat → Int32) : (Int32) × (Int32) × (Int32) × (Int32) × (Int32) × (Int32) × (Int32) × (Nat → Int32) := ((fun t9 => (K_readWith_27 t9.2.1 t9.2.2.1 t9.2.2.2.1 t9.2.2.2.2.1 told_85 t9.2.2.2.2.2.1 t9.2.2.2.2.2.2 pn a0 t9.1)) (M_takeNumber fault_86 kind_82 value_84 (0 : Int32) place_81 from__83 fplace_87 (9 : Int32) tl tb))
def K_readWith_4 (pn : Nat → Int32) (a0 : Int32) (tl : Int32) (tb : Nat → Int32) (told : Int32) (fault : Int32) (fplace : Int32) (kind : Int32) (place : Int32) (from_ : Int32) (value : Int32) : (Int32) × (Int32) × (Int32) × (Int32) × (Int32) × (Int32) × (Int32) × (Nat → Int32) := ((fun t9 => (K_readWith_26 t9.2.2.2.2.1 pn a0 t9.2.2.2.2.2.1 t9.2.1 t9.2.2.2.1 t9.1 t9.2.2.1 t9.2.2.2.2.2.2 tl tb)) (M_takeOnce told (4 : Int32) tl tb fault fplace kind place from_ value))
def K_readWith_2 (r1 : Int32) (place : Int32) (kind : Int32) (from_ : Int32) (value : Int32) (told : Int32) (pn : Nat → Int32) (fault : Int32) (fplace : Int32) (a0 : Int32) (tl : Int32) (tb : Nat → Int32) : (Int32) × (Int32) × (Int32) × (Int32) × (Int32) × (Int32) × (Int32) × (Nat → Int32) := (if r1.toInt = 0 then (K_readWith_3 place kind from_ value told pn fault fplace a0 tl tb) else (K_readWith_4 pn a0 tl tb told fault fplace kind place from_ value))
def K_readWith_1 (place : Int32) (kind : Int32) (from_ : Int32) (value : Int32) (told : Int32) (pn : Nat → Int32) (fault : Int32) (fplace : Int32) (a0 : Int32) (tl : Int32) (tb : Nat → Int32) : (Int32) × (Int32) × (Int32) × (Int32) × (Int32) × (Int32) × (Int32) × (Nat → Int32) := ((fun t9 => (K_readWith_2 t9 place kind from_ value told pn fault fplace a0 tl tb)) (M_isWord kind place from_ 4 tb 2))
def M_readWith (place : Int32) (kind : Int32) (from_ : Int32) (value : Int32) (told : Int32) (pn : Nat → Int32) (fault : Int32) (fplace : Int32) (a0 : Int32) (tl : Int32) (tb : Nat → Int32) : (Int32) × (Int32) × (Int32) × (Int32) × (Int32) × (Int32) × (Int32) × (Nat → Int32) := (K_readWith_1 place kind from_ value told pn fault fplace a0 tl tb)
abbrev W_readWith (cI cJ cZ cG cH : ClassId) (rd : Nat) (a0 : Int32) (tp : Nat) (rfa : Nat) (rya : Nat) (rla : Nat) (pl : Nat) (place : Int32) (kind : Int32) (from_ : Int32) (value : Int32) (told : Int32) (depth : Int32) (fault : Int32) (fplace : Int32) (tba : Nat) (tl : Int32) (tb : Nat → Int32) (pna : Nat) (pta : Nat) (rails : Int32) (limit : Int32) (retry : Int32) (behind : Int32) (pn : Nat → Int32) (adK : Nat → Nat) (adV : Nat → Nat) (tI : Nat) : va_W := [oX4 rd tp rfa rya rla pl place kind from_ value told depth fault fplace, oX8 tp tba tl, oAI tba cI 400 tb, oX3 pl pna pta rails limit retry behind, oAI pna cI 64 pn]
abbrev Q_readWith (D : va_G) (cI cJ cZ cG cH : ClassId) (rd : Nat) (a0 : Int32) (tp : Nat) (rfa : Nat) (rya : Nat) (rla : Nat) (pl : Nat) (place : Int32) (kind : Int32) (from_ : Int32) (value : Int32) (told : Int32) (depth : Int32) (fault : Int32) (fplace : Int32) (tba : Nat) (tl : Int32) (tb : Nat → Int32) (pna : Nat) (pta : Nat) (rails : Int32) (limit : Int32) (retry : Int32) (behind : Int32) (pn : Nat → Int32) (adK : Nat → Nat) (adV : Nat → Nat) (tI : Nat) (A : Nat → Prop) : Array Value → State → Outcome → State → Prop := va_Qv (fun (_ : Unit) => True) (fun _ t => ∃ (place9 : Int32) (kind9 : Int32) (from_9 : Int32) (value9 : Int32) (told9 : Int32) (fault9 : Int32) (fplace9 : Int32) (pn9 : Nat → Int32), (0 ≤ place9.toInt ∧ place9.toInt ≤ 400) ∧ (0 ≤ from_9.toInt ∧ from_9.toInt ≤ 400) ∧ (∀ j, j < 64 → 0 ≤ (pn9 j).toInt ∧ (pn9 j).toInt ≤ 511) ∧ (M_readWith place kind from_ value told pn fault fplace a0 tl tb = (place9, kind9, from_9, value9, told9, fault9, fplace9, pn9)) ∧ xB D (tyL cI cJ cZ cG cH) [oX4 rd tp rfa rya rla pl place9 kind9 from_9 value9 told9 depth fault9 fplace9, oX8 tp tba tl, oAI tba cI 400 tb, oX3 pl pna pta rails limit retry behind, oAI pna cI 64 pn9] A t) A
abbrev rm_readWith : Room := { frames := 5, cells := 0, slots := 0, locals := 107 }
set_option maxRecDepth 100000 in
set_option maxHeartbeats 40000000 in
theorem c_readWith (l : Launch) (D : va_G) (cI cJ cZ cG cH : ClassId) (sz : Nat) (rd : Nat) (a0 : Int32) (tp : Nat) (rfa : Nat) (rya : Nat) (rla : Nat) (pl : Nat) (place : Int32) (kind : Int32) (from_ : Int32) (value : Int32) (told : Int32) (depth : Int32) (fault : Int32) (fplace : Int32) (tba : Nat) (tl : Int32) (tb : Nat → Int32) (pna : Nat) (pta : Nat) (rails : Int32) (limit : Int32) (retry : Int32) (behind : Int32) (pn : Nat → Int32) (adK : Nat → Nat) (adV : Nat → Nat) (tI : Nat) (h_a0 : 0 ≤ a0.toInt ∧ a0.toInt ≤ 7) (h_place : 0 ≤ place.toInt ∧ place.toInt ≤ 400) (h_from_ : 0 ≤ from_.toInt ∧ from_.toInt ≤ 400) (h_depth : 0 ≤ depth.toInt ∧ depth.toInt ≤ 6) (h_tl : 0 ≤ tl.toInt ∧ tl.toInt ≤ 400) (h_rails : 0 ≤ rails.toInt ∧ rails.toInt ≤ 8) (h_pn : ∀ j, j < 64 → 0 ≤ (pn j).toInt ∧ (pn j).toInt ≤ 511) : Met l yX4_readWith (wt yX4_readWith cX4_readWith 2 none) rm_readWith (xPcE [.ref rd, .int a0] D (tyL cI cJ cZ cG cH) (W_readWith cI cJ cZ cG cH rd a0 tp rfa rya rla pl place kind from_ value told depth fault fplace tba tl tb pna pta rails limit retry behind pn adK adV tI) adK adV tI sz) (Q_readWith D cI cJ cZ cG cH rd a0 tp rfa rya rla pl place kind from_ value told depth fault fplace tba tl tb pna pta rails limit retry behind pn adK adV tI (va_A (W_readWith cI cJ cZ cG cH rd a0 tp rfa rya rla pl place kind from_ value told depth fault fplace tba tl tb pna pta rails limit retry behind pn adK adV tI) sz)) 0 0 (va_A (W_readWith cI cJ cZ cG cH rd a0 tp rfa rya rla pl place kind from_ value told depth fault fplace tba tl tb pna pta rails limit retry behind pn adK adV tI) sz) := by
  refine xMetE (cc := cX4_readWith) (maxL := 2) (ret := none) (Qf := Q_readWith D cI cJ cZ cG cH rd a0 tp rfa rya rla pl place kind from_ value told depth fault fplace tba tl tb pna pta rails limit retry behind pn adK adV tI) (by decide) rfl (Nat.le_of_ble_eq_true rfl) ?_
  intro p e s m below meth c ls A hx hb hr hml hts hown hlocks hnm hsz hP hK hD hA hS hl hE
  have hown : s.vm.findClass RX4 = some m.cls := hown
  have hP : va_P D vwCl [oX4 rd tp rfa rya rla pl place kind from_ value told depth fault fplace, oX8 tp tba tl, oAI tba cI 400 tb, oX3 pl pna pta rails limit retry behind, oAI pna cI 64 pn] s.heap := hP
  have hD : va_D A [oX4 rd tp rfa rya rla pl place kind from_ value told depth fault fplace, oX8 tp tba tl, oAI tba cI 400 tb, oX3 pl pna pta rails limit retry behind, oAI pna cI 64 pn] := hD
  have hl : lv_has ls 2 [(0, .ref rd), (1, .int a0)] := hl
  have hM : M_readWith place kind from_ value told pn fault fplace a0 tl tb = (K_readWith_1 place kind from_ value told pn fault fplace a0 tl tb) := rfl
  refine lv_aload_n hx hb dX4_readWith_0 rfl (lv_at hl 0 rfl) ?_
  refine va_ldcS hx hb hown (hE.R 2 (by decide)) dX4_readWith_1 ?_
  obtain ⟨hPc, hDc, hFc, hC9⟩ := xpk (wc := W_isWord cI cJ cZ cG cH rd tp rfa rya rla pl place kind from_ value told depth fault fplace tba tl tb adK adV tI 2 4) hP hD hS hA [0, 1, 2] (by decide +kernel) rfl
  refine va_calli (va_runV (As := [.ref (adK 2)]) (rest := []) ⟨hx, hb, hml, hown, hts⟩ (c_isWord l D cI cJ cZ cG cH s.heap.size rd tp rfa rya rla pl place kind from_ value told depth fault fplace tba tl tb adK adV tI 2 4 (xrng rfl (by omega) (by omega)) (xrng rfl (by omega) (by omega)) (xrng rfl (by omega) (by omega)) (xrng rfl (by omega) (by omega)) (by first | decide | assumption) (by first | decide | assumption) (by first | decide | assumption)) (cwV 1 hts (xGV tbC wd288 wd289 wd290 wd60 wd970) rfl rfl rfl (by decide +kernel) ⟨Nat.le_of_ble_eq_true rfl, Nat.le_of_ble_eq_true rfl⟩) ⟨xPcE_blind, va_recv hK hPc (ci := 3) (q0 := 0) rfl rfl, xPcE_pre hPc hK hDc hE hS hFc⟩ rfl rfl hl.1 rfl (lv_room (Nat.le_of_ble_eq_true rfl)) dX4_readWith_3 ⟨Nat.le_of_ble_eq_true rfl, Nat.le_of_ble_eq_true rfl⟩) hS (fun q _ h => hFc q h) hFc (fun r1 u t H1 locs ht hvm hw1 hB hz1 hk1 hS => ?_)
  obtain ⟨hru9, hw1⟩ := hw1
  subst hru9
  obtain ⟨hf1_0, hP1, hK1, hD1⟩ := hB
  rw [ht] at hP1
  obtain ⟨hP, hD⟩ : xPD D A [oX3 pl pna pta rails limit retry behind, oAI pna cI 64 pn, oX4 rd tp rfa rya rla pl place kind from_ value told depth fault fplace, oX8 tp tba tl, oAI tba cI 400 tb] H1 := xjn 2 hP hD [0, 1, 2] [3, 4] hC9 rfl (by decide +kernel) (by decide +kernel) hk1 hFc hP1 hD1
  generalize H1 = H at hP hS ⊢
  have hf1_0 : M_isWord kind place from_ 4 tb 2 = (r1) := hf1_0
  have hw1 : 0 ≤ r1.toInt ∧ r1.toInt ≤ 1 := hw1
  have h9M := congrArg (fun t9 => (K_readWith_2 t9 place kind from_ value told pn fault fplace a0 tl tb)) hf1_0
  have hM : M_readWith place kind from_ value told pn fault fplace a0 tl tb = (K_readWith_2 r1 place kind from_ value told pn fault fplace a0 tl tb) := (show M_readWith place kind from_ value told pn fault fplace a0 tl tb = ((fun t9 => (K_readWith_2 t9 place kind from_ value told pn fault fplace a0 tl tb)) (M_isWord kind place from_ 4 tb 2)) from hM).trans h9M
  refine lv_if_eq (tgt := 33) hx hb dX4_readWith_6 (by decide) (fun c_2 => ?_) (fun c_2 => ?_)
  · skip
    have i_2 : r1.toInt = 0 := (ieq rfl (by decide)).mp c_2
    have hM : M_readWith place kind from_ value told pn fault fplace a0 tl tb = (K_readWith_3 place kind from_ value told pn fault fplace a0 tl tb) := (show M_readWith place kind from_ value told pn fault fplace a0 tl tb = (if r1.toInt = 0 then (K_readWith_3 place kind from_ value told pn fault fplace a0 tl tb) else (K_readWith_4 pn a0 tl tb told fault fplace kind place from_ value)) from hM).trans (if_pos i_2)
    refine lv_aload_n hx hb dX4_readWith_33 rfl (lv_at hl 0 rfl) ?_
    refine va_ldcS hx hb hown (hE.R 3 (by decide)) dX4_readWith_34 ?_
    obtain ⟨hPc, hDc, hFc, hC9⟩ := xpk (wc := W_isWord cI cJ cZ cG cH rd tp rfa rya rla pl place kind from_ value told depth fault fplace tba tl tb adK adV tI 3 4) hP hD hS hA [2, 3, 4] (by decide +kernel) rfl
    refine va_calli (va_runV (As := [.ref (adK 3)]) (rest := []) ⟨hx, hb, hml, hown, hts⟩ (c_isWord l D cI cJ cZ cG cH H.size rd tp rfa rya rla pl place kind from_ value told depth fault fplace tba tl tb adK adV tI 3 4 (xrng rfl (by omega) (by omega)) (xrng rfl (by omega) (by omega)) (xrng rfl (by omega) (by omega)) (xrng rfl (by omega) (by omega)) (by first | decide | assumption) (by first | decide | assumption) (by first | decide | assumption)) (cwV 1 hts (xGV tbC wd288 wd289 wd290 wd60 wd970) rfl rfl rfl (by decide +kernel) ⟨Nat.le_of_ble_eq_true rfl, Nat.le_of_ble_eq_true rfl⟩) ⟨xPcE_blind, va_recv hK hPc (ci := 3) (q0 := 0) rfl rfl, xPcE_pre hPc hK hDc hE hS hFc⟩ rfl rfl hl.1 rfl (lv_room (Nat.le_of_ble_eq_true rfl)) dX4_readWith_36 ⟨Nat.le_of_ble_eq_true rfl, Nat.le_of_ble_eq_true rfl⟩) hS (fun q _ h => hFc q h) hFc (fun r3 u t H1 locs ht hvm hw3 hB hz1 hk1 hS => ?_)
    obtain ⟨hru9, hw3⟩ := hw3
    subst hru9
    obtain ⟨hf3_0, hP1, hK1, hD1⟩ := hB
    rw [ht] at hP1
    obtain ⟨hP, hD⟩ : xPD D A [oX3 pl pna pta rails limit retry behind, oAI pna cI 64 pn, oX4 rd tp rfa rya rla pl place kind from_ value told depth fault fplace, oX8 tp tba tl, oAI tba cI 400 tb] H1 := xjn 2 hP hD [2, 3, 4] [0, 1] hC9 rfl (by decide +kernel) (by decide +kernel) hk1 hFc hP1 hD1
    generalize H1 = H at hP hS ⊢
    have hf3_0 : M_isWord kind place from_ 4 tb 3 = (r3) := hf3_0
    have hw3 : 0 ≤ r3.toInt ∧ r3.toInt ≤ 1 := hw3
    have h9M := congrArg (fun t9 => (K_readWith_5 t9 place kind from_ value told pn fault fplace a0 tl tb)) hf3_0
    have hM : M_readWith place kind from_ value told pn fault fplace a0 tl tb = (K_readWith_5 r3 place kind from_ value told pn fault fplace a0 tl tb) := (show M_readWith place kind from_ value told pn fault fplace a0 tl tb = ((fun t9 => (K_readWith_5 t9 place kind from_ value told pn fault fplace a0 tl tb)) (M_isWord kind place from_ 4 tb 3)) from hM).trans h9M
    refine lv_if_eq (tgt := 83) hx hb dX4_readWith_39 (by decide) (fun c_4 => ?_) (fun c_4 => ?_)
    · skip
      have i_4 : r3.toInt = 0 := (ieq rfl (by decide)).mp c_4
      have hM : M_readWith place kind from_ value told pn fault fplace a0 tl tb = (K_readWith_6 place kind from_ value told pn fault fplace a0 tl tb) := (show M_readWith place kind from_ value told pn fault fplace a0 tl tb = (if r3.toInt = 0 then (K_readWith_6 place kind from_ value told pn fault fplace a0 tl tb) else (K_readWith_7 a0 tl tb pn told fault fplace kind place from_ value)) from hM).trans (if_pos i_4)
      refine lv_aload_n hx hb dX4_readWith_83 rfl (lv_at hl 0 rfl) ?_
      refine va_ldcS hx hb hown (hE.R 4 (by decide)) dX4_readWith_84 ?_
      obtain ⟨hPc, hDc, hFc, hC9⟩ := xpk (wc := W_isWord cI cJ cZ cG cH rd tp rfa rya rla pl place kind from_ value told depth fault fplace tba tl tb adK adV tI 4 4) hP hD hS hA [2, 3, 4] (by decide +kernel) rfl
      refine va_calli (va_runV (As := [.ref (adK 4)]) (rest := []) ⟨hx, hb, hml, hown, hts⟩ (c_isWord l D cI cJ cZ cG cH H.size rd tp rfa rya rla pl place kind from_ value told depth fault fplace tba tl tb adK adV tI 4 4 (xrng rfl (by omega) (by omega)) (xrng rfl (by omega) (by omega)) (xrng rfl (by omega) (by omega)) (xrng rfl (by omega) (by omega)) (by first | decide | assumption) (by first | decide | assumption) (by first | decide | assumption)) (cwV 1 hts (xGV tbC wd288 wd289 wd290 wd60 wd970) rfl rfl rfl (by decide +kernel) ⟨Nat.le_of_ble_eq_true rfl, Nat.le_of_ble_eq_true rfl⟩) ⟨xPcE_blind, va_recv hK hPc (ci := 3) (q0 := 0) rfl rfl, xPcE_pre hPc hK hDc hE hS hFc⟩ rfl rfl hl.1 rfl (lv_room (Nat.le_of_ble_eq_true rfl)) dX4_readWith_86 ⟨Nat.le_of_ble_eq_true rfl, Nat.le_of_ble_eq_true rfl⟩) hS (fun q _ h => hFc q h) hFc (fun r5 u t H1 locs ht hvm hw5 hB hz1 hk1 hS => ?_)
      obtain ⟨hru9, hw5⟩ := hw5
      subst hru9
      obtain ⟨hf5_0, hP1, hK1, hD1⟩ := hB
      rw [ht] at hP1
      obtain ⟨hP, hD⟩ : xPD D A [oX3 pl pna pta rails limit retry behind, oAI pna cI 64 pn, oX4 rd tp rfa rya rla pl place kind from_ value told depth fault fplace, oX8 tp tba tl, oAI tba cI 400 tb] H1 := xjn 2 hP hD [2, 3, 4] [0, 1] hC9 rfl (by decide +kernel) (by decide +kernel) hk1 hFc hP1 hD1
      generalize H1 = H at hP hS ⊢
      have hf5_0 : M_isWord kind place from_ 4 tb 4 = (r5) := hf5_0
      have hw5 : 0 ≤ r5.toInt ∧ r5.toInt ≤ 1 := hw5
      have h9M := congrArg (fun t9 => (K_readWith_8 t9 place kind from_ value told pn fault fplace a0 tl tb)) hf5_0
      have hM : M_readWith place kind from_ value told pn fault fplace a0 tl tb = (K_readWith_8 r5 place kind from_ value told pn fault fplace a0 tl tb) := (show M_readWith place kind from_ value told pn fault fplace a0 tl tb = ((fun t9 => (K_readWith_8 t9 place kind from_ value told pn fault fplace a0 tl tb)) (M_isWord kind place from_ 4 tb 4)) from hM).trans h9M
      refine lv_if_eq (tgt := 117) hx hb dX4_readWith_89 (by decide) (fun c_6 => ?_) (fun c_6 => ?_)
      · skip
        have i_6 : r5.toInt = 0 := (ieq rfl (by decide)).mp c_6
        have hM : M_readWith place kind from_ value told pn fault fplace a0 tl tb = (K_readWith_9 place kind from_ value told pn fault fplace a0 tl tb) := (show M_readWith place kind from_ value told pn fault fplace a0 tl tb = (if r5.toInt = 0 then (K_readWith_9 place kind from_ value told pn fault fplace a0 tl tb) else (K_readWith_10 pn a0 tl tb told fault fplace kind place from_ value)) from hM).trans (if_pos i_6)
        refine lv_aload_n hx hb dX4_readWith_117 rfl (lv_at hl 0 rfl) ?_
        refine va_ldcS hx hb hown (hE.R 5 (by decide)) dX4_readWith_118 ?_
        obtain ⟨hPc, hDc, hFc, hC9⟩ := xpk (wc := W_isWord cI cJ cZ cG cH rd tp rfa rya rla pl place kind from_ value told depth fault fplace tba tl tb adK adV tI 5 6) hP hD hS hA [2, 3, 4] (by decide +kernel) rfl
        refine va_calli (va_runV (As := [.ref (adK 5)]) (rest := []) ⟨hx, hb, hml, hown, hts⟩ (c_isWord l D cI cJ cZ cG cH H.size rd tp rfa rya rla pl place kind from_ value told depth fault fplace tba tl tb adK adV tI 5 6 (xrng rfl (by omega) (by omega)) (xrng rfl (by omega) (by omega)) (xrng rfl (by omega) (by omega)) (xrng rfl (by omega) (by omega)) (by first | decide | assumption) (by first | decide | assumption) (by first | decide | assumption)) (cwV 1 hts (xGV tbC wd288 wd289 wd290 wd60 wd970) rfl rfl rfl (by decide +kernel) ⟨Nat.le_of_ble_eq_true rfl, Nat.le_of_ble_eq_true rfl⟩) ⟨xPcE_blind, va_recv hK hPc (ci := 3) (q0 := 0) rfl rfl, xPcE_pre hPc hK hDc hE hS hFc⟩ rfl rfl hl.1 rfl (lv_room (Nat.le_of_ble_eq_true rfl)) dX4_readWith_120 ⟨Nat.le_of_ble_eq_true rfl, Nat.le_of_ble_eq_true rfl⟩) hS (fun q _ h => hFc q h) hFc (fun r7 u t H1 locs ht hvm hw7 hB hz1 hk1 hS => ?_)
        obtain ⟨hru9, hw7⟩ := hw7
        subst hru9
        obtain ⟨hf7_0, hP1, hK1, hD1⟩ := hB
        rw [ht] at hP1
        obtain ⟨hP, hD⟩ : xPD D A [oX3 pl pna pta rails limit retry behind, oAI pna cI 64 pn, oX4 rd tp rfa rya rla pl place kind from_ value told depth fault fplace, oX8 tp tba tl, oAI tba cI 400 tb] H1 := xjn 2 hP hD [2, 3, 4] [0, 1] hC9 rfl (by decide +kernel) (by decide +kernel) hk1 hFc hP1 hD1
        generalize H1 = H at hP hS ⊢
        have hf7_0 : M_isWord kind place from_ 6 tb 5 = (r7) := hf7_0
        have hw7 : 0 ≤ r7.toInt ∧ r7.toInt ≤ 1 := hw7
        have h9M := congrArg (fun t9 => (K_readWith_11 t9 place kind from_ value told pn fault fplace a0 tl tb)) hf7_0
        have hM : M_readWith place kind from_ value told pn fault fplace a0 tl tb = (K_readWith_11 r7 place kind from_ value told pn fault fplace a0 tl tb) := (show M_readWith place kind from_ value told pn fault fplace a0 tl tb = ((fun t9 => (K_readWith_11 t9 place kind from_ value told pn fault fplace a0 tl tb)) (M_isWord kind place from_ 6 tb 5)) from hM).trans h9M
        refine lv_if_eq (tgt := 152) hx hb dX4_readWith_123 (by decide) (fun c_8 => ?_) (fun c_8 => ?_)
        · skip
          have i_8 : r7.toInt = 0 := (ieq rfl (by decide)).mp c_8
          have hM : M_readWith place kind from_ value told pn fault fplace a0 tl tb = (K_readWith_12 place kind from_ value told pn fault fplace) := (show M_readWith place kind from_ value told pn fault fplace a0 tl tb = (if r7.toInt = 0 then (K_readWith_12 place kind from_ value told pn fault fplace) else (K_readWith_13 pn a0 tl tb told fault fplace kind place from_ value)) from hM).trans (if_pos i_8)
          refine lv_aload_n hx hb dX4_readWith_152 rfl (lv_at hl 0 rfl) ?_
          refine lv_iconst (v := 2) hx hb dX4_readWith_153 (by decide) ?_
          refine lv_aload_n hx hb dX4_readWith_154 rfl (lv_at hl 0 rfl) ?_
          refine va_get (D := D) (ci := 3) (v := .int from_) (C := RX4) (T := TX4) (N := 13) hx hb hts (fun w h => tbC w (tbfX4 w h)) hown hK hP 2 rfl rfl 7 (by decide) (hts (.fieldLink RX4 88 "PowerRails$Reader" "from" "I") (tbC _ wd239)) (fun _ h9 => h9) rfl dX4_readWith_155 ?_
          obtain ⟨hPc, hDc, hFc, hC9⟩ := xpk (wc := W_refuse cI cJ cZ cG cH rd (2 : Int32) from_ tp rfa rya rla pl place kind from_ value told depth fault fplace) hP hD hS hA [2] (by decide +kernel) rfl
          refine va_callv (va_runV (As := [.int 2, .int from_]) (rest := []) ⟨hx, hb, hml, hown, hts⟩ (c_refuse l D cI cJ cZ cG cH H.size rd (2 : Int32) from_ tp rfa rya rla pl place kind from_ value told depth fault fplace (xrng rfl (by omega) (by omega)) (xrng rfl (by omega) (by omega)) (xrng rfl (by omega) (by omega))) (cwV 2 hts (xGV tbC wd285 wd286 wd287 wd60 wd969) rfl rfl rfl (by decide +kernel) ⟨Nat.le_of_ble_eq_true rfl, Nat.le_of_ble_eq_true rfl⟩) ⟨xPc_blind, va_recv hK hPc (ci := 3) (q0 := 0) rfl rfl, xPc_pre hPc hK hDc⟩ rfl rfl hl.1 rfl (lv_room (Nat.le_of_ble_eq_true rfl)) dX4_readWith_158 ⟨Nat.le_of_ble_eq_true rfl, Nat.le_of_ble_eq_true rfl⟩) hS (fun q _ h => hFc q h) hFc (fun u t H1 locs ht hvm hw9 hB hz1 hk1 hS => ?_)
          obtain ⟨fault_10, fplace_11, hf11_0, hP1, hK1, hD1⟩ := hB
          rw [ht] at hP1
          obtain ⟨hP, hD⟩ : xPD D A [oX3 pl pna pta rails limit retry behind, oAI pna cI 64 pn, oX8 tp tba tl, oAI tba cI 400 tb, oX4 rd tp rfa rya rla pl place kind from_ value told depth fault_10 fplace_11] H1 := xjn 4 hP hD [2] [0, 1, 3, 4] hC9 rfl (by decide +kernel) (by decide +kernel) hk1 hFc hP1 hD1
          generalize H1 = H at hP hS ⊢
          have hf11_0 : M_refuse fault (2 : Int32) from_ fplace = (fault_10, fplace_11) := hf11_0
          have h9M := congrArg (fun t9 => (K_readWith_14 place kind from_ value told t9.1 t9.2 pn)) hf11_0
          have hM : M_readWith place kind from_ value told pn fault fplace a0 tl tb = (K_readWith_14 place kind from_ value told fault_10 fplace_11 pn) := (show M_readWith place kind from_ value told pn fault fplace a0 tl tb = ((fun t9 => (K_readWith_14 place kind from_ value told t9.1 t9.2 pn)) (M_refuse fault (2 : Int32) from_ fplace)) from hM).trans h9M
          refine W.widen (k := 0) (n := 0) (by decide) (by decide) ?_
          exact W.vret hx hb hr (fun t ht hW => ⟨⟨(), rfl, trivial, ⟨place, kind, from_, value, told, fault_10, fplace_11, pn, (xrng rfl (by omega) (by omega)), (xrng rfl (by omega) (by omega)), (xwk_rng h_pn (by decide) (by decide)), hM, xB_of9 ht hW hP hK hD [4, 2, 3, 0, 1] (by decide +kernel) rfl⟩⟩, hS.F ht⟩) hS.2.2 dX4_readWith_161
        · skip
          have i_8 : ¬ (r7.toInt = 0) := fun h9 => c_8 ((ieq rfl (by decide)).mpr h9)
          have hM : M_readWith place kind from_ value told pn fault fplace a0 tl tb = (K_readWith_13 pn a0 tl tb told fault fplace kind place from_ value) := (show M_readWith place kind from_ value told pn fault fplace a0 tl tb = (if r7.toInt = 0 then (K_readWith_12 place kind from_ value told pn fault fplace) else (K_readWith_13 pn a0 tl tb told fault fplace kind place from_ value)) from hM).trans (if_neg i_8)
          refine lv_aload_n hx hb dX4_readWith_126 rfl (lv_at hl 0 rfl) ?_
          refine lv_bipush (v := 32) hx hb dX4_readWith_127 (by decide) ?_
          obtain ⟨hPc, hDc, hFc, hC9⟩ := xpk (wc := W_takeOnce cI cJ cZ cG cH rd (32 : Int32) tp rfa rya rla pl place kind from_ value told depth fault fplace tba tl tb) hP hD hS hA [2, 3, 4] (by decide +kernel) rfl
          refine va_callv (va_runV (As := [.int 32]) (rest := []) ⟨hx, hb, hml, hown, hts⟩ (c_takeOnce l D cI cJ cZ cG cH H.size rd (32 : Int32) tp rfa rya rla pl place kind from_ value told depth fault fplace tba tl tb (xrng rfl (by omega) (by omega)) (xrng rfl (by omega) (by omega)) (xrng rfl (by omega) (by omega)) (xrng rfl (by omega) (by omega))) (cwV 1 hts (xGV tbC wd346 wd347 wd348 wd60 wd989) rfl rfl rfl (by decide +kernel) ⟨Nat.le_of_ble_eq_true rfl, Nat.le_of_ble_eq_true rfl⟩) ⟨xPc_blind, va_recv hK hPc (ci := 3) (q0 := 0) rfl rfl, xPc_pre hPc hK hDc⟩ rfl rfl hl.1 rfl (lv_room (Nat.le_of_ble_eq_true rfl)) dX4_readWith_129 ⟨Nat.le_of_ble_eq_true rfl, Nat.le_of_ble_eq_true rfl⟩) hS (fun q _ h => hFc q h) hFc (fun u t H1 locs ht hvm hw12 hB hz1 hk1 hS => ?_)
          revert hB
          refine xex7r (fun place_13 kind_14 from__15 value_16 told_17 fault_18 fplace_19 => ?_)
          refine xan6r (fun hf19_0 hf19_1 hf19_2 hP1 hK1 hD1 => ?_)
          rw [ht] at hP1
          obtain ⟨hP, hD⟩ : xPD D A [oX3 pl pna pta rails limit retry behind, oAI pna cI 64 pn, oX4 rd tp rfa rya rla pl place_13 kind_14 from__15 value_16 told_17 depth fault_18 fplace_19, oX8 tp tba tl, oAI tba cI 400 tb] H1 := xjn 2 hP hD [2, 3, 4] [0, 1] hC9 rfl (by decide +kernel) (by decide +kernel) hk1 hFc hP1 hD1
          generalize H1 = H at hP hS ⊢
          have hf19_0 : 0 ≤ place_13.toInt ∧ place_13.toInt ≤ 400 := hf19_0
          have hf19_1 : 0 ≤ from__15.toInt ∧ from__15.toInt ≤ 400 := hf19_1
          have hf19_2 : M_takeOnce told (32 : Int32) tl tb fault fplace kind place from_ value = (place_13, kind_14, from__15, value_16, told_17, fault_18, fplace_19) := hf19_2
          have h9M := congrArg (fun t9 => (K_readWith_15 t9.2.2.2.2.1 pn a0 t9.2.2.2.2.2.1 t9.2.1 t9.2.2.2.1 t9.1 t9.2.2.1 t9.2.2.2.2.2.2 tl tb)) hf19_2
          have hM : M_readWith place kind from_ value told pn fault fplace a0 tl tb = (K_readWith_15 told_17 pn a0 fault_18 kind_14 value_16 place_13 from__15 fplace_19 tl tb) := (show M_readWith place kind from_ value told pn fault fplace a0 tl tb = ((fun t9 => (K_readWith_15 t9.2.2.2.2.1 pn a0 t9.2.2.2.2.2.1 t9.2.1 t9.2.2.2.1 t9.1 t9.2.2.1 t9.2.2.2.2.2.2 tl tb)) (M_takeOnce told (32 : Int32) tl tb fault fplace kind place from_ value)) from hM).trans h9M
          refine lv_aload_n hx hb dX4_readWith_132 rfl (lv_at hl 0 rfl) ?_
          refine va_get (D := D) (ci := 3) (v := .ref pl) (C := RX4) (T := TX4) (N := 13) hx hb hts (fun w h => tbC w (tbfX4 w h)) hown hK hP 2 rfl rfl 4 (by decide) (hts (.fieldLink RX4 15 "PowerRails$Reader" "plan" "LPowerRails$Plan;") (tbC _ wd236)) (fun _ h9 => h9) rfl dX4_readWith_133 ?_
          refine lv_iload_n hx hb dX4_readWith_136 rfl (lv_at hl 1 rfl) ?_
          refine lv_bipush (v := 6) hx hb dX4_readWith_137 (by decide) ?_
          refine lv_aload_n hx hb dX4_readWith_139 rfl (lv_at hl 0 rfl) ?_
          refine lv_iconst (v := 1) hx hb dX4_readWith_140 (by decide) ?_
          refine lv_bipush (v := 99) hx hb dX4_readWith_141 (by decide) ?_
          obtain ⟨hPc, hDc, hFc, hC9⟩ := xpk (wc := W_takeNumber cI cJ cZ cG cH rd (1 : Int32) (99 : Int32) tp rfa rya rla pl place_13 kind_14 from__15 value_16 told_17 depth fault_18 fplace_19 tba tl tb) hP hD hS hA [2, 3, 4] (by decide +kernel) rfl
          refine va_calli (va_runV (As := [.int 1, .int 99]) (rest := [.int 6, .int a0, .ref pl]) ⟨hx, hb, hml, hown, hts⟩ (c_takeNumber l D cI cJ cZ cG cH H.size rd (1 : Int32) (99 : Int32) tp rfa rya rla pl place_13 kind_14 from__15 value_16 told_17 depth fault_18 fplace_19 tba tl tb (xrng rfl (by omega) (by omega)) (xrng rfl (by omega) (by omega)) (xrng rfl (by omega) (by omega)) (xrng rfl (by omega) (by omega))) (cwV 2 hts (xGV tbC wd339 wd340 wd341 wd60 wd987) rfl rfl rfl (by decide +kernel) ⟨Nat.le_of_ble_eq_true rfl, Nat.le_of_ble_eq_true rfl⟩) ⟨xPc_blind, va_recv hK hPc (ci := 3) (q0 := 0) rfl rfl, xPc_pre hPc hK hDc⟩ rfl rfl hl.1 rfl (lv_room (Nat.le_of_ble_eq_true rfl)) dX4_readWith_143 ⟨Nat.le_of_ble_eq_true rfl, Nat.le_of_ble_eq_true rfl⟩) hS (fun q _ h => hFc q h) hFc (fun r20 u t H1 locs ht hvm hw20 hB hz1 hk1 hS => ?_)
          obtain ⟨hru9, hw20⟩ := hw20
          subst hru9
          revert hB
          refine xex6r (fun place_21 kind_22 from__23 value_24 fault_25 fplace_26 => ?_)
          refine xan6r (fun hf26_0 hf26_1 hf26_2 hP1 hK1 hD1 => ?_)
          rw [ht] at hP1
          obtain ⟨hP, hD⟩ : xPD D A [oX3 pl pna pta rails limit retry behind, oAI pna cI 64 pn, oX4 rd tp rfa rya rla pl place_21 kind_22 from__23 value_24 told_17 depth fault_25 fplace_26, oX8 tp tba tl, oAI tba cI 400 tb] H1 := xjn 2 hP hD [2, 3, 4] [0, 1] hC9 rfl (by decide +kernel) (by decide +kernel) hk1 hFc hP1 hD1
          generalize H1 = H at hP hS ⊢
          have hf26_0 : 0 ≤ place_21.toInt ∧ place_21.toInt ≤ 400 := hf26_0
          have hf26_1 : 0 ≤ from__23.toInt ∧ from__23.toInt ≤ 400 := hf26_1
          have hf26_2 : M_takeNumber fault_18 kind_14 value_16 (1 : Int32) place_13 from__15 fplace_19 (99 : Int32) tl tb = (r20, place_21, kind_22, from__23, value_24, fault_25, fplace_26) := hf26_2
          have hw20 : (1 : Int32).toInt ≤ r20.toInt ∧ (r20.toInt ≤ (1 : Int32).toInt ∨ r20.toInt ≤ (99 : Int32).toInt) := hw20
          have ez27 : (1 : Int32).toInt = 1 := by decide
          have ez28 : (99 : Int32).toInt = 99 := by decide
          have h9M := congrArg (fun t9 => (K_readWith_16 t9.2.1 t9.2.2.1 t9.2.2.2.1 t9.2.2.2.2.1 told_17 t9.2.2.2.2.2.1 t9.2.2.2.2.2.2 pn a0 t9.1)) hf26_2
          have hM : M_readWith place kind from_ value told pn fault fplace a0 tl tb = (K_readWith_16 place_21 kind_22 from__23 value_24 told_17 fault_25 fplace_26 pn a0 r20) := (show M_readWith place kind from_ value told pn fault fplace a0 tl tb = ((fun t9 => (K_readWith_16 t9.2.1 t9.2.2.1 t9.2.2.2.1 t9.2.2.2.2.1 told_17 t9.2.2.2.2.2.1 t9.2.2.2.2.2.2 pn a0 t9.1)) (M_takeNumber fault_18 kind_14 value_16 (1 : Int32) place_13 from__15 fplace_19 (99 : Int32) tl tb)) from hM).trans h9M
          obtain ⟨hPc, hDc, hFc, hC9⟩ := xpk (wc := W_setNumber cI cJ cZ cG cH pl a0 (6 : Int32) r20 pna pta rails limit retry behind pn) hP hD hS hA [0, 1] (by decide +kernel) rfl
          refine va_callv (va_runV (As := [.int a0, .int 6, .int r20]) (rest := []) ⟨hx, hb, hml, hown, hts⟩ (c_setNumber l D cI cJ cZ cG cH H.size pl a0 (6 : Int32) r20 pna pta rails limit retry behind pn (xrng rfl (by omega) (by omega)) ⟨by decide, by decide⟩ (xrng rfl (by omega) (by omega)) (xrng rfl (by omega) (by omega)) (xwk_rng h_pn (by decide) (by decide))) (cwV 3 hts (xGV tbC wd342 wd330 wd331 wd59 wd984) rfl rfl rfl (by decide +kernel) ⟨Nat.le_of_ble_eq_true rfl, Nat.le_of_ble_eq_true rfl⟩) ⟨xPc_blind, va_recv hK hPc (ci := 2) (q0 := 0) rfl rfl, xPc_pre hPc hK hDc⟩ rfl rfl hl.1 rfl (lv_room (Nat.le_of_ble_eq_true rfl)) dX4_readWith_146 ⟨Nat.le_of_ble_eq_true rfl, Nat.le_of_ble_eq_true rfl⟩) hS (fun q _ h => hFc q h) hFc (fun u t H1 locs ht hvm hw29 hB hz1 hk1 hS => ?_)
          obtain ⟨pn_30, hf30_0, hf30_1, hP1, hK1, hD1⟩ := hB
          rw [ht] at hP1
          obtain ⟨hP, hD⟩ : xPD D A [oX4 rd tp rfa rya rla pl place_21 kind_22 from__23 value_24 told_17 depth fault_25 fplace_26, oX8 tp tba tl, oAI tba cI 400 tb, oX3 pl pna pta rails limit retry behind, oAI pna cI 64 pn_30] H1 := xjn 3 hP hD [0, 1] [2, 3, 4] hC9 rfl (by decide +kernel) (by decide +kernel) hk1 hFc hP1 hD1
          generalize H1 = H at hP hS ⊢
          have hf30_0 : ∀ j, j < 64 → 0 ≤ (pn_30 j).toInt ∧ (pn_30 j).toInt ≤ 511 := hf30_0
          have hf30_1 : M_setNumber pn a0 (6 : Int32) r20 = (pn_30) := hf30_1
          have h9M := congrArg (fun t9 => (K_readWith_17 place_21 kind_22 from__23 value_24 told_17 fault_25 fplace_26 t9)) hf30_1
          have hM : M_readWith place kind from_ value told pn fault fplace a0 tl tb = (K_readWith_17 place_21 kind_22 from__23 value_24 told_17 fault_25 fplace_26 pn_30) := (show M_readWith place kind from_ value told pn fault fplace a0 tl tb = ((fun t9 => (K_readWith_17 place_21 kind_22 from__23 value_24 told_17 fault_25 fplace_26 t9)) (M_setNumber pn a0 (6 : Int32) r20)) from hM).trans h9M
          refine lv_goto (tgt := 161) hx hb dX4_readWith_149 (by decide) ?_
          refine W.widen (k := 0) (n := 0) (by decide) (by decide) ?_
          exact W.vret hx hb hr (fun t ht hW => ⟨⟨(), rfl, trivial, ⟨place_21, kind_22, from__23, value_24, told_17, fault_25, fplace_26, pn_30, (xrng rfl (by omega) (by omega)), (xrng rfl (by omega) (by omega)), (xwk_rng hf30_0 (by decide) (by decide)), hM, xB_of9 ht hW hP hK hD [0, 1, 2, 3, 4] (by decide +kernel) rfl⟩⟩, hS.F ht⟩) hS.2.2 dX4_readWith_161
      · skip
        have i_6 : ¬ (r5.toInt = 0) := fun h9 => c_6 ((ieq rfl (by decide)).mpr h9)
        have hM : M_readWith place kind from_ value told pn fault fplace a0 tl tb = (K_readWith_10 pn a0 tl tb told fault fplace kind place from_ value) := (show M_readWith place kind from_ value told pn fault fplace a0 tl tb = (if r5.toInt = 0 then (K_readWith_9 place kind from_ value told pn fault fplace a0 tl tb) else (K_readWith_10 pn a0 tl tb told fault fplace kind place from_ value)) from hM).trans (if_neg i_6)
        refine lv_aload_n hx hb dX4_readWith_92 rfl (lv_at hl 0 rfl) ?_
        refine lv_bipush (v := 16) hx hb dX4_readWith_93 (by decide) ?_
        obtain ⟨hPc, hDc, hFc, hC9⟩ := xpk (wc := W_takeOnce cI cJ cZ cG cH rd (16 : Int32) tp rfa rya rla pl place kind from_ value told depth fault fplace tba tl tb) hP hD hS hA [2, 3, 4] (by decide +kernel) rfl
        refine va_callv (va_runV (As := [.int 16]) (rest := []) ⟨hx, hb, hml, hown, hts⟩ (c_takeOnce l D cI cJ cZ cG cH H.size rd (16 : Int32) tp rfa rya rla pl place kind from_ value told depth fault fplace tba tl tb (xrng rfl (by omega) (by omega)) (xrng rfl (by omega) (by omega)) (xrng rfl (by omega) (by omega)) (xrng rfl (by omega) (by omega))) (cwV 1 hts (xGV tbC wd346 wd347 wd348 wd60 wd989) rfl rfl rfl (by decide +kernel) ⟨Nat.le_of_ble_eq_true rfl, Nat.le_of_ble_eq_true rfl⟩) ⟨xPc_blind, va_recv hK hPc (ci := 3) (q0 := 0) rfl rfl, xPc_pre hPc hK hDc⟩ rfl rfl hl.1 rfl (lv_room (Nat.le_of_ble_eq_true rfl)) dX4_readWith_95 ⟨Nat.le_of_ble_eq_true rfl, Nat.le_of_ble_eq_true rfl⟩) hS (fun q _ h => hFc q h) hFc (fun u t H1 locs ht hvm hw31 hB hz1 hk1 hS => ?_)
        revert hB
        refine xex7r (fun place_32 kind_33 from__34 value_35 told_36 fault_37 fplace_38 => ?_)
        refine xan6r (fun hf38_0 hf38_1 hf38_2 hP1 hK1 hD1 => ?_)
        rw [ht] at hP1
        obtain ⟨hP, hD⟩ : xPD D A [oX3 pl pna pta rails limit retry behind, oAI pna cI 64 pn, oX4 rd tp rfa rya rla pl place_32 kind_33 from__34 value_35 told_36 depth fault_37 fplace_38, oX8 tp tba tl, oAI tba cI 400 tb] H1 := xjn 2 hP hD [2, 3, 4] [0, 1] hC9 rfl (by decide +kernel) (by decide +kernel) hk1 hFc hP1 hD1
        generalize H1 = H at hP hS ⊢
        have hf38_0 : 0 ≤ place_32.toInt ∧ place_32.toInt ≤ 400 := hf38_0
        have hf38_1 : 0 ≤ from__34.toInt ∧ from__34.toInt ≤ 400 := hf38_1
        have hf38_2 : M_takeOnce told (16 : Int32) tl tb fault fplace kind place from_ value = (place_32, kind_33, from__34, value_35, told_36, fault_37, fplace_38) := hf38_2
        have h9M := congrArg (fun t9 => (K_readWith_18 t9.2.2.2.2.1 pn a0 t9.2.2.2.2.2.1 t9.2.1 t9.2.2.2.1 t9.1 t9.2.2.1 t9.2.2.2.2.2.2 tl tb)) hf38_2
        have hM : M_readWith place kind from_ value told pn fault fplace a0 tl tb = (K_readWith_18 told_36 pn a0 fault_37 kind_33 value_35 place_32 from__34 fplace_38 tl tb) := (show M_readWith place kind from_ value told pn fault fplace a0 tl tb = ((fun t9 => (K_readWith_18 t9.2.2.2.2.1 pn a0 t9.2.2.2.2.2.1 t9.2.1 t9.2.2.2.1 t9.1 t9.2.2.1 t9.2.2.2.2.2.2 tl tb)) (M_takeOnce told (16 : Int32) tl tb fault fplace kind place from_ value)) from hM).trans h9M
        refine lv_aload_n hx hb dX4_readWith_98 rfl (lv_at hl 0 rfl) ?_
        refine va_get (D := D) (ci := 3) (v := .ref pl) (C := RX4) (T := TX4) (N := 13) hx hb hts (fun w h => tbC w (tbfX4 w h)) hown hK hP 2 rfl rfl 4 (by decide) (hts (.fieldLink RX4 15 "PowerRails$Reader" "plan" "LPowerRails$Plan;") (tbC _ wd236)) (fun _ h9 => h9) rfl dX4_readWith_99 ?_
        refine lv_iload_n hx hb dX4_readWith_102 rfl (lv_at hl 1 rfl) ?_
        refine lv_iconst (v := 5) hx hb dX4_readWith_103 (by decide) ?_
        refine lv_aload_n hx hb dX4_readWith_104 rfl (lv_at hl 0 rfl) ?_
        refine lv_iconst (v := 0) hx hb dX4_readWith_105 (by decide) ?_
        refine lv_bipush (v := 9) hx hb dX4_readWith_106 (by decide) ?_
        obtain ⟨hPc, hDc, hFc, hC9⟩ := xpk (wc := W_takeNumber cI cJ cZ cG cH rd (0 : Int32) (9 : Int32) tp rfa rya rla pl place_32 kind_33 from__34 value_35 told_36 depth fault_37 fplace_38 tba tl tb) hP hD hS hA [2, 3, 4] (by decide +kernel) rfl
        refine va_calli (va_runV (As := [.int 0, .int 9]) (rest := [.int 5, .int a0, .ref pl]) ⟨hx, hb, hml, hown, hts⟩ (c_takeNumber l D cI cJ cZ cG cH H.size rd (0 : Int32) (9 : Int32) tp rfa rya rla pl place_32 kind_33 from__34 value_35 told_36 depth fault_37 fplace_38 tba tl tb (xrng rfl (by omega) (by omega)) (xrng rfl (by omega) (by omega)) (xrng rfl (by omega) (by omega)) (xrng rfl (by omega) (by omega))) (cwV 2 hts (xGV tbC wd339 wd340 wd341 wd60 wd987) rfl rfl rfl (by decide +kernel) ⟨Nat.le_of_ble_eq_true rfl, Nat.le_of_ble_eq_true rfl⟩) ⟨xPc_blind, va_recv hK hPc (ci := 3) (q0 := 0) rfl rfl, xPc_pre hPc hK hDc⟩ rfl rfl hl.1 rfl (lv_room (Nat.le_of_ble_eq_true rfl)) dX4_readWith_108 ⟨Nat.le_of_ble_eq_true rfl, Nat.le_of_ble_eq_true rfl⟩) hS (fun q _ h => hFc q h) hFc (fun r39 u t H1 locs ht hvm hw39 hB hz1 hk1 hS => ?_)
        obtain ⟨hru9, hw39⟩ := hw39
        subst hru9
        revert hB
        refine xex6r (fun place_40 kind_41 from__42 value_43 fault_44 fplace_45 => ?_)
        refine xan6r (fun hf45_0 hf45_1 hf45_2 hP1 hK1 hD1 => ?_)
        rw [ht] at hP1
        obtain ⟨hP, hD⟩ : xPD D A [oX3 pl pna pta rails limit retry behind, oAI pna cI 64 pn, oX4 rd tp rfa rya rla pl place_40 kind_41 from__42 value_43 told_36 depth fault_44 fplace_45, oX8 tp tba tl, oAI tba cI 400 tb] H1 := xjn 2 hP hD [2, 3, 4] [0, 1] hC9 rfl (by decide +kernel) (by decide +kernel) hk1 hFc hP1 hD1
        generalize H1 = H at hP hS ⊢
        have hf45_0 : 0 ≤ place_40.toInt ∧ place_40.toInt ≤ 400 := hf45_0
        have hf45_1 : 0 ≤ from__42.toInt ∧ from__42.toInt ≤ 400 := hf45_1
        have hf45_2 : M_takeNumber fault_37 kind_33 value_35 (0 : Int32) place_32 from__34 fplace_38 (9 : Int32) tl tb = (r39, place_40, kind_41, from__42, value_43, fault_44, fplace_45) := hf45_2
        have hw39 : (0 : Int32).toInt ≤ r39.toInt ∧ (r39.toInt ≤ (0 : Int32).toInt ∨ r39.toInt ≤ (9 : Int32).toInt) := hw39
        have ez46 : (0 : Int32).toInt = 0 := by decide
        have ez47 : (9 : Int32).toInt = 9 := by decide
        have h9M := congrArg (fun t9 => (K_readWith_19 t9.2.1 t9.2.2.1 t9.2.2.2.1 t9.2.2.2.2.1 told_36 t9.2.2.2.2.2.1 t9.2.2.2.2.2.2 pn a0 t9.1)) hf45_2
        have hM : M_readWith place kind from_ value told pn fault fplace a0 tl tb = (K_readWith_19 place_40 kind_41 from__42 value_43 told_36 fault_44 fplace_45 pn a0 r39) := (show M_readWith place kind from_ value told pn fault fplace a0 tl tb = ((fun t9 => (K_readWith_19 t9.2.1 t9.2.2.1 t9.2.2.2.1 t9.2.2.2.2.1 told_36 t9.2.2.2.2.2.1 t9.2.2.2.2.2.2 pn a0 t9.1)) (M_takeNumber fault_37 kind_33 value_35 (0 : Int32) place_32 from__34 fplace_38 (9 : Int32) tl tb)) from hM).trans h9M
        obtain ⟨hPc, hDc, hFc, hC9⟩ := xpk (wc := W_setNumber cI cJ cZ cG cH pl a0 (5 : Int32) r39 pna pta rails limit retry behind pn) hP hD hS hA [0, 1] (by decide +kernel) rfl
        refine va_callv (va_runV (As := [.int a0, .int 5, .int r39]) (rest := []) ⟨hx, hb, hml, hown, hts⟩ (c_setNumber l D cI cJ cZ cG cH H.size pl a0 (5 : Int32) r39 pna pta rails limit retry behind pn (xrng rfl (by omega) (by omega)) ⟨by decide, by decide⟩ (xrng rfl (by omega) (by omega)) (xrng rfl (by omega) (by omega)) (xwk_rng h_pn (by decide) (by decide))) (cwV 3 hts (xGV tbC wd342 wd330 wd331 wd59 wd984) rfl rfl rfl (by decide +kernel) ⟨Nat.le_of_ble_eq_true rfl, Nat.le_of_ble_eq_true rfl⟩) ⟨xPc_blind, va_recv hK hPc (ci := 2) (q0 := 0) rfl rfl, xPc_pre hPc hK hDc⟩ rfl rfl hl.1 rfl (lv_room (Nat.le_of_ble_eq_true rfl)) dX4_readWith_111 ⟨Nat.le_of_ble_eq_true rfl, Nat.le_of_ble_eq_true rfl⟩) hS (fun q _ h => hFc q h) hFc (fun u t H1 locs ht hvm hw48 hB hz1 hk1 hS => ?_)
        obtain ⟨pn_49, hf49_0, hf49_1, hP1, hK1, hD1⟩ := hB
        rw [ht] at hP1
        obtain ⟨hP, hD⟩ : xPD D A [oX4 rd tp rfa rya rla pl place_40 kind_41 from__42 value_43 told_36 depth fault_44 fplace_45, oX8 tp tba tl, oAI tba cI 400 tb, oX3 pl pna pta rails limit retry behind, oAI pna cI 64 pn_49] H1 := xjn 3 hP hD [0, 1] [2, 3, 4] hC9 rfl (by decide +kernel) (by decide +kernel) hk1 hFc hP1 hD1
        generalize H1 = H at hP hS ⊢
        have hf49_0 : ∀ j, j < 64 → 0 ≤ (pn_49 j).toInt ∧ (pn_49 j).toInt ≤ 511 := hf49_0
        have hf49_1 : M_setNumber pn a0 (5 : Int32) r39 = (pn_49) := hf49_1
        have h9M := congrArg (fun t9 => (K_readWith_20 place_40 kind_41 from__42 value_43 told_36 fault_44 fplace_45 t9)) hf49_1
        have hM : M_readWith place kind from_ value told pn fault fplace a0 tl tb = (K_readWith_20 place_40 kind_41 from__42 value_43 told_36 fault_44 fplace_45 pn_49) := (show M_readWith place kind from_ value told pn fault fplace a0 tl tb = ((fun t9 => (K_readWith_20 place_40 kind_41 from__42 value_43 told_36 fault_44 fplace_45 t9)) (M_setNumber pn a0 (5 : Int32) r39)) from hM).trans h9M
        refine lv_goto (tgt := 161) hx hb dX4_readWith_114 (by decide) ?_
        refine W.widen (k := 0) (n := 0) (by decide) (by decide) ?_
        exact W.vret hx hb hr (fun t ht hW => ⟨⟨(), rfl, trivial, ⟨place_40, kind_41, from__42, value_43, told_36, fault_44, fplace_45, pn_49, (xrng rfl (by omega) (by omega)), (xrng rfl (by omega) (by omega)), (xwk_rng hf49_0 (by decide) (by decide)), hM, xB_of9 ht hW hP hK hD [0, 1, 2, 3, 4] (by decide +kernel) rfl⟩⟩, hS.F ht⟩) hS.2.2 dX4_readWith_161
    · skip
      have i_4 : ¬ (r3.toInt = 0) := fun h9 => c_4 ((ieq rfl (by decide)).mpr h9)
      have hM : M_readWith place kind from_ value told pn fault fplace a0 tl tb = (K_readWith_7 a0 tl tb pn told fault fplace kind place from_ value) := (show M_readWith place kind from_ value told pn fault fplace a0 tl tb = (if r3.toInt = 0 then (K_readWith_6 place kind from_ value told pn fault fplace a0 tl tb) else (K_readWith_7 a0 tl tb pn told fault fplace kind place from_ value)) from hM).trans (if_neg i_4)
      refine lv_aload_n hx hb dX4_readWith_42 rfl (lv_at hl 0 rfl) ?_
      refine lv_bipush (v := 8) hx hb dX4_readWith_43 (by decide) ?_
      obtain ⟨hPc, hDc, hFc, hC9⟩ := xpk (wc := W_takeOnce cI cJ cZ cG cH rd (8 : Int32) tp rfa rya rla pl place kind from_ value told depth fault fplace tba tl tb) hP hD hS hA [2, 3, 4] (by decide +kernel) rfl
      refine va_callv (va_runV (As := [.int 8]) (rest := []) ⟨hx, hb, hml, hown, hts⟩ (c_takeOnce l D cI cJ cZ cG cH H.size rd (8 : Int32) tp rfa rya rla pl place kind from_ value told depth fault fplace tba tl tb (xrng rfl (by omega) (by omega)) (xrng rfl (by omega) (by omega)) (xrng rfl (by omega) (by omega)) (xrng rfl (by omega) (by omega))) (cwV 1 hts (xGV tbC wd346 wd347 wd348 wd60 wd989) rfl rfl rfl (by decide +kernel) ⟨Nat.le_of_ble_eq_true rfl, Nat.le_of_ble_eq_true rfl⟩) ⟨xPc_blind, va_recv hK hPc (ci := 3) (q0 := 0) rfl rfl, xPc_pre hPc hK hDc⟩ rfl rfl hl.1 rfl (lv_room (Nat.le_of_ble_eq_true rfl)) dX4_readWith_45 ⟨Nat.le_of_ble_eq_true rfl, Nat.le_of_ble_eq_true rfl⟩) hS (fun q _ h => hFc q h) hFc (fun u t H1 locs ht hvm hw50 hB hz1 hk1 hS => ?_)
      revert hB
      refine xex7r (fun place_51 kind_52 from__53 value_54 told_55 fault_56 fplace_57 => ?_)
      refine xan6r (fun hf57_0 hf57_1 hf57_2 hP1 hK1 hD1 => ?_)
      rw [ht] at hP1
      obtain ⟨hP, hD⟩ : xPD D A [oX3 pl pna pta rails limit retry behind, oAI pna cI 64 pn, oX4 rd tp rfa rya rla pl place_51 kind_52 from__53 value_54 told_55 depth fault_56 fplace_57, oX8 tp tba tl, oAI tba cI 400 tb] H1 := xjn 2 hP hD [2, 3, 4] [0, 1] hC9 rfl (by decide +kernel) (by decide +kernel) hk1 hFc hP1 hD1
      generalize H1 = H at hP hS ⊢
      have hf57_0 : 0 ≤ place_51.toInt ∧ place_51.toInt ≤ 400 := hf57_0
      have hf57_1 : 0 ≤ from__53.toInt ∧ from__53.toInt ≤ 400 := hf57_1
      have hf57_2 : M_takeOnce told (8 : Int32) tl tb fault fplace kind place from_ value = (place_51, kind_52, from__53, value_54, told_55, fault_56, fplace_57) := hf57_2
      have h9M := congrArg (fun t9 => (K_readWith_21 t9.2.2.2.2.1 a0 tl tb pn t9.2.2.2.2.2.1 t9.2.1 t9.2.2.2.1 t9.1 t9.2.2.1 t9.2.2.2.2.2.2)) hf57_2
      have hM : M_readWith place kind from_ value told pn fault fplace a0 tl tb = (K_readWith_21 told_55 a0 tl tb pn fault_56 kind_52 value_54 place_51 from__53 fplace_57) := (show M_readWith place kind from_ value told pn fault fplace a0 tl tb = ((fun t9 => (K_readWith_21 t9.2.2.2.2.1 a0 tl tb pn t9.2.2.2.2.2.1 t9.2.1 t9.2.2.2.1 t9.1 t9.2.2.1 t9.2.2.2.2.2.2)) (M_takeOnce told (8 : Int32) tl tb fault fplace kind place from_ value)) from hM).trans h9M
      refine lv_aload_n hx hb dX4_readWith_48 rfl (lv_at hl 0 rfl) ?_
      refine va_get (D := D) (ci := 3) (v := .ref pl) (C := RX4) (T := TX4) (N := 13) hx hb hts (fun w h => tbC w (tbfX4 w h)) hown hK hP 2 rfl rfl 4 (by decide) (hts (.fieldLink RX4 15 "PowerRails$Reader" "plan" "LPowerRails$Plan;") (tbC _ wd236)) (fun _ h9 => h9) rfl dX4_readWith_49 ?_
      refine lv_iload_n hx hb dX4_readWith_52 rfl (lv_at hl 1 rfl) ?_
      refine lv_iconst (v := 3) hx hb dX4_readWith_53 (by decide) ?_
      refine lv_aload_n hx hb dX4_readWith_54 rfl (lv_at hl 0 rfl) ?_
      refine lv_iconst (v := 0) hx hb dX4_readWith_55 (by decide) ?_
      refine lv_bipush (v := 99) hx hb dX4_readWith_56 (by decide) ?_
      obtain ⟨hPc, hDc, hFc, hC9⟩ := xpk (wc := W_takeNumber cI cJ cZ cG cH rd (0 : Int32) (99 : Int32) tp rfa rya rla pl place_51 kind_52 from__53 value_54 told_55 depth fault_56 fplace_57 tba tl tb) hP hD hS hA [2, 3, 4] (by decide +kernel) rfl
      refine va_calli (va_runV (As := [.int 0, .int 99]) (rest := [.int 3, .int a0, .ref pl]) ⟨hx, hb, hml, hown, hts⟩ (c_takeNumber l D cI cJ cZ cG cH H.size rd (0 : Int32) (99 : Int32) tp rfa rya rla pl place_51 kind_52 from__53 value_54 told_55 depth fault_56 fplace_57 tba tl tb (xrng rfl (by omega) (by omega)) (xrng rfl (by omega) (by omega)) (xrng rfl (by omega) (by omega)) (xrng rfl (by omega) (by omega))) (cwV 2 hts (xGV tbC wd339 wd340 wd341 wd60 wd987) rfl rfl rfl (by decide +kernel) ⟨Nat.le_of_ble_eq_true rfl, Nat.le_of_ble_eq_true rfl⟩) ⟨xPc_blind, va_recv hK hPc (ci := 3) (q0 := 0) rfl rfl, xPc_pre hPc hK hDc⟩ rfl rfl hl.1 rfl (lv_room (Nat.le_of_ble_eq_true rfl)) dX4_readWith_58 ⟨Nat.le_of_ble_eq_true rfl, Nat.le_of_ble_eq_true rfl⟩) hS (fun q _ h => hFc q h) hFc (fun r58 u t H1 locs ht hvm hw58 hB hz1 hk1 hS => ?_)
      obtain ⟨hru9, hw58⟩ := hw58
      subst hru9
      revert hB
      refine xex6r (fun place_59 kind_60 from__61 value_62 fault_63 fplace_64 => ?_)
      refine xan6r (fun hf64_0 hf64_1 hf64_2 hP1 hK1 hD1 => ?_)
      rw [ht] at hP1
      obtain ⟨hP, hD⟩ : xPD D A [oX3 pl pna pta rails limit retry behind, oAI pna cI 64 pn, oX4 rd tp rfa rya rla pl place_59 kind_60 from__61 value_62 told_55 depth fault_63 fplace_64, oX8 tp tba tl, oAI tba cI 400 tb] H1 := xjn 2 hP hD [2, 3, 4] [0, 1] hC9 rfl (by decide +kernel) (by decide +kernel) hk1 hFc hP1 hD1
      generalize H1 = H at hP hS ⊢
      have hf64_0 : 0 ≤ place_59.toInt ∧ place_59.toInt ≤ 400 := hf64_0
      have hf64_1 : 0 ≤ from__61.toInt ∧ from__61.toInt ≤ 400 := hf64_1
      have hf64_2 : M_takeNumber fault_56 kind_52 value_54 (0 : Int32) place_51 from__53 fplace_57 (99 : Int32) tl tb = (r58, place_59, kind_60, from__61, value_62, fault_63, fplace_64) := hf64_2
      have hw58 : (0 : Int32).toInt ≤ r58.toInt ∧ (r58.toInt ≤ (0 : Int32).toInt ∨ r58.toInt ≤ (99 : Int32).toInt) := hw58
      have ez65 : (0 : Int32).toInt = 0 := by decide
      have ez66 : (99 : Int32).toInt = 99 := by decide
      have h9M := congrArg (fun t9 => (K_readWith_22 told_55 a0 t9.2.2.2.2.2.1 t9.2.2.1 t9.2.2.2.2.1 t9.2.1 t9.2.2.2.1 t9.2.2.2.2.2.2 tl tb pn t9.1)) hf64_2
      have hM : M_readWith place kind from_ value told pn fault fplace a0 tl tb = (K_readWith_22 told_55 a0 fault_63 kind_60 value_62 place_59 from__61 fplace_64 tl tb pn r58) := (show M_readWith place kind from_ value told pn fault fplace a0 tl tb = ((fun t9 => (K_readWith_22 told_55 a0 t9.2.2.2.2.2.1 t9.2.2.1 t9.2.2.2.2.1 t9.2.1 t9.2.2.2.1 t9.2.2.2.2.2.2 tl tb pn t9.1)) (M_takeNumber fault_56 kind_52 value_54 (0 : Int32) place_51 from__53 fplace_57 (99 : Int32) tl tb)) from hM).trans h9M
      obtain ⟨hPc, hDc, hFc, hC9⟩ := xpk (wc := W_setNumber cI cJ cZ cG cH pl a0 (3 : Int32) r58 pna pta rails limit retry behind pn) hP hD hS hA [0, 1] (by decide +kernel) rfl
      refine va_callv (va_runV (As := [.int a0, .int 3, .int r58]) (rest := []) ⟨hx, hb, hml, hown, hts⟩ (c_setNumber l D cI cJ cZ cG cH H.size pl a0 (3 : Int32) r58 pna pta rails limit retry behind pn (xrng rfl (by omega) (by omega)) ⟨by decide, by decide⟩ (xrng rfl (by omega) (by omega)) (xrng rfl (by omega) (by omega)) (xwk_rng h_pn (by decide) (by decide))) (cwV 3 hts (xGV tbC wd342 wd330 wd331 wd59 wd984) rfl rfl rfl (by decide +kernel) ⟨Nat.le_of_ble_eq_true rfl, Nat.le_of_ble_eq_true rfl⟩) ⟨xPc_blind, va_recv hK hPc (ci := 2) (q0 := 0) rfl rfl, xPc_pre hPc hK hDc⟩ rfl rfl hl.1 rfl (lv_room (Nat.le_of_ble_eq_true rfl)) dX4_readWith_61 ⟨Nat.le_of_ble_eq_true rfl, Nat.le_of_ble_eq_true rfl⟩) hS (fun q _ h => hFc q h) hFc (fun u t H1 locs ht hvm hw67 hB hz1 hk1 hS => ?_)
      obtain ⟨pn_68, hf68_0, hf68_1, hP1, hK1, hD1⟩ := hB
      rw [ht] at hP1
      obtain ⟨hP, hD⟩ : xPD D A [oX4 rd tp rfa rya rla pl place_59 kind_60 from__61 value_62 told_55 depth fault_63 fplace_64, oX8 tp tba tl, oAI tba cI 400 tb, oX3 pl pna pta rails limit retry behind, oAI pna cI 64 pn_68] H1 := xjn 3 hP hD [0, 1] [2, 3, 4] hC9 rfl (by decide +kernel) (by decide +kernel) hk1 hFc hP1 hD1
      generalize H1 = H at hP hS ⊢
      have hf68_0 : ∀ j, j < 64 → 0 ≤ (pn_68 j).toInt ∧ (pn_68 j).toInt ≤ 511 := hf68_0
      have hf68_1 : M_setNumber pn a0 (3 : Int32) r58 = (pn_68) := hf68_1
      have h9M := congrArg (fun t9 => (K_readWith_23 told_55 t9 a0 fault_63 kind_60 value_62 place_59 from__61 fplace_64 tl tb)) hf68_1
      have hM : M_readWith place kind from_ value told pn fault fplace a0 tl tb = (K_readWith_23 told_55 pn_68 a0 fault_63 kind_60 value_62 place_59 from__61 fplace_64 tl tb) := (show M_readWith place kind from_ value told pn fault fplace a0 tl tb = ((fun t9 => (K_readWith_23 told_55 t9 a0 fault_63 kind_60 value_62 place_59 from__61 fplace_64 tl tb)) (M_setNumber pn a0 (3 : Int32) r58)) from hM).trans h9M
      refine lv_aload_n hx hb dX4_readWith_64 rfl (lv_at hl 0 rfl) ?_
      refine va_get (D := D) (ci := 3) (v := .ref pl) (C := RX4) (T := TX4) (N := 13) hx hb hts (fun w h => tbC w (tbfX4 w h)) hown hK hP 0 rfl rfl 4 (by decide) (hts (.fieldLink RX4 15 "PowerRails$Reader" "plan" "LPowerRails$Plan;") (tbC _ wd236)) (fun _ h9 => h9) rfl dX4_readWith_65 ?_
      refine lv_iload_n hx hb dX4_readWith_68 rfl (lv_at hl 1 rfl) ?_
      refine lv_iconst (v := 4) hx hb dX4_readWith_69 (by decide) ?_
      refine lv_aload_n hx hb dX4_readWith_70 rfl (lv_at hl 0 rfl) ?_
      refine lv_iconst (v := 0) hx hb dX4_readWith_71 (by decide) ?_
      refine lv_bipush (v := 99) hx hb dX4_readWith_72 (by decide) ?_
      obtain ⟨hPc, hDc, hFc, hC9⟩ := xpk (wc := W_takeNumber cI cJ cZ cG cH rd (0 : Int32) (99 : Int32) tp rfa rya rla pl place_59 kind_60 from__61 value_62 told_55 depth fault_63 fplace_64 tba tl tb) hP hD hS hA [0, 1, 2] (by decide +kernel) rfl
      refine va_calli (va_runV (As := [.int 0, .int 99]) (rest := [.int 4, .int a0, .ref pl]) ⟨hx, hb, hml, hown, hts⟩ (c_takeNumber l D cI cJ cZ cG cH H.size rd (0 : Int32) (99 : Int32) tp rfa rya rla pl place_59 kind_60 from__61 value_62 told_55 depth fault_63 fplace_64 tba tl tb (xrng rfl (by omega) (by omega)) (xrng rfl (by omega) (by omega)) (xrng rfl (by omega) (by omega)) (xrng rfl (by omega) (by omega))) (cwV 2 hts (xGV tbC wd339 wd340 wd341 wd60 wd987) rfl rfl rfl (by decide +kernel) ⟨Nat.le_of_ble_eq_true rfl, Nat.le_of_ble_eq_true rfl⟩) ⟨xPc_blind, va_recv hK hPc (ci := 3) (q0 := 0) rfl rfl, xPc_pre hPc hK hDc⟩ rfl rfl hl.1 rfl (lv_room (Nat.le_of_ble_eq_true rfl)) dX4_readWith_74 ⟨Nat.le_of_ble_eq_true rfl, Nat.le_of_ble_eq_true rfl⟩) hS (fun q _ h => hFc q h) hFc (fun r69 u t H1 locs ht hvm hw69 hB hz1 hk1 hS => ?_)
      obtain ⟨hru9, hw69⟩ := hw69
      subst hru9
      revert hB
      refine xex6r (fun place_70 kind_71 from__72 value_73 fault_74 fplace_75 => ?_)
      refine xan6r (fun hf75_0 hf75_1 hf75_2 hP1 hK1 hD1 => ?_)
      rw [ht] at hP1
      obtain ⟨hP, hD⟩ : xPD D A [oX3 pl pna pta rails limit retry behind, oAI pna cI 64 pn_68, oX4 rd tp rfa rya rla pl place_70 kind_71 from__72 value_73 told_55 depth fault_74 fplace_75, oX8 tp tba tl, oAI tba cI 400 tb] H1 := xjn 2 hP hD [0, 1, 2] [3, 4] hC9 rfl (by decide +kernel) (by decide +kernel) hk1 hFc hP1 hD1
      generalize H1 = H at hP hS ⊢
      have hf75_0 : 0 ≤ place_70.toInt ∧ place_70.toInt ≤ 400 := hf75_0
      have hf75_1 : 0 ≤ from__72.toInt ∧ from__72.toInt ≤ 400 := hf75_1
      have hf75_2 : M_takeNumber fault_63 kind_60 value_62 (0 : Int32) place_59 from__61 fplace_64 (99 : Int32) tl tb = (r69, place_70, kind_71, from__72, value_73, fault_74, fplace_75) := hf75_2
      have hw69 : (0 : Int32).toInt ≤ r69.toInt ∧ (r69.toInt ≤ (0 : Int32).toInt ∨ r69.toInt ≤ (99 : Int32).toInt) := hw69
      have ez76 : (0 : Int32).toInt = 0 := by decide
      have ez77 : (99 : Int32).toInt = 99 := by decide
      have h9M := congrArg (fun t9 => (K_readWith_24 t9.2.1 t9.2.2.1 t9.2.2.2.1 t9.2.2.2.2.1 told_55 t9.2.2.2.2.2.1 t9.2.2.2.2.2.2 pn_68 a0 t9.1)) hf75_2
      have hM : M_readWith place kind from_ value told pn fault fplace a0 tl tb = (K_readWith_24 place_70 kind_71 from__72 value_73 told_55 fault_74 fplace_75 pn_68 a0 r69) := (show M_readWith place kind from_ value told pn fault fplace a0 tl tb = ((fun t9 => (K_readWith_24 t9.2.1 t9.2.2.1 t9.2.2.2.1 t9.2.2.2.2.1 told_55 t9.2.2.2.2.2.1 t9.2.2.2.2.2.2 pn_68 a0 t9.1)) (M_takeNumber fault_63 kind_60 value_62 (0 : Int32) place_59 from__61 fplace_64 (99 : Int32) tl tb)) from hM).trans h9M
      obtain ⟨hPc, hDc, hFc, hC9⟩ := xpk (wc := W_setNumber cI cJ cZ cG cH pl a0 (4 : Int32) r69 pna pta rails limit retry behind pn_68) hP hD hS hA [0, 1] (by decide +kernel) rfl
      refine va_callv (va_runV (As := [.int a0, .int 4, .int r69]) (rest := []) ⟨hx, hb, hml, hown, hts⟩ (c_setNumber l D cI cJ cZ cG cH H.size pl a0 (4 : Int32) r69 pna pta rails limit retry behind pn_68 (xrng rfl (by omega) (by omega)) ⟨by decide, by decide⟩ (xrng rfl (by omega) (by omega)) (xrng rfl (by omega) (by omega)) (xwk_rng hf68_0 (by decide) (by decide))) (cwV 3 hts (xGV tbC wd342 wd330 wd331 wd59 wd984) rfl rfl rfl (by decide +kernel) ⟨Nat.le_of_ble_eq_true rfl, Nat.le_of_ble_eq_true rfl⟩) ⟨xPc_blind, va_recv hK hPc (ci := 2) (q0 := 0) rfl rfl, xPc_pre hPc hK hDc⟩ rfl rfl hl.1 rfl (lv_room (Nat.le_of_ble_eq_true rfl)) dX4_readWith_77 ⟨Nat.le_of_ble_eq_true rfl, Nat.le_of_ble_eq_true rfl⟩) hS (fun q _ h => hFc q h) hFc (fun u t H1 locs ht hvm hw78 hB hz1 hk1 hS => ?_)
      obtain ⟨pn_79, hf79_0, hf79_1, hP1, hK1, hD1⟩ := hB
      rw [ht] at hP1
      obtain ⟨hP, hD⟩ : xPD D A [oX4 rd tp rfa rya rla pl place_70 kind_71 from__72 value_73 told_55 depth fault_74 fplace_75, oX8 tp tba tl, oAI tba cI 400 tb, oX3 pl pna pta rails limit retry behind, oAI pna cI 64 pn_79] H1 := xjn 3 hP hD [0, 1] [2, 3, 4] hC9 rfl (by decide +kernel) (by decide +kernel) hk1 hFc hP1 hD1
      generalize H1 = H at hP hS ⊢
      have hf79_0 : ∀ j, j < 64 → 0 ≤ (pn_79 j).toInt ∧ (pn_79 j).toInt ≤ 511 := hf79_0
      have hf79_1 : M_setNumber pn_68 a0 (4 : Int32) r69 = (pn_79) := hf79_1
      have h9M := congrArg (fun t9 => (K_readWith_25 place_70 kind_71 from__72 value_73 told_55 fault_74 fplace_75 t9)) hf79_1
      have hM : M_readWith place kind from_ value told pn fault fplace a0 tl tb = (K_readWith_25 place_70 kind_71 from__72 value_73 told_55 fault_74 fplace_75 pn_79) := (show M_readWith place kind from_ value told pn fault fplace a0 tl tb = ((fun t9 => (K_readWith_25 place_70 kind_71 from__72 value_73 told_55 fault_74 fplace_75 t9)) (M_setNumber pn_68 a0 (4 : Int32) r69)) from hM).trans h9M
      refine lv_goto (tgt := 161) hx hb dX4_readWith_80 (by decide) ?_
      refine W.widen (k := 0) (n := 0) (by decide) (by decide) ?_
      exact W.vret hx hb hr (fun t ht hW => ⟨⟨(), rfl, trivial, ⟨place_70, kind_71, from__72, value_73, told_55, fault_74, fplace_75, pn_79, (xrng rfl (by omega) (by omega)), (xrng rfl (by omega) (by omega)), (xwk_rng hf79_0 (by decide) (by decide)), hM, xB_of9 ht hW hP hK hD [0, 1, 2, 3, 4] (by decide +kernel) rfl⟩⟩, hS.F ht⟩) hS.2.2 dX4_readWith_161
  · skip
    have i_2 : ¬ (r1.toInt = 0) := fun h9 => c_2 ((ieq rfl (by decide)).mpr h9)
    have hM : M_readWith place kind from_ value told pn fault fplace a0 tl tb = (K_readWith_4 pn a0 tl tb told fault fplace kind place from_ value) := (show M_readWith place kind from_ value told pn fault fplace a0 tl tb = (if r1.toInt = 0 then (K_readWith_3 place kind from_ value told pn fault fplace a0 tl tb) else (K_readWith_4 pn a0 tl tb told fault fplace kind place from_ value)) from hM).trans (if_neg i_2)
    refine lv_aload_n hx hb dX4_readWith_9 rfl (lv_at hl 0 rfl) ?_
    refine lv_iconst (v := 4) hx hb dX4_readWith_10 (by decide) ?_
    obtain ⟨hPc, hDc, hFc, hC9⟩ := xpk (wc := W_takeOnce cI cJ cZ cG cH rd (4 : Int32) tp rfa rya rla pl place kind from_ value told depth fault fplace tba tl tb) hP hD hS hA [2, 3, 4] (by decide +kernel) rfl
    refine va_callv (va_runV (As := [.int 4]) (rest := []) ⟨hx, hb, hml, hown, hts⟩ (c_takeOnce l D cI cJ cZ cG cH H.size rd (4 : Int32) tp rfa rya rla pl place kind from_ value told depth fault fplace tba tl tb (xrng rfl (by omega) (by omega)) (xrng rfl (by omega) (by omega)) (xrng rfl (by omega) (by omega)) (xrng rfl (by omega) (by omega))) (cwV 1 hts (xGV tbC wd346 wd347 wd348 wd60 wd989) rfl rfl rfl (by decide +kernel) ⟨Nat.le_of_ble_eq_true rfl, Nat.le_of_ble_eq_true rfl⟩) ⟨xPc_blind, va_recv hK hPc (ci := 3) (q0 := 0) rfl rfl, xPc_pre hPc hK hDc⟩ rfl rfl hl.1 rfl (lv_room (Nat.le_of_ble_eq_true rfl)) dX4_readWith_11 ⟨Nat.le_of_ble_eq_true rfl, Nat.le_of_ble_eq_true rfl⟩) hS (fun q _ h => hFc q h) hFc (fun u t H1 locs ht hvm hw80 hB hz1 hk1 hS => ?_)
    revert hB
    refine xex7r (fun place_81 kind_82 from__83 value_84 told_85 fault_86 fplace_87 => ?_)
    refine xan6r (fun hf87_0 hf87_1 hf87_2 hP1 hK1 hD1 => ?_)
    rw [ht] at hP1
    obtain ⟨hP, hD⟩ : xPD D A [oX3 pl pna pta rails limit retry behind, oAI pna cI 64 pn, oX4 rd tp rfa rya rla pl place_81 kind_82 from__83 value_84 told_85 depth fault_86 fplace_87, oX8 tp tba tl, oAI tba cI 400 tb] H1 := xjn 2 hP hD [2, 3, 4] [0, 1] hC9 rfl (by decide +kernel) (by decide +kernel) hk1 hFc hP1 hD1
    generalize H1 = H at hP hS ⊢
    have hf87_0 : 0 ≤ place_81.toInt ∧ place_81.toInt ≤ 400 := hf87_0
    have hf87_1 : 0 ≤ from__83.toInt ∧ from__83.toInt ≤ 400 := hf87_1
    have hf87_2 : M_takeOnce told (4 : Int32) tl tb fault fplace kind place from_ value = (place_81, kind_82, from__83, value_84, told_85, fault_86, fplace_87) := hf87_2
    have h9M := congrArg (fun t9 => (K_readWith_26 t9.2.2.2.2.1 pn a0 t9.2.2.2.2.2.1 t9.2.1 t9.2.2.2.1 t9.1 t9.2.2.1 t9.2.2.2.2.2.2 tl tb)) hf87_2
    have hM : M_readWith place kind from_ value told pn fault fplace a0 tl tb = (K_readWith_26 told_85 pn a0 fault_86 kind_82 value_84 place_81 from__83 fplace_87 tl tb) := (show M_readWith place kind from_ value told pn fault fplace a0 tl tb = ((fun t9 => (K_readWith_26 t9.2.2.2.2.1 pn a0 t9.2.2.2.2.2.1 t9.2.1 t9.2.2.2.1 t9.1 t9.2.2.1 t9.2.2.2.2.2.2 tl tb)) (M_takeOnce told (4 : Int32) tl tb fault fplace kind place from_ value)) from hM).trans h9M
    refine lv_aload_n hx hb dX4_readWith_14 rfl (lv_at hl 0 rfl) ?_
    refine va_get (D := D) (ci := 3) (v := .ref pl) (C := RX4) (T := TX4) (N := 13) hx hb hts (fun w h => tbC w (tbfX4 w h)) hown hK hP 2 rfl rfl 4 (by decide) (hts (.fieldLink RX4 15 "PowerRails$Reader" "plan" "LPowerRails$Plan;") (tbC _ wd236)) (fun _ h9 => h9) rfl dX4_readWith_15 ?_
    refine lv_iload_n hx hb dX4_readWith_18 rfl (lv_at hl 1 rfl) ?_
    refine lv_iconst (v := 2) hx hb dX4_readWith_19 (by decide) ?_
    refine lv_aload_n hx hb dX4_readWith_20 rfl (lv_at hl 0 rfl) ?_
    refine lv_iconst (v := 0) hx hb dX4_readWith_21 (by decide) ?_
    refine lv_bipush (v := 9) hx hb dX4_readWith_22 (by decide) ?_
    obtain ⟨hPc, hDc, hFc, hC9⟩ := xpk (wc := W_takeNumber cI cJ cZ cG cH rd (0 : Int32) (9 : Int32) tp rfa rya rla pl place_81 kind_82 from__83 value_84 told_85 depth fault_86 fplace_87 tba tl tb) hP hD hS hA [2, 3, 4] (by decide +kernel) rfl
    refine va_calli (va_runV (As := [.int 0, .int 9]) (rest := [.int 2, .int a0, .ref pl]) ⟨hx, hb, hml, hown, hts⟩ (c_takeNumber l D cI cJ cZ cG cH H.size rd (0 : Int32) (9 : Int32) tp rfa rya rla pl place_81 kind_82 from__83 value_84 told_85 depth fault_86 fplace_87 tba tl tb (xrng rfl (by omega) (by omega)) (xrng rfl (by omega) (by omega)) (xrng rfl (by omega) (by omega)) (xrng rfl (by omega) (by omega))) (cwV 2 hts (xGV tbC wd339 wd340 wd341 wd60 wd987) rfl rfl rfl (by decide +kernel) ⟨Nat.le_of_ble_eq_true rfl, Nat.le_of_ble_eq_true rfl⟩) ⟨xPc_blind, va_recv hK hPc (ci := 3) (q0 := 0) rfl rfl, xPc_pre hPc hK hDc⟩ rfl rfl hl.1 rfl (lv_room (Nat.le_of_ble_eq_true rfl)) dX4_readWith_24 ⟨Nat.le_of_ble_eq_true rfl, Nat.le_of_ble_eq_true rfl⟩) hS (fun q _ h => hFc q h) hFc (fun r88 u t H1 locs ht hvm hw88 hB hz1 hk1 hS => ?_)
    obtain ⟨hru9, hw88⟩ := hw88
    subst hru9
    revert hB
    refine xex6r (fun place_89 kind_90 from__91 value_92 fault_93 fplace_94 => ?_)
    refine xan6r (fun hf94_0 hf94_1 hf94_2 hP1 hK1 hD1 => ?_)
    rw [ht] at hP1
    obtain ⟨hP, hD⟩ : xPD D A [oX3 pl pna pta rails limit retry behind, oAI pna cI 64 pn, oX4 rd tp rfa rya rla pl place_89 kind_90 from__91 value_92 told_85 depth fault_93 fplace_94, oX8 tp tba tl, oAI tba cI 400 tb] H1 := xjn 2 hP hD [2, 3, 4] [0, 1] hC9 rfl (by decide +kernel) (by decide +kernel) hk1 hFc hP1 hD1
    generalize H1 = H at hP hS ⊢
    have hf94_0 : 0 ≤ place_89.toInt ∧ place_89.toInt ≤ 400 := hf94_0
    have hf94_1 : 0 ≤ from__91.toInt ∧ from__91.toInt ≤ 400 := hf94_1
    have hf94_2 : M_takeNumber fault_86 kind_82 value_84 (0 : Int32) place_81 from__83 fplace_87 (9 : Int32) tl tb = (r88, place_89, kind_90, from__91, value_92, fault_93, fplace_94) := hf94_2
    have hw88 : (0 : Int32).toInt ≤ r88.toInt ∧ (r88.toInt ≤ (0 : Int32).toInt ∨ r88.toInt ≤ (9 : Int32).toInt) := hw88
    have ez95 : (0 : Int32).toInt = 0 := by decide
    have ez96 : (9 : Int32).toInt = 9 := by decide
    have h9M := congrArg (fun t9 => (K_readWith_27 t9.2.1 t9.2.2.1 t9.2.2.2.1 t9.2.2.2.2.1 told_85 t9.2.2.2.2.2.1 t9.2.2.2.2.2.2 pn a0 t9.1)) hf94_2
    have hM : M_readWith place kind from_ value told pn fault fplace a0 tl tb = (K_readWith_27 place_89 kind_90 from__91 value_92 told_85 fault_93 fplace_94 pn a0 r88) := (show M_readWith place kind from_ value told pn fault fplace a0 tl tb = ((fun t9 => (K_readWith_27 t9.2.1 t9.2.2.1 t9.2.2.2.1 t9.2.2.2.2.1 told_85 t9.2.2.2.2.2.1 t9.2.2.2.2.2.2 pn a0 t9.1)) (M_takeNumber fault_86 kind_82 value_84 (0 : Int32) place_81 from__83 fplace_87 (9 : Int32) tl tb)) from hM).trans h9M
    obtain ⟨hPc, hDc, hFc, hC9⟩ := xpk (wc := W_setNumber cI cJ cZ cG cH pl a0 (2 : Int32) r88 pna pta rails limit retry behind pn) hP hD hS hA [0, 1] (by decide +kernel) rfl
    refine va_callv (va_runV (As := [.int a0, .int 2, .int r88]) (rest := []) ⟨hx, hb, hml, hown, hts⟩ (c_setNumber l D cI cJ cZ cG cH H.size pl a0 (2 : Int32) r88 pna pta rails limit retry behind pn (xrng rfl (by omega) (by omega)) ⟨by decide, by decide⟩ (xrng rfl (by omega) (by omega)) (xrng rfl (by omega) (by omega)) (xwk_rng h_pn (by decide) (by decide))) (cwV 3 hts (xGV tbC wd342 wd330 wd331 wd59 wd984) rfl rfl rfl (by decide +kernel) ⟨Nat.le_of_ble_eq_true rfl, Nat.le_of_ble_eq_true rfl⟩) ⟨xPc_blind, va_recv hK hPc (ci := 2) (q0 := 0) rfl rfl, xPc_pre hPc hK hDc⟩ rfl rfl hl.1 rfl (lv_room (Nat.le_of_ble_eq_true rfl)) dX4_readWith_27 ⟨Nat.le_of_ble_eq_true rfl, Nat.le_of_ble_eq_true rfl⟩) hS (fun q _ h => hFc q h) hFc (fun u t H1 locs ht hvm hw97 hB hz1 hk1 hS => ?_)
    obtain ⟨pn_98, hf98_0, hf98_1, hP1, hK1, hD1⟩ := hB
    rw [ht] at hP1
    obtain ⟨hP, hD⟩ : xPD D A [oX4 rd tp rfa rya rla pl place_89 kind_90 from__91 value_92 told_85 depth fault_93 fplace_94, oX8 tp tba tl, oAI tba cI 400 tb, oX3 pl pna pta rails limit retry behind, oAI pna cI 64 pn_98] H1 := xjn 3 hP hD [0, 1] [2, 3, 4] hC9 rfl (by decide +kernel) (by decide +kernel) hk1 hFc hP1 hD1
    generalize H1 = H at hP hS ⊢
    have hf98_0 : ∀ j, j < 64 → 0 ≤ (pn_98 j).toInt ∧ (pn_98 j).toInt ≤ 511 := hf98_0
    have hf98_1 : M_setNumber pn a0 (2 : Int32) r88 = (pn_98) := hf98_1
    have h9M := congrArg (fun t9 => (K_readWith_28 place_89 kind_90 from__91 value_92 told_85 fault_93 fplace_94 t9)) hf98_1
    have hM : M_readWith place kind from_ value told pn fault fplace a0 tl tb = (K_readWith_28 place_89 kind_90 from__91 value_92 told_85 fault_93 fplace_94 pn_98) := (show M_readWith place kind from_ value told pn fault fplace a0 tl tb = ((fun t9 => (K_readWith_28 place_89 kind_90 from__91 value_92 told_85 fault_93 fplace_94 t9)) (M_setNumber pn a0 (2 : Int32) r88)) from hM).trans h9M
    refine lv_goto (tgt := 161) hx hb dX4_readWith_30 (by decide) ?_
    refine W.widen (k := 0) (n := 0) (by decide) (by decide) ?_
    exact W.vret hx hb hr (fun t ht hW => ⟨⟨(), rfl, trivial, ⟨place_89, kind_90, from__91, value_92, told_85, fault_93, fplace_94, pn_98, (xrng rfl (by omega) (by omega)), (xrng rfl (by omega) (by omega)), (xwk_rng hf98_0 (by decide) (by decide)), hM, xB_of9 ht hW hP hK hD [0, 1, 2, 3, 4] (by decide +kernel) rfl⟩⟩, hS.F ht⟩) hS.2.2 dX4_readWith_161
