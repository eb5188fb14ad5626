def K_m_becomes_4  : (Int32) := ((-4 : Int32))
def K_m_becomes_5  : (Int32) := ((1 : Int32))
def K_m_becomes_2 (a1 : Int32) : (Int32) := (if a1.toInt = 0 then (K_m_becomes_4) else (K_m_becomes_5))
def K_m_becomes_9  : (Int32) := ((0 : Int32))
def K_m_becomes_11  : (Int32) := ((-4 : Int32))
def K_m_becomes_12  : (Int32) := ((2 : Int32))
def K_m_becomes_10 (v5 : Int32) (r6 : Int32) : (Int32) := (if v5.toInt < r6.toInt then (K_m_becomes_11) else (K_m_becomes_12))
def K_m_becomes_8 (Fsince : Nat → Int32) (a0 : Int32) (Ftold : Nat → Int32) : (Int32) := ((fun t9 => (K_m_becomes_10 (Fsince a0.toNatClampNeg) t9)) (M_m_of Ftold a0 (5 : Int32)))
def K_m_becomes_6 (a1 : Int32) (Fsince : Nat → Int32) (a0 : Int32) (Ftold : Nat → Int32) : (Int32) := (if a1.toInt = 0 then (K_m_becomes_9) else (K_m_becomes_8 Fsince a0 Ftold))
def K_m_becomes_16  : (Int32) := ((4 : Int32))
def K_m_becomes_19  : (Int32) := ((-4 : Int32))
def K_m_becomes_20  : (Int32) := ((3 : Int32))
def K_m_becomes_18 (Fsince : Nat → Int32) (a0 : Int32) (Ftakes : Nat → Int32) : (Int32) := (if (Fsince a0.toNatClampNeg).toInt < (Ftakes a0.toNatClampNeg).toInt then (K_m_becomes_19) else (K_m_becomes_20))
def K_m_becomes_17  : (Int32) := ((-4 : Int32))
def K_m_becomes_15 (FisDead : Nat → Int32) (a0 : Int32) (Fsince : Nat → Int32) (Ftakes : Nat → Int32) : (Int32) := (if (FisDead a0.toNatClampNeg).toInt = 0 then (K_m_becomes_18 Fsince a0 Ftakes) else (K_m_becomes_17))
def K_m_becomes_13 (a1 : Int32) (FisDead : Nat → Int32) (a0 : Int32) (Fsince : Nat → Int32) (Ftakes : Nat → Int32) : (Int32) := (if a1.toInt = 0 then (K_m_becomes_16) else (K_m_becomes_15 FisDead a0 Fsince Ftakes))
def K_m_becomes_23  : (Int32) := ((4 : Int32))
def K_m_becomes_25  : (Int32) := ((-4 : Int32))
def K_m_becomes_26  : (Int32) := ((4 : Int32))
def K_m_becomes_24 (FisDead : Nat → Int32) (a0 : Int32) : (Int32) := (if (FisDead a0.toNatClampNeg).toInt = 0 then (K_m_becomes_25) else (K_m_becomes_26))
def K_m_becomes_21 (a1 : Int32) (FisDead : Nat → Int32) (a0 : Int32) : (Int32) := (if a1.toInt = 0 then (K_m_becomes_23) else (K_m_becomes_24 FisDead a0))
def K_m_becomes_28  : (Int32) := ((-4 : Int32))
def K_m_becomes_29  : (Int32) := ((0 : Int32))
def K_m_becomes_27 (v17 : Int32) (r18 : Int32) : (Int32) := (if v17.toInt < r18.toInt then (K_m_becomes_28) else (K_m_becomes_29))
def K_m_becomes_22 (Fsince : Nat → Int32) (a0 : Int32) (Ftold : Nat → Int32) : (Int32) := ((fun t9 => (K_m_becomes_27 (Fsince a0.toNatClampNeg) t9)) (M_m_of Ftold a0 (2 : Int32)))
def K_m_becomes_14 (v1 : Int32) (a1 : Int32) (FisDead : Nat → Int32) (a0 : Int32) (Fsince : Nat → Int32) (Ftold : Nat → Int32) : (Int32) := (if (v1 : Int32).toInt = 3 then (K_m_becomes_21 a1 FisDead a0) else (K_m_becomes_22 Fsince a0 Ftold))
def K_m_becomes_7 (v1 : Int32) (a1 : Int32) (FisDead : Nat → Int32) (a0 : Int32) (Fsince : Nat → Int32) (Ftakes : Nat → Int32) (Ftold : Nat → Int32) : (Int32) := (if (v1 : Int32).toInt = 2 then (K_m_becomes_13 a1 FisDead a0 Fsince Ftakes) else (K_m_becomes_14 v1 a1 FisDead a0 Fsince Ftold))
def K_m_becomes_3 (v1 : Int32) (a1 : Int32) (Fsince : Nat → Int32) (a0 : Int32) (Ftold : Nat → Int32) (FisDead : Nat → Int32) (Ftakes : Nat → Int32) : (Int32) := (if (v1 : Int32).toInt = 1 then (K_m_becomes_6 a1 Fsince a0 Ftold) else (K_m_becomes_7 v1 a1 FisDead a0 Fsince Ftakes Ftold))
def K_m_becomes_1 (Fstate : Nat → Int32) (a0 : Int32) (a1 : Int32) (Fsince : Nat → Int32) (Ftold : Nat → Int32) (FisDead : Nat → Int32) (Ftakes : Nat → Int32) : (Int32) := (if ((Fstate a0.toNatClampNeg) : Int32).toInt = 0 then (K_m_becomes_2 a1) else (K_m_becomes_3 (Fstate a0.toNatClampNeg) a1 Fsince a0 Ftold FisDead Ftakes))
def M_m_becomes (Fstate : Nat → Int32) (a0 : Int32) (a1 : Int32) (Fsince : Nat → Int32) (Ftold : Nat → Int32) (FisDead : Nat → Int32) (Ftakes : Nat → Int32) : (Int32) := (K_m_becomes_1 Fstate a0 a1 Fsince Ftold FisDead Ftakes)
abbrev W_m_becomes (cI cJ cZ cG cH : ClassId) (mo : Nat) (a0 : Int32) (a1 : Int32) (mrails : Int32) (Atold : Nat) (Anames : Nat) (Atable : Nat) (mlimit : Int32) (mretry : Int32) (mpause : Int32) (mdRails : Int32) (AdTold : Nat) (AdNames : Nat) (AdTable : Nat) (mdLimit : Int32) (mdRetry : Int32) (mdPause : Int32) (mhasLimit : Int32) (mhasRetry : Int32) (mused : Int32) (AusedRail : Nat) (AusedAt : Nat) (mcoded : Int32) (Acode : Nat) (mwaiting : Int32) (Await : Nat) (mdeep : Int32) (Apile : Nat) (Atape : Nat) (mtaped : Int32) (mpos : Int32) (mfrom : Int32) (msort : Int32) (mvalue : Int32) (mfault : Int32) (mwrongAt : Int32) (mtick : Int32) (misOn : Int32) (Astate : Nat) (Asince : Nat) (AupSince : Nat) (AisDead : Nat) (Atakes : Nat) (AwasGood : Nat) (mheld : Int32) (mtries : Int32) (mdrawnNow : Int32) (mdrawnMost : Int32) (mtrips : Int32) (mhappenings : Int32) (Ahappening : Nat) (AmayAt : Nat) (AgoodAt : Nat) (Aby : Nat) (Awaits : Nat) (mupNow : Int32) (mpeakAt : Int32) (AbestWaits : Nat) (msoonest : Int32) (Alanes : Nat) (Asizes : Nat) (Acells : Nat) (Fstate : Nat → Int32) (Fsince : Nat → Int32) (FisDead : Nat → Int32) (Ftakes : Nat → Int32) (Ftold : Nat → Int32) : va_W := [oX11 mo mrails Atold Anames Atable mlimit mretry mpause mdRails AdTold AdNames AdTable mdLimit mdRetry mdPause mhasLimit mhasRetry mused AusedRail AusedAt mcoded Acode mwaiting Await mdeep Apile Atape mtaped mpos mfrom msort mvalue mfault mwrongAt mtick misOn Astate Asince AupSince AisDead Atakes AwasGood mheld mtries mdrawnNow mdrawnMost mtrips mhappenings Ahappening AmayAt AgoodAt Aby Awaits mupNow mpeakAt AbestWaits msoonest Alanes Asizes Acells, oAI Astate cI 8 Fstate, oAI Asince cI 8 Fsince, oAI AisDead cZ 8 FisDead, oAI Atakes cI 8 Ftakes, oAI Atold cI 56 Ftold]
abbrev Q_m_becomes (D : va_G) (cI cJ cZ cG cH : ClassId) (mo : Nat) (a0 : Int32) (a1 : Int32) (mrails : Int32) (Atold : Nat) (Anames : Nat) (Atable : Nat) (mlimit : Int32) (mretry : Int32) (mpause : Int32) (mdRails : Int32) (AdTold : Nat) (AdNames : Nat) (AdTable : Nat) (mdLimit : Int32) (mdRetry : Int32) (mdPause : Int32) (mhasLimit : Int32) (mhasRetry : Int32) (mused : Int32) (AusedRail : Nat) (AusedAt : Nat) (mcoded : Int32) (Acode : Nat) (mwaiting : Int32) (Await : Nat) (mdeep : Int32) (Apile : Nat) (Atape : Nat) (mtaped : Int32) (mpos : Int32) (mfrom : Int32) (msort : Int32) (mvalue : Int32) (mfault : Int32) (mwrongAt : Int32) (mtick : Int32) (misOn : Int32) (Astate : Nat) (Asince : Nat) (AupSince : Nat) (AisDead : Nat) (Atakes : Nat) (AwasGood : Nat) (mheld : Int32) (mtries : Int32) (mdrawnNow : Int32) (mdrawnMost : Int32) (mtrips : Int32) (mhappenings : Int32) (Ahappening : Nat) (AmayAt : Nat) (AgoodAt : Nat) (Aby : Nat) (Awaits : Nat) (mupNow : Int32) (mpeakAt : Int32) (AbestWaits : Nat) (msoonest : Int32) (Alanes : Nat) (Asizes : Nat) (Acells : Nat) (Fstate : Nat → Int32) (Fsince : Nat → Int32) (FisDead : Nat → Int32) (Ftakes : Nat → Int32) (Ftold : Nat → Int32) (A : Nat → Prop) : Array Value → State → Outcome → State → Prop := va_Qi (fun (r : Int32) (u9 : Int32) => r = u9 ∧ (r.toInt = -4 ∨ ((Fstate a0.toNatClampNeg).toInt = 0 ∧ a1.toInt ≠ 0 ∧ r.toInt = 1) ∨ ((Fstate a0.toNatClampNeg).toInt = 1 ∧ a1.toInt = 0 ∧ r.toInt = 0) ∨ ((Fstate a0.toNatClampNeg).toInt = 1 ∧ a1.toInt ≠ 0 ∧ r.toInt = 2) ∨ ((Fstate a0.toNatClampNeg).toInt = 2 ∧ a1.toInt = 0 ∧ r.toInt = 4) ∨ ((Fstate a0.toNatClampNeg).toInt = 2 ∧ 1 ≤ (Fsince a0.toNatClampNeg).toInt ∧ r.toInt = 3) ∨ ((Fstate a0.toNatClampNeg).toInt = 3 ∧ r.toInt = 4) ∨ ((Fstate a0.toNatClampNeg).toInt = 4 ∧ r.toInt = 0))) (fun u9 t => (M_m_becomes Fstate a0 a1 Fsince Ftold FisDead Ftakes = (u9)) ∧ xB D (tyL cI cJ cZ cG cH) [oX11 mo mrails Atold Anames Atable mlimit mretry mpause mdRails AdTold AdNames AdTable mdLimit mdRetry mdPause mhasLimit mhasRetry mused AusedRail AusedAt mcoded Acode mwaiting Await mdeep Apile Atape mtaped mpos mfrom msort mvalue mfault mwrongAt mtick misOn Astate Asince AupSince AisDead Atakes AwasGood mheld mtries mdrawnNow mdrawnMost mtrips mhappenings Ahappening AmayAt AgoodAt Aby Awaits mupNow mpeakAt AbestWaits msoonest Alanes Asizes Acells, oAI Astate cI 8 Fstate, oAI Asince cI 8 Fsince, oAI AisDead cZ 8 FisDead, oAI Atakes cI 8 Ftakes, oAI Atold cI 56 Ftold] A t) A
abbrev rm_m_becomes : Room := { frames := 1, cells := 0, slots := 0, locals := 22 }
set_option maxRecDepth 100000 in
set_option maxHeartbeats 40000000 in
theorem c_m_becomes (l : Launch) (D : va_G) (cI cJ cZ cG cH : ClassId) (sz : Nat) (mo : Nat) (a0 : Int32) (a1 : Int32) (mrails : Int32) (Atold : Nat) (Anames : Nat) (Atable : Nat) (mlimit : Int32) (mretry : Int32) (mpause : Int32) (mdRails : Int32) (AdTold : Nat) (AdNames : Nat) (AdTable : Nat) (mdLimit : Int32) (mdRetry : Int32) (mdPause : Int32) (mhasLimit : Int32) (mhasRetry : Int32) (mused : Int32) (AusedRail : Nat) (AusedAt : Nat) (mcoded : Int32) (Acode : Nat) (mwaiting : Int32) (Await : Nat) (mdeep : Int32) (Apile : Nat) (Atape : Nat) (mtaped : Int32) (mpos : Int32) (mfrom : Int32) (msort : Int32) (mvalue : Int32) (mfault : Int32) (mwrongAt : Int32) (mtick : Int32) (misOn : Int32) (Astate : Nat) (Asince : Nat) (AupSince : Nat) (AisDead : Nat) (Atakes : Nat) (AwasGood : Nat) (mheld : Int32) (mtries : Int32) (mdrawnNow : Int32) (mdrawnMost : Int32) (mtrips : Int32) (mhappenings : Int32) (Ahappening : Nat) (AmayAt : Nat) (AgoodAt : Nat) (Aby : Nat) (Awaits : Nat) (mupNow : Int32) (mpeakAt : Int32) (AbestWaits : Nat) (msoonest : Int32) (Alanes : Nat) (Asizes : Nat) (Acells : Nat) (Fstate : Nat → Int32) (Fsince : Nat → Int32) (FisDead : Nat → Int32) (Ftakes : Nat → Int32) (Ftold : Nat → Int32) (h_a0 : 0 ≤ a0.toInt ∧ a0.toInt ≤ 7) (h_a1 : 0 ≤ a1.toInt ∧ a1.toInt ≤ 1) (h_mrails : 0 ≤ mrails.toInt ∧ mrails.toInt ≤ 8) (h_mdRails : 0 ≤ mdRails.toInt ∧ mdRails.toInt ≤ 8) (h_mhasLimit : 0 ≤ mhasLimit.toInt ∧ mhasLimit.toInt ≤ 1) (h_mhasRetry : 0 ≤ mhasRetry.toInt ∧ mhasRetry.toInt ≤ 1) (h_mused : 0 ≤ mused.toInt ∧ mused.toInt ≤ 400) (h_mcoded : 0 ≤ mcoded.toInt ∧ mcoded.toInt ≤ 400) (h_mwaiting : 0 ≤ mwaiting.toInt ∧ mwaiting.toInt ≤ 400) (h_mdeep : 0 ≤ mdeep.toInt ∧ mdeep.toInt ≤ 400) (h_mtaped : 0 ≤ mtaped.toInt ∧ mtaped.toInt ≤ 400) (h_mpos : 0 ≤ mpos.toInt ∧ mpos.toInt ≤ 400) (h_mfrom : 0 ≤ mfrom.toInt ∧ mfrom.toInt ≤ 400) (h_msort : 0 ≤ msort.toInt ∧ msort.toInt ≤ 7) (h_mfault : 0 ≤ mfault.toInt ∧ mfault.toInt ≤ 6) (h_misOn : 0 ≤ misOn.toInt ∧ misOn.toInt ≤ 1) (h_mhappenings : 0 ≤ mhappenings.toInt ∧ mhappenings.toInt ≤ 64) (h_Fstate : ∀ j, j < 8 → 0 ≤ (Fstate j).toInt ∧ (Fstate j).toInt ≤ 4) (h_FisDead : ∀ j, j < 8 → 0 ≤ (FisDead j).toInt ∧ (FisDead j).toInt ≤ 1) (htk : ∀ j : Nat, (j : Int) < mrails.toInt → 1 ≤ (Ftakes j).toInt) (h_q0 : a0.toInt < mrails.toInt) : Met l yX11_becomes (wt yX11_becomes cX11_becomes 3 (some .int)) rm_m_becomes (xPc [.ref mo, .int a0, .int a1] D (tyL cI cJ cZ cG cH) (W_m_becomes cI cJ cZ cG cH mo a0 a1 mrails Atold Anames Atable mlimit mretry mpause mdRails AdTold AdNames AdTable mdLimit mdRetry mdPause mhasLimit mhasRetry mused AusedRail AusedAt mcoded Acode mwaiting Await mdeep Apile Atape mtaped mpos mfrom msort mvalue mfault mwrongAt mtick misOn Astate Asince AupSince AisDead Atakes AwasGood mheld mtries mdrawnNow mdrawnMost mtrips mhappenings Ahappening AmayAt AgoodAt Aby Awaits mupNow mpeakAt AbestWaits msoonest Alanes Asizes Acells Fstate Fsince FisDead Ftakes Ftold) sz) (Q_m_becomes D cI cJ cZ cG cH mo a0 a1 mrails Atold Anames Atable mlimit mretry mpause mdRails AdTold AdNames AdTable mdLimit mdRetry mdPause mhasLimit mhasRetry mused AusedRail AusedAt mcoded Acode mwaiting Await mdeep Apile Atape mtaped mpos mfrom msort mvalue mfault mwrongAt mtick misOn Astate Asince AupSince AisDead Atakes AwasGood mheld mtries mdrawnNow mdrawnMost mtrips mhappenings Ahappening AmayAt AgoodAt Aby Awaits mupNow mpeakAt AbestWaits msoonest Alanes Asizes Acells Fstate Fsince FisDead Ftakes Ftold (va_A (W_m_becomes cI cJ cZ cG cH mo a0 a1 mrails Atold Anames Atable mlimit mretry mpause mdRails AdTold AdNames AdTable mdLimit mdRetry mdPause mhasLimit mhasRetry mused AusedRail AusedAt mcoded Acode mwaiting Await mdeep Apile Atape mtaped mpos mfrom msort mvalue mfault mwrongAt mtick misOn Astate Asince AupSince AisDead Atakes AwasGood mheld mtries mdrawnNow mdrawnMost mtrips mhappenings Ahappening AmayAt AgoodAt Aby Awaits mupNow mpeakAt AbestWaits msoonest Alanes Asizes Acells Fstate Fsince FisDead Ftakes Ftold) sz)) 0 0 (va_A (W_m_becomes cI cJ cZ cG cH mo a0 a1 mrails Atold Anames Atable mlimit mretry mpause mdRails AdTold AdNames AdTable mdLimit mdRetry mdPause mhasLimit mhasRetry mused AusedRail AusedAt mcoded Acode mwaiting Await mdeep Apile Atape mtaped mpos mfrom msort mvalue mfault mwrongAt mtick misOn Astate Asince AupSince AisDead Atakes AwasGood mheld mtries mdrawnNow mdrawnMost mtrips mhappenings Ahappening AmayAt AgoodAt Aby Awaits mupNow mpeakAt AbestWaits msoonest Alanes Asizes Acells Fstate Fsince FisDead Ftakes Ftold) sz) := by
  refine xMet (cc := cX11_becomes) (maxL := 3) (ret := (some .int)) (Qf := Q_m_becomes D cI cJ cZ cG cH mo a0 a1 mrails Atold Anames Atable mlimit mretry mpause mdRails AdTold AdNames AdTable mdLimit mdRetry mdPause mhasLimit mhasRetry mused AusedRail AusedAt mcoded Acode mwaiting Await mdeep Apile Atape mtaped mpos mfrom msort mvalue mfault mwrongAt mtick misOn Astate Asince AupSince AisDead Atakes AwasGood mheld mtries mdrawnNow mdrawnMost mtrips mhappenings Ahappening AmayAt AgoodAt Aby Awaits mupNow mpeakAt AbestWaits msoonest Alanes Asizes Acells Fstate Fsince FisDead Ftakes Ftold) (by decide) rfl (Nat.le_of_ble_eq_true rfl) ?_
  intro p e s m below meth c ls A hx hb hr hml hts hown hlocks hnm hsz hP hK hD hA hS hl
  have hown : s.vm.findClass RX11 = some m.cls := hown
  have hP : va_P D vwCl [oX11 mo mrails Atold Anames Atable mlimit mretry mpause mdRails AdTold AdNames AdTable mdLimit mdRetry mdPause mhasLimit mhasRetry mused AusedRail AusedAt mcoded Acode mwaiting Await mdeep Apile Atape mtaped mpos mfrom msort mvalue mfault mwrongAt mtick misOn Astate Asince AupSince AisDead Atakes AwasGood mheld mtries mdrawnNow mdrawnMost mtrips mhappenings Ahappening AmayAt AgoodAt Aby Awaits mupNow mpeakAt AbestWaits msoonest Alanes Asizes Acells, oAI Astate cI 8 Fstate, oAI Asince cI 8 Fsince, oAI AisDead cZ 8 FisDead, oAI Atakes cI 8 Ftakes, oAI Atold cI 56 Ftold] s.heap := hP
  have hD : va_D A [oX11 mo mrails Atold Anames Atable mlimit mretry mpause mdRails AdTold AdNames AdTable mdLimit mdRetry mdPause mhasLimit mhasRetry mused AusedRail AusedAt mcoded Acode mwaiting Await mdeep Apile Atape mtaped mpos mfrom msort mvalue mfault mwrongAt mtick misOn Astate Asince AupSince AisDead Atakes AwasGood mheld mtries mdrawnNow mdrawnMost mtrips mhappenings Ahappening AmayAt AgoodAt Aby Awaits mupNow mpeakAt AbestWaits msoonest Alanes Asizes Acells, oAI Astate cI 8 Fstate, oAI Asince cI 8 Fsince, oAI AisDead cZ 8 FisDead, oAI Atakes cI 8 Ftakes, oAI Atold cI 56 Ftold] := hD
  have hl : lv_has ls 3 [(0, .ref mo), (1, .int a0), (2, .int a1)] := hl
  have hM : M_m_becomes Fstate a0 a1 Fsince Ftold FisDead Ftakes = (K_m_becomes_1 Fstate a0 a1 Fsince Ftold FisDead Ftakes) := rfl
  refine lv_aload_n hx hb dX11_becomes_0 rfl (lv_at hl 0 rfl) ?_
  refine va_get (D := D) (ci := 10) (v := .ref Astate) (C := RX11) (T := TX11) (N := 59) hx hb hts (fun w h => tbC w (tbfX11 w h)) hown hK hP 0 rfl rfl 35 (by decide) (hts (.fieldLink RX11 47 "PowerRailsModel" "state" "[I") (tbC _ wd718)) (fun _ h9 => h9) rfl dX11_becomes_1 ?_
  refine lv_iload_n hx hb dX11_becomes_4 rfl (lv_at hl 1 rfl) ?_
  refine va_iald hx hb hK hP 1 0 rfl rfl (vp_in_iff.mpr ⟨by omega, by omega⟩) dX11_becomes_5 ?_
  refine lv_topi (fun v1 ev1 => ?_)
  have rv1 : 0 ≤ v1.toInt ∧ v1.toInt ≤ 4 := xrd ev1 h_Fstate (xinK (vp_in_iff.mpr ⟨by omega, by omega⟩))
  have esv1 : (Fstate a0.toNatClampNeg).toInt = v1.toInt := by rw [ev1]
  have i_2_e : (v1 : Int32).toInt = v1.toInt := rfl
  by_cases i_2_0 : (v1 : Int32).toInt = 0
  · skip
    have hM : M_m_becomes Fstate a0 a1 Fsince Ftold FisDead Ftakes = (K_m_becomes_2 a1) := (show M_m_becomes Fstate a0 a1 Fsince Ftold FisDead Ftakes = (if (v1 : Int32).toInt = 0 then (K_m_becomes_2 a1) else (K_m_becomes_3 v1 a1 Fsince a0 Ftold FisDead Ftakes)) from (by rw [ev1]; exact hM)).trans (if_pos i_2_0)
    refine lv_tableIn (off := 30) (tgt := 36) hx hb dX11_becomes_6 (by omega) (by omega) (by rw [i_2_0]; rfl) (by decide) ?_
    refine lv_iload_n hx hb dX11_becomes_36 rfl (lv_at hl 2 rfl) ?_
    refine lv_if_eq (tgt := 44) hx hb dX11_becomes_37 (by decide) (fun c_3 => ?_) (fun c_3 => ?_)
    · skip
      have i_3 : a1.toInt = 0 := (ieq rfl (by decide)).mp c_3
      have hM : M_m_becomes Fstate a0 a1 Fsince Ftold FisDead Ftakes = (K_m_becomes_4) := (show M_m_becomes Fstate a0 a1 Fsince Ftold FisDead Ftakes = (if a1.toInt = 0 then (K_m_becomes_4) else (K_m_becomes_5)) from hM).trans (if_pos i_3)
      refine lv_bipush (v := (-4)) hx hb dX11_becomes_44 (by decide) ?_
      refine W.widen (k := 0) (n := 0) (by decide) (by decide) ?_
      exact W.iret (v := (-4)) hx hb hr (fun t ht hW => ⟨⟨(-4), (-4), rfl, ⟨rfl, (by have z9_0 : (-4 : Int32).toInt = -4 := (by decide); omega)⟩, ⟨hM, xB_of9 ht hW hP hK hD [0, 1, 2, 3, 4, 5] (by decide +kernel) rfl⟩⟩, hS.F ht⟩) hS.2.2 dX11_becomes_46
    · skip
      have i_3 : ¬ (a1.toInt = 0) := fun h9 => c_3 ((ieq rfl (by decide)).mpr h9)
      have hM : M_m_becomes Fstate a0 a1 Fsince Ftold FisDead Ftakes = (K_m_becomes_5) := (show M_m_becomes Fstate a0 a1 Fsince Ftold FisDead Ftakes = (if a1.toInt = 0 then (K_m_becomes_4) else (K_m_becomes_5)) from hM).trans (if_neg i_3)
      refine lv_iconst (v := 1) hx hb dX11_becomes_40 (by decide) ?_
      refine lv_goto (tgt := 46) hx hb dX11_becomes_41 (by decide) ?_
      refine W.widen (k := 0) (n := 0) (by decide) (by decide) ?_
      exact W.iret (v := 1) hx hb hr (fun t ht hW => ⟨⟨1, 1, rfl, ⟨rfl, (by have z9_0 : (1 : Int32).toInt = 1 := (by decide); omega)⟩, ⟨hM, xB_of9 ht hW hP hK hD [0, 1, 2, 3, 4, 5] (by decide +kernel) rfl⟩⟩, hS.F ht⟩) hS.2.2 dX11_becomes_46
  have hM : M_m_becomes Fstate a0 a1 Fsince Ftold FisDead Ftakes = (K_m_becomes_3 v1 a1 Fsince a0 Ftold FisDead Ftakes) := (show M_m_becomes Fstate a0 a1 Fsince Ftold FisDead Ftakes = (if (v1 : Int32).toInt = 0 then (K_m_becomes_2 a1) else (K_m_becomes_3 v1 a1 Fsince a0 Ftold FisDead Ftakes)) from (by rw [ev1]; exact hM)).trans (if_neg i_2_0)
  by_cases i_2_1 : (v1 : Int32).toInt = 1
  · skip
    have hM : M_m_becomes Fstate a0 a1 Fsince Ftold FisDead Ftakes = (K_m_becomes_6 a1 Fsince a0 Ftold) := (show M_m_becomes Fstate a0 a1 Fsince Ftold FisDead Ftakes = (if (v1 : Int32).toInt = 1 then (K_m_becomes_6 a1 Fsince a0 Ftold) else (K_m_becomes_7 v1 a1 FisDead a0 Fsince Ftakes Ftold)) from hM).trans (if_pos i_2_1)
    refine lv_tableIn (off := 41) (tgt := 47) hx hb dX11_becomes_6 (by omega) (by omega) (by rw [i_2_1]; rfl) (by decide) ?_
    refine lv_iload_n hx hb dX11_becomes_47 rfl (lv_at hl 2 rfl) ?_
    refine lv_if_ne (tgt := 55) hx hb dX11_becomes_48 (by decide) (fun c_4 => ?_) (fun c_4 => ?_)
    · skip
      have i_4 : ¬ (a1.toInt = 0) := fun h9 => c_4 ((ieq rfl (by decide)).mpr h9)
      have hM : M_m_becomes Fstate a0 a1 Fsince Ftold FisDead Ftakes = (K_m_becomes_8 Fsince a0 Ftold) := (show M_m_becomes Fstate a0 a1 Fsince Ftold FisDead Ftakes = (if a1.toInt = 0 then (K_m_becomes_9) else (K_m_becomes_8 Fsince a0 Ftold)) from hM).trans (if_neg i_4)
      refine lv_aload_n hx hb dX11_becomes_55 rfl (lv_at hl 0 rfl) ?_
      refine va_get (D := D) (ci := 10) (v := .ref Asince) (C := RX11) (T := TX11) (N := 59) hx hb hts (fun w h => tbC w (tbfX11 w h)) hown hK hP 0 rfl rfl 36 (by decide) (hts (.fieldLink RX11 50 "PowerRailsModel" "since" "[I") (tbC _ wd719)) (fun _ h9 => h9) rfl dX11_becomes_56 ?_
      refine lv_iload_n hx hb dX11_becomes_59 rfl (lv_at hl 1 rfl) ?_
      refine va_iald hx hb hK hP 2 0 rfl rfl (vp_in_iff.mpr ⟨by omega, by omega⟩) dX11_becomes_60 ?_
      refine lv_topi (fun v5 ev5 => ?_)
      have etv5 : (Fsince a0.toNatClampNeg).toInt = v5.toInt := by rw [ev5]
      refine lv_aload_n hx hb dX11_becomes_61 rfl (lv_at hl 0 rfl) ?_
      refine lv_iload_n hx hb dX11_becomes_62 rfl (lv_at hl 1 rfl) ?_
      refine lv_iconst (v := 5) hx hb dX11_becomes_63 (by decide) ?_
      obtain ⟨hPc, hDc, hFc, hC9⟩ := xpk (wc := W_m_of cI cJ cZ cG cH mo a0 (5 : Int32) mrails Atold Anames Atable mlimit mretry mpause mdRails AdTold AdNames AdTable mdLimit mdRetry mdPause mhasLimit mhasRetry mused AusedRail AusedAt mcoded Acode mwaiting Await mdeep Apile Atape mtaped mpos mfrom msort mvalue mfault mwrongAt mtick misOn Astate Asince AupSince AisDead Atakes AwasGood mheld mtries mdrawnNow mdrawnMost mtrips mhappenings Ahappening AmayAt AgoodAt Aby Awaits mupNow mpeakAt AbestWaits msoonest Alanes Asizes Acells Ftold) hP hD hS hA [0, 5] (by decide +kernel) rfl
      refine va_calli (va_runV (As := [.int a0, .int 5]) (rest := [.int v5]) ⟨hx, hb, hml, hown, hts⟩ (c_m_of l D cI cJ cZ cG cH s.heap.size mo a0 (5 : Int32) mrails Atold Anames Atable mlimit mretry mpause mdRails AdTold AdNames AdTable mdLimit mdRetry mdPause mhasLimit mhasRetry mused AusedRail AusedAt mcoded Acode mwaiting Await mdeep Apile Atape mtaped mpos mfrom msort mvalue mfault mwrongAt mtick misOn Astate Asince AupSince AisDead Atakes AwasGood mheld mtries mdrawnNow mdrawnMost mtrips mhappenings Ahappening AmayAt AgoodAt Aby Awaits mupNow mpeakAt AbestWaits msoonest Alanes Asizes Acells Ftold h_a0 ⟨by decide, by decide⟩ h_mrails h_mdRails h_mhasLimit h_mhasRetry h_mused h_mcoded h_mwaiting h_mdeep h_mtaped h_mpos h_mfrom h_msort h_mfault h_misOn h_mhappenings) (cwV 2 hts (xGV tbC wd681 wd682 wd8 wd61 wd1095) rfl rfl rfl (by decide +kernel) ⟨Nat.le_of_ble_eq_true rfl, Nat.le_of_ble_eq_true rfl⟩) ⟨xPc_blind, va_recv hK hPc (ci := 10) (q0 := 0) rfl rfl, xPc_pre hPc hK hDc⟩ rfl rfl hl.1 rfl (lv_room (Nat.le_of_ble_eq_true rfl)) dX11_becomes_64 ⟨Nat.le_of_ble_eq_true rfl, Nat.le_of_ble_eq_true rfl⟩) hS (fun q _ h => hFc q h) hFc (fun r6 u t H1 locs ht hvm hw6 hB hz1 hk1 hS => ?_)
      obtain ⟨hru9, hw6⟩ := hw6
      subst hru9
      obtain ⟨hf6_0, hP1, hK1, hD1⟩ := hB
      rw [ht] at hP1
      obtain ⟨hP, hD⟩ : xPD D A [oAI Astate cI 8 Fstate, oAI Asince cI 8 Fsince, oAI AisDead cZ 8 FisDead, oAI Atakes cI 8 Ftakes, oX11 mo mrails Atold Anames Atable mlimit mretry mpause mdRails AdTold AdNames AdTable mdLimit mdRetry mdPause mhasLimit mhasRetry mused AusedRail AusedAt mcoded Acode mwaiting Await mdeep Apile Atape mtaped mpos mfrom msort mvalue mfault mwrongAt mtick misOn Astate Asince AupSince AisDead Atakes AwasGood mheld mtries mdrawnNow mdrawnMost mtrips mhappenings Ahappening AmayAt AgoodAt Aby Awaits mupNow mpeakAt AbestWaits msoonest Alanes Asizes Acells, oAI Atold cI 56 Ftold] H1 := xjn 4 hP hD [0, 5] [1, 2, 3, 4] hC9 rfl (by decide +kernel) (by decide +kernel) hk1 hFc hP1 hD1
      generalize H1 = H at hP hS ⊢
      have hf6_0 : M_m_of Ftold a0 (5 : Int32) = (r6) := hf6_0
      have hw6 : r6 = Ftold (7 * a0.toNatClampNeg + (5 : Int32).toNatClampNeg) := hw6
      have h9M := congrArg (fun t9 => (K_m_becomes_10 v5 t9)) hf6_0
      have hM : M_m_becomes Fstate a0 a1 Fsince Ftold FisDead Ftakes = (K_m_becomes_10 v5 r6) := (show M_m_becomes Fstate a0 a1 Fsince Ftold FisDead Ftakes = ((fun t9 => (K_m_becomes_10 v5 t9)) (M_m_of Ftold a0 (5 : Int32))) from (by rw [ev5]; exact hM)).trans h9M
      refine lv_icmp_lt (tgt := 74) hx hb dX11_becomes_67 (by decide) (fun c_7 => ?_) (fun c_7 => ?_)
      · skip
        have i_7 : v5.toInt < r6.toInt := (ilt rfl rfl).mp c_7
        have hM : M_m_becomes Fstate a0 a1 Fsince Ftold FisDead Ftakes = (K_m_becomes_11) := (show M_m_becomes Fstate a0 a1 Fsince Ftold FisDead Ftakes = (if v5.toInt < r6.toInt then (K_m_becomes_11) else (K_m_becomes_12)) from hM).trans (if_pos i_7)
        refine lv_bipush (v := (-4)) hx hb dX11_becomes_74 (by decide) ?_
        refine W.widen (k := 0) (n := 0) (by decide) (by decide) ?_
        exact W.iret (v := (-4)) hx hb hr (fun t ht hW => ⟨⟨(-4), (-4), rfl, ⟨rfl, (by have z9_0 : (-4 : Int32).toInt = -4 := (by decide); omega)⟩, ⟨hM, xB_of9 ht hW hP hK hD [4, 0, 1, 2, 3, 5] (by decide +kernel) rfl⟩⟩, hS.F ht⟩) hS.2.2 dX11_becomes_76
      · skip
        have i_7 : ¬ (v5.toInt < r6.toInt) := fun h9 => c_7 ((ilt rfl rfl).mpr h9)
        have hM : M_m_becomes Fstate a0 a1 Fsince Ftold FisDead Ftakes = (K_m_becomes_12) := (show M_m_becomes Fstate a0 a1 Fsince Ftold FisDead Ftakes = (if v5.toInt < r6.toInt then (K_m_becomes_11) else (K_m_becomes_12)) from hM).trans (if_neg i_7)
        refine lv_iconst (v := 2) hx hb dX11_becomes_70 (by decide) ?_
        refine lv_goto (tgt := 76) hx hb dX11_becomes_71 (by decide) ?_
        refine W.widen (k := 0) (n := 0) (by decide) (by decide) ?_
        exact W.iret (v := 2) hx hb hr (fun t ht hW => ⟨⟨2, 2, rfl, ⟨rfl, (by have z9_0 : (2 : Int32).toInt = 2 := (by decide); omega)⟩, ⟨hM, xB_of9 ht hW hP hK hD [4, 0, 1, 2, 3, 5] (by decide +kernel) rfl⟩⟩, hS.F ht⟩) hS.2.2 dX11_becomes_76
    · skip
      have i_4 : a1.toInt = 0 := (ieq rfl (by decide)).mp c_4
      have hM : M_m_becomes Fstate a0 a1 Fsince Ftold FisDead Ftakes = (K_m_becomes_9) := (show M_m_becomes Fstate a0 a1 Fsince Ftold FisDead Ftakes = (if a1.toInt = 0 then (K_m_becomes_9) else (K_m_becomes_8 Fsince a0 Ftold)) from hM).trans (if_pos i_4)
      refine lv_iconst (v := 0) hx hb dX11_becomes_51 (by decide) ?_
      refine lv_goto (tgt := 76) hx hb dX11_becomes_52 (by decide) ?_
      refine W.widen (k := 0) (n := 0) (by decide) (by decide) ?_
      exact W.iret (v := 0) hx hb hr (fun t ht hW => ⟨⟨0, 0, rfl, ⟨rfl, (by have z9_0 : (0 : Int32).toInt = 0 := (by decide); omega)⟩, ⟨hM, xB_of9 ht hW hP hK hD [0, 1, 2, 3, 4, 5] (by decide +kernel) rfl⟩⟩, hS.F ht⟩) hS.2.2 dX11_becomes_76
  have hM : M_m_becomes Fstate a0 a1 Fsince Ftold FisDead Ftakes = (K_m_becomes_7 v1 a1 FisDead a0 Fsince Ftakes Ftold) := (show M_m_becomes Fstate a0 a1 Fsince Ftold FisDead Ftakes = (if (v1 : Int32).toInt = 1 then (K_m_becomes_6 a1 Fsince a0 Ftold) else (K_m_becomes_7 v1 a1 FisDead a0 Fsince Ftakes Ftold)) from hM).trans (if_neg i_2_1)
  by_cases i_2_2 : (v1 : Int32).toInt = 2
  · skip
    have hM : M_m_becomes Fstate a0 a1 Fsince Ftold FisDead Ftakes = (K_m_becomes_13 a1 FisDead a0 Fsince Ftakes) := (show M_m_becomes Fstate a0 a1 Fsince Ftold FisDead Ftakes = (if (v1 : Int32).toInt = 2 then (K_m_becomes_13 a1 FisDead a0 Fsince Ftakes) else (K_m_becomes_14 v1 a1 FisDead a0 Fsince Ftold)) from hM).trans (if_pos i_2_2)
    refine lv_tableIn (off := 71) (tgt := 77) hx hb dX11_becomes_6 (by omega) (by omega) (by rw [i_2_2]; rfl) (by decide) ?_
    refine lv_iload_n hx hb dX11_becomes_77 rfl (lv_at hl 2 rfl) ?_
    refine lv_if_ne (tgt := 85) hx hb dX11_becomes_78 (by decide) (fun c_8 => ?_) (fun c_8 => ?_)
    · skip
      have i_8 : ¬ (a1.toInt = 0) := fun h9 => c_8 ((ieq rfl (by decide)).mpr h9)
      have hM : M_m_becomes Fstate a0 a1 Fsince Ftold FisDead Ftakes = (K_m_becomes_15 FisDead a0 Fsince Ftakes) := (show M_m_becomes Fstate a0 a1 Fsince Ftold FisDead Ftakes = (if a1.toInt = 0 then (K_m_becomes_16) else (K_m_becomes_15 FisDead a0 Fsince Ftakes)) from hM).trans (if_neg i_8)
      refine lv_aload_n hx hb dX11_becomes_85 rfl (lv_at hl 0 rfl) ?_
      refine va_get (D := D) (ci := 10) (v := .ref AisDead) (C := RX11) (T := TX11) (N := 59) hx hb hts (fun w h => tbC w (tbfX11 w h)) hown hK hP 0 rfl rfl 38 (by decide) (hts (.fieldLink RX11 56 "PowerRailsModel" "isDead" "[Z") (tbC _ wd721)) (fun _ h9 => h9) rfl dX11_becomes_86 ?_
      refine lv_iload_n hx hb dX11_becomes_89 rfl (lv_at hl 1 rfl) ?_
      refine va_zald hx hb hK hP 3 2 rfl rfl (vp_in_iff.mpr ⟨by omega, by omega⟩) dX11_becomes_90 ?_
      refine lv_topi (fun v9 ev9 => ?_)
      have rv9 : 0 ≤ v9.toInt ∧ v9.toInt ≤ 1 := xrd ev9 h_FisDead (xinK (vp_in_iff.mpr ⟨by omega, by omega⟩))
      refine lv_if_ne (tgt := 113) hx hb dX11_becomes_91 (by decide) (fun c_10 => ?_) (fun c_10 => ?_)
      · skip
        have i_10 : ¬ (v9.toInt = 0) := fun h9 => c_10 ((ieq rfl (by decide)).mpr h9)
        have hM : M_m_becomes Fstate a0 a1 Fsince Ftold FisDead Ftakes = (K_m_becomes_17) := (show M_m_becomes Fstate a0 a1 Fsince Ftold FisDead Ftakes = (if v9.toInt = 0 then (K_m_becomes_18 Fsince a0 Ftakes) else (K_m_becomes_17)) from (by rw [ev9]; exact hM)).trans (if_neg i_10)
        refine lv_bipush (v := (-4)) hx hb dX11_becomes_113 (by decide) ?_
        refine W.widen (k := 0) (n := 0) (by decide) (by decide) ?_
        exact W.iret (v := (-4)) hx hb hr (fun t ht hW => ⟨⟨(-4), (-4), rfl, ⟨rfl, (by have z9_0 : (-4 : Int32).toInt = -4 := (by decide); omega)⟩, ⟨hM, xB_of9 ht hW hP hK hD [0, 1, 2, 3, 4, 5] (by decide +kernel) rfl⟩⟩, hS.F ht⟩) hS.2.2 dX11_becomes_115
      · skip
        have i_10 : v9.toInt = 0 := (ieq rfl (by decide)).mp c_10
        have hM : M_m_becomes Fstate a0 a1 Fsince Ftold FisDead Ftakes = (K_m_becomes_18 Fsince a0 Ftakes) := (show M_m_becomes Fstate a0 a1 Fsince Ftold FisDead Ftakes = (if v9.toInt = 0 then (K_m_becomes_18 Fsince a0 Ftakes) else (K_m_becomes_17)) from (by rw [ev9]; exact hM)).trans (if_pos i_10)
        refine lv_aload_n hx hb dX11_becomes_94 rfl (lv_at hl 0 rfl) ?_
        refine va_get (D := D) (ci := 10) (v := .ref Asince) (C := RX11) (T := TX11) (N := 59) hx hb hts (fun w h => tbC w (tbfX11 w h)) hown hK hP 0 rfl rfl 36 (by decide) (hts (.fieldLink RX11 50 "PowerRailsModel" "since" "[I") (tbC _ wd719)) (fun _ h9 => h9) rfl dX11_becomes_95 ?_
        refine lv_iload_n hx hb dX11_becomes_98 rfl (lv_at hl 1 rfl) ?_
        refine va_iald hx hb hK hP 2 0 rfl rfl (vp_in_iff.mpr ⟨by omega, by omega⟩) dX11_becomes_99 ?_
        refine lv_topi (fun v11 ev11 => ?_)
        have etv11 : (Fsince a0.toNatClampNeg).toInt = v11.toInt := by rw [ev11]
        refine lv_aload_n hx hb dX11_becomes_100 rfl (lv_at hl 0 rfl) ?_
        refine va_get (D := D) (ci := 10) (v := .ref Atakes) (C := RX11) (T := TX11) (N := 59) hx hb hts (fun w h => tbC w (tbfX11 w h)) hown hK hP 0 rfl rfl 39 (by decide) (hts (.fieldLink RX11 59 "PowerRailsModel" "takes" "[I") (tbC _ wd722)) (fun _ h9 => h9) rfl dX11_becomes_101 ?_
        refine lv_iload_n hx hb dX11_becomes_104 rfl (lv_at hl 1 rfl) ?_
        refine va_iald hx hb hK hP 4 0 rfl rfl (vp_in_iff.mpr ⟨by omega, by omega⟩) dX11_becomes_105 ?_
        refine lv_topi (fun v12 ev12 => ?_)
        have ekv12 : 1 ≤ v12.toInt := by rw [ev12]; exact htk _ (by have q9 := xtn (x := a0) (by omega); omega)
        refine lv_icmp_lt (tgt := 113) hx hb dX11_becomes_106 (by decide) (fun c_13 => ?_) (fun c_13 => ?_)
        · skip
          have i_13 : v11.toInt < v12.toInt := (ilt rfl rfl).mp c_13
          have hM : M_m_becomes Fstate a0 a1 Fsince Ftold FisDead Ftakes = (K_m_becomes_19) := (show M_m_becomes Fstate a0 a1 Fsince Ftold FisDead Ftakes = (if v11.toInt < v12.toInt then (K_m_becomes_19) else (K_m_becomes_20)) from (by rw [ev12, ev11]; exact hM)).trans (if_pos i_13)
          refine lv_bipush (v := (-4)) hx hb dX11_becomes_113 (by decide) ?_
          refine W.widen (k := 0) (n := 0) (by decide) (by decide) ?_
          exact W.iret (v := (-4)) hx hb hr (fun t ht hW => ⟨⟨(-4), (-4), rfl, ⟨rfl, (by have z9_0 : (-4 : Int32).toInt = -4 := (by decide); omega)⟩, ⟨hM, xB_of9 ht hW hP hK hD [0, 1, 2, 3, 4, 5] (by decide +kernel) rfl⟩⟩, hS.F ht⟩) hS.2.2 dX11_becomes_115
        · skip
          have i_13 : ¬ (v11.toInt < v12.toInt) := fun h9 => c_13 ((ilt rfl rfl).mpr h9)
          have hM : M_m_becomes Fstate a0 a1 Fsince Ftold FisDead Ftakes = (K_m_becomes_20) := (show M_m_becomes Fstate a0 a1 Fsince Ftold FisDead Ftakes = (if v11.toInt < v12.toInt then (K_m_becomes_19) else (K_m_becomes_20)) from (by rw [ev12, ev11]; exact hM)).trans (if_neg i_13)
          refine lv_iconst (v := 3) hx hb dX11_becomes_109 (by decide) ?_
          refine lv_goto (tgt := 115) hx hb dX11_becomes_110 (by decide) ?_
          refine W.widen (k := 0) (n := 0) (by decide) (by decide) ?_
          exact W.iret (v := 3) hx hb hr (fun t ht hW => ⟨⟨3, 3, rfl, ⟨rfl, (by have z9_0 : (3 : Int32).toInt = 3 := (by decide); omega)⟩, ⟨hM, xB_of9 ht hW hP hK hD [0, 1, 2, 3, 4, 5] (by decide +kernel) rfl⟩⟩, hS.F ht⟩) hS.2.2 dX11_becomes_115
    · skip
      have i_8 : a1.toInt = 0 := (ieq rfl (by decide)).mp c_8
      have hM : M_m_becomes Fstate a0 a1 Fsince Ftold FisDead Ftakes = (K_m_becomes_16) := (show M_m_becomes Fstate a0 a1 Fsince Ftold FisDead Ftakes = (if a1.toInt = 0 then (K_m_becomes_16) else (K_m_becomes_15 FisDead a0 Fsince Ftakes)) from hM).trans (if_pos i_8)
      refine lv_iconst (v := 4) hx hb dX11_becomes_81 (by decide) ?_
      refine lv_goto (tgt := 115) hx hb dX11_becomes_82 (by decide) ?_
      refine W.widen (k := 0) (n := 0) (by decide) (by decide) ?_
      exact W.iret (v := 4) hx hb hr (fun t ht hW => ⟨⟨4, 4, rfl, ⟨rfl, (by have z9_0 : (4 : Int32).toInt = 4 := (by decide); omega)⟩, ⟨hM, xB_of9 ht hW hP hK hD [0, 1, 2, 3, 4, 5] (by decide +kernel) rfl⟩⟩, hS.F ht⟩) hS.2.2 dX11_becomes_115
  have hM : M_m_becomes Fstate a0 a1 Fsince Ftold FisDead Ftakes = (K_m_becomes_14 v1 a1 FisDead a0 Fsince Ftold) := (show M_m_becomes Fstate a0 a1 Fsince Ftold FisDead Ftakes = (if (v1 : Int32).toInt = 2 then (K_m_becomes_13 a1 FisDead a0 Fsince Ftakes) else (K_m_becomes_14 v1 a1 FisDead a0 Fsince Ftold)) from hM).trans (if_neg i_2_2)
  by_cases i_2_3 : (v1 : Int32).toInt = 3
  · skip
    have hM : M_m_becomes Fstate a0 a1 Fsince Ftold FisDead Ftakes = (K_m_becomes_21 a1 FisDead a0) := (show M_m_becomes Fstate a0 a1 Fsince Ftold FisDead Ftakes = (if (v1 : Int32).toInt = 3 then (K_m_becomes_21 a1 FisDead a0) else (K_m_becomes_22 Fsince a0 Ftold)) from hM).trans (if_pos i_2_3)
    refine lv_tableIn (off := 110) (tgt := 116) hx hb dX11_becomes_6 (by omega) (by omega) (by rw [i_2_3]; rfl) (by decide) ?_
    refine lv_iload_n hx hb dX11_becomes_116 rfl (lv_at hl 2 rfl) ?_
    refine lv_if_eq (tgt := 129) hx hb dX11_becomes_117 (by decide) (fun c_14 => ?_) (fun c_14 => ?_)
    · skip
      have i_14 : a1.toInt = 0 := (ieq rfl (by decide)).mp c_14
      have hM : M_m_becomes Fstate a0 a1 Fsince Ftold FisDead Ftakes = (K_m_becomes_23) := (show M_m_becomes Fstate a0 a1 Fsince Ftold FisDead Ftakes = (if a1.toInt = 0 then (K_m_becomes_23) else (K_m_becomes_24 FisDead a0)) from hM).trans (if_pos i_14)
      refine lv_iconst (v := 4) hx hb dX11_becomes_129 (by decide) ?_
      refine lv_goto (tgt := 135) hx hb dX11_becomes_130 (by decide) ?_
      refine W.widen (k := 0) (n := 0) (by decide) (by decide) ?_
      exact W.iret (v := 4) hx hb hr (fun t ht hW => ⟨⟨4, 4, rfl, ⟨rfl, (by have z9_0 : (4 : Int32).toInt = 4 := (by decide); omega)⟩, ⟨hM, xB_of9 ht hW hP hK hD [0, 1, 2, 3, 4, 5] (by decide +kernel) rfl⟩⟩, hS.F ht⟩) hS.2.2 dX11_becomes_135
    · skip
      have i_14 : ¬ (a1.toInt = 0) := fun h9 => c_14 ((ieq rfl (by decide)).mpr h9)
      have hM : M_m_becomes Fstate a0 a1 Fsince Ftold FisDead Ftakes = (K_m_becomes_24 FisDead a0) := (show M_m_becomes Fstate a0 a1 Fsince Ftold FisDead Ftakes = (if a1.toInt = 0 then (K_m_becomes_23) else (K_m_becomes_24 FisDead a0)) from hM).trans (if_neg i_14)
      refine lv_aload_n hx hb dX11_becomes_120 rfl (lv_at hl 0 rfl) ?_
      refine va_get (D := D) (ci := 10) (v := .ref AisDead) (C := RX11) (T := TX11) (N := 59) hx hb hts (fun w h => tbC w (tbfX11 w h)) hown hK hP 0 rfl rfl 38 (by decide) (hts (.fieldLink RX11 56 "PowerRailsModel" "isDead" "[Z") (tbC _ wd721)) (fun _ h9 => h9) rfl dX11_becomes_121 ?_
      refine lv_iload_n hx hb dX11_becomes_124 rfl (lv_at hl 1 rfl) ?_
      refine va_zald hx hb hK hP 3 2 rfl rfl (vp_in_iff.mpr ⟨by omega, by omega⟩) dX11_becomes_125 ?_
      refine lv_topi (fun v15 ev15 => ?_)
      have rv15 : 0 ≤ v15.toInt ∧ v15.toInt ≤ 1 := xrd ev15 h_FisDead (xinK (vp_in_iff.mpr ⟨by omega, by omega⟩))
      refine lv_if_eq (tgt := 133) hx hb dX11_becomes_126 (by decide) (fun c_16 => ?_) (fun c_16 => ?_)
      · skip
        have i_16 : v15.toInt = 0 := (ieq rfl (by decide)).mp c_16
        have hM : M_m_becomes Fstate a0 a1 Fsince Ftold FisDead Ftakes = (K_m_becomes_25) := (show M_m_becomes Fstate a0 a1 Fsince Ftold FisDead Ftakes = (if v15.toInt = 0 then (K_m_becomes_25) else (K_m_becomes_26)) from (by rw [ev15]; exact hM)).trans (if_pos i_16)
        refine lv_bipush (v := (-4)) hx hb dX11_becomes_133 (by decide) ?_
        refine W.widen (k := 0) (n := 0) (by decide) (by decide) ?_
        exact W.iret (v := (-4)) hx hb hr (fun t ht hW => ⟨⟨(-4), (-4), rfl, ⟨rfl, (by have z9_0 : (-4 : Int32).toInt = -4 := (by decide); omega)⟩, ⟨hM, xB_of9 ht hW hP hK hD [0, 1, 2, 3, 4, 5] (by decide +kernel) rfl⟩⟩, hS.F ht⟩) hS.2.2 dX11_becomes_135
      · skip
        have i_16 : ¬ (v15.toInt = 0) := fun h9 => c_16 ((ieq rfl (by decide)).mpr h9)
        have hM : M_m_becomes Fstate a0 a1 Fsince Ftold FisDead Ftakes = (K_m_becomes_26) := (show M_m_becomes Fstate a0 a1 Fsince Ftold FisDead Ftakes = (if v15.toInt = 0 then (K_m_becomes_25) else (K_m_becomes_26)) from (by rw [ev15]; exact hM)).trans (if_neg i_16)
        refine lv_iconst (v := 4) hx hb dX11_becomes_129 (by decide) ?_
        refine lv_goto (tgt := 135) hx hb dX11_becomes_130 (by decide) ?_
        refine W.widen (k := 0) (n := 0) (by decide) (by decide) ?_
        exact W.iret (v := 4) hx hb hr (fun t ht hW => ⟨⟨4, 4, rfl, ⟨rfl, (by have z9_0 : (4 : Int32).toInt = 4 := (by decide); omega)⟩, ⟨hM, xB_of9 ht hW hP hK hD [0, 1, 2, 3, 4, 5] (by decide +kernel) rfl⟩⟩, hS.F ht⟩) hS.2.2 dX11_becomes_135
  have hM : M_m_becomes Fstate a0 a1 Fsince Ftold FisDead Ftakes = (K_m_becomes_22 Fsince a0 Ftold) := (show M_m_becomes Fstate a0 a1 Fsince Ftold FisDead Ftakes = (if (v1 : Int32).toInt = 3 then (K_m_becomes_21 a1 FisDead a0) else (K_m_becomes_22 Fsince a0 Ftold)) from hM).trans (if_neg i_2_3)
  refine lv_tableOut (tgt := 136) hx hb dX11_becomes_6 (by omega) (by decide) ?_
  refine lv_aload_n hx hb dX11_becomes_136 rfl (lv_at hl 0 rfl) ?_
  refine va_get (D := D) (ci := 10) (v := .ref Asince) (C := RX11) (T := TX11) (N := 59) hx hb hts (fun w h => tbC w (tbfX11 w h)) hown hK hP 0 rfl rfl 36 (by decide) (hts (.fieldLink RX11 50 "PowerRailsModel" "since" "[I") (tbC _ wd719)) (fun _ h9 => h9) rfl dX11_becomes_137 ?_
  refine lv_iload_n hx hb dX11_becomes_140 rfl (lv_at hl 1 rfl) ?_
  refine va_iald hx hb hK hP 2 0 rfl rfl (vp_in_iff.mpr ⟨by omega, by omega⟩) dX11_becomes_141 ?_
  refine lv_topi (fun v17 ev17 => ?_)
  have etv17 : (Fsince a0.toNatClampNeg).toInt = v17.toInt := by rw [ev17]
  refine lv_aload_n hx hb dX11_becomes_142 rfl (lv_at hl 0 rfl) ?_
  refine lv_iload_n hx hb dX11_becomes_143 rfl (lv_at hl 1 rfl) ?_
  refine lv_iconst (v := 2) hx hb dX11_becomes_144 (by decide) ?_
  obtain ⟨hPc, hDc, hFc, hC9⟩ := xpk (wc := W_m_of cI cJ cZ cG cH mo a0 (2 : Int32) mrails Atold Anames Atable mlimit mretry mpause mdRails AdTold AdNames AdTable mdLimit mdRetry mdPause mhasLimit mhasRetry mused AusedRail AusedAt mcoded Acode mwaiting Await mdeep Apile Atape mtaped mpos mfrom msort mvalue mfault mwrongAt mtick misOn Astate Asince AupSince AisDead Atakes AwasGood mheld mtries mdrawnNow mdrawnMost mtrips mhappenings Ahappening AmayAt AgoodAt Aby Awaits mupNow mpeakAt AbestWaits msoonest Alanes Asizes Acells Ftold) hP hD hS hA [0, 5] (by decide +kernel) rfl
  refine va_calli (va_runV (As := [.int a0, .int 2]) (rest := [.int v17]) ⟨hx, hb, hml, hown, hts⟩ (c_m_of l D cI cJ cZ cG cH s.heap.size mo a0 (2 : Int32) mrails Atold Anames Atable mlimit mretry mpause mdRails AdTold AdNames AdTable mdLimit mdRetry mdPause mhasLimit mhasRetry mused AusedRail AusedAt mcoded Acode mwaiting Await mdeep Apile Atape mtaped mpos mfrom msort mvalue mfault mwrongAt mtick misOn Astate Asince AupSince AisDead Atakes AwasGood mheld mtries mdrawnNow mdrawnMost mtrips mhappenings Ahappening AmayAt AgoodAt Aby Awaits mupNow mpeakAt AbestWaits msoonest Alanes Asizes Acells Ftold h_a0 ⟨by decide, by decide⟩ h_mrails h_mdRails h_mhasLimit h_mhasRetry h_mused h_mcoded h_mwaiting h_mdeep h_mtaped h_mpos h_mfrom h_msort h_mfault h_misOn h_mhappenings) (cwV 2 hts (xGV tbC wd681 wd682 wd8 wd61 wd1095) rfl rfl rfl (by decide +kernel) ⟨Nat.le_of_ble_eq_true rfl, Nat.le_of_ble_eq_true rfl⟩) ⟨xPc_blind, va_recv hK hPc (ci := 10) (q0 := 0) rfl rfl, xPc_pre hPc hK hDc⟩ rfl rfl hl.1 rfl (lv_room (Nat.le_of_ble_eq_true rfl)) dX11_becomes_145 ⟨Nat.le_of_ble_eq_true rfl, Nat.le_of_ble_eq_true rfl⟩) hS (fun q _ h => hFc q h) hFc (fun r18 u t H1 locs ht hvm hw18 hB hz1 hk1 hS => ?_)
  obtain ⟨hru9, hw18⟩ := hw18
  subst hru9
  obtain ⟨hf18_0, hP1, hK1, hD1⟩ := hB
  rw [ht] at hP1
  obtain ⟨hP, hD⟩ : xPD D A [oAI Astate cI 8 Fstate, oAI Asince cI 8 Fsince, oAI AisDead cZ 8 FisDead, oAI Atakes cI 8 Ftakes, oX11 mo mrails Atold Anames Atable mlimit mretry mpause mdRails AdTold AdNames AdTable mdLimit mdRetry mdPause mhasLimit mhasRetry mused AusedRail AusedAt mcoded Acode mwaiting Await mdeep Apile Atape mtaped mpos mfrom msort mvalue mfault mwrongAt mtick misOn Astate Asince AupSince AisDead Atakes AwasGood mheld mtries mdrawnNow mdrawnMost mtrips mhappenings Ahappening AmayAt AgoodAt Aby Awaits mupNow mpeakAt AbestWaits msoonest Alanes Asizes Acells, oAI Atold cI 56 Ftold] H1 := xjn 4 hP hD [0, 5] [1, 2, 3, 4] hC9 rfl (by decide +kernel) (by decide +kernel) hk1 hFc hP1 hD1
  generalize H1 = H at hP hS ⊢
  have hf18_0 : M_m_of Ftold a0 (2 : Int32) = (r18) := hf18_0
  have hw18 : r18 = Ftold (7 * a0.toNatClampNeg + (2 : Int32).toNatClampNeg) := hw18
  have h9M := congrArg (fun t9 => (K_m_becomes_27 v17 t9)) hf18_0
  have hM : M_m_becomes Fstate a0 a1 Fsince Ftold FisDead Ftakes = (K_m_becomes_27 v17 r18) := (show M_m_becomes Fstate a0 a1 Fsince Ftold FisDead Ftakes = ((fun t9 => (K_m_becomes_27 v17 t9)) (M_m_of Ftold a0 (2 : Int32))) from (by rw [ev17]; exact hM)).trans h9M
  refine lv_icmp_lt (tgt := 155) hx hb dX11_becomes_148 (by decide) (fun c_19 => ?_) (fun c_19 => ?_)
  · skip
    have i_19 : v17.toInt < r18.toInt := (ilt rfl rfl).mp c_19
    have hM : M_m_becomes Fstate a0 a1 Fsince Ftold FisDead Ftakes = (K_m_becomes_28) := (show M_m_becomes Fstate a0 a1 Fsince Ftold FisDead Ftakes = (if v17.toInt < r18.toInt then (K_m_becomes_28) else (K_m_becomes_29)) from hM).trans (if_pos i_19)
    refine lv_bipush (v := (-4)) hx hb dX11_becomes_155 (by decide) ?_
    refine W.widen (k := 0) (n := 0) (by decide) (by decide) ?_
    exact W.iret (v := (-4)) hx hb hr (fun t ht hW => ⟨⟨(-4), (-4), rfl, ⟨rfl, (by have z9_0 : (-4 : Int32).toInt = -4 := (by decide); omega)⟩, ⟨hM, xB_of9 ht hW hP hK hD [4, 0, 1, 2, 3, 5] (by decide +kernel) rfl⟩⟩, hS.F ht⟩) hS.2.2 dX11_becomes_157
  · skip
    have i_19 : ¬ (v17.toInt < r18.toInt) := fun h9 => c_19 ((ilt rfl rfl).mpr h9)
    have hM : M_m_becomes Fstate a0 a1 Fsince Ftold FisDead Ftakes = (K_m_becomes_29) := (show M_m_becomes Fstate a0 a1 Fsince Ftold FisDead Ftakes = (if v17.toInt < r18.toInt then (K_m_becomes_28) else (K_m_becomes_29)) from hM).trans (if_neg i_19)
    refine lv_iconst (v := 0) hx hb dX11_becomes_151 (by decide) ?_
    refine lv_goto (tgt := 157) hx hb dX11_becomes_152 (by decide) ?_
    refine W.widen (k := 0) (n := 0) (by decide) (by decide) ?_
    exact W.iret (v := 0) hx hb hr (fun t ht hW => ⟨⟨0, 0, rfl, ⟨rfl, (by have z9_0 : (0 : Int32).toInt = 0 := (by decide); omega)⟩, ⟨hM, xB_of9 ht hW hP hK hD [4, 0, 1, 2, 3, 5] (by decide +kernel) rfl⟩⟩, hS.F ht⟩) hS.2.2 dX11_becomes_157
