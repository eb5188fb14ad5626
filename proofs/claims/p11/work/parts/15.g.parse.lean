abbrev W_m_worth (cI cJ cZ cG cH : ClassId) (mo : Nat) (a0 : Int32) (mrails : Int32) (Atold : Nat) (Anames : Nat) (Atable : Nat) (mlimit : Int32) (mretry : Int32) (mpause : Int32) (mdRails : Int32) (AdTold : Nat) (AdNames : Nat) (AdTable : Nat) (mdLimit : Int32) (mdRetry : Int32) (mdPause : Int32) (mhasLimit : Int32) (mhasRetry : Int32) (mused : Int32) (AusedRail : Nat) (AusedAt : Nat) (mcoded : Int32) (Acode : Nat) (mwaiting : Int32) (Await : Nat) (mdeep : Int32) (Apile : Nat) (Atape : Nat) (mtaped : Int32) (mpos : Int32) (mfrom : Int32) (msort : Int32) (mvalue : Int32) (mfault : Int32) (mwrongAt : Int32) (mtick : Int32) (misOn : Int32) (Astate : Nat) (Asince : Nat) (AupSince : Nat) (AisDead : Nat) (Atakes : Nat) (AwasGood : Nat) (mheld : Int32) (mtries : Int32) (mdrawnNow : Int32) (mdrawnMost : Int32) (mtrips : Int32) (mhappenings : Int32) (Ahappening : Nat) (AmayAt : Nat) (AgoodAt : Nat) (Aby : Nat) (Awaits : Nat) (mupNow : Int32) (mpeakAt : Int32) (AbestWaits : Nat) (msoonest : Int32) (Alanes : Nat) (Asizes : Nat) (Acells : Nat) (Fcode : Nat → Int32) (Fpile : Nat → Int32) : va_W := [oX11 mo mrails Atold Anames Atable mlimit mretry mpause mdRails AdTold AdNames AdTable mdLimit mdRetry mdPause mhasLimit mhasRetry mused AusedRail AusedAt mcoded Acode mwaiting Await mdeep Apile Atape mtaped mpos mfrom msort mvalue mfault mwrongAt mtick misOn Astate Asince AupSince AisDead Atakes AwasGood mheld mtries mdrawnNow mdrawnMost mtrips mhappenings Ahappening AmayAt AgoodAt Aby Awaits mupNow mpeakAt AbestWaits msoonest Alanes Asizes Acells, oAI Acode cI 400 Fcode, oAI Apile cZ 400 Fpile]
abbrev Q_m_worth (D : va_G) (cI cJ cZ cG cH : ClassId) (mo : Nat) (a0 : Int32) (mrails : Int32) (Atold : Nat) (Anames : Nat) (Atable : Nat) (mlimit : Int32) (mretry : Int32) (mpause : Int32) (mdRails : Int32) (AdTold : Nat) (AdNames : Nat) (AdTable : Nat) (mdLimit : Int32) (mdRetry : Int32) (mdPause : Int32) (mhasLimit : Int32) (mhasRetry : Int32) (mused : Int32) (AusedRail : Nat) (AusedAt : Nat) (mcoded : Int32) (Acode : Nat) (mwaiting : Int32) (Await : Nat) (mdeep : Int32) (Apile : Nat) (Atape : Nat) (mtaped : Int32) (mpos : Int32) (mfrom : Int32) (msort : Int32) (mvalue : Int32) (mfault : Int32) (mwrongAt : Int32) (mtick : Int32) (misOn : Int32) (Astate : Nat) (Asince : Nat) (AupSince : Nat) (AisDead : Nat) (Atakes : Nat) (AwasGood : Nat) (mheld : Int32) (mtries : Int32) (mdrawnNow : Int32) (mdrawnMost : Int32) (mtrips : Int32) (mhappenings : Int32) (Ahappening : Nat) (AmayAt : Nat) (AgoodAt : Nat) (Aby : Nat) (Awaits : Nat) (mupNow : Int32) (mpeakAt : Int32) (AbestWaits : Nat) (msoonest : Int32) (Alanes : Nat) (Asizes : Nat) (Acells : Nat) (Fcode : Nat → Int32) (Fpile : Nat → Int32) (A : Nat → Prop) : Array Value → State → Outcome → State → Prop := va_Qi (fun (r : Int32) (_ : Unit) => 0 ≤ r.toInt ∧ r.toInt ≤ 1) (fun _ t => ∃ (Fpile9 : Nat → Int32), (∀ j, j < 400 → 0 ≤ (Fpile9 j).toInt ∧ (Fpile9 j).toInt ≤ 1) ∧ xB D (tyL cI cJ cZ cG cH) [oX11 mo mrails Atold Anames Atable mlimit mretry mpause mdRails AdTold AdNames AdTable mdLimit mdRetry mdPause mhasLimit mhasRetry mused AusedRail AusedAt mcoded Acode mwaiting Await mdeep Apile Atape mtaped mpos mfrom msort mvalue mfault mwrongAt mtick misOn Astate Asince AupSince AisDead Atakes AwasGood mheld mtries mdrawnNow mdrawnMost mtrips mhappenings Ahappening AmayAt AgoodAt Aby Awaits mupNow mpeakAt AbestWaits msoonest Alanes Asizes Acells, oAI Acode cI 400 Fcode, oAI Apile cZ 400 Fpile9] A t) A
abbrev rm_m_worth : Room := { frames := 0, cells := 0, slots := 0, locals := 0 }
set_option maxRecDepth 100000 in
set_option maxHeartbeats 40000000 in
theorem c_m_worth (l : Launch) (D : va_G) (cI cJ cZ cG cH : ClassId) (sz : Nat) (mo : Nat) (a0 : Int32) (mrails : Int32) (Atold : Nat) (Anames : Nat) (Atable : Nat) (mlimit : Int32) (mretry : Int32) (mpause : Int32) (mdRails : Int32) (AdTold : Nat) (AdNames : Nat) (AdTable : Nat) (mdLimit : Int32) (mdRetry : Int32) (mdPause : Int32) (mhasLimit : Int32) (mhasRetry : Int32) (mused : Int32) (AusedRail : Nat) (AusedAt : Nat) (mcoded : Int32) (Acode : Nat) (mwaiting : Int32) (Await : Nat) (mdeep : Int32) (Apile : Nat) (Atape : Nat) (mtaped : Int32) (mpos : Int32) (mfrom : Int32) (msort : Int32) (mvalue : Int32) (mfault : Int32) (mwrongAt : Int32) (mtick : Int32) (misOn : Int32) (Astate : Nat) (Asince : Nat) (AupSince : Nat) (AisDead : Nat) (Atakes : Nat) (AwasGood : Nat) (mheld : Int32) (mtries : Int32) (mdrawnNow : Int32) (mdrawnMost : Int32) (mtrips : Int32) (mhappenings : Int32) (Ahappening : Nat) (AmayAt : Nat) (AgoodAt : Nat) (Aby : Nat) (Awaits : Nat) (mupNow : Int32) (mpeakAt : Int32) (AbestWaits : Nat) (msoonest : Int32) (Alanes : Nat) (Asizes : Nat) (Acells : Nat) (Fcode : Nat → Int32) (Fpile : Nat → Int32) (h_mrails : 0 ≤ mrails.toInt ∧ mrails.toInt ≤ 8) (h_mdRails : 0 ≤ mdRails.toInt ∧ mdRails.toInt ≤ 8) (h_mhasLimit : 0 ≤ mhasLimit.toInt ∧ mhasLimit.toInt ≤ 1) (h_mhasRetry : 0 ≤ mhasRetry.toInt ∧ mhasRetry.toInt ≤ 1) (h_mused : 0 ≤ mused.toInt ∧ mused.toInt ≤ 400) (h_mcoded : 0 ≤ mcoded.toInt ∧ mcoded.toInt ≤ 400) (h_mwaiting : 0 ≤ mwaiting.toInt ∧ mwaiting.toInt ≤ 400) (h_mdeep : 0 ≤ mdeep.toInt ∧ mdeep.toInt ≤ 400) (h_mtaped : 0 ≤ mtaped.toInt ∧ mtaped.toInt ≤ 400) (h_mpos : 0 ≤ mpos.toInt ∧ mpos.toInt ≤ 400) (h_mfrom : 0 ≤ mfrom.toInt ∧ mfrom.toInt ≤ 400) (h_msort : 0 ≤ msort.toInt ∧ msort.toInt ≤ 7) (h_mfault : 0 ≤ mfault.toInt ∧ mfault.toInt ≤ 6) (h_misOn : 0 ≤ misOn.toInt ∧ misOn.toInt ≤ 1) (h_mhappenings : 0 ≤ mhappenings.toInt ∧ mhappenings.toInt ≤ 64) (h_Fpile : ∀ j, j < 400 → 0 ≤ (Fpile j).toInt ∧ (Fpile j).toInt ≤ 1) (hwf : xwf Fcode mcoded.toNatClampNeg) : Met l yX11_worth (wt yX11_worth cX11_worth 4 (some .boolean)) rm_m_worth (xPc [.ref mo, .int a0] D (tyL cI cJ cZ cG cH) (W_m_worth cI cJ cZ cG cH mo a0 mrails Atold Anames Atable mlimit mretry mpause mdRails AdTold AdNames AdTable mdLimit mdRetry mdPause mhasLimit mhasRetry mused AusedRail AusedAt mcoded Acode mwaiting Await mdeep Apile Atape mtaped mpos mfrom msort mvalue mfault mwrongAt mtick misOn Astate Asince AupSince AisDead Atakes AwasGood mheld mtries mdrawnNow mdrawnMost mtrips mhappenings Ahappening AmayAt AgoodAt Aby Awaits mupNow mpeakAt AbestWaits msoonest Alanes Asizes Acells Fcode Fpile) sz) (Q_m_worth D cI cJ cZ cG cH mo a0 mrails Atold Anames Atable mlimit mretry mpause mdRails AdTold AdNames AdTable mdLimit mdRetry mdPause mhasLimit mhasRetry mused AusedRail AusedAt mcoded Acode mwaiting Await mdeep Apile Atape mtaped mpos mfrom msort mvalue mfault mwrongAt mtick misOn Astate Asince AupSince AisDead Atakes AwasGood mheld mtries mdrawnNow mdrawnMost mtrips mhappenings Ahappening AmayAt AgoodAt Aby Awaits mupNow mpeakAt AbestWaits msoonest Alanes Asizes Acells Fcode Fpile (va_A (W_m_worth cI cJ cZ cG cH mo a0 mrails Atold Anames Atable mlimit mretry mpause mdRails AdTold AdNames AdTable mdLimit mdRetry mdPause mhasLimit mhasRetry mused AusedRail AusedAt mcoded Acode mwaiting Await mdeep Apile Atape mtaped mpos mfrom msort mvalue mfault mwrongAt mtick misOn Astate Asince AupSince AisDead Atakes AwasGood mheld mtries mdrawnNow mdrawnMost mtrips mhappenings Ahappening AmayAt AgoodAt Aby Awaits mupNow mpeakAt AbestWaits msoonest Alanes Asizes Acells Fcode Fpile) sz)) 0 0 (va_A (W_m_worth cI cJ cZ cG cH mo a0 mrails Atold Anames Atable mlimit mretry mpause mdRails AdTold AdNames AdTable mdLimit mdRetry mdPause mhasLimit mhasRetry mused AusedRail AusedAt mcoded Acode mwaiting Await mdeep Apile Atape mtaped mpos mfrom msort mvalue mfault mwrongAt mtick misOn Astate Asince AupSince AisDead Atakes AwasGood mheld mtries mdrawnNow mdrawnMost mtrips mhappenings Ahappening AmayAt AgoodAt Aby Awaits mupNow mpeakAt AbestWaits msoonest Alanes Asizes Acells Fcode Fpile) sz) := by
  refine xMet (cc := cX11_worth) (maxL := 4) (ret := (some .boolean)) (Qf := Q_m_worth D cI cJ cZ cG cH mo a0 mrails Atold Anames Atable mlimit mretry mpause mdRails AdTold AdNames AdTable mdLimit mdRetry mdPause mhasLimit mhasRetry mused AusedRail AusedAt mcoded Acode mwaiting Await mdeep Apile Atape mtaped mpos mfrom msort mvalue mfault mwrongAt mtick misOn Astate Asince AupSince AisDead Atakes AwasGood mheld mtries mdrawnNow mdrawnMost mtrips mhappenings Ahappening AmayAt AgoodAt Aby Awaits mupNow mpeakAt AbestWaits msoonest Alanes Asizes Acells Fcode Fpile) (by decide) rfl (Nat.le_of_ble_eq_true rfl) ?_
  intro p e s m below meth c ls A hx hb hr hml hts hown hlocks hnm hsz hP hK hD hA hS hl
  have hown : s.vm.findClass RX11 = some m.cls := hown
  have hP : va_P D vwCl [oX11 mo mrails Atold Anames Atable mlimit mretry mpause mdRails AdTold AdNames AdTable mdLimit mdRetry mdPause mhasLimit mhasRetry mused AusedRail AusedAt mcoded Acode mwaiting Await mdeep Apile Atape mtaped mpos mfrom msort mvalue mfault mwrongAt mtick misOn Astate Asince AupSince AisDead Atakes AwasGood mheld mtries mdrawnNow mdrawnMost mtrips mhappenings Ahappening AmayAt AgoodAt Aby Awaits mupNow mpeakAt AbestWaits msoonest Alanes Asizes Acells, oAI Acode cI 400 Fcode, oAI Apile cZ 400 Fpile] s.heap := hP
  have hD : va_D A [oX11 mo mrails Atold Anames Atable mlimit mretry mpause mdRails AdTold AdNames AdTable mdLimit mdRetry mdPause mhasLimit mhasRetry mused AusedRail AusedAt mcoded Acode mwaiting Await mdeep Apile Atape mtaped mpos mfrom msort mvalue mfault mwrongAt mtick misOn Astate Asince AupSince AisDead Atakes AwasGood mheld mtries mdrawnNow mdrawnMost mtrips mhappenings Ahappening AmayAt AgoodAt Aby Awaits mupNow mpeakAt AbestWaits msoonest Alanes Asizes Acells, oAI Acode cI 400 Fcode, oAI Apile cZ 400 Fpile] := hD
  have hl : lv_has ls 4 [(0, .ref mo), (1, .int a0)] := hl
  refine lv_iconst (v := 0) hx hb dX11_worth_0 (by decide) ?_
  refine lv_istore_n (lv' := [(2, .int 0), (0, .ref mo), (1, .int a0)]) hx hb dX11_worth_1 rfl hl (by decide) rfl (fun ls hl => ?_)
  refine lv_iconst (v := 0) hx hb dX11_worth_2 (by decide) ?_
  refine lv_istore_n (lv' := [(3, .int 0), (2, .int 0), (0, .ref mo), (1, .int a0)]) hx hb dX11_worth_3 rfl hl (by decide) rfl (fun ls hl => ?_)
  have hl159 : ∀ (nhl159 : Nat) (x155 : Int32) (x156 : Int32) (f157 : Nat → Int32), ((400 - x155.toInt).toNat < nhl159) → (hx155 : 0 ≤ x155.toInt ∧ x155.toInt ≤ 400) → (hx156 : 0 ≤ x156.toInt ∧ x156.toInt ≤ 400) → (hf157 : ∀ j, j < 400 → 0 ≤ (f157 j).toInt ∧ (f157 j).toInt ≤ 1) → (hd158 : x156.toInt = xdq Fcode x155.toNatClampNeg) → ∀ (H : Heap) (locs : List Loc), va_P D vwCl [oX11 mo mrails Atold Anames Atable mlimit mretry mpause mdRails AdTold AdNames AdTable mdLimit mdRetry mdPause mhasLimit mhasRetry mused AusedRail AusedAt mcoded Acode mwaiting Await mdeep Apile Atape mtaped mpos mfrom msort mvalue mfault mwrongAt mtick misOn Astate Asince AupSince AisDead Atakes AwasGood mheld mtries mdrawnNow mdrawnMost mtrips mhappenings Ahappening AmayAt AgoodAt Aby Awaits mupNow mpeakAt AbestWaits msoonest Alanes Asizes Acells, oAI Acode cI 400 Fcode, oAI Apile cZ 400 f157] H → va_D A [oX11 mo mrails Atold Anames Atable mlimit mretry mpause mdRails AdTold AdNames AdTable mdLimit mdRetry mdPause mhasLimit mhasRetry mused AusedRail AusedAt mcoded Acode mwaiting Await mdeep Apile Atape mtaped mpos mfrom msort mvalue mfault mwrongAt mtick misOn Astate Asince AupSince AisDead Atakes AwasGood mheld mtries mdrawnNow mdrawnMost mtrips mhappenings Ahappening AmayAt AgoodAt Aby Awaits mupNow mpeakAt AbestWaits msoonest Alanes Asizes Acells, oAI Acode cI 400 Fcode, oAI Apile cZ 400 f157] → va_S A s.heap H locs → ∀ (ls : Array Slot), lv_has ls 4 [(3, .int x155), (2, .int x156), (0, .ref mo), (1, .int a0)] → W p l e rm_m_worth s m [Value.ref mo, Value.int a0].toArray below meth c H locs 0 0 (MQ below ((Q_m_worth D cI cJ cZ cG cH mo a0 mrails Atold Anames Atable mlimit mretry mpause mdRails AdTold AdNames AdTable mdLimit mdRetry mdPause mhasLimit mhasRetry mused AusedRail AusedAt mcoded Acode mwaiting Await mdeep Apile Atape mtaped mpos mfrom msort mvalue mfault mwrongAt mtick misOn Astate Asince AupSince AisDead Atakes AwasGood mheld mtries mdrawnNow mdrawnMost mtrips mhappenings Ahappening AmayAt AgoodAt Aby Awaits mupNow mpeakAt AbestWaits msoonest Alanes Asizes Acells Fcode Fpile) A) [Value.ref mo, Value.int a0].toArray s 0 0 A) (F0 m 4 ls []) := by
    intro nhl159
    induction nhl159 with
    | zero =>
      intro x155 x156 f157 hmhl159
      exact absurd hmhl159 (Nat.not_lt_zero _)
    | succ nhl159 ihhl159 =>
      intro x155 x156 f157 hmhl159 hx155 hx156 hf157 hd158 H locs hP hD hS ls hl
      refine lv_iload_n hx hb dX11_worth_4 rfl (lv_at hl 0 rfl) ?_
      refine lv_aload_n hx hb dX11_worth_5 rfl (lv_at hl 2 rfl) ?_
      refine va_get (D := D) (ci := 10) (v := .int mcoded) (C := RX11) (T := TX11) (N := 59) hx hb hts (fun w h => tbC w (tbfX11 w h)) hown hK hP 0 rfl rfl 19 (by decide) (hts (.fieldLink RX11 192 "PowerRailsModel" "coded" "I") (tbC _ wd702)) (fun _ h9 => h9) rfl dX11_worth_6 ?_
      refine lv_icmp_ge (tgt := 135) hx hb dX11_worth_9 (by decide) (fun c_160 => ?_) (fun c_160 => ?_)
      · skip
        have i_160 : mcoded.toInt ≤ x155.toInt := (ile rfl rfl).mp c_160
        refine lv_aload_n hx hb dX11_worth_135 rfl (lv_at hl 2 rfl) ?_
        refine va_get (D := D) (ci := 10) (v := .ref Apile) (C := RX11) (T := TX11) (N := 59) hx hb hts (fun w h => tbC w (tbfX11 w h)) hown hK hP 0 rfl rfl 24 (by decide) (hts (.fieldLink RX11 41 "PowerRailsModel" "pile" "[Z") (tbC _ wd707)) (fun _ h9 => h9) rfl dX11_worth_136 ?_
        refine lv_iconst (v := 0) hx hb dX11_worth_139 (by decide) ?_
        refine va_zald hx hb hK hP 2 2 rfl rfl (xin (by decide) (by decide)) dX11_worth_140 ?_
        refine lv_topi (fun v161 ev161 => ?_)
        have ev161 : v161 = f157 0 := ev161
        have rv161 : 0 ≤ v161.toInt ∧ v161.toInt ≤ 1 := xrd ev161 hf157 (by decide)
        refine W.widen (k := 0) (n := 0) (by decide) (by decide) ?_
        exact W.zret (v := v161) hx hb hr (xnb (xrng rfl (by omega) (by omega))).1 (fun t ht hW => ⟨⟨v161, (), rfl, (xrng rfl (by omega) (by omega)), ⟨f157, (xwk_rng hf157 (by decide) (by decide)), xB_of9 ht hW hP hK hD [0, 1, 2] (by decide +kernel) rfl⟩⟩, hS.F ht⟩) hS.2.2 dX11_worth_141
      · skip
        have i_160 : ¬ (mcoded.toInt ≤ x155.toInt) := fun h9 => c_160 ((ile rfl rfl).mpr h9)
        refine lv_aload_n hx hb dX11_worth_12 rfl (lv_at hl 2 rfl) ?_
        refine va_get (D := D) (ci := 10) (v := .ref Acode) (C := RX11) (T := TX11) (N := 59) hx hb hts (fun w h => tbC w (tbfX11 w h)) hown hK hP 0 rfl rfl 20 (by decide) (hts (.fieldLink RX11 35 "PowerRailsModel" "code" "[I") (tbC _ wd703)) (fun _ h9 => h9) rfl dX11_worth_13 ?_
        refine lv_iload_n hx hb dX11_worth_16 rfl (lv_at hl 0 rfl) ?_
        refine va_iald hx hb hK hP 1 0 rfl rfl (vp_in_iff.mpr ⟨by omega, by omega⟩) dX11_worth_17 ?_
        refine lv_topi (fun v162 ev162 => ?_)
        have kk163 := xtn (x := x155) (by omega)
        have wl163 : 0 ≤ x156.toInt ∧ x156.toInt ≤ x155.toInt := by rw [hd158, ← kk163]; exact xwf_dq _ (fun j hj => hwf j (by have c9 := xtn (x := mcoded) (by omega); omega))
        have wo163 : 9 ≤ v162.toInt → 2 ≤ x156.toInt := by rw [hd158, ev162]; exact hwf _ (by have c9 := xtn (x := mcoded) (by omega); omega)
        refine lv_bipush (v := 9) hx hb dX11_worth_18 (by decide) ?_
        refine lv_icmp_ge (tgt := 54) hx hb dX11_worth_20 (by decide) (fun c_164 => ?_) (fun c_164 => ?_)
        · skip
          have i_164 : 9 ≤ v162.toInt := (ile (by decide) rfl).mp c_164
          obtain ⟨x165, ex165⟩ : ∃ y : Int32, y = x156 + (-1) := ⟨_, rfl⟩
          have tx165 : x165.toInt = (x156.toInt + (-1)) := (congrArg Int32.toInt ex165).trans (xadd rfl (by decide) (by omega) (by omega))
          refine lv_iinc (v := x165) (lv' := [(2, .int x165), (3, .int x155), (0, .ref mo), (1, .int a0)]) hx hb dX11_worth_54 hl (k := 1) rfl (by rw [ex165]; rfl) (by decide) rfl (fun ls hl => ?_)
          refine lv_aload_n hx hb dX11_worth_57 rfl (lv_at hl 2 rfl) ?_
          refine va_get (D := D) (ci := 10) (v := .ref Apile) (C := RX11) (T := TX11) (N := 59) hx hb hts (fun w h => tbC w (tbfX11 w h)) hown hK hP 0 rfl rfl 24 (by decide) (hts (.fieldLink RX11 41 "PowerRailsModel" "pile" "[Z") (tbC _ wd707)) (fun _ h9 => h9) rfl dX11_worth_58 ?_
          refine lv_iload_n hx hb dX11_worth_61 rfl (lv_at hl 0 rfl) ?_
          refine lv_iconst (v := 1) hx hb dX11_worth_62 (by decide) ?_
          refine lv_isub hx hb dX11_worth_63 ?_
          refine lv_topi (fun v166 ev166 => ?_)
          have tv166 : v166.toInt = ((x156.toInt + (-1)) - 1) := (congrArg Int32.toInt ev166).trans (xsub tx165 (by decide) (by omega) (by omega))
          refine lv_aload_n hx hb dX11_worth_64 rfl (lv_at hl 2 rfl) ?_
          refine va_get (D := D) (ci := 10) (v := .ref Acode) (C := RX11) (T := TX11) (N := 59) hx hb hts (fun w h => tbC w (tbfX11 w h)) hown hK hP 0 rfl rfl 20 (by decide) (hts (.fieldLink RX11 35 "PowerRailsModel" "code" "[I") (tbC _ wd703)) (fun _ h9 => h9) rfl dX11_worth_65 ?_
          refine lv_iload_n hx hb dX11_worth_68 rfl (lv_at hl 1 rfl) ?_
          refine va_iald hx hb hK hP 1 0 rfl rfl (vp_in_iff.mpr ⟨by omega, by omega⟩) dX11_worth_69 ?_
          refine lv_topi (fun v167 ev167 => ?_)
          have qv167 : v167.toInt = v162.toInt := by rw [ev167, ev162]
          refine lv_bipush (v := 10) hx hb dX11_worth_70 (by decide) ?_
          refine lv_icmp_ne (tgt := 103) hx hb dX11_worth_72 (by decide) (fun c_168 => ?_) (fun c_168 => ?_)
          · skip
            have i_168 : ¬ (v162.toInt = 10) := fun h9 => c_168 ((ieq qv167 (by decide)).mpr h9)
            refine lv_aload_n hx hb dX11_worth_103 rfl (lv_at hl 2 rfl) ?_
            refine va_get (D := D) (ci := 10) (v := .ref Apile) (C := RX11) (T := TX11) (N := 59) hx hb hts (fun w h => tbC w (tbfX11 w h)) hown hK hP 0 rfl rfl 24 (by decide) (hts (.fieldLink RX11 41 "PowerRailsModel" "pile" "[Z") (tbC _ wd707)) (fun _ h9 => h9) rfl dX11_worth_104 ?_
            refine lv_iload_n hx hb dX11_worth_107 rfl (lv_at hl 0 rfl) ?_
            refine lv_iconst (v := 1) hx hb dX11_worth_108 (by decide) ?_
            refine lv_isub hx hb dX11_worth_109 ?_
            refine lv_topi (fun v169 ev169 => ?_)
            have tv169 : v169.toInt = ((x156.toInt + (-1)) - 1) := (congrArg Int32.toInt ev169).trans (xsub tx165 (by decide) (by omega) (by omega))
            refine va_zald hx hb hK hP 2 2 rfl rfl (vp_in_iff.mpr (by rw [tv169]; omega)) dX11_worth_110 ?_
            refine lv_topi (fun v170 ev170 => ?_)
            have rv170 : 0 ≤ v170.toInt ∧ v170.toInt ≤ 1 := xrd ev170 hf157 (xinK (vp_in_iff.mpr (by rw [tv169]; omega)))
            refine lv_if_ne (tgt := 123) hx hb dX11_worth_111 (by decide) (fun c_171 => ?_) (fun c_171 => ?_)
            · skip
              have i_171 : ¬ (v170.toInt = 0) := fun h9 => c_171 ((ieq rfl (by decide)).mpr h9)
              refine lv_iconst (v := 1) hx hb dX11_worth_123 (by decide) ?_
              refine lv_goto (tgt := 128) hx hb dX11_worth_124 (by decide) ?_
              refine va_zast hx hb hK hP hD hS 2 2 rfl rfl (vp_in_iff.mpr (by rw [tv166]; omega)) dX11_worth_128 (fun H locs hP hD hS => ?_)
              obtain ⟨f172, ef172⟩ : ∃ fz9 : Nat → Int32, fz9 = upd f157 (v166 : Int32).toNatClampNeg (vp_nar .boolean 1) := ⟨_, rfl⟩
              have hP : va_P D vwCl [oX11 mo mrails Atold Anames Atable mlimit mretry mpause mdRails AdTold AdNames AdTable mdLimit mdRetry mdPause mhasLimit mhasRetry mused AusedRail AusedAt mcoded Acode mwaiting Await mdeep Apile Atape mtaped mpos mfrom msort mvalue mfault mwrongAt mtick misOn Astate Asince AupSince AisDead Atakes AwasGood mheld mtries mdrawnNow mdrawnMost mtrips mhappenings Ahappening AmayAt AgoodAt Aby Awaits mupNow mpeakAt AbestWaits msoonest Alanes Asizes Acells, oAI Acode cI 400 Fcode, oAI Apile cZ 400 f172] H := by rw [ef172]; exact hP
              have hD : va_D A [oX11 mo mrails Atold Anames Atable mlimit mretry mpause mdRails AdTold AdNames AdTable mdLimit mdRetry mdPause mhasLimit mhasRetry mused AusedRail AusedAt mcoded Acode mwaiting Await mdeep Apile Atape mtaped mpos mfrom msort mvalue mfault mwrongAt mtick misOn Astate Asince AupSince AisDead Atakes AwasGood mheld mtries mdrawnNow mdrawnMost mtrips mhappenings Ahappening AmayAt AgoodAt Aby Awaits mupNow mpeakAt AbestWaits msoonest Alanes Asizes Acells, oAI Acode cI 400 Fcode, oAI Apile cZ 400 f172] := by rw [ef172]; exact hD
              have rf172 : ∀ j, j < 400 → 0 ≤ (f172 j).toInt ∧ (f172 j).toInt ≤ 1 := by rw [ef172]; exact xup_rng (xwk_rng hf157 (by decide) (by decide)) (xnarb _)
              obtain ⟨x173, ex173⟩ : ∃ y : Int32, y = x155 + 1 := ⟨_, rfl⟩
              have tx173 : x173.toInt = (x155.toInt + 1) := (congrArg Int32.toInt ex173).trans (xadd rfl (by decide) (by omega) (by omega))
              refine lv_iinc (v := x173) (lv' := [(3, .int x173), (2, .int x165), (0, .ref mo), (1, .int a0)]) hx hb dX11_worth_129 hl (k := 1) rfl (by rw [ex173]; rfl) (by decide) rfl (fun ls hl => ?_)
              have wn174 : x165.toInt = xdq Fcode x173.toNatClampNeg := by rw [xtn1 (x := x155) (by omega) (by omega), xdq_s, ← hd158, ← ev162]; split <;> omega
              refine lv_goto (tgt := 4) hx hb dX11_worth_132 (by decide) ?_
              exact ihhl159 x173 x165 f172 (by omega) (xrng tx173 (by omega) (by omega)) (xrng tx165 (by omega) (by omega)) (xwk_rng rf172 (by decide) (by decide)) (wn174) _ _ hP hD hS ls (lv_sub hl [0, 1, 2, 3] rfl)
            · skip
              have i_171 : v170.toInt = 0 := (ieq rfl (by decide)).mp c_171
              refine lv_aload_n hx hb dX11_worth_114 rfl (lv_at hl 2 rfl) ?_
              refine va_get (D := D) (ci := 10) (v := .ref Apile) (C := RX11) (T := TX11) (N := 59) hx hb hts (fun w h => tbC w (tbfX11 w h)) hown hK hP 0 rfl rfl 24 (by decide) (hts (.fieldLink RX11 41 "PowerRailsModel" "pile" "[Z") (tbC _ wd707)) (fun _ h9 => h9) rfl dX11_worth_115 ?_
              refine lv_iload_n hx hb dX11_worth_118 rfl (lv_at hl 0 rfl) ?_
              refine va_zald hx hb hK hP 2 2 rfl rfl (vp_in_iff.mpr (by rw [tx165]; omega)) dX11_worth_119 ?_
              refine lv_topi (fun v175 ev175 => ?_)
              have rv175 : 0 ≤ v175.toInt ∧ v175.toInt ≤ 1 := xrd ev175 hf157 (xinK (vp_in_iff.mpr (by rw [tx165]; omega)))
              refine lv_if_eq (tgt := 127) hx hb dX11_worth_120 (by decide) (fun c_176 => ?_) (fun c_176 => ?_)
              · skip
                have i_176 : v175.toInt = 0 := (ieq rfl (by decide)).mp c_176
                refine lv_iconst (v := 0) hx hb dX11_worth_127 (by decide) ?_
                refine va_zast hx hb hK hP hD hS 2 2 rfl rfl (vp_in_iff.mpr (by rw [tv166]; omega)) dX11_worth_128 (fun H locs hP hD hS => ?_)
                obtain ⟨f177, ef177⟩ : ∃ fz9 : Nat → Int32, fz9 = upd f157 (v166 : Int32).toNatClampNeg (vp_nar .boolean 0) := ⟨_, rfl⟩
                have hP : va_P D vwCl [oX11 mo mrails Atold Anames Atable mlimit mretry mpause mdRails AdTold AdNames AdTable mdLimit mdRetry mdPause mhasLimit mhasRetry mused AusedRail AusedAt mcoded Acode mwaiting Await mdeep Apile Atape mtaped mpos mfrom msort mvalue mfault mwrongAt mtick misOn Astate Asince AupSince AisDead Atakes AwasGood mheld mtries mdrawnNow mdrawnMost mtrips mhappenings Ahappening AmayAt AgoodAt Aby Awaits mupNow mpeakAt AbestWaits msoonest Alanes Asizes Acells, oAI Acode cI 400 Fcode, oAI Apile cZ 400 f177] H := by rw [ef177]; exact hP
                have hD : va_D A [oX11 mo mrails Atold Anames Atable mlimit mretry mpause mdRails AdTold AdNames AdTable mdLimit mdRetry mdPause mhasLimit mhasRetry mused AusedRail AusedAt mcoded Acode mwaiting Await mdeep Apile Atape mtaped mpos mfrom msort mvalue mfault mwrongAt mtick misOn Astate Asince AupSince AisDead Atakes AwasGood mheld mtries mdrawnNow mdrawnMost mtrips mhappenings Ahappening AmayAt AgoodAt Aby Awaits mupNow mpeakAt AbestWaits msoonest Alanes Asizes Acells, oAI Acode cI 400 Fcode, oAI Apile cZ 400 f177] := by rw [ef177]; exact hD
                have rf177 : ∀ j, j < 400 → 0 ≤ (f177 j).toInt ∧ (f177 j).toInt ≤ 1 := by rw [ef177]; exact xup_rng (xwk_rng hf157 (by decide) (by decide)) (xnarb _)
                obtain ⟨x178, ex178⟩ : ∃ y : Int32, y = x155 + 1 := ⟨_, rfl⟩
                have tx178 : x178.toInt = (x155.toInt + 1) := (congrArg Int32.toInt ex178).trans (xadd rfl (by decide) (by omega) (by omega))
                refine lv_iinc (v := x178) (lv' := [(3, .int x178), (2, .int x165), (0, .ref mo), (1, .int a0)]) hx hb dX11_worth_129 hl (k := 1) rfl (by rw [ex178]; rfl) (by decide) rfl (fun ls hl => ?_)
                have wn179 : x165.toInt = xdq Fcode x178.toNatClampNeg := by rw [xtn1 (x := x155) (by omega) (by omega), xdq_s, ← hd158, ← ev162]; split <;> omega
                refine lv_goto (tgt := 4) hx hb dX11_worth_132 (by decide) ?_
                exact ihhl159 x178 x165 f177 (by omega) (xrng tx178 (by omega) (by omega)) (xrng tx165 (by omega) (by omega)) (xwk_rng rf177 (by decide) (by decide)) (wn179) _ _ hP hD hS ls (lv_sub hl [0, 1, 2, 3] rfl)
              · skip
                have i_176 : ¬ (v175.toInt = 0) := fun h9 => c_176 ((ieq rfl (by decide)).mpr h9)
                refine lv_iconst (v := 1) hx hb dX11_worth_123 (by decide) ?_
                refine lv_goto (tgt := 128) hx hb dX11_worth_124 (by decide) ?_
                refine va_zast hx hb hK hP hD hS 2 2 rfl rfl (vp_in_iff.mpr (by rw [tv166]; omega)) dX11_worth_128 (fun H locs hP hD hS => ?_)
                obtain ⟨f180, ef180⟩ : ∃ fz9 : Nat → Int32, fz9 = upd f157 (v166 : Int32).toNatClampNeg (vp_nar .boolean 1) := ⟨_, rfl⟩
                have hP : va_P D vwCl [oX11 mo mrails Atold Anames Atable mlimit mretry mpause mdRails AdTold AdNames AdTable mdLimit mdRetry mdPause mhasLimit mhasRetry mused AusedRail AusedAt mcoded Acode mwaiting Await mdeep Apile Atape mtaped mpos mfrom msort mvalue mfault mwrongAt mtick misOn Astate Asince AupSince AisDead Atakes AwasGood mheld mtries mdrawnNow mdrawnMost mtrips mhappenings Ahappening AmayAt AgoodAt Aby Awaits mupNow mpeakAt AbestWaits msoonest Alanes Asizes Acells, oAI Acode cI 400 Fcode, oAI Apile cZ 400 f180] H := by rw [ef180]; exact hP
                have hD : va_D A [oX11 mo mrails Atold Anames Atable mlimit mretry mpause mdRails AdTold AdNames AdTable mdLimit mdRetry mdPause mhasLimit mhasRetry mused AusedRail AusedAt mcoded Acode mwaiting Await mdeep Apile Atape mtaped mpos mfrom msort mvalue mfault mwrongAt mtick misOn Astate Asince AupSince AisDead Atakes AwasGood mheld mtries mdrawnNow mdrawnMost mtrips mhappenings Ahappening AmayAt AgoodAt Aby Awaits mupNow mpeakAt AbestWaits msoonest Alanes Asizes Acells, oAI Acode cI 400 Fcode, oAI Apile cZ 400 f180] := by rw [ef180]; exact hD
                have rf180 : ∀ j, j < 400 → 0 ≤ (f180 j).toInt ∧ (f180 j).toInt ≤ 1 := by rw [ef180]; exact xup_rng (xwk_rng hf157 (by decide) (by decide)) (xnarb _)
                obtain ⟨x181, ex181⟩ : ∃ y : Int32, y = x155 + 1 := ⟨_, rfl⟩
                have tx181 : x181.toInt = (x155.toInt + 1) := (congrArg Int32.toInt ex181).trans (xadd rfl (by decide) (by omega) (by omega))
                refine lv_iinc (v := x181) (lv' := [(3, .int x181), (2, .int x165), (0, .ref mo), (1, .int a0)]) hx hb dX11_worth_129 hl (k := 1) rfl (by rw [ex181]; rfl) (by decide) rfl (fun ls hl => ?_)
                have wn182 : x165.toInt = xdq Fcode x181.toNatClampNeg := by rw [xtn1 (x := x155) (by omega) (by omega), xdq_s, ← hd158, ← ev162]; split <;> omega
                refine lv_goto (tgt := 4) hx hb dX11_worth_132 (by decide) ?_
                exact ihhl159 x181 x165 f180 (by omega) (xrng tx181 (by omega) (by omega)) (xrng tx165 (by omega) (by omega)) (xwk_rng rf180 (by decide) (by decide)) (wn182) _ _ hP hD hS ls (lv_sub hl [0, 1, 2, 3] rfl)
          · skip
            have i_168 : v162.toInt = 10 := (ieq qv167 (by decide)).mp c_168
            refine lv_aload_n hx hb dX11_worth_75 rfl (lv_at hl 2 rfl) ?_
            refine va_get (D := D) (ci := 10) (v := .ref Apile) (C := RX11) (T := TX11) (N := 59) hx hb hts (fun w h => tbC w (tbfX11 w h)) hown hK hP 0 rfl rfl 24 (by decide) (hts (.fieldLink RX11 41 "PowerRailsModel" "pile" "[Z") (tbC _ wd707)) (fun _ h9 => h9) rfl dX11_worth_76 ?_
            refine lv_iload_n hx hb dX11_worth_79 rfl (lv_at hl 0 rfl) ?_
            refine lv_iconst (v := 1) hx hb dX11_worth_80 (by decide) ?_
            refine lv_isub hx hb dX11_worth_81 ?_
            refine lv_topi (fun v183 ev183 => ?_)
            have tv183 : v183.toInt = ((x156.toInt + (-1)) - 1) := (congrArg Int32.toInt ev183).trans (xsub tx165 (by decide) (by omega) (by omega))
            refine va_zald hx hb hK hP 2 2 rfl rfl (vp_in_iff.mpr (by rw [tv183]; omega)) dX11_worth_82 ?_
            refine lv_topi (fun v184 ev184 => ?_)
            have rv184 : 0 ≤ v184.toInt ∧ v184.toInt ≤ 1 := xrd ev184 hf157 (xinK (vp_in_iff.mpr (by rw [tv183]; omega)))
            refine lv_if_eq (tgt := 99) hx hb dX11_worth_83 (by decide) (fun c_185 => ?_) (fun c_185 => ?_)
            · skip
              have i_185 : v184.toInt = 0 := (ieq rfl (by decide)).mp c_185
              refine lv_iconst (v := 0) hx hb dX11_worth_99 (by decide) ?_
              refine lv_goto (tgt := 128) hx hb dX11_worth_100 (by decide) ?_
              refine va_zast hx hb hK hP hD hS 2 2 rfl rfl (vp_in_iff.mpr (by rw [tv166]; omega)) dX11_worth_128 (fun H locs hP hD hS => ?_)
              obtain ⟨f186, ef186⟩ : ∃ fz9 : Nat → Int32, fz9 = upd f157 (v166 : Int32).toNatClampNeg (vp_nar .boolean 0) := ⟨_, rfl⟩
              have hP : va_P D vwCl [oX11 mo mrails Atold Anames Atable mlimit mretry mpause mdRails AdTold AdNames AdTable mdLimit mdRetry mdPause mhasLimit mhasRetry mused AusedRail AusedAt mcoded Acode mwaiting Await mdeep Apile Atape mtaped mpos mfrom msort mvalue mfault mwrongAt mtick misOn Astate Asince AupSince AisDead Atakes AwasGood mheld mtries mdrawnNow mdrawnMost mtrips mhappenings Ahappening AmayAt AgoodAt Aby Awaits mupNow mpeakAt AbestWaits msoonest Alanes Asizes Acells, oAI Acode cI 400 Fcode, oAI Apile cZ 400 f186] H := by rw [ef186]; exact hP
              have hD : va_D A [oX11 mo mrails Atold Anames Atable mlimit mretry mpause mdRails AdTold AdNames AdTable mdLimit mdRetry mdPause mhasLimit mhasRetry mused AusedRail AusedAt mcoded Acode mwaiting Await mdeep Apile Atape mtaped mpos mfrom msort mvalue mfault mwrongAt mtick misOn Astate Asince AupSince AisDead Atakes AwasGood mheld mtries mdrawnNow mdrawnMost mtrips mhappenings Ahappening AmayAt AgoodAt Aby Awaits mupNow mpeakAt AbestWaits msoonest Alanes Asizes Acells, oAI Acode cI 400 Fcode, oAI Apile cZ 400 f186] := by rw [ef186]; exact hD
              have rf186 : ∀ j, j < 400 → 0 ≤ (f186 j).toInt ∧ (f186 j).toInt ≤ 1 := by rw [ef186]; exact xup_rng (xwk_rng hf157 (by decide) (by decide)) (xnarb _)
              obtain ⟨x187, ex187⟩ : ∃ y : Int32, y = x155 + 1 := ⟨_, rfl⟩
              have tx187 : x187.toInt = (x155.toInt + 1) := (congrArg Int32.toInt ex187).trans (xadd rfl (by decide) (by omega) (by omega))
              refine lv_iinc (v := x187) (lv' := [(3, .int x187), (2, .int x165), (0, .ref mo), (1, .int a0)]) hx hb dX11_worth_129 hl (k := 1) rfl (by rw [ex187]; rfl) (by decide) rfl (fun ls hl => ?_)
              have wn188 : x165.toInt = xdq Fcode x187.toNatClampNeg := by rw [xtn1 (x := x155) (by omega) (by omega), xdq_s, ← hd158, ← ev162]; split <;> omega
              refine lv_goto (tgt := 4) hx hb dX11_worth_132 (by decide) ?_
              exact ihhl159 x187 x165 f186 (by omega) (xrng tx187 (by omega) (by omega)) (xrng tx165 (by omega) (by omega)) (xwk_rng rf186 (by decide) (by decide)) (wn188) _ _ hP hD hS ls (lv_sub hl [0, 1, 2, 3] rfl)
            · skip
              have i_185 : ¬ (v184.toInt = 0) := fun h9 => c_185 ((ieq rfl (by decide)).mpr h9)
              refine lv_aload_n hx hb dX11_worth_86 rfl (lv_at hl 2 rfl) ?_
              refine va_get (D := D) (ci := 10) (v := .ref Apile) (C := RX11) (T := TX11) (N := 59) hx hb hts (fun w h => tbC w (tbfX11 w h)) hown hK hP 0 rfl rfl 24 (by decide) (hts (.fieldLink RX11 41 "PowerRailsModel" "pile" "[Z") (tbC _ wd707)) (fun _ h9 => h9) rfl dX11_worth_87 ?_
              refine lv_iload_n hx hb dX11_worth_90 rfl (lv_at hl 0 rfl) ?_
              refine va_zald hx hb hK hP 2 2 rfl rfl (vp_in_iff.mpr (by rw [tx165]; omega)) dX11_worth_91 ?_
              refine lv_topi (fun v189 ev189 => ?_)
              have rv189 : 0 ≤ v189.toInt ∧ v189.toInt ≤ 1 := xrd ev189 hf157 (xinK (vp_in_iff.mpr (by rw [tx165]; omega)))
              refine lv_if_eq (tgt := 99) hx hb dX11_worth_92 (by decide) (fun c_190 => ?_) (fun c_190 => ?_)
              · skip
                have i_190 : v189.toInt = 0 := (ieq rfl (by decide)).mp c_190
                refine lv_iconst (v := 0) hx hb dX11_worth_99 (by decide) ?_
                refine lv_goto (tgt := 128) hx hb dX11_worth_100 (by decide) ?_
                refine va_zast hx hb hK hP hD hS 2 2 rfl rfl (vp_in_iff.mpr (by rw [tv166]; omega)) dX11_worth_128 (fun H locs hP hD hS => ?_)
                obtain ⟨f191, ef191⟩ : ∃ fz9 : Nat → Int32, fz9 = upd f157 (v166 : Int32).toNatClampNeg (vp_nar .boolean 0) := ⟨_, rfl⟩
                have hP : va_P D vwCl [oX11 mo mrails Atold Anames Atable mlimit mretry mpause mdRails AdTold AdNames AdTable mdLimit mdRetry mdPause mhasLimit mhasRetry mused AusedRail AusedAt mcoded Acode mwaiting Await mdeep Apile Atape mtaped mpos mfrom msort mvalue mfault mwrongAt mtick misOn Astate Asince AupSince AisDead Atakes AwasGood mheld mtries mdrawnNow mdrawnMost mtrips mhappenings Ahappening AmayAt AgoodAt Aby Awaits mupNow mpeakAt AbestWaits msoonest Alanes Asizes Acells, oAI Acode cI 400 Fcode, oAI Apile cZ 400 f191] H := by rw [ef191]; exact hP
                have hD : va_D A [oX11 mo mrails Atold Anames Atable mlimit mretry mpause mdRails AdTold AdNames AdTable mdLimit mdRetry mdPause mhasLimit mhasRetry mused AusedRail AusedAt mcoded Acode mwaiting Await mdeep Apile Atape mtaped mpos mfrom msort mvalue mfault mwrongAt mtick misOn Astate Asince AupSince AisDead Atakes AwasGood mheld mtries mdrawnNow mdrawnMost mtrips mhappenings Ahappening AmayAt AgoodAt Aby Awaits mupNow mpeakAt AbestWaits msoonest Alanes Asizes Acells, oAI Acode cI 400 Fcode, oAI Apile cZ 400 f191] := by rw [ef191]; exact hD
                have rf191 : ∀ j, j < 400 → 0 ≤ (f191 j).toInt ∧ (f191 j).toInt ≤ 1 := by rw [ef191]; exact xup_rng (xwk_rng hf157 (by decide) (by decide)) (xnarb _)
                obtain ⟨x192, ex192⟩ : ∃ y : Int32, y = x155 + 1 := ⟨_, rfl⟩
                have tx192 : x192.toInt = (x155.toInt + 1) := (congrArg Int32.toInt ex192).trans (xadd rfl (by decide) (by omega) (by omega))
                refine lv_iinc (v := x192) (lv' := [(3, .int x192), (2, .int x165), (0, .ref mo), (1, .int a0)]) hx hb dX11_worth_129 hl (k := 1) rfl (by rw [ex192]; rfl) (by decide) rfl (fun ls hl => ?_)
                have wn193 : x165.toInt = xdq Fcode x192.toNatClampNeg := by rw [xtn1 (x := x155) (by omega) (by omega), xdq_s, ← hd158, ← ev162]; split <;> omega
                refine lv_goto (tgt := 4) hx hb dX11_worth_132 (by decide) ?_
                exact ihhl159 x192 x165 f191 (by omega) (xrng tx192 (by omega) (by omega)) (xrng tx165 (by omega) (by omega)) (xwk_rng rf191 (by decide) (by decide)) (wn193) _ _ hP hD hS ls (lv_sub hl [0, 1, 2, 3] rfl)
              · skip
                have i_190 : ¬ (v189.toInt = 0) := fun h9 => c_190 ((ieq rfl (by decide)).mpr h9)
                refine lv_iconst (v := 1) hx hb dX11_worth_95 (by decide) ?_
                refine lv_goto (tgt := 128) hx hb dX11_worth_96 (by decide) ?_
                refine va_zast hx hb hK hP hD hS 2 2 rfl rfl (vp_in_iff.mpr (by rw [tv166]; omega)) dX11_worth_128 (fun H locs hP hD hS => ?_)
                obtain ⟨f194, ef194⟩ : ∃ fz9 : Nat → Int32, fz9 = upd f157 (v166 : Int32).toNatClampNeg (vp_nar .boolean 1) := ⟨_, rfl⟩
                have hP : va_P D vwCl [oX11 mo mrails Atold Anames Atable mlimit mretry mpause mdRails AdTold AdNames AdTable mdLimit mdRetry mdPause mhasLimit mhasRetry mused AusedRail AusedAt mcoded Acode mwaiting Await mdeep Apile Atape mtaped mpos mfrom msort mvalue mfault mwrongAt mtick misOn Astate Asince AupSince AisDead Atakes AwasGood mheld mtries mdrawnNow mdrawnMost mtrips mhappenings Ahappening AmayAt AgoodAt Aby Awaits mupNow mpeakAt AbestWaits msoonest Alanes Asizes Acells, oAI Acode cI 400 Fcode, oAI Apile cZ 400 f194] H := by rw [ef194]; exact hP
                have hD : va_D A [oX11 mo mrails Atold Anames Atable mlimit mretry mpause mdRails AdTold AdNames AdTable mdLimit mdRetry mdPause mhasLimit mhasRetry mused AusedRail AusedAt mcoded Acode mwaiting Await mdeep Apile Atape mtaped mpos mfrom msort mvalue mfault mwrongAt mtick misOn Astate Asince AupSince AisDead Atakes AwasGood mheld mtries mdrawnNow mdrawnMost mtrips mhappenings Ahappening AmayAt AgoodAt Aby Awaits mupNow mpeakAt AbestWaits msoonest Alanes Asizes Acells, oAI Acode cI 400 Fcode, oAI Apile cZ 400 f194] := by rw [ef194]; exact hD
                have rf194 : ∀ j, j < 400 → 0 ≤ (f194 j).toInt ∧ (f194 j).toInt ≤ 1 := by rw [ef194]; exact xup_rng (xwk_rng hf157 (by decide) (by decide)) (xnarb _)
                obtain ⟨x195, ex195⟩ : ∃ y : Int32, y = x155 + 1 := ⟨_, rfl⟩
                have tx195 : x195.toInt = (x155.toInt + 1) := (congrArg Int32.toInt ex195).trans (xadd rfl (by decide) (by omega) (by omega))
                refine lv_iinc (v := x195) (lv' := [(3, .int x195), (2, .int x165), (0, .ref mo), (1, .int a0)]) hx hb dX11_worth_129 hl (k := 1) rfl (by rw [ex195]; rfl) (by decide) rfl (fun ls hl => ?_)
                have wn196 : x165.toInt = xdq Fcode x195.toNatClampNeg := by rw [xtn1 (x := x155) (by omega) (by omega), xdq_s, ← hd158, ← ev162]; split <;> omega
                refine lv_goto (tgt := 4) hx hb dX11_worth_132 (by decide) ?_
                exact ihhl159 x195 x165 f194 (by omega) (xrng tx195 (by omega) (by omega)) (xrng tx165 (by omega) (by omega)) (xwk_rng rf194 (by decide) (by decide)) (wn196) _ _ hP hD hS ls (lv_sub hl [0, 1, 2, 3] rfl)
        · skip
          have i_164 : ¬ (9 ≤ v162.toInt) := fun h9 => c_164 ((ile (by decide) rfl).mpr h9)
          refine lv_aload_n hx hb dX11_worth_23 rfl (lv_at hl 2 rfl) ?_
          refine va_get (D := D) (ci := 10) (v := .ref Apile) (C := RX11) (T := TX11) (N := 59) hx hb hts (fun w h => tbC w (tbfX11 w h)) hown hK hP 0 rfl rfl 24 (by decide) (hts (.fieldLink RX11 41 "PowerRailsModel" "pile" "[Z") (tbC _ wd707)) (fun _ h9 => h9) rfl dX11_worth_24 ?_
          refine lv_iload_n hx hb dX11_worth_27 rfl (lv_at hl 1 rfl) ?_
          refine lv_iload_n hx hb dX11_worth_28 rfl (lv_at hl 3 rfl) ?_
          refine lv_aload_n hx hb dX11_worth_29 rfl (lv_at hl 2 rfl) ?_
          refine va_get (D := D) (ci := 10) (v := .ref Acode) (C := RX11) (T := TX11) (N := 59) hx hb hts (fun w h => tbC w (tbfX11 w h)) hown hK hP 0 rfl rfl 20 (by decide) (hts (.fieldLink RX11 35 "PowerRailsModel" "code" "[I") (tbC _ wd703)) (fun _ h9 => h9) rfl dX11_worth_30 ?_
          refine lv_iload_n hx hb dX11_worth_33 rfl (lv_at hl 0 rfl) ?_
          refine va_iald hx hb hK hP 1 0 rfl rfl (vp_in_iff.mpr ⟨by omega, by omega⟩) dX11_worth_34 ?_
          refine lv_topi (fun v197 ev197 => ?_)
          have qv197 : v197.toInt = v162.toInt := by rw [ev197, ev162]
          refine lv_ishr hx hb dX11_worth_35 ?_
          refine lv_topi (fun v198 ev198 => ?_)
          refine lv_iconst (v := 1) hx hb dX11_worth_36 (by decide) ?_
          refine lv_iand hx hb dX11_worth_37 ?_
          refine lv_topi (fun v199 ev199 => ?_)
          have rv199 : 0 ≤ v199.toInt ∧ v199.toInt ≤ 1 := xandL ev199 (show (1 : Int32).toInt = 1 from (by decide)) (by omega)
          refine lv_iconst (v := 1) hx hb dX11_worth_38 (by decide) ?_
          refine lv_icmp_ne (tgt := 46) hx hb dX11_worth_39 (by decide) (fun c_200 => ?_) (fun c_200 => ?_)
          · skip
            have i_200 : ¬ (v199.toInt = 1) := fun h9 => c_200 ((ieq rfl (by decide)).mpr h9)
            refine lv_iconst (v := 0) hx hb dX11_worth_46 (by decide) ?_
            refine va_zast hx hb hK hP hD hS 2 2 rfl rfl (vp_in_iff.mpr ⟨by omega, by omega⟩) dX11_worth_47 (fun H locs hP hD hS => ?_)
            obtain ⟨f201, ef201⟩ : ∃ fz9 : Nat → Int32, fz9 = upd f157 (x156 : Int32).toNatClampNeg (vp_nar .boolean 0) := ⟨_, rfl⟩
            have hP : va_P D vwCl [oX11 mo mrails Atold Anames Atable mlimit mretry mpause mdRails AdTold AdNames AdTable mdLimit mdRetry mdPause mhasLimit mhasRetry mused AusedRail AusedAt mcoded Acode mwaiting Await mdeep Apile Atape mtaped mpos mfrom msort mvalue mfault mwrongAt mtick misOn Astate Asince AupSince AisDead Atakes AwasGood mheld mtries mdrawnNow mdrawnMost mtrips mhappenings Ahappening AmayAt AgoodAt Aby Awaits mupNow mpeakAt AbestWaits msoonest Alanes Asizes Acells, oAI Acode cI 400 Fcode, oAI Apile cZ 400 f201] H := by rw [ef201]; exact hP
            have hD : va_D A [oX11 mo mrails Atold Anames Atable mlimit mretry mpause mdRails AdTold AdNames AdTable mdLimit mdRetry mdPause mhasLimit mhasRetry mused AusedRail AusedAt mcoded Acode mwaiting Await mdeep Apile Atape mtaped mpos mfrom msort mvalue mfault mwrongAt mtick misOn Astate Asince AupSince AisDead Atakes AwasGood mheld mtries mdrawnNow mdrawnMost mtrips mhappenings Ahappening AmayAt AgoodAt Aby Awaits mupNow mpeakAt AbestWaits msoonest Alanes Asizes Acells, oAI Acode cI 400 Fcode, oAI Apile cZ 400 f201] := by rw [ef201]; exact hD
            have rf201 : ∀ j, j < 400 → 0 ≤ (f201 j).toInt ∧ (f201 j).toInt ≤ 1 := by rw [ef201]; exact xup_rng (xwk_rng hf157 (by decide) (by decide)) (xnarb _)
            obtain ⟨x202, ex202⟩ : ∃ y : Int32, y = x156 + 1 := ⟨_, rfl⟩
            have tx202 : x202.toInt = (x156.toInt + 1) := (congrArg Int32.toInt ex202).trans (xadd rfl (by decide) (by omega) (by omega))
            refine lv_iinc (v := x202) (lv' := [(2, .int x202), (3, .int x155), (0, .ref mo), (1, .int a0)]) hx hb dX11_worth_48 hl (k := 1) rfl (by rw [ex202]; rfl) (by decide) rfl (fun ls hl => ?_)
            refine lv_goto (tgt := 129) hx hb dX11_worth_51 (by decide) ?_
            obtain ⟨x203, ex203⟩ : ∃ y : Int32, y = x155 + 1 := ⟨_, rfl⟩
            have tx203 : x203.toInt = (x155.toInt + 1) := (congrArg Int32.toInt ex203).trans (xadd rfl (by decide) (by omega) (by omega))
            refine lv_iinc (v := x203) (lv' := [(3, .int x203), (2, .int x202), (0, .ref mo), (1, .int a0)]) hx hb dX11_worth_129 hl (k := 1) rfl (by rw [ex203]; rfl) (by decide) rfl (fun ls hl => ?_)
            have wn204 : x202.toInt = xdq Fcode x203.toNatClampNeg := by rw [xtn1 (x := x155) (by omega) (by omega), xdq_s, ← hd158, ← ev162]; split <;> omega
            refine lv_goto (tgt := 4) hx hb dX11_worth_132 (by decide) ?_
            exact ihhl159 x203 x202 f201 (by omega) (xrng tx203 (by omega) (by omega)) (xrng tx202 (by omega) (by omega)) (xwk_rng rf201 (by decide) (by decide)) (wn204) _ _ hP hD hS ls (lv_sub hl [0, 1, 2, 3] rfl)
          · skip
            have i_200 : v199.toInt = 1 := (ieq rfl (by decide)).mp c_200
            refine lv_iconst (v := 1) hx hb dX11_worth_42 (by decide) ?_
            refine lv_goto (tgt := 47) hx hb dX11_worth_43 (by decide) ?_
            refine va_zast hx hb hK hP hD hS 2 2 rfl rfl (vp_in_iff.mpr ⟨by omega, by omega⟩) dX11_worth_47 (fun H locs hP hD hS => ?_)
            obtain ⟨f205, ef205⟩ : ∃ fz9 : Nat → Int32, fz9 = upd f157 (x156 : Int32).toNatClampNeg (vp_nar .boolean 1) := ⟨_, rfl⟩
            have hP : va_P D vwCl [oX11 mo mrails Atold Anames Atable mlimit mretry mpause mdRails AdTold AdNames AdTable mdLimit mdRetry mdPause mhasLimit mhasRetry mused AusedRail AusedAt mcoded Acode mwaiting Await mdeep Apile Atape mtaped mpos mfrom msort mvalue mfault mwrongAt mtick misOn Astate Asince AupSince AisDead Atakes AwasGood mheld mtries mdrawnNow mdrawnMost mtrips mhappenings Ahappening AmayAt AgoodAt Aby Awaits mupNow mpeakAt AbestWaits msoonest Alanes Asizes Acells, oAI Acode cI 400 Fcode, oAI Apile cZ 400 f205] H := by rw [ef205]; exact hP
            have hD : va_D A [oX11 mo mrails Atold Anames Atable mlimit mretry mpause mdRails AdTold AdNames AdTable mdLimit mdRetry mdPause mhasLimit mhasRetry mused AusedRail AusedAt mcoded Acode mwaiting Await mdeep Apile Atape mtaped mpos mfrom msort mvalue mfault mwrongAt mtick misOn Astate Asince AupSince AisDead Atakes AwasGood mheld mtries mdrawnNow mdrawnMost mtrips mhappenings Ahappening AmayAt AgoodAt Aby Awaits mupNow mpeakAt AbestWaits msoonest Alanes Asizes Acells, oAI Acode cI 400 Fcode, oAI Apile cZ 400 f205] := by rw [ef205]; exact hD
            have rf205 : ∀ j, j < 400 → 0 ≤ (f205 j).toInt ∧ (f205 j).toInt ≤ 1 := by rw [ef205]; exact xup_rng (xwk_rng hf157 (by decide) (by decide)) (xnarb _)
            obtain ⟨x206, ex206⟩ : ∃ y : Int32, y = x156 + 1 := ⟨_, rfl⟩
            have tx206 : x206.toInt = (x156.toInt + 1) := (congrArg Int32.toInt ex206).trans (xadd rfl (by decide) (by omega) (by omega))
            refine lv_iinc (v := x206) (lv' := [(2, .int x206), (3, .int x155), (0, .ref mo), (1, .int a0)]) hx hb dX11_worth_48 hl (k := 1) rfl (by rw [ex206]; rfl) (by decide) rfl (fun ls hl => ?_)
            refine lv_goto (tgt := 129) hx hb dX11_worth_51 (by decide) ?_
            obtain ⟨x207, ex207⟩ : ∃ y : Int32, y = x155 + 1 := ⟨_, rfl⟩
            have tx207 : x207.toInt = (x155.toInt + 1) := (congrArg Int32.toInt ex207).trans (xadd rfl (by decide) (by omega) (by omega))
            refine lv_iinc (v := x207) (lv' := [(3, .int x207), (2, .int x206), (0, .ref mo), (1, .int a0)]) hx hb dX11_worth_129 hl (k := 1) rfl (by rw [ex207]; rfl) (by decide) rfl (fun ls hl => ?_)
            have wn208 : x206.toInt = xdq Fcode x207.toNatClampNeg := by rw [xtn1 (x := x155) (by omega) (by omega), xdq_s, ← hd158, ← ev162]; split <;> omega
            refine lv_goto (tgt := 4) hx hb dX11_worth_132 (by decide) ?_
            exact ihhl159 x207 x206 f205 (by omega) (xrng tx207 (by omega) (by omega)) (xrng tx206 (by omega) (by omega)) (xwk_rng rf205 (by decide) (by decide)) (wn208) _ _ hP hD hS ls (lv_sub hl [0, 1, 2, 3] rfl)
  exact hl159 _ 0 0 Fpile (Nat.lt_succ_self _) ⟨by decide, by decide⟩ ⟨by decide, by decide⟩ (xwk_rng h_Fpile (by decide) (by decide)) (by rfl) _ _ hP hD hS ls (lv_sub hl [0, 1, 2, 3] rfl)
abbrev W_m_keepFormula (cI cJ cZ cG cH : ClassId) (mo : Nat) (mrails : Int32) (Atold : Nat) (Anames : Nat) (Atable : Nat) (mlimit : Int32) (mretry : Int32) (mpause : Int32) (mdRails : Int32) (AdTold : Nat) (AdNames : Nat) (AdTable : Nat) (mdLimit : Int32) (mdRetry : Int32) (mdPause : Int32) (mhasLimit : Int32) (mhasRetry : Int32) (mused : Int32) (AusedRail : Nat) (AusedAt : Nat) (mcoded : Int32) (Acode : Nat) (mwaiting : Int32) (Await : Nat) (mdeep : Int32) (Apile : Nat) (Atape : Nat) (mtaped : Int32) (mpos : Int32) (mfrom : Int32) (msort : Int32) (mvalue : Int32) (mfault : Int32) (mwrongAt : Int32) (mtick : Int32) (misOn : Int32) (Astate : Nat) (Asince : Nat) (AupSince : Nat) (AisDead : Nat) (Atakes : Nat) (AwasGood : Nat) (mheld : Int32) (mtries : Int32) (mdrawnNow : Int32) (mdrawnMost : Int32) (mtrips : Int32) (mhappenings : Int32) (Ahappening : Nat) (AmayAt : Nat) (AgoodAt : Nat) (Aby : Nat) (Awaits : Nat) (mupNow : Int32) (mpeakAt : Int32) (AbestWaits : Nat) (msoonest : Int32) (Alanes : Nat) (Asizes : Nat) (Acells : Nat) (FdNames : Nat → Int32) (Fcode : Nat → Int32) (FdTable : Nat → Int32) (Fpile : Nat → Int32) : va_W := [oX11 mo mrails Atold Anames Atable mlimit mretry mpause mdRails AdTold AdNames AdTable mdLimit mdRetry mdPause mhasLimit mhasRetry mused AusedRail AusedAt mcoded Acode mwaiting Await mdeep Apile Atape mtaped mpos mfrom msort mvalue mfault mwrongAt mtick misOn Astate Asince AupSince AisDead Atakes AwasGood mheld mtries mdrawnNow mdrawnMost mtrips mhappenings Ahappening AmayAt AgoodAt Aby Awaits mupNow mpeakAt AbestWaits msoonest Alanes Asizes Acells, oAI AdNames cI 8 FdNames, oAI Acode cI 400 Fcode, oAI AdTable cZ 4096 FdTable, oAI Apile cZ 400 Fpile]
abbrev Q_m_keepFormula (D : va_G) (cI cJ cZ cG cH : ClassId) (mo : Nat) (mrails : Int32) (Atold : Nat) (Anames : Nat) (Atable : Nat) (mlimit : Int32) (mretry : Int32) (mpause : Int32) (mdRails : Int32) (AdTold : Nat) (AdNames : Nat) (AdTable : Nat) (mdLimit : Int32) (mdRetry : Int32) (mdPause : Int32) (mhasLimit : Int32) (mhasRetry : Int32) (mused : Int32) (AusedRail : Nat) (AusedAt : Nat) (mcoded : Int32) (Acode : Nat) (mwaiting : Int32) (Await : Nat) (mdeep : Int32) (Apile : Nat) (Atape : Nat) (mtaped : Int32) (mpos : Int32) (mfrom : Int32) (msort : Int32) (mvalue : Int32) (mfault : Int32) (mwrongAt : Int32) (mtick : Int32) (misOn : Int32) (Astate : Nat) (Asince : Nat) (AupSince : Nat) (AisDead : Nat) (Atakes : Nat) (AwasGood : Nat) (mheld : Int32) (mtries : Int32) (mdrawnNow : Int32) (mdrawnMost : Int32) (mtrips : Int32) (mhappenings : Int32) (Ahappening : Nat) (AmayAt : Nat) (AgoodAt : Nat) (Aby : Nat) (Awaits : Nat) (mupNow : Int32) (mpeakAt : Int32) (AbestWaits : Nat) (msoonest : Int32) (Alanes : Nat) (Asizes : Nat) (Acells : Nat) (FdNames : Nat → Int32) (Fcode : Nat → Int32) (FdTable : Nat → Int32) (Fpile : Nat → Int32) (A : Nat → Prop) : Array Value → State → Outcome → State → Prop := va_Qv (fun (_ : Unit) => True) (fun _ t => ∃ (FdNames9 : Nat → Int32) (FdTable9 : Nat → Int32) (Fpile9 : Nat → Int32), (∀ j, j < 4096 → 0 ≤ (FdTable9 j).toInt ∧ (FdTable9 j).toInt ≤ 1) ∧ (∀ j, j < 400 → 0 ≤ (Fpile9 j).toInt ∧ (Fpile9 j).toInt ≤ 1) ∧ xB D (tyL cI cJ cZ cG cH) [oX11 mo mrails Atold Anames Atable mlimit mretry mpause mdRails AdTold AdNames AdTable mdLimit mdRetry mdPause mhasLimit mhasRetry mused AusedRail AusedAt mcoded Acode mwaiting Await mdeep Apile Atape mtaped mpos mfrom msort mvalue mfault mwrongAt mtick misOn Astate Asince AupSince AisDead Atakes AwasGood mheld mtries mdrawnNow mdrawnMost mtrips mhappenings Ahappening AmayAt AgoodAt Aby Awaits mupNow mpeakAt AbestWaits msoonest Alanes Asizes Acells, oAI AdNames cI 8 FdNames9, oAI Acode cI 400 Fcode, oAI AdTable cZ 4096 FdTable9, oAI Apile cZ 400 Fpile9] A t) A
abbrev rm_m_keepFormula : Room := { frames := 1, cells := 0, slots := 0, locals := 23 }
set_option maxRecDepth 100000 in
set_option maxHeartbeats 40000000 in
theorem c_m_keepFormula (l : Launch) (D : va_G) (cI cJ cZ cG cH : ClassId) (sz : Nat) (mo : Nat) (mrails : Int32) (Atold : Nat) (Anames : Nat) (Atable : Nat) (mlimit : Int32) (mretry : Int32) (mpause : Int32) (mdRails : Int32) (AdTold : Nat) (AdNames : Nat) (AdTable : Nat) (mdLimit : Int32) (mdRetry : Int32) (mdPause : Int32) (mhasLimit : Int32) (mhasRetry : Int32) (mused : Int32) (AusedRail : Nat) (AusedAt : Nat) (mcoded : Int32) (Acode : Nat) (mwaiting : Int32) (Await : Nat) (mdeep : Int32) (Apile : Nat) (Atape : Nat) (mtaped : Int32) (mpos : Int32) (mfrom : Int32) (msort : Int32) (mvalue : Int32) (mfault : Int32) (mwrongAt : Int32) (mtick : Int32) (misOn : Int32) (Astate : Nat) (Asince : Nat) (AupSince : Nat) (AisDead : Nat) (Atakes : Nat) (AwasGood : Nat) (mheld : Int32) (mtries : Int32) (mdrawnNow : Int32) (mdrawnMost : Int32) (mtrips : Int32) (mhappenings : Int32) (Ahappening : Nat) (AmayAt : Nat) (AgoodAt : Nat) (Aby : Nat) (Awaits : Nat) (mupNow : Int32) (mpeakAt : Int32) (AbestWaits : Nat) (msoonest : Int32) (Alanes : Nat) (Asizes : Nat) (Acells : Nat) (FdNames : Nat → Int32) (Fcode : Nat → Int32) (FdTable : Nat → Int32) (Fpile : Nat → Int32) (h_mrails : 0 ≤ mrails.toInt ∧ mrails.toInt ≤ 8) (h_mdRails : 0 ≤ mdRails.toInt ∧ mdRails.toInt ≤ 8) (h_mhasLimit : 0 ≤ mhasLimit.toInt ∧ mhasLimit.toInt ≤ 1) (h_mhasRetry : 0 ≤ mhasRetry.toInt ∧ mhasRetry.toInt ≤ 1) (h_mused : 0 ≤ mused.toInt ∧ mused.toInt ≤ 400) (h_mcoded : 0 ≤ mcoded.toInt ∧ mcoded.toInt ≤ 400) (h_mwaiting : 0 ≤ mwaiting.toInt ∧ mwaiting.toInt ≤ 400) (h_mdeep : 0 ≤ mdeep.toInt ∧ mdeep.toInt ≤ 400) (h_mtaped : 0 ≤ mtaped.toInt ∧ mtaped.toInt ≤ 400) (h_mpos : 0 ≤ mpos.toInt ∧ mpos.toInt ≤ 400) (h_mfrom : 0 ≤ mfrom.toInt ∧ mfrom.toInt ≤ 400) (h_msort : 0 ≤ msort.toInt ∧ msort.toInt ≤ 7) (h_mfault : 0 ≤ mfault.toInt ∧ mfault.toInt ≤ 6) (h_misOn : 0 ≤ misOn.toInt ∧ misOn.toInt ≤ 1) (h_mhappenings : 0 ≤ mhappenings.toInt ∧ mhappenings.toInt ≤ 64) (h_FdTable : ∀ j, j < 4096 → 0 ≤ (FdTable j).toInt ∧ (FdTable j).toInt ≤ 1) (h_Fpile : ∀ j, j < 400 → 0 ≤ (Fpile j).toInt ∧ (Fpile j).toInt ≤ 1) (hwf : xwf Fcode mcoded.toNatClampNeg) (h_q0 : mdRails.toInt ≤ 7) : Met l yX11_keepFormula (wt yX11_keepFormula cX11_keepFormula 2 none) rm_m_keepFormula (xPc [.ref mo] D (tyL cI cJ cZ cG cH) (W_m_keepFormula cI cJ cZ cG cH mo mrails Atold Anames Atable mlimit mretry mpause mdRails AdTold AdNames AdTable mdLimit mdRetry mdPause mhasLimit mhasRetry mused AusedRail AusedAt mcoded Acode mwaiting Await mdeep Apile Atape mtaped mpos mfrom msort mvalue mfault mwrongAt mtick misOn Astate Asince AupSince AisDead Atakes AwasGood mheld mtries mdrawnNow mdrawnMost mtrips mhappenings Ahappening AmayAt AgoodAt Aby Awaits mupNow mpeakAt AbestWaits msoonest Alanes Asizes Acells FdNames Fcode FdTable Fpile) sz) (Q_m_keepFormula D cI cJ cZ cG cH mo mrails Atold Anames Atable mlimit mretry mpause mdRails AdTold AdNames AdTable mdLimit mdRetry mdPause mhasLimit mhasRetry mused AusedRail AusedAt mcoded Acode mwaiting Await mdeep Apile Atape mtaped mpos mfrom msort mvalue mfault mwrongAt mtick misOn Astate Asince AupSince AisDead Atakes AwasGood mheld mtries mdrawnNow mdrawnMost mtrips mhappenings Ahappening AmayAt AgoodAt Aby Awaits mupNow mpeakAt AbestWaits msoonest Alanes Asizes Acells FdNames Fcode FdTable Fpile (va_A (W_m_keepFormula cI cJ cZ cG cH mo mrails Atold Anames Atable mlimit mretry mpause mdRails AdTold AdNames AdTable mdLimit mdRetry mdPause mhasLimit mhasRetry mused AusedRail AusedAt mcoded Acode mwaiting Await mdeep Apile Atape mtaped mpos mfrom msort mvalue mfault mwrongAt mtick misOn Astate Asince AupSince AisDead Atakes AwasGood mheld mtries mdrawnNow mdrawnMost mtrips mhappenings Ahappening AmayAt AgoodAt Aby Awaits mupNow mpeakAt AbestWaits msoonest Alanes Asizes Acells FdNames Fcode FdTable Fpile) sz)) 0 0 (va_A (W_m_keepFormula cI cJ cZ cG cH mo mrails Atold Anames Atable mlimit mretry mpause mdRails AdTold AdNames AdTable mdLimit mdRetry mdPause mhasLimit mhasRetry mused AusedRail AusedAt mcoded Acode mwaiting Await mdeep Apile Atape mtaped mpos mfrom msort mvalue mfault mwrongAt mtick misOn Astate Asince AupSince AisDead Atakes AwasGood mheld mtries mdrawnNow mdrawnMost mtrips mhappenings Ahappening AmayAt AgoodAt Aby Awaits mupNow mpeakAt AbestWaits msoonest Alanes Asizes Acells FdNames Fcode FdTable Fpile) sz) := by
  refine xMet (cc := cX11_keepFormula) (maxL := 2) (ret := none) (Qf := Q_m_keepFormula D cI cJ cZ cG cH mo mrails Atold Anames Atable mlimit mretry mpause mdRails AdTold AdNames AdTable mdLimit mdRetry mdPause mhasLimit mhasRetry mused AusedRail AusedAt mcoded Acode mwaiting Await mdeep Apile Atape mtaped mpos mfrom msort mvalue mfault mwrongAt mtick misOn Astate Asince AupSince AisDead Atakes AwasGood mheld mtries mdrawnNow mdrawnMost mtrips mhappenings Ahappening AmayAt AgoodAt Aby Awaits mupNow mpeakAt AbestWaits msoonest Alanes Asizes Acells FdNames Fcode FdTable Fpile) (by decide) rfl (Nat.le_of_ble_eq_true rfl) ?_
  intro p e s m below meth c ls A hx hb hr hml hts hown hlocks hnm hsz hP hK hD hA hS hl
  have hown : s.vm.findClass RX11 = some m.cls := hown
  have hP : va_P D vwCl [oX11 mo mrails Atold Anames Atable mlimit mretry mpause mdRails AdTold AdNames AdTable mdLimit mdRetry mdPause mhasLimit mhasRetry mused AusedRail AusedAt mcoded Acode mwaiting Await mdeep Apile Atape mtaped mpos mfrom msort mvalue mfault mwrongAt mtick misOn Astate Asince AupSince AisDead Atakes AwasGood mheld mtries mdrawnNow mdrawnMost mtrips mhappenings Ahappening AmayAt AgoodAt Aby Awaits mupNow mpeakAt AbestWaits msoonest Alanes Asizes Acells, oAI AdNames cI 8 FdNames, oAI Acode cI 400 Fcode, oAI AdTable cZ 4096 FdTable, oAI Apile cZ 400 Fpile] s.heap := hP
  have hD : va_D A [oX11 mo mrails Atold Anames Atable mlimit mretry mpause mdRails AdTold AdNames AdTable mdLimit mdRetry mdPause mhasLimit mhasRetry mused AusedRail AusedAt mcoded Acode mwaiting Await mdeep Apile Atape mtaped mpos mfrom msort mvalue mfault mwrongAt mtick misOn Astate Asince AupSince AisDead Atakes AwasGood mheld mtries mdrawnNow mdrawnMost mtrips mhappenings Ahappening AmayAt AgoodAt Aby Awaits mupNow mpeakAt AbestWaits msoonest Alanes Asizes Acells, oAI AdNames cI 8 FdNames, oAI Acode cI 400 Fcode, oAI AdTable cZ 4096 FdTable, oAI Apile cZ 400 Fpile] := hD
  have hl : lv_has ls 2 [(0, .ref mo)] := hl
  refine lv_aload_n hx hb dX11_keepFormula_0 rfl (lv_at hl 0 rfl) ?_
  refine va_get (D := D) (ci := 10) (v := .ref AdNames) (C := RX11) (T := TX11) (N := 59) hx hb hts (fun w h => tbC w (tbfX11 w h)) hown hK hP 0 rfl rfl 9 (by decide) (hts (.fieldLink RX11 23 "PowerRailsModel" "dNames" "[I") (tbC _ wd692)) (fun _ h9 => h9) rfl dX11_keepFormula_1 ?_
  refine lv_aload_n hx hb dX11_keepFormula_4 rfl (lv_at hl 0 rfl) ?_
  refine va_get (D := D) (ci := 10) (v := .int mdRails) (C := RX11) (T := TX11) (N := 59) hx hb hts (fun w h => tbC w (tbfX11 w h)) hown hK hP 0 rfl rfl 7 (by decide) (hts (.fieldLink RX11 98 "PowerRailsModel" "dRails" "I") (tbC _ wd690)) (fun _ h9 => h9) rfl dX11_keepFormula_5 ?_
  refine lv_iconst (v := 0) hx hb dX11_keepFormula_8 (by decide) ?_
  refine va_iast hx hb hK hP hD hS 1 0 rfl rfl (vp_in_iff.mpr ⟨by omega, by omega⟩) dX11_keepFormula_9 (fun H locs hP hD hS => ?_)
  obtain ⟨f1, ef1⟩ : ∃ fz9 : Nat → Int32, fz9 = upd FdNames (mdRails : Int32).toNatClampNeg 0 := ⟨_, rfl⟩
  have hP : va_P D vwCl [oX11 mo mrails Atold Anames Atable mlimit mretry mpause mdRails AdTold AdNames AdTable mdLimit mdRetry mdPause mhasLimit mhasRetry mused AusedRail AusedAt mcoded Acode mwaiting Await mdeep Apile Atape mtaped mpos mfrom msort mvalue mfault mwrongAt mtick misOn Astate Asince AupSince AisDead Atakes AwasGood mheld mtries mdrawnNow mdrawnMost mtrips mhappenings Ahappening AmayAt AgoodAt Aby Awaits mupNow mpeakAt AbestWaits msoonest Alanes Asizes Acells, oAI AdNames cI 8 f1, oAI Acode cI 400 Fcode, oAI AdTable cZ 4096 FdTable, oAI Apile cZ 400 Fpile] H := by rw [ef1]; exact hP
  have hD : va_D A [oX11 mo mrails Atold Anames Atable mlimit mretry mpause mdRails AdTold AdNames AdTable mdLimit mdRetry mdPause mhasLimit mhasRetry mused AusedRail AusedAt mcoded Acode mwaiting Await mdeep Apile Atape mtaped mpos mfrom msort mvalue mfault mwrongAt mtick misOn Astate Asince AupSince AisDead Atakes AwasGood mheld mtries mdrawnNow mdrawnMost mtrips mhappenings Ahappening AmayAt AgoodAt Aby Awaits mupNow mpeakAt AbestWaits msoonest Alanes Asizes Acells, oAI AdNames cI 8 f1, oAI Acode cI 400 Fcode, oAI AdTable cZ 4096 FdTable, oAI Apile cZ 400 Fpile] := by rw [ef1]; exact hD
  refine lv_iconst (v := 0) hx hb dX11_keepFormula_10 (by decide) ?_
  refine lv_istore_n (lv' := [(1, .int 0), (0, .ref mo)]) hx hb dX11_keepFormula_11 rfl hl (by decide) rfl (fun ls hl => ?_)
  have hl56 : ∀ (nhl56 : Nat) (x54 : Int32) (f55 : Nat → Int32), ((400 - x54.toInt).toNat < nhl56) → (hx54 : 0 ≤ x54.toInt ∧ x54.toInt ≤ 400) → ∀ (H : Heap) (locs : List Loc), va_P D vwCl [oX11 mo mrails Atold Anames Atable mlimit mretry mpause mdRails AdTold AdNames AdTable mdLimit mdRetry mdPause mhasLimit mhasRetry mused AusedRail AusedAt mcoded Acode mwaiting Await mdeep Apile Atape mtaped mpos mfrom msort mvalue mfault mwrongAt mtick misOn Astate Asince AupSince AisDead Atakes AwasGood mheld mtries mdrawnNow mdrawnMost mtrips mhappenings Ahappening AmayAt AgoodAt Aby Awaits mupNow mpeakAt AbestWaits msoonest Alanes Asizes Acells, oAI AdNames cI 8 f55, oAI Acode cI 400 Fcode, oAI AdTable cZ 4096 FdTable, oAI Apile cZ 400 Fpile] H → va_D A [oX11 mo mrails Atold Anames Atable mlimit mretry mpause mdRails AdTold AdNames AdTable mdLimit mdRetry mdPause mhasLimit mhasRetry mused AusedRail AusedAt mcoded Acode mwaiting Await mdeep Apile Atape mtaped mpos mfrom msort mvalue mfault mwrongAt mtick misOn Astate Asince AupSince AisDead Atakes AwasGood mheld mtries mdrawnNow mdrawnMost mtrips mhappenings Ahappening AmayAt AgoodAt Aby Awaits mupNow mpeakAt AbestWaits msoonest Alanes Asizes Acells, oAI AdNames cI 8 f55, oAI Acode cI 400 Fcode, oAI AdTable cZ 4096 FdTable, oAI Apile cZ 400 Fpile] → va_S A s.heap H locs → ∀ (ls : Array Slot), lv_has ls 2 [(1, .int x54), (0, .ref mo)] → W p l e rm_m_keepFormula s m [Value.ref mo].toArray below meth c H locs 0 0 (MQ below ((Q_m_keepFormula D cI cJ cZ cG cH mo mrails Atold Anames Atable mlimit mretry mpause mdRails AdTold AdNames AdTable mdLimit mdRetry mdPause mhasLimit mhasRetry mused AusedRail AusedAt mcoded Acode mwaiting Await mdeep Apile Atape mtaped mpos mfrom msort mvalue mfault mwrongAt mtick misOn Astate Asince AupSince AisDead Atakes AwasGood mheld mtries mdrawnNow mdrawnMost mtrips mhappenings Ahappening AmayAt AgoodAt Aby Awaits mupNow mpeakAt AbestWaits msoonest Alanes Asizes Acells FdNames Fcode FdTable Fpile) A) [Value.ref mo].toArray s 0 0 A) (F0 m 12 ls []) := by
    intro nhl56
    induction nhl56 with
    | zero =>
      intro x54 f55 hmhl56
      exact absurd hmhl56 (Nat.not_lt_zero _)
    | succ nhl56 ihhl56 =>
      intro x54 f55 hmhl56 hx54 H locs hP hD hS ls hl
      refine lv_iload_n hx hb dX11_keepFormula_12 rfl (lv_at hl 0 rfl) ?_
      refine lv_aload_n hx hb dX11_keepFormula_13 rfl (lv_at hl 1 rfl) ?_
      refine va_get (D := D) (ci := 10) (v := .int mcoded) (C := RX11) (T := TX11) (N := 59) hx hb hts (fun w h => tbC w (tbfX11 w h)) hown hK hP 0 rfl rfl 19 (by decide) (hts (.fieldLink RX11 192 "PowerRailsModel" "coded" "I") (tbC _ wd702)) (fun _ h9 => h9) rfl dX11_keepFormula_14 ?_
      refine lv_icmp_ge (tgt := 61) hx hb dX11_keepFormula_17 (by decide) (fun c_57 => ?_) (fun c_57 => ?_)
      · skip
        have i_57 : mcoded.toInt ≤ x54.toInt := (ile rfl rfl).mp c_57
        refine lv_iconst (v := 0) hx hb dX11_keepFormula_61 (by decide) ?_
        refine lv_istore_n (lv' := [(1, .int 0), (0, .ref mo)]) hx hb dX11_keepFormula_62 rfl hl (by decide) rfl (fun ls hl => ?_)
        have hl106 : ∀ (nhl106 : Nat) (x103 : Int32) (f104 : Nat → Int32) (f105 : Nat → Int32), ((512 - x103.toInt).toNat < nhl106) → (hx103 : 0 ≤ x103.toInt ∧ x103.toInt ≤ 512) → (hf104 : ∀ j, j < 4096 → 0 ≤ (f104 j).toInt ∧ (f104 j).toInt ≤ 1) → (hf105 : ∀ j, j < 400 → 0 ≤ (f105 j).toInt ∧ (f105 j).toInt ≤ 1) → ∀ (H : Heap) (locs : List Loc), va_P D vwCl [oX11 mo mrails Atold Anames Atable mlimit mretry mpause mdRails AdTold AdNames AdTable mdLimit mdRetry mdPause mhasLimit mhasRetry mused AusedRail AusedAt mcoded Acode mwaiting Await mdeep Apile Atape mtaped mpos mfrom msort mvalue mfault mwrongAt mtick misOn Astate Asince AupSince AisDead Atakes AwasGood mheld mtries mdrawnNow mdrawnMost mtrips mhappenings Ahappening AmayAt AgoodAt Aby Awaits mupNow mpeakAt AbestWaits msoonest Alanes Asizes Acells, oAI AdNames cI 8 f55, oAI Acode cI 400 Fcode, oAI AdTable cZ 4096 f104, oAI Apile cZ 400 f105] H → va_D A [oX11 mo mrails Atold Anames Atable mlimit mretry mpause mdRails AdTold AdNames AdTable mdLimit mdRetry mdPause mhasLimit mhasRetry mused AusedRail AusedAt mcoded Acode mwaiting Await mdeep Apile Atape mtaped mpos mfrom msort mvalue mfault mwrongAt mtick misOn Astate Asince AupSince AisDead Atakes AwasGood mheld mtries mdrawnNow mdrawnMost mtrips mhappenings Ahappening AmayAt AgoodAt Aby Awaits mupNow mpeakAt AbestWaits msoonest Alanes Asizes Acells, oAI AdNames cI 8 f55, oAI Acode cI 400 Fcode, oAI AdTable cZ 4096 f104, oAI Apile cZ 400 f105] → va_S A s.heap H locs → ∀ (ls : Array Slot), lv_has ls 2 [(1, .int x103), (0, .ref mo)] → W p l e rm_m_keepFormula s m [Value.ref mo].toArray below meth c H locs 0 0 (MQ below ((Q_m_keepFormula D cI cJ cZ cG cH mo mrails Atold Anames Atable mlimit mretry mpause mdRails AdTold AdNames AdTable mdLimit mdRetry mdPause mhasLimit mhasRetry mused AusedRail AusedAt mcoded Acode mwaiting Await mdeep Apile Atape mtaped mpos mfrom msort mvalue mfault mwrongAt mtick misOn Astate Asince AupSince AisDead Atakes AwasGood mheld mtries mdrawnNow mdrawnMost mtrips mhappenings Ahappening AmayAt AgoodAt Aby Awaits mupNow mpeakAt AbestWaits msoonest Alanes Asizes Acells FdNames Fcode FdTable Fpile) A) [Value.ref mo].toArray s 0 0 A) (F0 m 63 ls []) := by
          intro nhl106
          induction nhl106 with
          | zero =>
            intro x103 f104 f105 hmhl106
            exact absurd hmhl106 (Nat.not_lt_zero _)
          | succ nhl106 ihhl106 =>
            intro x103 f104 f105 hmhl106 hx103 hf104 hf105 H locs hP hD hS ls hl
            refine lv_iload_n hx hb dX11_keepFormula_63 rfl (lv_at hl 0 rfl) ?_
            refine lv_sipush (v := 512) hx hb dX11_keepFormula_64 (by decide) ?_
            refine lv_icmp_ge (tgt := 96) hx hb dX11_keepFormula_67 (by decide) (fun c_107 => ?_) (fun c_107 => ?_)
            · skip
              have i_107 : 512 ≤ x103.toInt := (ile (by decide) rfl).mp c_107
              refine W.widen (k := 0) (n := 0) (by decide) (by decide) ?_
              exact W.vret hx hb hr (fun t ht hW => ⟨⟨(), rfl, trivial, ⟨f55, f104, f105, (xwk_rng hf104 (by decide) (by decide)), (xwk_rng hf105 (by decide) (by decide)), xB_of9 ht hW hP hK hD [0, 1, 2, 3, 4] (by decide +kernel) rfl⟩⟩, hS.F ht⟩) hS.2.2 dX11_keepFormula_96
            · skip
              have i_107 : ¬ (512 ≤ x103.toInt) := fun h9 => c_107 ((ile (by decide) rfl).mpr h9)
              refine lv_aload_n hx hb dX11_keepFormula_70 rfl (lv_at hl 1 rfl) ?_
              refine va_get (D := D) (ci := 10) (v := .ref AdTable) (C := RX11) (T := TX11) (N := 59) hx hb hts (fun w h => tbC w (tbfX11 w h)) hown hK hP 0 rfl rfl 10 (by decide) (hts (.fieldLink RX11 26 "PowerRailsModel" "dTable" "[Z") (tbC _ wd693)) (fun _ h9 => h9) rfl dX11_keepFormula_71 ?_
              refine lv_sipush (v := 512) hx hb dX11_keepFormula_74 (by decide) ?_
              refine lv_aload_n hx hb dX11_keepFormula_77 rfl (lv_at hl 1 rfl) ?_
              refine va_get (D := D) (ci := 10) (v := .int mdRails) (C := RX11) (T := TX11) (N := 59) hx hb hts (fun w h => tbC w (tbfX11 w h)) hown hK hP 0 rfl rfl 7 (by decide) (hts (.fieldLink RX11 98 "PowerRailsModel" "dRails" "I") (tbC _ wd690)) (fun _ h9 => h9) rfl dX11_keepFormula_78 ?_
              refine lv_imul hx hb dX11_keepFormula_81 ?_
              refine lv_topi (fun v108 ev108 => ?_)
              have tv108 : v108.toInt = (512 * mdRails.toInt) := (congrArg Int32.toInt ev108).trans (xmul (by decide) rfl (by omega) (by omega))
              refine lv_iload_n hx hb dX11_keepFormula_82 rfl (lv_at hl 0 rfl) ?_
              refine lv_iadd hx hb dX11_keepFormula_83 ?_
              refine lv_topi (fun v109 ev109 => ?_)
              have tv109 : v109.toInt = ((512 * mdRails.toInt) + x103.toInt) := (congrArg Int32.toInt ev109).trans (xadd tv108 rfl (by omega) (by omega))
              refine lv_aload_n hx hb dX11_keepFormula_84 rfl (lv_at hl 1 rfl) ?_
              refine lv_iload_n hx hb dX11_keepFormula_85 rfl (lv_at hl 0 rfl) ?_
              obtain ⟨hPc, hDc, hFc, hC9⟩ := xpk (wc := W_m_worth cI cJ cZ cG cH mo x103 mrails Atold Anames Atable mlimit mretry mpause mdRails AdTold AdNames AdTable mdLimit mdRetry mdPause mhasLimit mhasRetry mused AusedRail AusedAt mcoded Acode mwaiting Await mdeep Apile Atape mtaped mpos mfrom msort mvalue mfault mwrongAt mtick misOn Astate Asince AupSince AisDead Atakes AwasGood mheld mtries mdrawnNow mdrawnMost mtrips mhappenings Ahappening AmayAt AgoodAt Aby Awaits mupNow mpeakAt AbestWaits msoonest Alanes Asizes Acells Fcode f105) hP hD hS hA [0, 2, 4] (by decide +kernel) rfl
              refine va_calli (va_runV (As := [.int x103]) (rest := [.int v109, .ref AdTable]) ⟨hx, hb, hml, hown, hts⟩ (c_m_worth l D cI cJ cZ cG cH H.size mo x103 mrails Atold Anames Atable mlimit mretry mpause mdRails AdTold AdNames AdTable mdLimit mdRetry mdPause mhasLimit mhasRetry mused AusedRail AusedAt mcoded Acode mwaiting Await mdeep Apile Atape mtaped mpos mfrom msort mvalue mfault mwrongAt mtick misOn Astate Asince AupSince AisDead Atakes AwasGood mheld mtries mdrawnNow mdrawnMost mtrips mhappenings Ahappening AmayAt AgoodAt Aby Awaits mupNow mpeakAt AbestWaits msoonest Alanes Asizes Acells Fcode f105 h_mrails h_mdRails h_mhasLimit h_mhasRetry h_mused h_mcoded h_mwaiting h_mdeep h_mtaped h_mpos h_mfrom h_msort h_mfault h_misOn h_mhappenings (xwk_rng hf105 (by decide) (by decide)) hwf) (cwV 1 hts (xGV tbC wd795 wd796 wd25 wd61 wd1116) rfl rfl rfl (by decide +kernel) ⟨Nat.le_of_ble_eq_true rfl, Nat.le_of_ble_eq_true rfl⟩) ⟨xPc_blind, va_recv hK hPc (ci := 10) (q0 := 0) rfl rfl, xPc_pre hPc hK hDc⟩ rfl rfl hl.1 rfl (lv_room (Nat.le_of_ble_eq_true rfl)) dX11_keepFormula_86 ⟨Nat.le_of_ble_eq_true rfl, Nat.le_of_ble_eq_true rfl⟩) hS (fun q _ h => hFc q h) hFc (fun r110 u t H1 locs ht hvm hw110 hB hz1 hk1 hS => ?_)
              obtain ⟨Fpile_111, hf111_0, hP1, hK1, hD1⟩ := hB
              rw [ht] at hP1
              obtain ⟨hP, hD⟩ : xPD D A [oAI AdNames cI 8 f55, oAI AdTable cZ 4096 f104, oX11 mo mrails Atold Anames Atable mlimit mretry mpause mdRails AdTold AdNames AdTable mdLimit mdRetry mdPause mhasLimit mhasRetry mused AusedRail AusedAt mcoded Acode mwaiting Await mdeep Apile Atape mtaped mpos mfrom msort mvalue mfault mwrongAt mtick misOn Astate Asince AupSince AisDead Atakes AwasGood mheld mtries mdrawnNow mdrawnMost mtrips mhappenings Ahappening AmayAt AgoodAt Aby Awaits mupNow mpeakAt AbestWaits msoonest Alanes Asizes Acells, oAI Acode cI 400 Fcode, oAI Apile cZ 400 Fpile_111] H1 := xjn 2 hP hD [0, 2, 4] [1, 3] hC9 rfl (by decide +kernel) (by decide +kernel) hk1 hFc hP1 hD1
              generalize H1 = H at hP hS ⊢
              have hf111_0 : ∀ j, j < 400 → 0 ≤ (Fpile_111 j).toInt ∧ (Fpile_111 j).toInt ≤ 1 := hf111_0
              have hw110 : 0 ≤ r110.toInt ∧ r110.toInt ≤ 1 := hw110
              refine va_zast hx hb hK hP hD hS 1 2 rfl rfl (vp_in_iff.mpr (by rw [tv109]; omega)) dX11_keepFormula_89 (fun H locs hP hD hS => ?_)
              obtain ⟨f112, ef112⟩ : ∃ fz9 : Nat → Int32, fz9 = upd f104 (v109 : Int32).toNatClampNeg (vp_nar .boolean r110) := ⟨_, rfl⟩
              have hP : va_P D vwCl [oAI AdNames cI 8 f55, oAI AdTable cZ 4096 f112, oX11 mo mrails Atold Anames Atable mlimit mretry mpause mdRails AdTold AdNames AdTable mdLimit mdRetry mdPause mhasLimit mhasRetry mused AusedRail AusedAt mcoded Acode mwaiting Await mdeep Apile Atape mtaped mpos mfrom msort mvalue mfault mwrongAt mtick misOn Astate Asince AupSince AisDead Atakes AwasGood mheld mtries mdrawnNow mdrawnMost mtrips mhappenings Ahappening AmayAt AgoodAt Aby Awaits mupNow mpeakAt AbestWaits msoonest Alanes Asizes Acells, oAI Acode cI 400 Fcode, oAI Apile cZ 400 Fpile_111] H := by rw [ef112]; exact hP
              have hD : va_D A [oAI AdNames cI 8 f55, oAI AdTable cZ 4096 f112, oX11 mo mrails Atold Anames Atable mlimit mretry mpause mdRails AdTold AdNames AdTable mdLimit mdRetry mdPause mhasLimit mhasRetry mused AusedRail AusedAt mcoded Acode mwaiting Await mdeep Apile Atape mtaped mpos mfrom msort mvalue mfault mwrongAt mtick misOn Astate Asince AupSince AisDead Atakes AwasGood mheld mtries mdrawnNow mdrawnMost mtrips mhappenings Ahappening AmayAt AgoodAt Aby Awaits mupNow mpeakAt AbestWaits msoonest Alanes Asizes Acells, oAI Acode cI 400 Fcode, oAI Apile cZ 400 Fpile_111] := by rw [ef112]; exact hD
              have rf112 : ∀ j, j < 4096 → 0 ≤ (f112 j).toInt ∧ (f112 j).toInt ≤ 1 := by rw [ef112]; exact xup_rng (xwk_rng hf104 (by decide) (by decide)) (xnarb _)
              obtain ⟨x113, ex113⟩ : ∃ y : Int32, y = x103 + 1 := ⟨_, rfl⟩
              have tx113 : x113.toInt = (x103.toInt + 1) := (congrArg Int32.toInt ex113).trans (xadd rfl (by decide) (by omega) (by omega))
              refine lv_iinc (v := x113) (lv' := [(1, .int x113), (0, .ref mo)]) hx hb dX11_keepFormula_90 hl (k := 0) rfl (by rw [ex113]; rfl) (by decide) rfl (fun ls hl => ?_)
              refine lv_goto (tgt := 63) hx hb dX11_keepFormula_93 (by decide) ?_
              obtain ⟨hP, hD⟩ := xsb (ws' := [oX11 mo mrails Atold Anames Atable mlimit mretry mpause mdRails AdTold AdNames AdTable mdLimit mdRetry mdPause mhasLimit mhasRetry mused AusedRail AusedAt mcoded Acode mwaiting Await mdeep Apile Atape mtaped mpos mfrom msort mvalue mfault mwrongAt mtick misOn Astate Asince AupSince AisDead Atakes AwasGood mheld mtries mdrawnNow mdrawnMost mtrips mhappenings Ahappening AmayAt AgoodAt Aby Awaits mupNow mpeakAt AbestWaits msoonest Alanes Asizes Acells, oAI AdNames cI 8 f55, oAI Acode cI 400 Fcode, oAI AdTable cZ 4096 f112, oAI Apile cZ 400 Fpile_111]) hP hD [2, 0, 3, 1, 4] (by decide +kernel) rfl
              exact ihhl106 x113 f112 Fpile_111 (by omega) (xrng tx113 (by omega) (by omega)) (xwk_rng rf112 (by decide) (by decide)) (xwk_rng hf111_0 (by decide) (by decide)) _ _ hP hD hS ls (lv_sub hl [0, 1] rfl)
        exact hl106 _ 0 FdTable Fpile (Nat.lt_succ_self _) ⟨by decide, by decide⟩ (xwk_rng h_FdTable (by decide) (by decide)) (xwk_rng h_Fpile (by decide) (by decide)) _ _ hP hD hS ls (lv_sub hl [0, 1] rfl)
      · skip
        have i_57 : ¬ (mcoded.toInt ≤ x54.toInt) := fun h9 => c_57 ((ile rfl rfl).mpr h9)
        refine lv_aload_n hx hb dX11_keepFormula_20 rfl (lv_at hl 1 rfl) ?_
        refine va_get (D := D) (ci := 10) (v := .ref AdNames) (C := RX11) (T := TX11) (N := 59) hx hb hts (fun w h => tbC w (tbfX11 w h)) hown hK hP 0 rfl rfl 9 (by decide) (hts (.fieldLink RX11 23 "PowerRailsModel" "dNames" "[I") (tbC _ wd692)) (fun _ h9 => h9) rfl dX11_keepFormula_21 ?_
        refine lv_aload_n hx hb dX11_keepFormula_24 rfl (lv_at hl 1 rfl) ?_
        refine va_get (D := D) (ci := 10) (v := .int mdRails) (C := RX11) (T := TX11) (N := 59) hx hb hts (fun w h => tbC w (tbfX11 w h)) hown hK hP 0 rfl rfl 7 (by decide) (hts (.fieldLink RX11 98 "PowerRailsModel" "dRails" "I") (tbC _ wd690)) (fun _ h9 => h9) rfl dX11_keepFormula_25 ?_
        refine lv_dup2_11 hx hb dX11_keepFormula_28 rfl rfl ?_
        refine va_iald hx hb hK hP 1 0 rfl rfl (vp_in_iff.mpr ⟨by omega, by omega⟩) dX11_keepFormula_29 ?_
        refine lv_topi (fun v114 ev114 => ?_)
        refine lv_aload_n hx hb dX11_keepFormula_30 rfl (lv_at hl 1 rfl) ?_
        refine va_get (D := D) (ci := 10) (v := .ref Acode) (C := RX11) (T := TX11) (N := 59) hx hb hts (fun w h => tbC w (tbfX11 w h)) hown hK hP 0 rfl rfl 20 (by decide) (hts (.fieldLink RX11 35 "PowerRailsModel" "code" "[I") (tbC _ wd703)) (fun _ h9 => h9) rfl dX11_keepFormula_31 ?_
        refine lv_iload_n hx hb dX11_keepFormula_34 rfl (lv_at hl 0 rfl) ?_
        refine va_iald hx hb hK hP 2 0 rfl rfl (vp_in_iff.mpr ⟨by omega, by omega⟩) dX11_keepFormula_35 ?_
        refine lv_topi (fun v115 ev115 => ?_)
        refine lv_bipush (v := 9) hx hb dX11_keepFormula_36 (by decide) ?_
        refine lv_icmp_ge (tgt := 52) hx hb dX11_keepFormula_38 (by decide) (fun c_116 => ?_) (fun c_116 => ?_)
        · skip
          have i_116 : 9 ≤ v115.toInt := (ile (by decide) rfl).mp c_116
          refine lv_iconst (v := 0) hx hb dX11_keepFormula_52 (by decide) ?_
          refine lv_ior hx hb dX11_keepFormula_53 ?_
          refine lv_topi (fun v117 ev117 => ?_)
          refine va_iast hx hb hK hP hD hS 1 0 rfl rfl (vp_in_iff.mpr ⟨by omega, by omega⟩) dX11_keepFormula_54 (fun H locs hP hD hS => ?_)
          obtain ⟨f118, ef118⟩ : ∃ fz9 : Nat → Int32, fz9 = upd f55 (mdRails : Int32).toNatClampNeg v117 := ⟨_, rfl⟩
          have hP : va_P D vwCl [oX11 mo mrails Atold Anames Atable mlimit mretry mpause mdRails AdTold AdNames AdTable mdLimit mdRetry mdPause mhasLimit mhasRetry mused AusedRail AusedAt mcoded Acode mwaiting Await mdeep Apile Atape mtaped mpos mfrom msort mvalue mfault mwrongAt mtick misOn Astate Asince AupSince AisDead Atakes AwasGood mheld mtries mdrawnNow mdrawnMost mtrips mhappenings Ahappening AmayAt AgoodAt Aby Awaits mupNow mpeakAt AbestWaits msoonest Alanes Asizes Acells, oAI AdNames cI 8 f118, oAI Acode cI 400 Fcode, oAI AdTable cZ 4096 FdTable, oAI Apile cZ 400 Fpile] H := by rw [ef118]; exact hP
          have hD : va_D A [oX11 mo mrails Atold Anames Atable mlimit mretry mpause mdRails AdTold AdNames AdTable mdLimit mdRetry mdPause mhasLimit mhasRetry mused AusedRail AusedAt mcoded Acode mwaiting Await mdeep Apile Atape mtaped mpos mfrom msort mvalue mfault mwrongAt mtick misOn Astate Asince AupSince AisDead Atakes AwasGood mheld mtries mdrawnNow mdrawnMost mtrips mhappenings Ahappening AmayAt AgoodAt Aby Awaits mupNow mpeakAt AbestWaits msoonest Alanes Asizes Acells, oAI AdNames cI 8 f118, oAI Acode cI 400 Fcode, oAI AdTable cZ 4096 FdTable, oAI Apile cZ 400 Fpile] := by rw [ef118]; exact hD
          obtain ⟨x119, ex119⟩ : ∃ y : Int32, y = x54 + 1 := ⟨_, rfl⟩
          have tx119 : x119.toInt = (x54.toInt + 1) := (congrArg Int32.toInt ex119).trans (xadd rfl (by decide) (by omega) (by omega))
          refine lv_iinc (v := x119) (lv' := [(1, .int x119), (0, .ref mo)]) hx hb dX11_keepFormula_55 hl (k := 0) rfl (by rw [ex119]; rfl) (by decide) rfl (fun ls hl => ?_)
          refine lv_goto (tgt := 12) hx hb dX11_keepFormula_58 (by decide) ?_
          exact ihhl56 x119 f118 (by omega) (xrng tx119 (by omega) (by omega)) _ _ hP hD hS ls (lv_sub hl [0, 1] rfl)
        · skip
          have i_116 : ¬ (9 ≤ v115.toInt) := fun h9 => c_116 ((ile (by decide) rfl).mpr h9)
          refine lv_iconst (v := 1) hx hb dX11_keepFormula_41 (by decide) ?_
          refine lv_aload_n hx hb dX11_keepFormula_42 rfl (lv_at hl 1 rfl) ?_
          refine va_get (D := D) (ci := 10) (v := .ref Acode) (C := RX11) (T := TX11) (N := 59) hx hb hts (fun w h => tbC w (tbfX11 w h)) hown hK hP 0 rfl rfl 20 (by decide) (hts (.fieldLink RX11 35 "PowerRailsModel" "code" "[I") (tbC _ wd703)) (fun _ h9 => h9) rfl dX11_keepFormula_43 ?_
          refine lv_iload_n hx hb dX11_keepFormula_46 rfl (lv_at hl 0 rfl) ?_
          refine va_iald hx hb hK hP 2 0 rfl rfl (vp_in_iff.mpr ⟨by omega, by omega⟩) dX11_keepFormula_47 ?_
          refine lv_topi (fun v120 ev120 => ?_)
          have qv120 : v120.toInt = v115.toInt := by rw [ev120, ev115]
          refine lv_ishl hx hb dX11_keepFormula_48 ?_
          refine lv_topi (fun v121 ev121 => ?_)
          refine lv_goto (tgt := 53) hx hb dX11_keepFormula_49 (by decide) ?_
          refine lv_ior hx hb dX11_keepFormula_53 ?_
          refine lv_topi (fun v122 ev122 => ?_)
          refine va_iast hx hb hK hP hD hS 1 0 rfl rfl (vp_in_iff.mpr ⟨by omega, by omega⟩) dX11_keepFormula_54 (fun H locs hP hD hS => ?_)
          obtain ⟨f123, ef123⟩ : ∃ fz9 : Nat → Int32, fz9 = upd f55 (mdRails : Int32).toNatClampNeg v122 := ⟨_, rfl⟩
          have hP : va_P D vwCl [oX11 mo mrails Atold Anames Atable mlimit mretry mpause mdRails AdTold AdNames AdTable mdLimit mdRetry mdPause mhasLimit mhasRetry mused AusedRail AusedAt mcoded Acode mwaiting Await mdeep Apile Atape mtaped mpos mfrom msort mvalue mfault mwrongAt mtick misOn Astate Asince AupSince AisDead Atakes AwasGood mheld mtries mdrawnNow mdrawnMost mtrips mhappenings Ahappening AmayAt AgoodAt Aby Awaits mupNow mpeakAt AbestWaits msoonest Alanes Asizes Acells, oAI AdNames cI 8 f123, oAI Acode cI 400 Fcode, oAI AdTable cZ 4096 FdTable, oAI Apile cZ 400 Fpile] H := by rw [ef123]; exact hP
          have hD : va_D A [oX11 mo mrails Atold Anames Atable mlimit mretry mpause mdRails AdTold AdNames AdTable mdLimit mdRetry mdPause mhasLimit mhasRetry mused AusedRail AusedAt mcoded Acode mwaiting Await mdeep Apile Atape mtaped mpos mfrom msort mvalue mfault mwrongAt mtick misOn Astate Asince AupSince AisDead Atakes AwasGood mheld mtries mdrawnNow mdrawnMost mtrips mhappenings Ahappening AmayAt AgoodAt Aby Awaits mupNow mpeakAt AbestWaits msoonest Alanes Asizes Acells, oAI AdNames cI 8 f123, oAI Acode cI 400 Fcode, oAI AdTable cZ 4096 FdTable, oAI Apile cZ 400 Fpile] := by rw [ef123]; exact hD
          obtain ⟨x124, ex124⟩ : ∃ y : Int32, y = x54 + 1 := ⟨_, rfl⟩
          have tx124 : x124.toInt = (x54.toInt + 1) := (congrArg Int32.toInt ex124).trans (xadd rfl (by decide) (by omega) (by omega))
          refine lv_iinc (v := x124) (lv' := [(1, .int x124), (0, .ref mo)]) hx hb dX11_keepFormula_55 hl (k := 0) rfl (by rw [ex124]; rfl) (by decide) rfl (fun ls hl => ?_)
          refine lv_goto (tgt := 12) hx hb dX11_keepFormula_58 (by decide) ?_
          exact ihhl56 x124 f123 (by omega) (xrng tx124 (by omega) (by omega)) _ _ hP hD hS ls (lv_sub hl [0, 1] rfl)
  exact hl56 _ 0 f1 (Nat.lt_succ_self _) ⟨by decide, by decide⟩ _ _ hP hD hS ls (lv_sub hl [0, 1] rfl)
