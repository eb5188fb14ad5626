abbrev W_wStart (cI cJ cZ cG cH : ClassId) (wy : Nat) (pl : Nat) (co : Nat) (wba : Nat) (wka : Nat) (pk : Int32) (gpk : Int32) (lpk : Int32) (fwa : Nat) (fta : Nat) (fra : Nat) (fga : Nat) (cxa : Nat) (cup : Int32) (clast : Int32) (cpeak : Int32) (cptick : Int32) (fw : Nat → Int32) (ft : Nat → Int32) (pna : Nat) (pta : Nat) (rails : Int32) (limit : Int32) (retry : Int32) (behind : Int32) (pn : Nat → Int32) : va_W := [oX9 wy co wba wka pk gpk lpk, oX0 co fwa fta fra fga cxa cup clast cpeak cptick, oAI fwa cI 8 fw, oAI fta cI 8 ft, oX3 pl pna pta rails limit retry behind, oAI pna cI 64 pn]
abbrev Q_wStart (D : va_G) (cI cJ cZ cG cH : ClassId) (wy : Nat) (pl : Nat) (co : Nat) (wba : Nat) (wka : Nat) (pk : Int32) (gpk : Int32) (lpk : Int32) (fwa : Nat) (fta : Nat) (fra : Nat) (fga : Nat) (cxa : Nat) (cup : Int32) (clast : Int32) (cpeak : Int32) (cptick : Int32) (fw : Nat → Int32) (ft : Nat → Int32) (pna : Nat) (pta : Nat) (rails : Int32) (limit : Int32) (retry : Int32) (behind : Int32) (pn : Nat → Int32) (A : Nat → Prop) : Array Value → State → Outcome → State → Prop := va_Qv (fun (_ : Unit) => True) (fun _ t => ∃ (fw9 : Nat → Int32) (ft9 : Nat → Int32), (∀ j, j < 8 → 0 ≤ (fw9 j).toInt ∧ (fw9 j).toInt ≤ 511) ∧ (∀ j, j < 8 → 0 ≤ (ft9 j).toInt ∧ (ft9 j).toInt ≤ 511) ∧ xB D (tyL cI cJ cZ cG cH) [oX9 wy co wba wka pk gpk lpk, oX0 co fwa fta fra fga cxa cup clast cpeak cptick, oAI fwa cI 8 fw9, oAI fta cI 8 ft9, oX3 pl pna pta rails limit retry behind, oAI pna cI 64 pn] A t) A
abbrev rm_wStart : Room := { frames := 2, cells := 0, slots := 0, locals := 45 }
set_option maxRecDepth 100000 in
set_option maxHeartbeats 40000000 in
theorem c_wStart (l : Launch) (D : va_G) (cI cJ cZ cG cH : ClassId) (sz : Nat) (wy : Nat) (pl : Nat) (co : Nat) (wba : Nat) (wka : Nat) (pk : Int32) (gpk : Int32) (lpk : Int32) (fwa : Nat) (fta : Nat) (fra : Nat) (fga : Nat) (cxa : Nat) (cup : Int32) (clast : Int32) (cpeak : Int32) (cptick : Int32) (fw : Nat → Int32) (ft : Nat → Int32) (pna : Nat) (pta : Nat) (rails : Int32) (limit : Int32) (retry : Int32) (behind : Int32) (pn : Nat → Int32) (h_pk : 0 ≤ pk.toInt ∧ pk.toInt ≤ 1) (h_clast : 0 ≤ clast.toInt ∧ clast.toInt ≤ 144) (h_fw : ∀ j, j < 8 → 0 ≤ (fw j).toInt ∧ (fw j).toInt ≤ 511) (h_ft : ∀ j, j < 8 → 0 ≤ (ft j).toInt ∧ (ft j).toInt ≤ 511) (h_rails : 0 ≤ rails.toInt ∧ rails.toInt ≤ 8) (h_pn : ∀ j, j < 64 → 0 ≤ (pn j).toInt ∧ (pn j).toInt ≤ 511) : Met l yX9_start (wt yX9_start cX9_start 2 none) rm_wStart (xPc [.ref wy, .ref pl] D (tyL cI cJ cZ cG cH) (W_wStart cI cJ cZ cG cH wy pl co wba wka pk gpk lpk fwa fta fra fga cxa cup clast cpeak cptick fw ft pna pta rails limit retry behind pn) sz) (Q_wStart D cI cJ cZ cG cH wy pl co wba wka pk gpk lpk fwa fta fra fga cxa cup clast cpeak cptick fw ft pna pta rails limit retry behind pn (va_A (W_wStart cI cJ cZ cG cH wy pl co wba wka pk gpk lpk fwa fta fra fga cxa cup clast cpeak cptick fw ft pna pta rails limit retry behind pn) sz)) 0 0 (va_A (W_wStart cI cJ cZ cG cH wy pl co wba wka pk gpk lpk fwa fta fra fga cxa cup clast cpeak cptick fw ft pna pta rails limit retry behind pn) sz) := by
  refine xMet (cc := cX9_start) (maxL := 2) (ret := none) (Qf := Q_wStart D cI cJ cZ cG cH wy pl co wba wka pk gpk lpk fwa fta fra fga cxa cup clast cpeak cptick fw ft pna pta rails limit retry behind pn) (by decide) rfl (Nat.le_of_ble_eq_true rfl) ?_
  intro p e s m below meth c ls A hx hb hr hml hts hown hlocks hnm hsz hP hK hD hA hS hl
  have hown : s.vm.findClass RX9 = some m.cls := hown
  have hP : va_P D vwCl [oX9 wy co wba wka pk gpk lpk, oX0 co fwa fta fra fga cxa cup clast cpeak cptick, oAI fwa cI 8 fw, oAI fta cI 8 ft, oX3 pl pna pta rails limit retry behind, oAI pna cI 64 pn] s.heap := hP
  have hD : va_D A [oX9 wy co wba wka pk gpk lpk, oX0 co fwa fta fra fga cxa cup clast cpeak cptick, oAI fwa cI 8 fw, oAI fta cI 8 ft, oX3 pl pna pta rails limit retry behind, oAI pna cI 64 pn] := hD
  have hl : lv_has ls 2 [(0, .ref wy), (1, .ref pl)] := hl
  refine lv_aload_n hx hb dX9_start_0 rfl (lv_at hl 0 rfl) ?_
  refine va_get (D := D) (ci := 8) (v := .ref co) (C := RX9) (T := TX9) (N := 6) hx hb hts (fun w h => tbC w (tbfX9 w h)) hown hK hP 0 rfl rfl 0 (by decide) (hts (.fieldLink RX9 9 "PowerRails$Ways" "course" "LPowerRails$Course;") (tbC _ wd162)) (fun _ h9 => h9) rfl dX9_start_1 ?_
  refine lv_aload_n hx hb dX9_start_4 rfl (lv_at hl 1 rfl) ?_
  obtain ⟨hPc, hDc, hFc, hC9⟩ := xpk (wc := W_cSetWaits cI cJ cZ cG cH co pl fwa fta fra fga cxa cup clast cpeak cptick fw pna pta rails limit retry behind pn) hP hD hS hA [1, 2, 4, 5] (by decide +kernel) rfl
  refine va_callv (va_runV (As := [.ref pl]) (rest := []) ⟨hx, hb, hml, hown, hts⟩ (c_cSetWaits l D cI cJ cZ cG cH s.heap.size co pl fwa fta fra fga cxa cup clast cpeak cptick fw pna pta rails limit retry behind pn (xrng rfl (by omega) (by omega)) (xwk_rng h_fw (by decide) (by decide)) (xrng rfl (by omega) (by omega)) (xwk_rng h_pn (by decide) (by decide))) (cwV 1 hts (xGV tbC wd560 wd516 wd517 wd54 wd1044) rfl rfl rfl (by decide +kernel) ⟨Nat.le_of_ble_eq_true rfl, Nat.le_of_ble_eq_true rfl⟩) ⟨xPc_blind, va_recv hK hPc (ci := 0) (q0 := 0) rfl rfl, xPc_pre hPc hK hDc⟩ rfl rfl hl.1 rfl (lv_room (Nat.le_of_ble_eq_true rfl)) dX9_start_5 ⟨Nat.le_of_ble_eq_true rfl, Nat.le_of_ble_eq_true rfl⟩) hS (fun q _ h => hFc q h) hFc (fun u t H1 locs ht hvm hw1 hB hz1 hk1 hS => ?_)
  obtain ⟨fw_2, hf2_0, hP1, hK1, hD1⟩ := hB
  rw [ht] at hP1
  obtain ⟨hP, hD⟩ : xPD D A [oX9 wy co wba wka pk gpk lpk, oAI fta cI 8 ft, oX0 co fwa fta fra fga cxa cup clast cpeak cptick, oAI fwa cI 8 fw_2, oX3 pl pna pta rails limit retry behind, oAI pna cI 64 pn] H1 := xjn 2 hP hD [1, 2, 4, 5] [0, 3] hC9 rfl (by decide +kernel) (by decide +kernel) hk1 hFc hP1 hD1
  generalize H1 = H at hP hS ⊢
  have hf2_0 : ∀ j, j < 8 → 0 ≤ (fw_2 j).toInt ∧ (fw_2 j).toInt ≤ 511 := hf2_0
  refine lv_aload_n hx hb dX9_start_8 rfl (lv_at hl 0 rfl) ?_
  refine va_get (D := D) (ci := 8) (v := .ref co) (C := RX9) (T := TX9) (N := 6) hx hb hts (fun w h => tbC w (tbfX9 w h)) hown hK hP 0 rfl rfl 0 (by decide) (hts (.fieldLink RX9 9 "PowerRails$Ways" "course" "LPowerRails$Course;") (tbC _ wd162)) (fun _ h9 => h9) rfl dX9_start_9 ?_
  refine lv_aload_n hx hb dX9_start_12 rfl (lv_at hl 1 rfl) ?_
  refine lv_iconst (v := 0) hx hb dX9_start_13 (by decide) ?_
  obtain ⟨hPc, hDc, hFc, hC9⟩ := xpk (wc := W_cSetTakes cI cJ cZ cG cH co pl (0 : Int32) fwa fta fra fga cxa cup clast cpeak cptick ft pna pta rails limit retry behind pn) hP hD hS hA [2, 1, 4, 5] (by decide +kernel) rfl
  refine va_callv (va_runV (As := [.ref pl, .int 0]) (rest := []) ⟨hx, hb, hml, hown, hts⟩ (c_cSetTakes l D cI cJ cZ cG cH H.size co pl (0 : Int32) fwa fta fra fga cxa cup clast cpeak cptick ft pna pta rails limit retry behind pn ⟨by decide, by decide⟩ (xrng rfl (by omega) (by omega)) (xwk_rng h_ft (by decide) (by decide)) (xrng rfl (by omega) (by omega)) (xwk_rng h_pn (by decide) (by decide))) (cwV 2 hts (xGV tbC wd561 wd537 wd538 wd54 wd1050) rfl rfl rfl (by decide +kernel) ⟨Nat.le_of_ble_eq_true rfl, Nat.le_of_ble_eq_true rfl⟩) ⟨xPc_blind, va_recv hK hPc (ci := 0) (q0 := 0) rfl rfl, xPc_pre hPc hK hDc⟩ rfl rfl hl.1 rfl (lv_room (Nat.le_of_ble_eq_true rfl)) dX9_start_14 ⟨Nat.le_of_ble_eq_true rfl, Nat.le_of_ble_eq_true rfl⟩) hS (fun q _ h => hFc q h) hFc (fun u t H1 locs ht hvm hw3 hB hz1 hk1 hS => ?_)
  obtain ⟨ft_4, hf4_0, hP1, hK1, hD1⟩ := hB
  rw [ht] at hP1
  obtain ⟨hP, hD⟩ : xPD D A [oX9 wy co wba wka pk gpk lpk, oAI fwa cI 8 fw_2, oX0 co fwa fta fra fga cxa cup clast cpeak cptick, oAI fta cI 8 ft_4, oX3 pl pna pta rails limit retry behind, oAI pna cI 64 pn] H1 := xjn 2 hP hD [2, 1, 4, 5] [0, 3] hC9 rfl (by decide +kernel) (by decide +kernel) hk1 hFc hP1 hD1
  generalize H1 = H at hP hS ⊢
  have hf4_0 : ∀ j, j < 8 → 0 ≤ (ft_4 j).toInt ∧ (ft_4 j).toInt ≤ 511 := hf4_0
  refine W.widen (k := 0) (n := 0) (by decide) (by decide) ?_
  exact W.vret hx hb hr (fun t ht hW => ⟨⟨(), rfl, trivial, ⟨fw_2, ft_4, (xwk_rng hf2_0 (by decide) (by decide)), (xwk_rng hf4_0 (by decide) (by decide)), xB_of9 ht hW hP hK hD [0, 2, 1, 3, 4, 5] (by decide +kernel) rfl⟩⟩, hS.F ht⟩) hS.2.2 dX9_start_17
abbrev W_nextWay (cI cJ cZ cG cH : ClassId) (wy : Nat) (pl : Nat) (s0 : Int32) (co : Nat) (wba : Nat) (wka : Nat) (pk : Int32) (gpk : Int32) (lpk : Int32) (fwa : Nat) (fta : Nat) (fra : Nat) (fga : Nat) (cxa : Nat) (cup : Int32) (clast : Int32) (cpeak : Int32) (cptick : Int32) (ft : Nat → Int32) (pna : Nat) (pta : Nat) (rails : Int32) (limit : Int32) (retry : Int32) (behind : Int32) (pn : Nat → Int32) : va_W := [oX9 wy co wba wka pk gpk lpk, oX0 co fwa fta fra fga cxa cup clast cpeak cptick, oAI fta cI 8 ft, oX3 pl pna pta rails limit retry behind, oAI pna cI 64 pn]
abbrev Q_nextWay (D : va_G) (cI cJ cZ cG cH : ClassId) (wy : Nat) (pl : Nat) (s0 : Int32) (co : Nat) (wba : Nat) (wka : Nat) (pk : Int32) (gpk : Int32) (lpk : Int32) (fwa : Nat) (fta : Nat) (fra : Nat) (fga : Nat) (cxa : Nat) (cup : Int32) (clast : Int32) (cpeak : Int32) (cptick : Int32) (ft : Nat → Int32) (pna : Nat) (pta : Nat) (rails : Int32) (limit : Int32) (retry : Int32) (behind : Int32) (pn : Nat → Int32) (A : Nat → Prop) : Array Value → State → Outcome → State → Prop := va_Qi (fun (r : Int32) (_ : Unit) => 0 ≤ r.toInt ∧ r.toInt ≤ 1) (fun _ t => ∃ (ft9 : Nat → Int32), (∀ j, j < 8 → 0 ≤ (ft9 j).toInt ∧ (ft9 j).toInt ≤ 511) ∧ xB D (tyL cI cJ cZ cG cH) [oX9 wy co wba wka pk gpk lpk, oX0 co fwa fta fra fga cxa cup clast cpeak cptick, oAI fta cI 8 ft9, oX3 pl pna pta rails limit retry behind, oAI pna cI 64 pn] A t) A
abbrev rm_nextWay : Room := { frames := 1, cells := 0, slots := 0, locals := 22 }
set_option maxRecDepth 100000 in
set_option maxHeartbeats 40000000 in
theorem c_nextWay (l : Launch) (D : va_G) (cI cJ cZ cG cH : ClassId) (sz : Nat) (wy : Nat) (pl : Nat) (s0 : Int32) (co : Nat) (wba : Nat) (wka : Nat) (pk : Int32) (gpk : Int32) (lpk : Int32) (fwa : Nat) (fta : Nat) (fra : Nat) (fga : Nat) (cxa : Nat) (cup : Int32) (clast : Int32) (cpeak : Int32) (cptick : Int32) (ft : Nat → Int32) (pna : Nat) (pta : Nat) (rails : Int32) (limit : Int32) (retry : Int32) (behind : Int32) (pn : Nat → Int32) (h_pk : 0 ≤ pk.toInt ∧ pk.toInt ≤ 1) (h_clast : 0 ≤ clast.toInt ∧ clast.toInt ≤ 144) (h_ft : ∀ j, j < 8 → 0 ≤ (ft j).toInt ∧ (ft j).toInt ≤ 511) (h_rails : 0 ≤ rails.toInt ∧ rails.toInt ≤ 8) (h_pn : ∀ j, j < 64 → 0 ≤ (pn j).toInt ∧ (pn j).toInt ≤ 511) : Met l yX9_nextWay (wt yX9_nextWay cX9_nextWay 4 (some .boolean)) rm_nextWay (xPc [.ref wy, .ref pl, .int s0] D (tyL cI cJ cZ cG cH) (W_nextWay cI cJ cZ cG cH wy pl s0 co wba wka pk gpk lpk fwa fta fra fga cxa cup clast cpeak cptick ft pna pta rails limit retry behind pn) sz) (Q_nextWay D cI cJ cZ cG cH wy pl s0 co wba wka pk gpk lpk fwa fta fra fga cxa cup clast cpeak cptick ft pna pta rails limit retry behind pn (va_A (W_nextWay cI cJ cZ cG cH wy pl s0 co wba wka pk gpk lpk fwa fta fra fga cxa cup clast cpeak cptick ft pna pta rails limit retry behind pn) sz)) 0 0 (va_A (W_nextWay cI cJ cZ cG cH wy pl s0 co wba wka pk gpk lpk fwa fta fra fga cxa cup clast cpeak cptick ft pna pta rails limit retry behind pn) sz) := by
  refine xMet (cc := cX9_nextWay) (maxL := 4) (ret := (some .boolean)) (Qf := Q_nextWay D cI cJ cZ cG cH wy pl s0 co wba wka pk gpk lpk fwa fta fra fga cxa cup clast cpeak cptick ft pna pta rails limit retry behind pn) (by decide) rfl (Nat.le_of_ble_eq_true rfl) ?_
  intro p e s m below meth c ls A hx hb hr hml hts hown hlocks hnm hsz hP hK hD hA hS hl
  have hown : s.vm.findClass RX9 = some m.cls := hown
  have hP : va_P D vwCl [oX9 wy co wba wka pk gpk lpk, oX0 co fwa fta fra fga cxa cup clast cpeak cptick, oAI fta cI 8 ft, oX3 pl pna pta rails limit retry behind, oAI pna cI 64 pn] s.heap := hP
  have hD : va_D A [oX9 wy co wba wka pk gpk lpk, oX0 co fwa fta fra fga cxa cup clast cpeak cptick, oAI fta cI 8 ft, oX3 pl pna pta rails limit retry behind, oAI pna cI 64 pn] := hD
  have hl : lv_has ls 4 [(0, .ref wy), (1, .ref pl), (2, .int s0)] := hl
  refine lv_iconst (v := 0) hx hb dX9_nextWay_0 (by decide) ?_
  refine lv_istore_n (lv' := [(3, .int 0), (0, .ref wy), (1, .ref pl), (2, .int s0)]) hx hb dX9_nextWay_1 rfl hl (by decide) rfl (fun ls hl => ?_)
  have hl47 : ∀ (nhl47 : Nat) (x45 : Int32) (f46 : Nat → Int32), ((8 - x45.toInt).toNat < nhl47) → (hx45 : 0 ≤ x45.toInt ∧ x45.toInt ≤ 8) → (hf46 : ∀ j, j < 8 → 0 ≤ (f46 j).toInt ∧ (f46 j).toInt ≤ 511) → ∀ (H : Heap) (locs : List Loc), va_P D vwCl [oX9 wy co wba wka pk gpk lpk, oX0 co fwa fta fra fga cxa cup clast cpeak cptick, oAI fta cI 8 f46, oX3 pl pna pta rails limit retry behind, oAI pna cI 64 pn] H → va_D A [oX9 wy co wba wka pk gpk lpk, oX0 co fwa fta fra fga cxa cup clast cpeak cptick, oAI fta cI 8 f46, oX3 pl pna pta rails limit retry behind, oAI pna cI 64 pn] → va_S A s.heap H locs → ∀ (ls : Array Slot), lv_has ls 4 [(3, .int x45), (0, .ref wy), (1, .ref pl), (2, .int s0)] → W p l e rm_nextWay s m [Value.ref wy, Value.ref pl, Value.int s0].toArray below meth c H locs 0 0 (MQ below ((Q_nextWay D cI cJ cZ cG cH wy pl s0 co wba wka pk gpk lpk fwa fta fra fga cxa cup clast cpeak cptick ft pna pta rails limit retry behind pn) A) [Value.ref wy, Value.ref pl, Value.int s0].toArray s 0 0 A) (F0 m 2 ls []) := by
    intro nhl47
    induction nhl47 with
    | zero =>
      intro x45 f46 hmhl47
      exact absurd hmhl47 (Nat.not_lt_zero _)
    | succ nhl47 ihhl47 =>
      intro x45 f46 hmhl47 hx45 hf46 H locs hP hD hS ls hl
      refine lv_iload_n hx hb dX9_nextWay_2 rfl (lv_at hl 0 rfl) ?_
      refine lv_aload_n hx hb dX9_nextWay_3 rfl (lv_at hl 2 rfl) ?_
      refine va_get (D := D) (ci := 2) (v := .int rails) (C := RX3) (T := TX3) (N := 6) hx hb hts (fun w h => tbC w (tbfX3 w h)) hown hK hP 3 rfl rfl 2 (by decide) (hts (.fieldLink RX9 81 "PowerRails$Plan" "rails" "I") (tbC _ wd208)) (fun _ h9 => h9) rfl dX9_nextWay_4 ?_
      refine lv_icmp_ge (tgt := 75) hx hb dX9_nextWay_7 (by decide) (fun c_48 => ?_) (fun c_48 => ?_)
      · skip
        have i_48 : rails.toInt ≤ x45.toInt := (ile rfl rfl).mp c_48
        refine lv_iconst (v := 0) hx hb dX9_nextWay_75 (by decide) ?_
        refine W.widen (k := 0) (n := 0) (by decide) (by decide) ?_
        exact W.zret (v := 0) hx hb hr (by decide) (fun t ht hW => ⟨⟨0, (), rfl, ⟨by decide, by decide⟩, ⟨f46, (xwk_rng hf46 (by decide) (by decide)), xB_of9 ht hW hP hK hD [0, 1, 2, 3, 4] (by decide +kernel) rfl⟩⟩, hS.F ht⟩) hS.2.2 dX9_nextWay_76
      · skip
        have i_48 : ¬ (rails.toInt ≤ x45.toInt) := fun h9 => c_48 ((ile rfl rfl).mpr h9)
        refine lv_iload_n hx hb dX9_nextWay_10 rfl (lv_at hl 3 rfl) ?_
        refine lv_iload_n hx hb dX9_nextWay_11 rfl (lv_at hl 0 rfl) ?_
        refine lv_ishr hx hb dX9_nextWay_12 ?_
        refine lv_topi (fun v49 ev49 => ?_)
        refine lv_iconst (v := 1) hx hb dX9_nextWay_13 (by decide) ?_
        refine lv_iand hx hb dX9_nextWay_14 ?_
        refine lv_topi (fun v50 ev50 => ?_)
        have rv50 : 0 ≤ v50.toInt ∧ v50.toInt ≤ 1 := xandL ev50 (show (1 : Int32).toInt = 1 from (by decide)) (by omega)
        refine lv_if_ne (tgt := 21) hx hb dX9_nextWay_15 (by decide) (fun c_51 => ?_) (fun c_51 => ?_)
        · skip
          have i_51 : ¬ (v50.toInt = 0) := fun h9 => c_51 ((ieq rfl (by decide)).mpr h9)
          refine lv_aload_n hx hb dX9_nextWay_21 rfl (lv_at hl 1 rfl) ?_
          refine va_get (D := D) (ci := 8) (v := .ref co) (C := RX9) (T := TX9) (N := 6) hx hb hts (fun w h => tbC w (tbfX9 w h)) hown hK hP 0 rfl rfl 0 (by decide) (hts (.fieldLink RX9 9 "PowerRails$Ways" "course" "LPowerRails$Course;") (tbC _ wd162)) (fun _ h9 => h9) rfl dX9_nextWay_22 ?_
          refine va_get (D := D) (ci := 0) (v := .ref fta) (C := RX0) (T := TX0) (N := 9) hx hb hts (fun w h => tbC w (tbfX0 w h)) hown hK hP 1 rfl rfl 1 (by decide) (hts (.fieldLink RX9 84 "PowerRails$Course" "takes" "[I") (tbC _ wd141)) (fun _ h9 => h9) rfl dX9_nextWay_25 ?_
          refine lv_iload_n hx hb dX9_nextWay_28 rfl (lv_at hl 0 rfl) ?_
          refine va_iald hx hb hK hP 2 0 rfl rfl (vp_in_iff.mpr ⟨by omega, by omega⟩) dX9_nextWay_29 ?_
          refine lv_topi (fun v52 ev52 => ?_)
          have rv52 : 0 ≤ v52.toInt ∧ v52.toInt ≤ 511 := xrd ev52 hf46 (xinK (vp_in_iff.mpr ⟨by omega, by omega⟩))
          refine lv_aload_n hx hb dX9_nextWay_30 rfl (lv_at hl 2 rfl) ?_
          refine lv_iload_n hx hb dX9_nextWay_31 rfl (lv_at hl 0 rfl) ?_
          refine lv_iconst (v := 1) hx hb dX9_nextWay_32 (by decide) ?_
          obtain ⟨hPc, hDc, hFc, hC9⟩ := xpk (wc := W_number cI cJ cZ cG cH pl x45 (1 : Int32) pna pta rails limit retry behind pn) hP hD hS hA [3, 4] (by decide +kernel) rfl
          refine va_calli (va_runV (As := [.int x45, .int 1]) (rest := [.int v52]) ⟨hx, hb, hml, hown, hts⟩ (c_number l D cI cJ cZ cG cH H.size pl x45 (1 : Int32) pna pta rails limit retry behind pn (xrng rfl (by omega) (by omega)) ⟨by decide, by decide⟩ (xrng rfl (by omega) (by omega)) (xwk_rng h_pn (by decide) (by decide))) (cwV 2 hts (xGV tbC wd567 wd368 wd369 wd59 wd996) rfl rfl rfl (by decide +kernel) ⟨Nat.le_of_ble_eq_true rfl, Nat.le_of_ble_eq_true rfl⟩) ⟨xPc_blind, va_recv hK hPc (ci := 2) (q0 := 0) rfl rfl, xPc_pre hPc hK hDc⟩ rfl rfl hl.1 rfl (lv_room (Nat.le_of_ble_eq_true rfl)) dX9_nextWay_33 ⟨Nat.le_of_ble_eq_true rfl, Nat.le_of_ble_eq_true rfl⟩) hS (fun q _ h => hFc q h) hFc (fun r53 u t H1 locs ht hvm hw53 hB hz1 hk1 hS => ?_)
          obtain ⟨hru9, hw53⟩ := hw53
          subst hru9
          obtain ⟨hf53_0, hP1, hK1, hD1⟩ := hB
          rw [ht] at hP1
          obtain ⟨hP, hD⟩ : xPD D A [oX9 wy co wba wka pk gpk lpk, oX0 co fwa fta fra fga cxa cup clast cpeak cptick, oAI fta cI 8 f46, oX3 pl pna pta rails limit retry behind, oAI pna cI 64 pn] H1 := xjn 3 hP hD [3, 4] [0, 1, 2] hC9 rfl (by decide +kernel) (by decide +kernel) hk1 hFc hP1 hD1
          generalize H1 = H at hP hS ⊢
          have hf53_0 : M_number pn x45 (1 : Int32) = (r53) := hf53_0
          have hw53 : 0 ≤ r53.toInt ∧ r53.toInt ≤ 511 := hw53
          refine lv_icmp_ge (tgt := 54) hx hb dX9_nextWay_36 (by decide) (fun c_54 => ?_) (fun c_54 => ?_)
          · skip
            have i_54 : r53.toInt ≤ v52.toInt := (ile rfl rfl).mp c_54
            refine lv_aload_n hx hb dX9_nextWay_54 rfl (lv_at hl 1 rfl) ?_
            refine va_get (D := D) (ci := 8) (v := .ref co) (C := RX9) (T := TX9) (N := 6) hx hb hts (fun w h => tbC w (tbfX9 w h)) hown hK hP 0 rfl rfl 0 (by decide) (hts (.fieldLink RX9 9 "PowerRails$Ways" "course" "LPowerRails$Course;") (tbC _ wd162)) (fun _ h9 => h9) rfl dX9_nextWay_55 ?_
            refine va_get (D := D) (ci := 0) (v := .ref fta) (C := RX0) (T := TX0) (N := 9) hx hb hts (fun w h => tbC w (tbfX0 w h)) hown hK hP 1 rfl rfl 1 (by decide) (hts (.fieldLink RX9 84 "PowerRails$Course" "takes" "[I") (tbC _ wd141)) (fun _ h9 => h9) rfl dX9_nextWay_58 ?_
            refine lv_iload_n hx hb dX9_nextWay_61 rfl (lv_at hl 0 rfl) ?_
            refine lv_aload_n hx hb dX9_nextWay_62 rfl (lv_at hl 2 rfl) ?_
            refine lv_iload_n hx hb dX9_nextWay_63 rfl (lv_at hl 0 rfl) ?_
            refine lv_iconst (v := 0) hx hb dX9_nextWay_64 (by decide) ?_
            obtain ⟨hPc, hDc, hFc, hC9⟩ := xpk (wc := W_number cI cJ cZ cG cH pl x45 (0 : Int32) pna pta rails limit retry behind pn) hP hD hS hA [3, 4] (by decide +kernel) rfl
            refine va_calli (va_runV (As := [.int x45, .int 0]) (rest := [.int x45, .ref fta]) ⟨hx, hb, hml, hown, hts⟩ (c_number l D cI cJ cZ cG cH H.size pl x45 (0 : Int32) pna pta rails limit retry behind pn (xrng rfl (by omega) (by omega)) ⟨by decide, by decide⟩ (xrng rfl (by omega) (by omega)) (xwk_rng h_pn (by decide) (by decide))) (cwV 2 hts (xGV tbC wd567 wd368 wd369 wd59 wd996) rfl rfl rfl (by decide +kernel) ⟨Nat.le_of_ble_eq_true rfl, Nat.le_of_ble_eq_true rfl⟩) ⟨xPc_blind, va_recv hK hPc (ci := 2) (q0 := 0) rfl rfl, xPc_pre hPc hK hDc⟩ rfl rfl hl.1 rfl (lv_room (Nat.le_of_ble_eq_true rfl)) dX9_nextWay_65 ⟨Nat.le_of_ble_eq_true rfl, Nat.le_of_ble_eq_true rfl⟩) hS (fun q _ h => hFc q h) hFc (fun r55 u t H1 locs ht hvm hw55 hB hz1 hk1 hS => ?_)
            obtain ⟨hru9, hw55⟩ := hw55
            subst hru9
            obtain ⟨hf55_0, hP1, hK1, hD1⟩ := hB
            rw [ht] at hP1
            obtain ⟨hP, hD⟩ : xPD D A [oX9 wy co wba wka pk gpk lpk, oX0 co fwa fta fra fga cxa cup clast cpeak cptick, oAI fta cI 8 f46, oX3 pl pna pta rails limit retry behind, oAI pna cI 64 pn] H1 := xjn 3 hP hD [3, 4] [0, 1, 2] hC9 rfl (by decide +kernel) (by decide +kernel) hk1 hFc hP1 hD1
            generalize H1 = H at hP hS ⊢
            have hf55_0 : M_number pn x45 (0 : Int32) = (r55) := hf55_0
            have hw55 : 0 ≤ r55.toInt ∧ r55.toInt ≤ 511 := hw55
            refine va_iast hx hb hK hP hD hS 2 0 rfl rfl (vp_in_iff.mpr ⟨by omega, by omega⟩) dX9_nextWay_68 (fun H locs hP hD hS => ?_)
            obtain ⟨f56, ef56⟩ : ∃ fz9 : Nat → Int32, fz9 = upd f46 (x45 : Int32).toNatClampNeg r55 := ⟨_, rfl⟩
            have hP : va_P D vwCl [oX9 wy co wba wka pk gpk lpk, oX0 co fwa fta fra fga cxa cup clast cpeak cptick, oAI fta cI 8 f56, oX3 pl pna pta rails limit retry behind, oAI pna cI 64 pn] H := by rw [ef56]; exact hP
            have hD : va_D A [oX9 wy co wba wka pk gpk lpk, oX0 co fwa fta fra fga cxa cup clast cpeak cptick, oAI fta cI 8 f56, oX3 pl pna pta rails limit retry behind, oAI pna cI 64 pn] := by rw [ef56]; exact hD
            have rf56 : ∀ j, j < 8 → 0 ≤ (f56 j).toInt ∧ (f56 j).toInt ≤ 511 := by rw [ef56]; exact xup_rng (xwk_rng hf46 (by decide) (by decide)) (xrng rfl (by omega) (by omega))
            obtain ⟨x57, ex57⟩ : ∃ y : Int32, y = x45 + 1 := ⟨_, rfl⟩
            have tx57 : x57.toInt = (x45.toInt + 1) := (congrArg Int32.toInt ex57).trans (xadd rfl (by decide) (by omega) (by omega))
            refine lv_iinc (v := x57) (lv' := [(3, .int x57), (0, .ref wy), (1, .ref pl), (2, .int s0)]) hx hb dX9_nextWay_69 hl (k := 0) rfl (by rw [ex57]; rfl) (by decide) rfl (fun ls hl => ?_)
            refine lv_goto (tgt := 2) hx hb dX9_nextWay_72 (by decide) ?_
            exact ihhl47 x57 f56 (by omega) (xrng tx57 (by omega) (by omega)) (xwk_rng rf56 (by decide) (by decide)) _ _ hP hD hS ls (lv_sub hl [0, 1, 2, 3] rfl)
          · skip
            have i_54 : ¬ (r53.toInt ≤ v52.toInt) := fun h9 => c_54 ((ile rfl rfl).mpr h9)
            refine lv_aload_n hx hb dX9_nextWay_39 rfl (lv_at hl 1 rfl) ?_
            refine va_get (D := D) (ci := 8) (v := .ref co) (C := RX9) (T := TX9) (N := 6) hx hb hts (fun w h => tbC w (tbfX9 w h)) hown hK hP 0 rfl rfl 0 (by decide) (hts (.fieldLink RX9 9 "PowerRails$Ways" "course" "LPowerRails$Course;") (tbC _ wd162)) (fun _ h9 => h9) rfl dX9_nextWay_40 ?_
            refine va_get (D := D) (ci := 0) (v := .ref fta) (C := RX0) (T := TX0) (N := 9) hx hb hts (fun w h => tbC w (tbfX0 w h)) hown hK hP 1 rfl rfl 1 (by decide) (hts (.fieldLink RX9 84 "PowerRails$Course" "takes" "[I") (tbC _ wd141)) (fun _ h9 => h9) rfl dX9_nextWay_43 ?_
            refine lv_iload_n hx hb dX9_nextWay_46 rfl (lv_at hl 0 rfl) ?_
            refine lv_dup2_11 hx hb dX9_nextWay_47 rfl rfl ?_
            refine va_iald hx hb hK hP 2 0 rfl rfl (vp_in_iff.mpr ⟨by omega, by omega⟩) dX9_nextWay_48 ?_
            refine lv_topi (fun v58 ev58 => ?_)
            have rv58 : 0 ≤ v58.toInt ∧ v58.toInt ≤ 511 := xrd ev58 hf46 (xinK (vp_in_iff.mpr ⟨by omega, by omega⟩))
            have qv58 : v58.toInt = v52.toInt := by rw [ev58, ev52]
            refine lv_iconst (v := 1) hx hb dX9_nextWay_49 (by decide) ?_
            refine lv_iadd hx hb dX9_nextWay_50 ?_
            refine lv_topi (fun v59 ev59 => ?_)
            have tv59 : v59.toInt = (v52.toInt + 1) := (congrArg Int32.toInt ev59).trans (xadd qv58 (by decide) (by omega) (by omega))
            refine va_iast hx hb hK hP hD hS 2 0 rfl rfl (vp_in_iff.mpr ⟨by omega, by omega⟩) dX9_nextWay_51 (fun H locs hP hD hS => ?_)
            obtain ⟨f60, ef60⟩ : ∃ fz9 : Nat → Int32, fz9 = upd f46 (x45 : Int32).toNatClampNeg v59 := ⟨_, rfl⟩
            have hP : va_P D vwCl [oX9 wy co wba wka pk gpk lpk, oX0 co fwa fta fra fga cxa cup clast cpeak cptick, oAI fta cI 8 f60, oX3 pl pna pta rails limit retry behind, oAI pna cI 64 pn] H := by rw [ef60]; exact hP
            have hD : va_D A [oX9 wy co wba wka pk gpk lpk, oX0 co fwa fta fra fga cxa cup clast cpeak cptick, oAI fta cI 8 f60, oX3 pl pna pta rails limit retry behind, oAI pna cI 64 pn] := by rw [ef60]; exact hD
            have rf60 : ∀ j, j < 8 → 0 ≤ (f60 j).toInt ∧ (f60 j).toInt ≤ 511 := by rw [ef60]; exact xup_rng (xwk_rng hf46 (by decide) (by decide)) (xrng tv59 (by omega) (by omega))
            refine lv_iconst (v := 1) hx hb dX9_nextWay_52 (by decide) ?_
            refine W.widen (k := 0) (n := 0) (by decide) (by decide) ?_
            exact W.zret (v := 1) hx hb hr (by decide) (fun t ht hW => ⟨⟨1, (), rfl, ⟨by decide, by decide⟩, ⟨f60, (xwk_rng rf60 (by decide) (by decide)), xB_of9 ht hW hP hK hD [0, 1, 2, 3, 4] (by decide +kernel) rfl⟩⟩, hS.F ht⟩) hS.2.2 dX9_nextWay_53
        · skip
          have i_51 : v50.toInt = 0 := (ieq rfl (by decide)).mp c_51
          refine lv_goto (tgt := 69) hx hb dX9_nextWay_18 (by decide) ?_
          obtain ⟨x61, ex61⟩ : ∃ y : Int32, y = x45 + 1 := ⟨_, rfl⟩
          have tx61 : x61.toInt = (x45.toInt + 1) := (congrArg Int32.toInt ex61).trans (xadd rfl (by decide) (by omega) (by omega))
          refine lv_iinc (v := x61) (lv' := [(3, .int x61), (0, .ref wy), (1, .ref pl), (2, .int s0)]) hx hb dX9_nextWay_69 hl (k := 0) rfl (by rw [ex61]; rfl) (by decide) rfl (fun ls hl => ?_)
          refine lv_goto (tgt := 2) hx hb dX9_nextWay_72 (by decide) ?_
          exact ihhl47 x61 f46 (by omega) (xrng tx61 (by omega) (by omega)) (xwk_rng hf46 (by decide) (by decide)) _ _ hP hD hS ls (lv_sub hl [0, 1, 2, 3] rfl)
  exact hl47 _ 0 ft (Nat.lt_succ_self _) ⟨by decide, by decide⟩ (xwk_rng h_ft (by decide) (by decide)) _ _ hP hD hS ls (lv_sub hl [0, 1, 2, 3] rfl)
def K_forget_3 (f13 : Nat → Int32) : (Nat → Int32) := (f13)
def K_forget_4 (rec_2 : (Int32) → (Nat → Int32) → ((Nat → Int32))) (x12 : Int32) (f13 : Nat → Int32) : (Nat → Int32) := (rec_2 (x12 + 1) (upd f13 (x12 : Int32).toNatClampNeg (vp_nar .boolean (0 : Int32))))
def K_forget_2 (x12 : Int32) (f13 : Nat → Int32) (rec_2 : (Int32) → (Nat → Int32) → ((Nat → Int32))) : (Nat → Int32) := (if 64 ≤ x12.toInt then (K_forget_3 f13) else (K_forget_4 rec_2 x12 f13))
def K_forget_L2  : Nat → (Int32) → (Nat → Int32) → (Nat → Int32)
  | 0, _, _ => (fun _ => 0)
  | n9 + 1, x12, f13 => (K_forget_2 x12 f13 (K_forget_L2 n9))
def K_forget_1 (wk : Nat → Int32) : (Nat → Int32) := (K_forget_L2 100000 (0 : Int32) wk)
def M_forget (wk : Nat → Int32) : (Nat → Int32) := (K_forget_1 wk)
abbrev W_forget (cI cJ cZ cG cH : ClassId) (wy : Nat) (co : Nat) (wba : Nat) (wka : Nat) (pk : Int32) (gpk : Int32) (lpk : Int32) (wk : Nat → Int32) : va_W := [oX9 wy co wba wka pk gpk lpk, oAI wka cZ 64 wk]
abbrev Q_forget (D : va_G) (cI cJ cZ cG cH : ClassId) (wy : Nat) (co : Nat) (wba : Nat) (wka : Nat) (pk : Int32) (gpk : Int32) (lpk : Int32) (wk : Nat → Int32) (A : Nat → Prop) : Array Value → State → Outcome → State → Prop := va_Qv (fun (_ : Unit) => True) (fun _ t => ∃ (wk9 : Nat → Int32), (∀ j, j < 64 → 0 ≤ (wk9 j).toInt ∧ (wk9 j).toInt ≤ 1) ∧ (M_forget wk = (wk9)) ∧ xB D (tyL cI cJ cZ cG cH) [oX9 wy co wba wka 0 gpk lpk, oAI wka cZ 64 wk9] A t) A
abbrev rm_forget : Room := { frames := 0, cells := 0, slots := 0, locals := 0 }
set_option maxRecDepth 100000 in
set_option maxHeartbeats 40000000 in
theorem c_forget (l : Launch) (D : va_G) (cI cJ cZ cG cH : ClassId) (sz : Nat) (wy : Nat) (co : Nat) (wba : Nat) (wka : Nat) (pk : Int32) (gpk : Int32) (lpk : Int32) (wk : Nat → Int32) (h_pk : 0 ≤ pk.toInt ∧ pk.toInt ≤ 1) (h_wk : ∀ j, j < 64 → 0 ≤ (wk j).toInt ∧ (wk j).toInt ≤ 1) : Met l yX9_forget (wt yX9_forget cX9_forget 2 none) rm_forget (xPc [.ref wy] D (tyL cI cJ cZ cG cH) (W_forget cI cJ cZ cG cH wy co wba wka pk gpk lpk wk) sz) (Q_forget D cI cJ cZ cG cH wy co wba wka pk gpk lpk wk (va_A (W_forget cI cJ cZ cG cH wy co wba wka pk gpk lpk wk) sz)) 0 0 (va_A (W_forget cI cJ cZ cG cH wy co wba wka pk gpk lpk wk) sz) := by
  refine xMet (cc := cX9_forget) (maxL := 2) (ret := none) (Qf := Q_forget D cI cJ cZ cG cH wy co wba wka pk gpk lpk wk) (by decide) rfl (Nat.le_of_ble_eq_true rfl) ?_
  intro p e s m below meth c ls A hx hb hr hml hts hown hlocks hnm hsz hP hK hD hA hS hl
  have hown : s.vm.findClass RX9 = some m.cls := hown
  have hP : va_P D vwCl [oX9 wy co wba wka pk gpk lpk, oAI wka cZ 64 wk] s.heap := hP
  have hD : va_D A [oX9 wy co wba wka pk gpk lpk, oAI wka cZ 64 wk] := hD
  have hl : lv_has ls 2 [(0, .ref wy)] := hl
  have hM : M_forget wk = (K_forget_1 wk) := rfl
  refine lv_aload_n hx hb dX9_forget_0 rfl (lv_at hl 0 rfl) ?_
  refine lv_iconst (v := 0) hx hb dX9_forget_1 (by decide) ?_
  refine va_put (D := D) (ci := 8) (v := .int 0) (ty := .boolean) (C := RX9) (T := TX9) (N := 6) hx hb hts (fun w h => tbC w (tbfX9 w h)) tyX9 tyX9_ok nmX9 hown hK hP hD hS 0 rfl rfl 3 (by decide) (hts (.fieldLink RX9 23 "PowerRails$Ways" "peaksKnown" "Z") (tbC _ wd165)) (fun _ h9 => h9) rfl (by decide +kernel) (by decide) rfl (Nat.le_of_ble_eq_true rfl) dX9_forget_2 (fun H locs hP hD hS => ?_)
  obtain ⟨hP, hD⟩ : xPD D A [oX9 wy co wba wka 0 gpk lpk, oAI wka cZ 64 wk] H := ⟨hP, hD⟩
  refine lv_iconst (v := 0) hx hb dX9_forget_5 (by decide) ?_
  refine lv_istore_n (lv' := [(1, .int 0), (0, .ref wy)]) hx hb dX9_forget_6 rfl hl (by decide) rfl (fun ls hl => ?_)
  have hl14 : ∀ (nhl14 : Nat) (x12 : Int32) (f13 : Nat → Int32), ((64 - x12.toInt).toNat < nhl14) → (hx12 : 0 ≤ x12.toInt ∧ x12.toInt ≤ 64) → (hf13 : ∀ j, j < 64 → 0 ≤ (f13 j).toInt ∧ (f13 j).toInt ≤ 1) → (hM : M_forget wk = (K_forget_L2 nhl14 x12 f13)) → ∀ (H : Heap) (locs : List Loc), va_P D vwCl [oX9 wy co wba wka 0 gpk lpk, oAI wka cZ 64 f13] H → va_D A [oX9 wy co wba wka 0 gpk lpk, oAI wka cZ 64 f13] → va_S A s.heap H locs → ∀ (ls : Array Slot), lv_has ls 2 [(1, .int x12), (0, .ref wy)] → W p l e rm_forget s m [Value.ref wy].toArray below meth c H locs 0 0 (MQ below ((Q_forget D cI cJ cZ cG cH wy co wba wka pk gpk lpk wk) A) [Value.ref wy].toArray s 0 0 A) (F0 m 7 ls []) := by
    intro nhl14
    induction nhl14 with
    | zero =>
      intro x12 f13 hmhl14
      exact absurd hmhl14 (Nat.not_lt_zero _)
    | succ nhl14 ihhl14 =>
      intro x12 f13 hmhl14 hx12 hf13 hM H locs hP hD hS ls hl
      have hM : M_forget wk = (K_forget_2 x12 f13 (K_forget_L2 nhl14)) := hM
      refine lv_iload_n hx hb dX9_forget_7 rfl (lv_at hl 0 rfl) ?_
      refine lv_bipush (v := 64) hx hb dX9_forget_8 (by decide) ?_
      refine lv_icmp_ge (tgt := 26) hx hb dX9_forget_10 (by decide) (fun c_15 => ?_) (fun c_15 => ?_)
      · skip
        have i_15 : 64 ≤ x12.toInt := (ile (by decide) rfl).mp c_15
        have hM : M_forget wk = (K_forget_3 f13) := (show M_forget wk = (if 64 ≤ x12.toInt then (K_forget_3 f13) else (K_forget_4 (K_forget_L2 nhl14) x12 f13)) from hM).trans (if_pos i_15)
        refine W.widen (k := 0) (n := 0) (by decide) (by decide) ?_
        exact W.vret hx hb hr (fun t ht hW => ⟨⟨(), rfl, trivial, ⟨f13, (xwk_rng hf13 (by decide) (by decide)), hM, xB_of9 ht hW hP hK hD [0, 1] (by decide +kernel) rfl⟩⟩, hS.F ht⟩) hS.2.2 dX9_forget_26
      · skip
        have i_15 : ¬ (64 ≤ x12.toInt) := fun h9 => c_15 ((ile (by decide) rfl).mpr h9)
        have hM : M_forget wk = (K_forget_4 (K_forget_L2 nhl14) x12 f13) := (show M_forget wk = (if 64 ≤ x12.toInt then (K_forget_3 f13) else (K_forget_4 (K_forget_L2 nhl14) x12 f13)) from hM).trans (if_neg i_15)
        refine lv_aload_n hx hb dX9_forget_13 rfl (lv_at hl 1 rfl) ?_
        refine va_get (D := D) (ci := 8) (v := .ref wka) (C := RX9) (T := TX9) (N := 6) hx hb hts (fun w h => tbC w (tbfX9 w h)) hown hK hP 0 rfl rfl 2 (by decide) (hts (.fieldLink RX9 19 "PowerRails$Ways" "behindKnown" "[Z") (tbC _ wd164)) (fun _ h9 => h9) rfl dX9_forget_14 ?_
        refine lv_iload_n hx hb dX9_forget_17 rfl (lv_at hl 0 rfl) ?_
        refine lv_iconst (v := 0) hx hb dX9_forget_18 (by decide) ?_
        refine va_zast hx hb hK hP hD hS 1 2 rfl rfl (vp_in_iff.mpr ⟨by omega, by omega⟩) dX9_forget_19 (fun H locs hP hD hS => ?_)
        obtain ⟨f16, ef16⟩ : ∃ fz9 : Nat → Int32, fz9 = upd f13 (x12 : Int32).toNatClampNeg (vp_nar .boolean 0) := ⟨_, rfl⟩
        have hP : va_P D vwCl [oX9 wy co wba wka 0 gpk lpk, oAI wka cZ 64 f16] H := by rw [ef16]; exact hP
        have hD : va_D A [oX9 wy co wba wka 0 gpk lpk, oAI wka cZ 64 f16] := by rw [ef16]; exact hD
        have rf16 : ∀ j, j < 64 → 0 ≤ (f16 j).toInt ∧ (f16 j).toInt ≤ 1 := by rw [ef16]; exact xup_rng (xwk_rng hf13 (by decide) (by decide)) (xnarb _)
        obtain ⟨x17, ex17⟩ : ∃ y : Int32, y = x12 + 1 := ⟨_, rfl⟩
        have tx17 : x17.toInt = (x12.toInt + 1) := (congrArg Int32.toInt ex17).trans (xadd rfl (by decide) (by omega) (by omega))
        refine lv_iinc (v := x17) (lv' := [(1, .int x17), (0, .ref wy)]) hx hb dX9_forget_20 hl (k := 0) rfl (by rw [ex17]; rfl) (by decide) rfl (fun ls hl => ?_)
        refine lv_goto (tgt := 7) hx hb dX9_forget_23 (by decide) ?_
        exact ihhl14 x17 f16 (by omega) (xrng tx17 (by omega) (by omega)) (xwk_rng rf16 (by decide) (by decide)) (by rw [ex17, ef16]; exact hM) _ _ hP hD hS ls (lv_sub hl [0, 1] rfl)
  exact hl14 100000 0 wk (by have z9_0 : (0 : Int32).toInt = 0 := (by decide); omega) ⟨by decide, by decide⟩ (xwk_rng h_wk (by decide) (by decide)) hM _ _ hP hD hS ls (lv_sub hl [0, 1] rfl)
abbrev W_mostBehind (cI cJ cZ cG cH : ClassId) (wy : Nat) (pl : Nat) (s0 : Int32) (a0 : Int32) (b0 : Int32) (co : Nat) (wba : Nat) (wka : Nat) (pk : Int32) (gpk : Int32) (lpk : Int32) (wb : Nat → Int32) (wk : Nat → Int32) (fwa : Nat) (fta : Nat) (fra : Nat) (fga : Nat) (cxa : Nat) (cup : Int32) (clast : Int32) (cpeak : Int32) (cptick : Int32) (fw : Nat → Int32) (ft : Nat → Int32) (fr : Nat → Int32) (fg : Nat → Int32) (pna : Nat) (pta : Nat) (rails : Int32) (limit : Int32) (retry : Int32) (behind : Int32) (pn : Nat → Int32) (pt : Nat → Int64) : va_W := [oX9 wy co wba wka pk gpk lpk, oAI wba cI 64 wb, oAI wka cZ 64 wk, oX0 co fwa fta fra fga cxa cup clast cpeak cptick, oAI fwa cI 8 fw, oAI fta cI 8 ft, oAI fra cI 8 fr, oAI fga cI 8 fg, oX3 pl pna pta rails limit retry behind, oAI pna cI 64 pn, oAJ pta cJ 64 pt]
abbrev Q_mostBehind (D : va_G) (cI cJ cZ cG cH : ClassId) (wy : Nat) (pl : Nat) (s0 : Int32) (a0 : Int32) (b0 : Int32) (co : Nat) (wba : Nat) (wka : Nat) (pk : Int32) (gpk : Int32) (lpk : Int32) (wb : Nat → Int32) (wk : Nat → Int32) (fwa : Nat) (fta : Nat) (fra : Nat) (fga : Nat) (cxa : Nat) (cup : Int32) (clast : Int32) (cpeak : Int32) (cptick : Int32) (fw : Nat → Int32) (ft : Nat → Int32) (fr : Nat → Int32) (fg : Nat → Int32) (pna : Nat) (pta : Nat) (rails : Int32) (limit : Int32) (retry : Int32) (behind : Int32) (pn : Nat → Int32) (pt : Nat → Int64) (A : Nat → Prop) : Array Value → State → Outcome → State → Prop := va_Qi (fun (r : Int32) (_ : Unit) => True) (fun _ t => ∃ (wb9 : Nat → Int32) (wk9 : Nat → Int32) (cup9 : Int32) (clast9 : Int32) (fw9 : Nat → Int32) (ft9 : Nat → Int32) (fr9 : Nat → Int32) (fg9 : Nat → Int32), (∀ j, j < 64 → 0 ≤ (wk9 j).toInt ∧ (wk9 j).toInt ≤ 1) ∧ (0 ≤ clast9.toInt ∧ clast9.toInt ≤ 144) ∧ (∀ j, j < 8 → 0 ≤ (fw9 j).toInt ∧ (fw9 j).toInt ≤ 511) ∧ (∀ j, j < 8 → 0 ≤ (ft9 j).toInt ∧ (ft9 j).toInt ≤ 511) ∧ (∀ j, j < 8 → 0 ≤ (fr9 j).toInt ∧ (fr9 j).toInt ≤ 655) ∧ (∀ j, j < 8 → 0 ≤ (fg9 j).toInt ∧ (fg9 j).toInt ≤ 1166) ∧ (∀ j, j < 8 → (fr9 j).toInt ≤ (fg9 j).toInt) ∧ xB D (tyL cI cJ cZ cG cH) [oX9 wy co wba wka pk gpk lpk, oAI wba cI 64 wb9, oAI wka cZ 64 wk9, oX0 co fwa fta fra fga cxa cup9 clast9 cpeak cptick, oAI fwa cI 8 fw9, oAI fta cI 8 ft9, oAI fra cI 8 fr9, oAI fga cI 8 fg9, oX3 pl pna pta rails limit retry behind, oAI pna cI 64 pn, oAJ pta cJ 64 pt] A t) A
abbrev rm_mostBehind : Room := { frames := 3, cells := 0, slots := 0, locals := 72 }
set_option maxRecDepth 100000 in
set_option maxHeartbeats 40000000 in
theorem c_mostBehind (l : Launch) (D : va_G) (cI cJ cZ cG cH : ClassId) (sz : Nat) (wy : Nat) (pl : Nat) (s0 : Int32) (a0 : Int32) (b0 : Int32) (co : Nat) (wba : Nat) (wka : Nat) (pk : Int32) (gpk : Int32) (lpk : Int32) (wb : Nat → Int32) (wk : Nat → Int32) (fwa : Nat) (fta : Nat) (fra : Nat) (fga : Nat) (cxa : Nat) (cup : Int32) (clast : Int32) (cpeak : Int32) (cptick : Int32) (fw : Nat → Int32) (ft : Nat → Int32) (fr : Nat → Int32) (fg : Nat → Int32) (pna : Nat) (pta : Nat) (rails : Int32) (limit : Int32) (retry : Int32) (behind : Int32) (pn : Nat → Int32) (pt : Nat → Int64) (h_a0 : 0 ≤ a0.toInt ∧ a0.toInt ≤ 7) (h_b0 : 0 ≤ b0.toInt ∧ b0.toInt ≤ 7) (h_pk : 0 ≤ pk.toInt ∧ pk.toInt ≤ 1) (h_wk : ∀ j, j < 64 → 0 ≤ (wk j).toInt ∧ (wk j).toInt ≤ 1) (h_clast : 0 ≤ clast.toInt ∧ clast.toInt ≤ 144) (h_fw : ∀ j, j < 8 → 0 ≤ (fw j).toInt ∧ (fw j).toInt ≤ 511) (h_ft : ∀ j, j < 8 → 0 ≤ (ft j).toInt ∧ (ft j).toInt ≤ 511) (h_fr : ∀ j, j < 8 → 0 ≤ (fr j).toInt ∧ (fr j).toInt ≤ 655) (h_fg : ∀ j, j < 8 → 0 ≤ (fg j).toInt ∧ (fg j).toInt ≤ 1166) (h_rails : 0 ≤ rails.toInt ∧ rails.toInt ≤ 8) (h_pn : ∀ j, j < 64 → 0 ≤ (pn j).toInt ∧ (pn j).toInt ≤ 511) (h_le : ∀ j, j < 8 → (fr j).toInt ≤ (fg j).toInt) : Met l yX9_mostBehind (wt yX9_mostBehind cX9_mostBehind 10 (some .int)) rm_mostBehind (xPc [.ref wy, .ref pl, .int s0, .int a0, .int b0] D (tyL cI cJ cZ cG cH) (W_mostBehind cI cJ cZ cG cH wy pl s0 a0 b0 co wba wka pk gpk lpk wb wk fwa fta fra fga cxa cup clast cpeak cptick fw ft fr fg pna pta rails limit retry behind pn pt) sz) (Q_mostBehind D cI cJ cZ cG cH wy pl s0 a0 b0 co wba wka pk gpk lpk wb wk fwa fta fra fga cxa cup clast cpeak cptick fw ft fr fg pna pta rails limit retry behind pn pt (va_A (W_mostBehind cI cJ cZ cG cH wy pl s0 a0 b0 co wba wka pk gpk lpk wb wk fwa fta fra fga cxa cup clast cpeak cptick fw ft fr fg pna pta rails limit retry behind pn pt) sz)) 0 0 (va_A (W_mostBehind cI cJ cZ cG cH wy pl s0 a0 b0 co wba wka pk gpk lpk wb wk fwa fta fra fga cxa cup clast cpeak cptick fw ft fr fg pna pta rails limit retry behind pn pt) sz) := by
  refine xMet (cc := cX9_mostBehind) (maxL := 10) (ret := (some .int)) (Qf := Q_mostBehind D cI cJ cZ cG cH wy pl s0 a0 b0 co wba wka pk gpk lpk wb wk fwa fta fra fga cxa cup clast cpeak cptick fw ft fr fg pna pta rails limit retry behind pn pt) (by decide) rfl (Nat.le_of_ble_eq_true rfl) ?_
  intro p e s m below meth c ls A hx hb hr hml hts hown hlocks hnm hsz hP hK hD hA hS hl
  have hown : s.vm.findClass RX9 = some m.cls := hown
  have hP : va_P D vwCl [oX9 wy co wba wka pk gpk lpk, oAI wba cI 64 wb, oAI wka cZ 64 wk, oX0 co fwa fta fra fga cxa cup clast cpeak cptick, oAI fwa cI 8 fw, oAI fta cI 8 ft, oAI fra cI 8 fr, oAI fga cI 8 fg, oX3 pl pna pta rails limit retry behind, oAI pna cI 64 pn, oAJ pta cJ 64 pt] s.heap := hP
  have hD : va_D A [oX9 wy co wba wka pk gpk lpk, oAI wba cI 64 wb, oAI wka cZ 64 wk, oX0 co fwa fta fra fga cxa cup clast cpeak cptick, oAI fwa cI 8 fw, oAI fta cI 8 ft, oAI fra cI 8 fr, oAI fga cI 8 fg, oX3 pl pna pta rails limit retry behind, oAI pna cI 64 pn, oAJ pta cJ 64 pt] := hD
  have hl : lv_has ls 10 [(0, .ref wy), (1, .ref pl), (2, .int s0), (3, .int a0), (4, .int b0)] := hl
  refine lv_iload_n hx hb dX9_mostBehind_0 rfl (lv_at hl 3 rfl) ?_
  refine lv_bipush (v := 8) hx hb dX9_mostBehind_1 (by decide) ?_
  refine lv_imul hx hb dX9_mostBehind_3 ?_
  refine lv_topi (fun v1 ev1 => ?_)
  have tv1 : v1.toInt = (a0.toInt * 8) := (congrArg Int32.toInt ev1).trans (xmul rfl (by decide) (by omega) (by omega))
  refine lv_iload hx hb dX9_mostBehind_4 (lv_at hl 4 rfl) ?_
  refine lv_iadd hx hb dX9_mostBehind_6 ?_
  refine lv_topi (fun v2 ev2 => ?_)
  have tv2 : v2.toInt = ((a0.toInt * 8) + b0.toInt) := (congrArg Int32.toInt ev2).trans (xadd tv1 rfl (by omega) (by omega))
  refine lv_istore (lv' := [(5, .int v2), (0, .ref wy), (1, .ref pl), (2, .int s0), (3, .int a0), (4, .int b0)]) hx hb dX9_mostBehind_7 hl (by decide) rfl (fun ls hl => ?_)
  refine lv_aload_n hx hb dX9_mostBehind_9 rfl (lv_at hl 1 rfl) ?_
  refine va_get (D := D) (ci := 8) (v := .ref wka) (C := RX9) (T := TX9) (N := 6) hx hb hts (fun w h => tbC w (tbfX9 w h)) hown hK hP 0 rfl rfl 2 (by decide) (hts (.fieldLink RX9 19 "PowerRails$Ways" "behindKnown" "[Z") (tbC _ wd164)) (fun _ h9 => h9) rfl dX9_mostBehind_10 ?_
  refine lv_iload hx hb dX9_mostBehind_13 (lv_at hl 0 rfl) ?_
  refine va_zald hx hb hK hP 2 2 rfl rfl (vp_in_iff.mpr (by rw [tv2]; omega)) dX9_mostBehind_15 ?_
  refine lv_topi (fun v3 ev3 => ?_)
  have rv3 : 0 ≤ v3.toInt ∧ v3.toInt ≤ 1 := xrd ev3 h_wk (xinK (vp_in_iff.mpr (by rw [tv2]; omega)))
  refine lv_if_eq (tgt := 27) hx hb dX9_mostBehind_16 (by decide) (fun c_4 => ?_) (fun c_4 => ?_)
  · skip
    have i_4 : v3.toInt = 0 := (ieq rfl (by decide)).mp c_4
    refine lv_aload_n hx hb dX9_mostBehind_27 rfl (lv_at hl 2 rfl) ?_
    refine lv_iconst (v := 1) hx hb dX9_mostBehind_28 (by decide) ?_
    refine lv_iload_n hx hb dX9_mostBehind_29 rfl (lv_at hl 4 rfl) ?_
    refine lv_ishl hx hb dX9_mostBehind_30 ?_
    refine lv_topi (fun v5 ev5 => ?_)
    have rv5 : 1 ≤ v5.toInt ∧ v5.toInt ≤ 128 := xshl1 7 ev5 (show (a0 : Int32).toInt = a0.toInt from rfl) (by omega) (by omega) (by decide)
    refine lv_iconst (v := 1) hx hb dX9_mostBehind_31 (by decide) ?_
    refine lv_iload hx hb dX9_mostBehind_32 (lv_at hl 5 rfl) ?_
    refine lv_ishl hx hb dX9_mostBehind_34 ?_
    refine lv_topi (fun v6 ev6 => ?_)
    have rv6 : 1 ≤ v6.toInt ∧ v6.toInt ≤ 128 := xshl1 7 ev6 (show (b0 : Int32).toInt = b0.toInt from rfl) (by omega) (by omega) (by decide)
    refine lv_ior hx hb dX9_mostBehind_35 ?_
    refine lv_topi (fun v7 ev7 => ?_)
    have rv7 : 0 ≤ v7.toInt ∧ v7.toInt ≤ 255 := xorL 8 ev7 (show (v5 : Int32).toInt = v5.toInt from rfl) (show (v6 : Int32).toInt = v6.toInt from rfl) (by decide) (by decide) (by omega) (by omega) (by omega) (by omega)
    obtain ⟨hPc, hDc, hFc, hC9⟩ := xpk (wc := W_sourcesOf cI cJ cZ cG cH pl v7 pna pta rails limit retry behind pn) hP hD hS hA [8, 9] (by decide +kernel) rfl
    refine va_calli (va_runV (As := [.int v7]) (rest := []) ⟨hx, hb, hml, hown, hts⟩ (c_sourcesOf l D cI cJ cZ cG cH s.heap.size pl v7 pna pta rails limit retry behind pn (xrng rfl (by omega) (by omega)) (xwk_rng h_pn (by decide) (by decide))) (cwV 1 hts (xGV tbC wd552 wd553 wd554 wd59 wd1055) rfl rfl rfl (by decide +kernel) ⟨Nat.le_of_ble_eq_true rfl, Nat.le_of_ble_eq_true rfl⟩) ⟨xPc_blind, va_recv hK hPc (ci := 2) (q0 := 0) rfl rfl, xPc_pre hPc hK hDc⟩ rfl rfl hl.1 rfl (lv_room (Nat.le_of_ble_eq_true rfl)) dX9_mostBehind_36 ⟨Nat.le_of_ble_eq_true rfl, Nat.le_of_ble_eq_true rfl⟩) hS (fun q _ h => hFc q h) hFc (fun r8 u t H1 locs ht hvm hw8 hB hz1 hk1 hS => ?_)
    obtain ⟨hP1, hK1, hD1⟩ := hB
    rw [ht] at hP1
    obtain ⟨hP, hD⟩ : xPD D A [oX9 wy co wba wka pk gpk lpk, oAI wba cI 64 wb, oAI wka cZ 64 wk, oX0 co fwa fta fra fga cxa cup clast cpeak cptick, oAI fwa cI 8 fw, oAI fta cI 8 ft, oAI fra cI 8 fr, oAI fga cI 8 fg, oAJ pta cJ 64 pt, oX3 pl pna pta rails limit retry behind, oAI pna cI 64 pn] H1 := xjn 9 hP hD [8, 9] [0, 1, 2, 3, 4, 5, 6, 7, 10] hC9 rfl (by decide +kernel) (by decide +kernel) hk1 hFc hP1 hD1
    generalize H1 = H at hP hS ⊢
    refine lv_aload_n hx hb dX9_mostBehind_39 rfl (lv_at hl 2 rfl) ?_
    refine lv_iload_n hx hb dX9_mostBehind_40 rfl (lv_at hl 3 rfl) ?_
    obtain ⟨hPc, hDc, hFc, hC9⟩ := xpk (wc := W_upAmong cI cJ cZ cG cH pl s0 pna pta rails limit retry behind pt) hP hD hS hA [9, 8] (by decide +kernel) rfl
    refine va_calli (va_runV (As := [.int s0]) (rest := [.int r8]) ⟨hx, hb, hml, hown, hts⟩ (c_upAmong l D cI cJ cZ cG cH H.size pl s0 pna pta rails limit retry behind pt (xrng rfl (by omega) (by omega))) (cwV 1 hts (xGV tbC wd556 wd508 wd509 wd59 wd1041) rfl rfl rfl (by decide +kernel) ⟨Nat.le_of_ble_eq_true rfl, Nat.le_of_ble_eq_true rfl⟩) ⟨xPc_blind, va_recv hK hPc (ci := 2) (q0 := 0) rfl rfl, xPc_pre hPc hK hDc⟩ rfl rfl hl.1 rfl (lv_room (Nat.le_of_ble_eq_true rfl)) dX9_mostBehind_41 ⟨Nat.le_of_ble_eq_true rfl, Nat.le_of_ble_eq_true rfl⟩) hS (fun q _ h => hFc q h) hFc (fun r9 u t H1 locs ht hvm hw9 hB hz1 hk1 hS => ?_)
    obtain ⟨hru9, hw9⟩ := hw9
    subst hru9
    obtain ⟨hf9_0, hP1, hK1, hD1⟩ := hB
    rw [ht] at hP1
    obtain ⟨hP, hD⟩ : xPD D A [oX9 wy co wba wka pk gpk lpk, oAI wba cI 64 wb, oAI wka cZ 64 wk, oX0 co fwa fta fra fga cxa cup clast cpeak cptick, oAI fwa cI 8 fw, oAI fta cI 8 ft, oAI fra cI 8 fr, oAI fga cI 8 fg, oAI pna cI 64 pn, oX3 pl pna pta rails limit retry behind, oAJ pta cJ 64 pt] H1 := xjn 9 hP hD [9, 8] [0, 1, 2, 3, 4, 5, 6, 7, 10] hC9 rfl (by decide +kernel) (by decide +kernel) hk1 hFc hP1 hD1
    generalize H1 = H at hP hS ⊢
    have hf9_0 : M_upAmong rails s0 pt = (r9) := hf9_0
    have hw9 : 0 ≤ r9.toInt ∧ r9.toInt ≤ 255 := hw9
    refine lv_iand hx hb dX9_mostBehind_44 ?_
    refine lv_topi (fun v10 ev10 => ?_)
    have rv10 : 0 ≤ v10.toInt ∧ v10.toInt ≤ r9.toInt := xandL ev10 (show (r9 : Int32).toInt = r9.toInt from rfl) (by omega)
    refine lv_istore (lv' := [(6, .int v10), (5, .int v2), (0, .ref wy), (1, .ref pl), (2, .int s0), (3, .int a0), (4, .int b0)]) hx hb dX9_mostBehind_45 hl (by decide) rfl (fun ls hl => ?_)
    refine lv_aload_n hx hb dX9_mostBehind_47 rfl (lv_at hl 2 rfl) ?_
    refine lv_aload_n hx hb dX9_mostBehind_48 rfl (lv_at hl 3 rfl) ?_
    obtain ⟨hPc, hDc, hFc, hC9⟩ := xpk (wc := W_wStart cI cJ cZ cG cH wy pl co wba wka pk gpk lpk fwa fta fra fga cxa cup clast cpeak cptick fw ft pna pta rails limit retry behind pn) hP hD hS hA [0, 3, 4, 5, 9, 8] (by decide +kernel) rfl
    refine va_callv (va_runV (As := [.ref pl]) (rest := []) ⟨hx, hb, hml, hown, hts⟩ (c_wStart l D cI cJ cZ cG cH H.size wy pl co wba wka pk gpk lpk fwa fta fra fga cxa cup clast cpeak cptick fw ft pna pta rails limit retry behind pn (xrng rfl (by omega) (by omega)) (xrng rfl (by omega) (by omega)) (xwk_rng h_fw (by decide) (by decide)) (xwk_rng h_ft (by decide) (by decide)) (xrng rfl (by omega) (by omega)) (xwk_rng h_pn (by decide) (by decide))) (cwV 1 hts (xGV tbC wd557 wd558 wd559 wd55 wd1056) rfl rfl rfl (by decide +kernel) ⟨Nat.le_of_ble_eq_true rfl, Nat.le_of_ble_eq_true rfl⟩) ⟨xPc_blind, va_recv hK hPc (ci := 8) (q0 := 0) rfl rfl, xPc_pre hPc hK hDc⟩ rfl rfl hl.1 rfl (lv_room (Nat.le_of_ble_eq_true rfl)) dX9_mostBehind_49 ⟨Nat.le_of_ble_eq_true rfl, Nat.le_of_ble_eq_true rfl⟩) hS (fun q _ h => hFc q h) hFc (fun u t H1 locs ht hvm hw11 hB hz1 hk1 hS => ?_)
    obtain ⟨fw_12, ft_13, hf13_0, hf13_1, hP1, hK1, hD1⟩ := hB
    rw [ht] at hP1
    obtain ⟨hP, hD⟩ : xPD D A [oAI wba cI 64 wb, oAI wka cZ 64 wk, oAI fra cI 8 fr, oAI fga cI 8 fg, oAJ pta cJ 64 pt, oX9 wy co wba wka pk gpk lpk, oX0 co fwa fta fra fga cxa cup clast cpeak cptick, oAI fwa cI 8 fw_12, oAI fta cI 8 ft_13, oX3 pl pna pta rails limit retry behind, oAI pna cI 64 pn] H1 := xjn 5 hP hD [0, 3, 4, 5, 9, 8] [1, 2, 6, 7, 10] hC9 rfl (by decide +kernel) (by decide +kernel) hk1 hFc hP1 hD1
    generalize H1 = H at hP hS ⊢
    have hf13_0 : ∀ j, j < 8 → 0 ≤ (fw_12 j).toInt ∧ (fw_12 j).toInt ≤ 511 := hf13_0
    have hf13_1 : ∀ j, j < 8 → 0 ≤ (ft_13 j).toInt ∧ (ft_13 j).toInt ≤ 511 := hf13_1
    refine lv_sipush (v := (-144)) hx hb dX9_mostBehind_52 (by decide) ?_
    refine lv_istore (lv' := [(7, .int (-144)), (6, .int v10), (5, .int v2), (0, .ref wy), (1, .ref pl), (2, .int s0), (3, .int a0), (4, .int b0)]) hx hb dX9_mostBehind_55 hl (by decide) rfl (fun ls hl => ?_)
    refine lv_iconst (v := 1) hx hb dX9_mostBehind_57 (by decide) ?_
    refine lv_istore (lv' := [(8, .int 1), (7, .int (-144)), (6, .int v10), (5, .int v2), (0, .ref wy), (1, .ref pl), (2, .int s0), (3, .int a0), (4, .int b0)]) hx hb dX9_mostBehind_58 hl (by decide) rfl (fun ls hl => ?_)
    refine lv_iconst (v := 0) hx hb dX9_mostBehind_60 (by decide) ?_
    refine lv_istore (lv' := [(9, .int 0), (8, .int 1), (7, .int (-144)), (6, .int v10), (5, .int v2), (0, .ref wy), (1, .ref pl), (2, .int s0), (3, .int a0), (4, .int b0)]) hx hb dX9_mostBehind_61 hl (by decide) rfl (fun ls hl => ?_)
    have hl143 : ∀ (nhl143 : Nat) (x135 : Int32) (x136 : Int32) (x137 : Int32) (f138 : Nat → Int32) (f139 : Nat → Int32) (x140 : Int32) (x141 : Int32) (f142 : Nat → Int32), ((20000 - x135.toInt).toNat < nhl143) → (hx135 : 0 ≤ x135.toInt ∧ x135.toInt ≤ 20000) → (hx136 : 0 ≤ x136.toInt ∧ x136.toInt ≤ 1) → (hx137 : (-144) ≤ x137.toInt ∧ x137.toInt ≤ 4095) → (hf138 : ∀ j, j < 8 → 0 ≤ (f138 j).toInt ∧ (f138 j).toInt ≤ 655) → (hf139 : ∀ j, j < 8 → 0 ≤ (f139 j).toInt ∧ (f139 j).toInt ≤ 1166) → (hx141 : 0 ≤ x141.toInt ∧ x141.toInt ≤ 144) → (hf142 : ∀ j, j < 8 → 0 ≤ (f142 j).toInt ∧ (f142 j).toInt ≤ 511) → (hle_f138_f139 : ∀ j, j < 8 → (f138 j).toInt ≤ (f139 j).toInt) → ∀ (H : Heap) (locs : List Loc), va_P D vwCl [oAI wba cI 64 wb, oAI wka cZ 64 wk, oAI fra cI 8 f138, oAI fga cI 8 f139, oAJ pta cJ 64 pt, oX9 wy co wba wka pk gpk lpk, oX0 co fwa fta fra fga cxa x140 x141 cpeak cptick, oAI fwa cI 8 fw_12, oAI fta cI 8 f142, oX3 pl pna pta rails limit retry behind, oAI pna cI 64 pn] H → va_D A [oAI wba cI 64 wb, oAI wka cZ 64 wk, oAI fra cI 8 f138, oAI fga cI 8 f139, oAJ pta cJ 64 pt, oX9 wy co wba wka pk gpk lpk, oX0 co fwa fta fra fga cxa x140 x141 cpeak cptick, oAI fwa cI 8 fw_12, oAI fta cI 8 f142, oX3 pl pna pta rails limit retry behind, oAI pna cI 64 pn] → va_S A s.heap H locs → ∀ (ls : Array Slot), lv_has ls 10 [(9, .int x135), (8, .int x136), (7, .int x137), (6, .int v10), (5, .int v2), (0, .ref wy), (1, .ref pl), (2, .int s0), (3, .int a0), (4, .int b0)] → W p l e rm_mostBehind s m [Value.ref wy, Value.ref pl, Value.int s0, Value.int a0, Value.int b0].toArray below meth c H locs 0 0 (MQ below ((Q_mostBehind D cI cJ cZ cG cH wy pl s0 a0 b0 co wba wka pk gpk lpk wb wk fwa fta fra fga cxa cup clast cpeak cptick fw ft fr fg pna pta rails limit retry behind pn pt) A) [Value.ref wy, Value.ref pl, Value.int s0, Value.int a0, Value.int b0].toArray s 0 0 A) (F0 m 63 ls []) := by
      intro nhl143
      induction nhl143 with
      | zero =>
        intro x135 x136 x137 f138 f139 x140 x141 f142 hmhl143
        exact absurd hmhl143 (Nat.not_lt_zero _)
      | succ nhl143 ihhl143 =>
        intro x135 x136 x137 f138 f139 x140 x141 f142 hmhl143 hx135 hx136 hx137 hf138 hf139 hx141 hf142 hle_f138_f139 H locs hP hD hS ls hl
        refine lv_iload hx hb dX9_mostBehind_63 (lv_at hl 0 rfl) ?_
        refine lv_sipush (v := 20000) hx hb dX9_mostBehind_65 (by decide) ?_
        refine lv_icmp_ge (tgt := 128) hx hb dX9_mostBehind_68 (by decide) (fun c_144 => ?_) (fun c_144 => ?_)
        · skip
          have i_144 : 20000 ≤ x135.toInt := (ile (by decide) rfl).mp c_144
          refine lv_aload_n hx hb dX9_mostBehind_128 rfl (lv_at hl 5 rfl) ?_
          refine va_get (D := D) (ci := 8) (v := .ref wba) (C := RX9) (T := TX9) (N := 6) hx hb hts (fun w h => tbC w (tbfX9 w h)) hown hK hP 5 rfl rfl 1 (by decide) (hts (.fieldLink RX9 15 "PowerRails$Ways" "behind" "[I") (tbC _ wd163)) (fun _ h9 => h9) rfl dX9_mostBehind_129 ?_
          refine lv_iload hx hb dX9_mostBehind_132 (lv_at hl 4 rfl) ?_
          refine lv_iload hx hb dX9_mostBehind_134 (lv_at hl 2 rfl) ?_
          refine va_iast hx hb hK hP hD hS 0 0 rfl rfl (vp_in_iff.mpr (by rw [tv2]; omega)) dX9_mostBehind_136 (fun H locs hP hD hS => ?_)
          obtain ⟨f145, ef145⟩ : ∃ fz9 : Nat → Int32, fz9 = upd wb (v2 : Int32).toNatClampNeg x137 := ⟨_, rfl⟩
          have hP : va_P D vwCl [oAI wba cI 64 f145, oAI wka cZ 64 wk, oAI fra cI 8 f138, oAI fga cI 8 f139, oAJ pta cJ 64 pt, oX9 wy co wba wka pk gpk lpk, oX0 co fwa fta fra fga cxa x140 x141 cpeak cptick, oAI fwa cI 8 fw_12, oAI fta cI 8 f142, oX3 pl pna pta rails limit retry behind, oAI pna cI 64 pn] H := by rw [ef145]; exact hP
          have hD : va_D A [oAI wba cI 64 f145, oAI wka cZ 64 wk, oAI fra cI 8 f138, oAI fga cI 8 f139, oAJ pta cJ 64 pt, oX9 wy co wba wka pk gpk lpk, oX0 co fwa fta fra fga cxa x140 x141 cpeak cptick, oAI fwa cI 8 fw_12, oAI fta cI 8 f142, oX3 pl pna pta rails limit retry behind, oAI pna cI 64 pn] := by rw [ef145]; exact hD
          refine lv_aload_n hx hb dX9_mostBehind_137 rfl (lv_at hl 5 rfl) ?_
          refine va_get (D := D) (ci := 8) (v := .ref wka) (C := RX9) (T := TX9) (N := 6) hx hb hts (fun w h => tbC w (tbfX9 w h)) hown hK hP 5 rfl rfl 2 (by decide) (hts (.fieldLink RX9 19 "PowerRails$Ways" "behindKnown" "[Z") (tbC _ wd164)) (fun _ h9 => h9) rfl dX9_mostBehind_138 ?_
          refine lv_iload hx hb dX9_mostBehind_141 (lv_at hl 4 rfl) ?_
          refine lv_iconst (v := 1) hx hb dX9_mostBehind_143 (by decide) ?_
          refine va_zast hx hb hK hP hD hS 1 2 rfl rfl (vp_in_iff.mpr (by rw [tv2]; omega)) dX9_mostBehind_144 (fun H locs hP hD hS => ?_)
          obtain ⟨f146, ef146⟩ : ∃ fz9 : Nat → Int32, fz9 = upd wk (v2 : Int32).toNatClampNeg (vp_nar .boolean 1) := ⟨_, rfl⟩
          have hP : va_P D vwCl [oAI wba cI 64 f145, oAI wka cZ 64 f146, oAI fra cI 8 f138, oAI fga cI 8 f139, oAJ pta cJ 64 pt, oX9 wy co wba wka pk gpk lpk, oX0 co fwa fta fra fga cxa x140 x141 cpeak cptick, oAI fwa cI 8 fw_12, oAI fta cI 8 f142, oX3 pl pna pta rails limit retry behind, oAI pna cI 64 pn] H := by rw [ef146]; exact hP
          have hD : va_D A [oAI wba cI 64 f145, oAI wka cZ 64 f146, oAI fra cI 8 f138, oAI fga cI 8 f139, oAJ pta cJ 64 pt, oX9 wy co wba wka pk gpk lpk, oX0 co fwa fta fra fga cxa x140 x141 cpeak cptick, oAI fwa cI 8 fw_12, oAI fta cI 8 f142, oX3 pl pna pta rails limit retry behind, oAI pna cI 64 pn] := by rw [ef146]; exact hD
          have rf146 : ∀ j, j < 64 → 0 ≤ (f146 j).toInt ∧ (f146 j).toInt ≤ 1 := by rw [ef146]; exact xup_rng (xwk_rng h_wk (by decide) (by decide)) (xnarb _)
          refine lv_iload hx hb dX9_mostBehind_145 (lv_at hl 2 rfl) ?_
          refine W.widen (k := 0) (n := 0) (by decide) (by decide) ?_
          exact W.iret (v := x137) hx hb hr (fun t ht hW => ⟨⟨x137, (), rfl, trivial, ⟨f145, f146, x140, x141, fw_12, f142, f138, f139, (xwk_rng rf146 (by decide) (by decide)), (xrng rfl (by omega) (by omega)), (xwk_rng hf13_0 (by decide) (by decide)), (xwk_rng hf142 (by decide) (by decide)), (xwk_rng hf138 (by decide) (by decide)), (xwk_rng hf139 (by decide) (by decide)), hle_f138_f139, xB_of9 ht hW hP hK hD [5, 0, 1, 6, 7, 8, 2, 3, 9, 10, 4] (by decide +kernel) rfl⟩⟩, hS.F ht⟩) hS.2.2 dX9_mostBehind_147
        · skip
          have i_144 : ¬ (20000 ≤ x135.toInt) := fun h9 => c_144 ((ile (by decide) rfl).mpr h9)
          refine lv_iload hx hb dX9_mostBehind_71 (lv_at hl 1 rfl) ?_
          refine lv_if_eq (tgt := 128) hx hb dX9_mostBehind_73 (by decide) (fun c_147 => ?_) (fun c_147 => ?_)
          · skip
            have i_147 : x136.toInt = 0 := (ieq rfl (by decide)).mp c_147
            refine lv_aload_n hx hb dX9_mostBehind_128 rfl (lv_at hl 5 rfl) ?_
            refine va_get (D := D) (ci := 8) (v := .ref wba) (C := RX9) (T := TX9) (N := 6) hx hb hts (fun w h => tbC w (tbfX9 w h)) hown hK hP 5 rfl rfl 1 (by decide) (hts (.fieldLink RX9 15 "PowerRails$Ways" "behind" "[I") (tbC _ wd163)) (fun _ h9 => h9) rfl dX9_mostBehind_129 ?_
            refine lv_iload hx hb dX9_mostBehind_132 (lv_at hl 4 rfl) ?_
            refine lv_iload hx hb dX9_mostBehind_134 (lv_at hl 2 rfl) ?_
            refine va_iast hx hb hK hP hD hS 0 0 rfl rfl (vp_in_iff.mpr (by rw [tv2]; omega)) dX9_mostBehind_136 (fun H locs hP hD hS => ?_)
            obtain ⟨f148, ef148⟩ : ∃ fz9 : Nat → Int32, fz9 = upd wb (v2 : Int32).toNatClampNeg x137 := ⟨_, rfl⟩
            have hP : va_P D vwCl [oAI wba cI 64 f148, oAI wka cZ 64 wk, oAI fra cI 8 f138, oAI fga cI 8 f139, oAJ pta cJ 64 pt, oX9 wy co wba wka pk gpk lpk, oX0 co fwa fta fra fga cxa x140 x141 cpeak cptick, oAI fwa cI 8 fw_12, oAI fta cI 8 f142, oX3 pl pna pta rails limit retry behind, oAI pna cI 64 pn] H := by rw [ef148]; exact hP
            have hD : va_D A [oAI wba cI 64 f148, oAI wka cZ 64 wk, oAI fra cI 8 f138, oAI fga cI 8 f139, oAJ pta cJ 64 pt, oX9 wy co wba wka pk gpk lpk, oX0 co fwa fta fra fga cxa x140 x141 cpeak cptick, oAI fwa cI 8 fw_12, oAI fta cI 8 f142, oX3 pl pna pta rails limit retry behind, oAI pna cI 64 pn] := by rw [ef148]; exact hD
            refine lv_aload_n hx hb dX9_mostBehind_137 rfl (lv_at hl 5 rfl) ?_
            refine va_get (D := D) (ci := 8) (v := .ref wka) (C := RX9) (T := TX9) (N := 6) hx hb hts (fun w h => tbC w (tbfX9 w h)) hown hK hP 5 rfl rfl 2 (by decide) (hts (.fieldLink RX9 19 "PowerRails$Ways" "behindKnown" "[Z") (tbC _ wd164)) (fun _ h9 => h9) rfl dX9_mostBehind_138 ?_
            refine lv_iload hx hb dX9_mostBehind_141 (lv_at hl 4 rfl) ?_
            refine lv_iconst (v := 1) hx hb dX9_mostBehind_143 (by decide) ?_
            refine va_zast hx hb hK hP hD hS 1 2 rfl rfl (vp_in_iff.mpr (by rw [tv2]; omega)) dX9_mostBehind_144 (fun H locs hP hD hS => ?_)
            obtain ⟨f149, ef149⟩ : ∃ fz9 : Nat → Int32, fz9 = upd wk (v2 : Int32).toNatClampNeg (vp_nar .boolean 1) := ⟨_, rfl⟩
            have hP : va_P D vwCl [oAI wba cI 64 f148, oAI wka cZ 64 f149, oAI fra cI 8 f138, oAI fga cI 8 f139, oAJ pta cJ 64 pt, oX9 wy co wba wka pk gpk lpk, oX0 co fwa fta fra fga cxa x140 x141 cpeak cptick, oAI fwa cI 8 fw_12, oAI fta cI 8 f142, oX3 pl pna pta rails limit retry behind, oAI pna cI 64 pn] H := by rw [ef149]; exact hP
            have hD : va_D A [oAI wba cI 64 f148, oAI wka cZ 64 f149, oAI fra cI 8 f138, oAI fga cI 8 f139, oAJ pta cJ 64 pt, oX9 wy co wba wka pk gpk lpk, oX0 co fwa fta fra fga cxa x140 x141 cpeak cptick, oAI fwa cI 8 fw_12, oAI fta cI 8 f142, oX3 pl pna pta rails limit retry behind, oAI pna cI 64 pn] := by rw [ef149]; exact hD
            have rf149 : ∀ j, j < 64 → 0 ≤ (f149 j).toInt ∧ (f149 j).toInt ≤ 1 := by rw [ef149]; exact xup_rng (xwk_rng h_wk (by decide) (by decide)) (xnarb _)
            refine lv_iload hx hb dX9_mostBehind_145 (lv_at hl 2 rfl) ?_
            refine W.widen (k := 0) (n := 0) (by decide) (by decide) ?_
            exact W.iret (v := x137) hx hb hr (fun t ht hW => ⟨⟨x137, (), rfl, trivial, ⟨f148, f149, x140, x141, fw_12, f142, f138, f139, (xwk_rng rf149 (by decide) (by decide)), (xrng rfl (by omega) (by omega)), (xwk_rng hf13_0 (by decide) (by decide)), (xwk_rng hf142 (by decide) (by decide)), (xwk_rng hf138 (by decide) (by decide)), (xwk_rng hf139 (by decide) (by decide)), hle_f138_f139, xB_of9 ht hW hP hK hD [5, 0, 1, 6, 7, 8, 2, 3, 9, 10, 4] (by decide +kernel) rfl⟩⟩, hS.F ht⟩) hS.2.2 dX9_mostBehind_147
          · skip
            have i_147 : ¬ (x136.toInt = 0) := fun h9 => c_147 ((ieq rfl (by decide)).mpr h9)
            refine lv_aload_n hx hb dX9_mostBehind_76 rfl (lv_at hl 5 rfl) ?_
            refine va_get (D := D) (ci := 8) (v := .ref co) (C := RX9) (T := TX9) (N := 6) hx hb hts (fun w h => tbC w (tbfX9 w h)) hown hK hP 5 rfl rfl 0 (by decide) (hts (.fieldLink RX9 9 "PowerRails$Ways" "course" "LPowerRails$Course;") (tbC _ wd162)) (fun _ h9 => h9) rfl dX9_mostBehind_77 ?_
            refine lv_aload_n hx hb dX9_mostBehind_80 rfl (lv_at hl 6 rfl) ?_
            refine lv_iload hx hb dX9_mostBehind_81 (lv_at hl 3 rfl) ?_
            obtain ⟨hPc, hDc, hFc, hC9⟩ := xpk (wc := W_follow cI cJ cZ cG cH co pl v10 fwa fta fra fga cxa x140 x141 cpeak cptick fw_12 f142 f138 f139 pna pta rails limit retry behind pt) hP hD hS hA [6, 7, 8, 2, 3, 9, 4] (by decide +kernel) rfl
            refine va_callv (va_runV (As := [.ref pl, .int v10]) (rest := []) ⟨hx, hb, hml, hown, hts⟩ (c_follow l D cI cJ cZ cG cH H.size co pl v10 fwa fta fra fga cxa x140 x141 cpeak cptick fw_12 f142 f138 f139 pna pta rails limit retry behind pt (xrng rfl (by omega) (by omega)) (xwk_rng hf13_0 (by decide) (by decide)) (xwk_rng hf142 (by decide) (by decide)) (xwk_rng hf138 (by decide) (by decide)) (xwk_rng hf139 (by decide) (by decide)) (xrng rfl (by omega) (by omega)) hle_f138_f139) (cwV 2 hts (xGV tbC wd562 wd526 wd527 wd54 wd1047) rfl rfl rfl (by decide +kernel) ⟨Nat.le_of_ble_eq_true rfl, Nat.le_of_ble_eq_true rfl⟩) ⟨xPc_blind, va_recv hK hPc (ci := 0) (q0 := 0) rfl rfl, xPc_pre hPc hK hDc⟩ rfl rfl hl.1 rfl (lv_room (Nat.le_of_ble_eq_true rfl)) dX9_mostBehind_83 ⟨Nat.le_of_ble_eq_true rfl, Nat.le_of_ble_eq_true rfl⟩) hS (fun q _ h => hFc q h) hFc (fun u t H1 locs ht hvm hw150 hB hz1 hk1 hS => ?_)
            revert hB
            refine xex4r (fun cup_151 clast_152 fr_153 fg_154 => ?_)
            refine xan8r (fun hf154_0 hf154_1 hf154_2 hf154_3 hf154_4 hP1 hK1 hD1 => ?_)
            rw [ht] at hP1
            obtain ⟨hP, hD⟩ : xPD D A [oAI wba cI 64 wb, oAI wka cZ 64 wk, oX9 wy co wba wka pk gpk lpk, oAI pna cI 64 pn, oX0 co fwa fta fra fga cxa cup_151 clast_152 cpeak cptick, oAI fwa cI 8 fw_12, oAI fta cI 8 f142, oAI fra cI 8 fr_153, oAI fga cI 8 fg_154, oX3 pl pna pta rails limit retry behind, oAJ pta cJ 64 pt] H1 := xjn 4 hP hD [6, 7, 8, 2, 3, 9, 4] [0, 1, 5, 10] hC9 rfl (by decide +kernel) (by decide +kernel) hk1 hFc hP1 hD1
            generalize H1 = H at hP hS ⊢
            have hf154_0 : 0 ≤ cup_151.toInt ∧ cup_151.toInt ≤ 255 := hf154_0
            have hf154_1 : 0 ≤ clast_152.toInt ∧ clast_152.toInt ≤ 144 := hf154_1
            have hf154_2 : ∀ j, j < 8 → 0 ≤ (fr_153 j).toInt ∧ (fr_153 j).toInt ≤ 655 := hf154_2
            have hf154_3 : ∀ j, j < 8 → 0 ≤ (fg_154 j).toInt ∧ (fg_154 j).toInt ≤ 1166 := hf154_3
            have hf154_4 : ∀ j, j < 8 → (fr_153 j).toInt ≤ (fg_154 j).toInt := hf154_4
            refine lv_iload hx hb dX9_mostBehind_86 (lv_at hl 2 rfl) ?_
            refine lv_aload_n hx hb dX9_mostBehind_88 rfl (lv_at hl 5 rfl) ?_
            refine va_get (D := D) (ci := 8) (v := .ref co) (C := RX9) (T := TX9) (N := 6) hx hb hts (fun w h => tbC w (tbfX9 w h)) hown hK hP 2 rfl rfl 0 (by decide) (hts (.fieldLink RX9 9 "PowerRails$Ways" "course" "LPowerRails$Course;") (tbC _ wd162)) (fun _ h9 => h9) rfl dX9_mostBehind_89 ?_
            refine va_get (D := D) (ci := 0) (v := .ref fga) (C := RX0) (T := TX0) (N := 9) hx hb hts (fun w h => tbC w (tbfX0 w h)) hown hK hP 4 rfl rfl 3 (by decide) (hts (.fieldLink RX9 46 "PowerRails$Course" "goodAt" "[I") (tbC _ wd144)) (fun _ h9 => h9) rfl dX9_mostBehind_92 ?_
            refine lv_iload_n hx hb dX9_mostBehind_95 rfl (lv_at hl 8 rfl) ?_
            refine va_iald hx hb hK hP 8 0 rfl rfl (vp_in_iff.mpr ⟨by omega, by omega⟩) dX9_mostBehind_96 ?_
            refine lv_topi (fun v155 ev155 => ?_)
            have rv155 : 0 ≤ v155.toInt ∧ v155.toInt ≤ 1166 := xrd ev155 hf154_3 (xinK (vp_in_iff.mpr ⟨by omega, by omega⟩))
            refine lv_aload_n hx hb dX9_mostBehind_97 rfl (lv_at hl 5 rfl) ?_
            refine va_get (D := D) (ci := 8) (v := .ref co) (C := RX9) (T := TX9) (N := 6) hx hb hts (fun w h => tbC w (tbfX9 w h)) hown hK hP 2 rfl rfl 0 (by decide) (hts (.fieldLink RX9 9 "PowerRails$Ways" "course" "LPowerRails$Course;") (tbC _ wd162)) (fun _ h9 => h9) rfl dX9_mostBehind_98 ?_
            refine va_get (D := D) (ci := 0) (v := .ref fga) (C := RX0) (T := TX0) (N := 9) hx hb hts (fun w h => tbC w (tbfX0 w h)) hown hK hP 4 rfl rfl 3 (by decide) (hts (.fieldLink RX9 46 "PowerRails$Course" "goodAt" "[I") (tbC _ wd144)) (fun _ h9 => h9) rfl dX9_mostBehind_101 ?_
            refine lv_iload hx hb dX9_mostBehind_104 (lv_at hl 9 rfl) ?_
            refine va_iald hx hb hK hP 8 0 rfl rfl (vp_in_iff.mpr ⟨by omega, by omega⟩) dX9_mostBehind_106 ?_
            refine lv_topi (fun v156 ev156 => ?_)
            have rv156 : 0 ≤ v156.toInt ∧ v156.toInt ≤ 1166 := xrd ev156 hf154_3 (xinK (vp_in_iff.mpr ⟨by omega, by omega⟩))
            refine lv_isub hx hb dX9_mostBehind_107 ?_
            refine lv_topi (fun v157 ev157 => ?_)
            have tv157 : v157.toInt = (v155.toInt - v156.toInt) := (congrArg Int32.toInt ev157).trans (xsub rfl rfl (by omega) (by omega))
            refine va_mmax hx hb (hml.trans hl.1.symm) hown (hts (.methodLink RX9 49 Lib.Math.max.name) (tbC _ wd563)) (hts (.static Lib.Math.max.name) (tbC _ wd484)) (hts (.initialized "java/lang/Math") (tbC _ wd67)) (hts (.code Lib.Math.max.name Lib.Math.max.code 2 (some .int)) (tbC _ wd1033)) (Nat.le_of_ble_eq_true rfl) (Nat.le_of_ble_eq_true rfl) (Nat.le_of_ble_eq_true rfl) (Nat.le_of_ble_eq_true rfl) dX9_mostBehind_108 ?_
            refine lv_topi (fun v158 ev158 => ?_)
            have rv158 : (v158.toInt = x137.toInt ∨ v158.toInt = (v155.toInt - v156.toInt)) ∧ x137.toInt ≤ v158.toInt ∧ (v155.toInt - v156.toInt) ≤ v158.toInt := xmaxL ev158 (show (x137 : Int32).toInt = x137.toInt from rfl) (show (v157 : Int32).toInt = (v155.toInt - v156.toInt) from tv157)
            refine lv_istore (lv' := [(7, .int v158), (9, .int x135), (8, .int x136), (6, .int v10), (5, .int v2), (0, .ref wy), (1, .ref pl), (2, .int s0), (3, .int a0), (4, .int b0)]) hx hb dX9_mostBehind_111 hl (by decide) rfl (fun ls hl => ?_)
            refine lv_aload_n hx hb dX9_mostBehind_113 rfl (lv_at hl 5 rfl) ?_
            refine lv_aload_n hx hb dX9_mostBehind_114 rfl (lv_at hl 6 rfl) ?_
            refine lv_iload hx hb dX9_mostBehind_115 (lv_at hl 3 rfl) ?_
            obtain ⟨hPc, hDc, hFc, hC9⟩ := xpk (wc := W_nextWay cI cJ cZ cG cH wy pl v10 co wba wka pk gpk lpk fwa fta fra fga cxa cup_151 clast_152 cpeak cptick f142 pna pta rails limit retry behind pn) hP hD hS hA [2, 4, 6, 9, 3] (by decide +kernel) rfl
            refine va_calli (va_runV (As := [.ref pl, .int v10]) (rest := []) ⟨hx, hb, hml, hown, hts⟩ (c_nextWay l D cI cJ cZ cG cH H.size wy pl v10 co wba wka pk gpk lpk fwa fta fra fga cxa cup_151 clast_152 cpeak cptick f142 pna pta rails limit retry behind pn (xrng rfl (by omega) (by omega)) (xrng rfl (by omega) (by omega)) (xwk_rng hf142 (by decide) (by decide)) (xrng rfl (by omega) (by omega)) (xwk_rng h_pn (by decide) (by decide))) (cwV 2 hts (xGV tbC wd564 wd565 wd566 wd55 wd1057) rfl rfl rfl (by decide +kernel) ⟨Nat.le_of_ble_eq_true rfl, Nat.le_of_ble_eq_true rfl⟩) ⟨xPc_blind, va_recv hK hPc (ci := 8) (q0 := 0) rfl rfl, xPc_pre hPc hK hDc⟩ rfl rfl hl.1 rfl (lv_room (Nat.le_of_ble_eq_true rfl)) dX9_mostBehind_117 ⟨Nat.le_of_ble_eq_true rfl, Nat.le_of_ble_eq_true rfl⟩) hS (fun q _ h => hFc q h) hFc (fun r159 u t H1 locs ht hvm hw159 hB hz1 hk1 hS => ?_)
            obtain ⟨ft_160, hf160_0, hP1, hK1, hD1⟩ := hB
            rw [ht] at hP1
            obtain ⟨hP, hD⟩ : xPD D A [oAI wba cI 64 wb, oAI wka cZ 64 wk, oAI fwa cI 8 fw_12, oAI fra cI 8 fr_153, oAI fga cI 8 fg_154, oAJ pta cJ 64 pt, oX9 wy co wba wka pk gpk lpk, oX0 co fwa fta fra fga cxa cup_151 clast_152 cpeak cptick, oAI fta cI 8 ft_160, oX3 pl pna pta rails limit retry behind, oAI pna cI 64 pn] H1 := xjn 6 hP hD [2, 4, 6, 9, 3] [0, 1, 5, 7, 8, 10] hC9 rfl (by decide +kernel) (by decide +kernel) hk1 hFc hP1 hD1
            generalize H1 = H at hP hS ⊢
            have hf160_0 : ∀ j, j < 8 → 0 ≤ (ft_160 j).toInt ∧ (ft_160 j).toInt ≤ 511 := hf160_0
            have hw159 : 0 ≤ r159.toInt ∧ r159.toInt ≤ 1 := hw159
            refine lv_istore (lv' := [(8, .int r159), (7, .int v158), (9, .int x135), (6, .int v10), (5, .int v2), (0, .ref wy), (1, .ref pl), (2, .int s0), (3, .int a0), (4, .int b0)]) hx hb dX9_mostBehind_120 hl (by decide) rfl (fun ls hl => ?_)
            obtain ⟨x161, ex161⟩ : ∃ y : Int32, y = x135 + 1 := ⟨_, rfl⟩
            have tx161 : x161.toInt = (x135.toInt + 1) := (congrArg Int32.toInt ex161).trans (xadd rfl (by decide) (by omega) (by omega))
            refine lv_iinc (v := x161) (lv' := [(9, .int x161), (8, .int r159), (7, .int v158), (6, .int v10), (5, .int v2), (0, .ref wy), (1, .ref pl), (2, .int s0), (3, .int a0), (4, .int b0)]) hx hb dX9_mostBehind_122 hl (k := 2) rfl (by rw [ex161]; rfl) (by decide) rfl (fun ls hl => ?_)
            refine lv_goto (tgt := 63) hx hb dX9_mostBehind_125 (by decide) ?_
            obtain ⟨hP, hD⟩ := xsb (ws' := [oAI wba cI 64 wb, oAI wka cZ 64 wk, oAI fra cI 8 fr_153, oAI fga cI 8 fg_154, oAJ pta cJ 64 pt, oX9 wy co wba wka pk gpk lpk, oX0 co fwa fta fra fga cxa cup_151 clast_152 cpeak cptick, oAI fwa cI 8 fw_12, oAI fta cI 8 ft_160, oX3 pl pna pta rails limit retry behind, oAI pna cI 64 pn]) hP hD [0, 1, 3, 4, 5, 6, 7, 2, 8, 9, 10] (by decide +kernel) rfl
            exact ihhl143 x161 r159 v158 fr_153 fg_154 cup_151 clast_152 ft_160 (by omega) (xrng tx161 (by omega) (by omega)) (xrng rfl (by omega) (by omega)) (xrng rfl (by omega) (by omega)) (xwk_rng hf154_2 (by decide) (by decide)) (xwk_rng hf154_3 (by decide) (by decide)) (xrng rfl (by omega) (by omega)) (xwk_rng hf160_0 (by decide) (by decide)) hf154_4 _ _ hP hD hS ls (lv_sub hl [0, 1, 2, 3, 4, 5, 6, 7, 8, 9] rfl)
    exact hl143 _ 0 1 (-144) fr fg cup clast ft_13 (Nat.lt_succ_self _) ⟨by decide, by decide⟩ ⟨by decide, by decide⟩ ⟨by decide, by decide⟩ (xwk_rng h_fr (by decide) (by decide)) (xwk_rng h_fg (by decide) (by decide)) (xrng rfl (by omega) (by omega)) (xwk_rng hf13_1 (by decide) (by decide)) h_le _ _ hP hD hS ls (lv_sub hl [0, 1, 2, 3, 4, 5, 6, 7, 8, 9] rfl)
  · skip
    have i_4 : ¬ (v3.toInt = 0) := fun h9 => c_4 ((ieq rfl (by decide)).mpr h9)
    refine lv_aload_n hx hb dX9_mostBehind_19 rfl (lv_at hl 1 rfl) ?_
    refine va_get (D := D) (ci := 8) (v := .ref wba) (C := RX9) (T := TX9) (N := 6) hx hb hts (fun w h => tbC w (tbfX9 w h)) hown hK hP 0 rfl rfl 1 (by decide) (hts (.fieldLink RX9 15 "PowerRails$Ways" "behind" "[I") (tbC _ wd163)) (fun _ h9 => h9) rfl dX9_mostBehind_20 ?_
    refine lv_iload hx hb dX9_mostBehind_23 (lv_at hl 0 rfl) ?_
    refine va_iald hx hb hK hP 1 0 rfl rfl (vp_in_iff.mpr (by rw [tv2]; omega)) dX9_mostBehind_25 ?_
    refine lv_topi (fun v162 ev162 => ?_)
    refine W.widen (k := 0) (n := 0) (by decide) (by decide) ?_
    exact W.iret (v := v162) hx hb hr (fun t ht hW => ⟨⟨v162, (), rfl, trivial, ⟨wb, wk, cup, clast, fw, ft, fr, fg, (xwk_rng h_wk (by decide) (by decide)), (xrng rfl (by omega) (by omega)), (xwk_rng h_fw (by decide) (by decide)), (xwk_rng h_ft (by decide) (by decide)), (xwk_rng h_fr (by decide) (by decide)), (xwk_rng h_fg (by decide) (by decide)), h_le, xB_of9 ht hW hP hK hD [0, 1, 2, 3, 4, 5, 6, 7, 8, 9, 10] (by decide +kernel) rfl⟩⟩, hS.F ht⟩) hS.2.2 dX9_mostBehind_26
abbrev W_findPeaks (cI cJ cZ cG cH : ClassId) (wy : Nat) (pl : Nat) (s0 : Int32) (co : Nat) (wba : Nat) (wka : Nat) (pk : Int32) (gpk : Int32) (lpk : Int32) (fwa : Nat) (fta : Nat) (fra : Nat) (fga : Nat) (cxa : Nat) (cup : Int32) (clast : Int32) (cpeak : Int32) (cptick : Int32) (fw : Nat → Int32) (ft : Nat → Int32) (fr : Nat → Int32) (fg : Nat → Int32) (cx : Nat → Int32) (pna : Nat) (pta : Nat) (rails : Int32) (limit : Int32) (retry : Int32) (behind : Int32) (pn : Nat → Int32) (pt : Nat → Int64) : va_W := [oX9 wy co wba wka pk gpk lpk, oX0 co fwa fta fra fga cxa cup clast cpeak cptick, oAI fwa cI 8 fw, oAI fta cI 8 ft, oAI fra cI 8 fr, oAI fga cI 8 fg, oAI cxa cI 145 cx, oX3 pl pna pta rails limit retry behind, oAI pna cI 64 pn, oAJ pta cJ 64 pt]
abbrev Q_findPeaks (D : va_G) (cI cJ cZ cG cH : ClassId) (wy : Nat) (pl : Nat) (s0 : Int32) (co : Nat) (wba : Nat) (wka : Nat) (pk : Int32) (gpk : Int32) (lpk : Int32) (fwa : Nat) (fta : Nat) (fra : Nat) (fga : Nat) (cxa : Nat) (cup : Int32) (clast : Int32) (cpeak : Int32) (cptick : Int32) (fw : Nat → Int32) (ft : Nat → Int32) (fr : Nat → Int32) (fg : Nat → Int32) (cx : Nat → Int32) (pna : Nat) (pta : Nat) (rails : Int32) (limit : Int32) (retry : Int32) (behind : Int32) (pn : Nat → Int32) (pt : Nat → Int64) (A : Nat → Prop) : Array Value → State → Outcome → State → Prop := va_Qv (fun (_ : Unit) => True) (fun _ t => ∃ (pk9 : Int32) (gpk9 : Int32) (lpk9 : Int32) (cup9 : Int32) (clast9 : Int32) (cpeak9 : Int32) (cptick9 : Int32) (fw9 : Nat → Int32) (ft9 : Nat → Int32) (fr9 : Nat → Int32) (fg9 : Nat → Int32) (cx9 : Nat → Int32), (0 ≤ pk9.toInt ∧ pk9.toInt ≤ 1) ∧ (0 ≤ clast9.toInt ∧ clast9.toInt ≤ 144) ∧ (∀ j, j < 8 → 0 ≤ (fw9 j).toInt ∧ (fw9 j).toInt ≤ 511) ∧ (∀ j, j < 8 → 0 ≤ (ft9 j).toInt ∧ (ft9 j).toInt ≤ 511) ∧ (∀ j, j < 8 → 0 ≤ (fr9 j).toInt ∧ (fr9 j).toInt ≤ 655) ∧ (∀ j, j < 8 → 0 ≤ (fg9 j).toInt ∧ (fg9 j).toInt ≤ 1166) ∧ (∀ j, j < 8 → (fr9 j).toInt ≤ (fg9 j).toInt) ∧ xB D (tyL cI cJ cZ cG cH) [oX9 wy co wba wka pk9 gpk9 lpk9, oX0 co fwa fta fra fga cxa cup9 clast9 cpeak9 cptick9, oAI fwa cI 8 fw9, oAI fta cI 8 ft9, oAI fra cI 8 fr9, oAI fga cI 8 fg9, oAI cxa cI 145 cx9, oX3 pl pna pta rails limit retry behind, oAI pna cI 64 pn, oAJ pta cJ 64 pt] A t) A
abbrev rm_findPeaks : Room := { frames := 3, cells := 0, slots := 0, locals := 72 }
set_option maxRecDepth 100000 in
set_option maxHeartbeats 40000000 in
theorem c_findPeaks (l : Launch) (D : va_G) (cI cJ cZ cG cH : ClassId) (sz : Nat) (wy : Nat) (pl : Nat) (s0 : Int32) (co : Nat) (wba : Nat) (wka : Nat) (pk : Int32) (gpk : Int32) (lpk : Int32) (fwa : Nat) (fta : Nat) (fra : Nat) (fga : Nat) (cxa : Nat) (cup : Int32) (clast : Int32) (cpeak : Int32) (cptick : Int32) (fw : Nat → Int32) (ft : Nat → Int32) (fr : Nat → Int32) (fg : Nat → Int32) (cx : Nat → Int32) (pna : Nat) (pta : Nat) (rails : Int32) (limit : Int32) (retry : Int32) (behind : Int32) (pn : Nat → Int32) (pt : Nat → Int64) (h_pk : 0 ≤ pk.toInt ∧ pk.toInt ≤ 1) (h_clast : 0 ≤ clast.toInt ∧ clast.toInt ≤ 144) (h_fw : ∀ j, j < 8 → 0 ≤ (fw j).toInt ∧ (fw j).toInt ≤ 511) (h_ft : ∀ j, j < 8 → 0 ≤ (ft j).toInt ∧ (ft j).toInt ≤ 511) (h_fr : ∀ j, j < 8 → 0 ≤ (fr j).toInt ∧ (fr j).toInt ≤ 655) (h_fg : ∀ j, j < 8 → 0 ≤ (fg j).toInt ∧ (fg j).toInt ≤ 1166) (h_rails : 0 ≤ rails.toInt ∧ rails.toInt ≤ 8) (h_pn : ∀ j, j < 64 → 0 ≤ (pn j).toInt ∧ (pn j).toInt ≤ 511) (h_le : ∀ j, j < 8 → (fr j).toInt ≤ (fg j).toInt) : Met l yX9_findPeaks (wt yX9_findPeaks cX9_findPeaks 6 none) rm_findPeaks (xPc [.ref wy, .ref pl, .int s0] D (tyL cI cJ cZ cG cH) (W_findPeaks cI cJ cZ cG cH wy pl s0 co wba wka pk gpk lpk fwa fta fra fga cxa cup clast cpeak cptick fw ft fr fg cx pna pta rails limit retry behind pn pt) sz) (Q_findPeaks D cI cJ cZ cG cH wy pl s0 co wba wka pk gpk lpk fwa fta fra fga cxa cup clast cpeak cptick fw ft fr fg cx pna pta rails limit retry behind pn pt (va_A (W_findPeaks cI cJ cZ cG cH wy pl s0 co wba wka pk gpk lpk fwa fta fra fga cxa cup clast cpeak cptick fw ft fr fg cx pna pta rails limit retry behind pn pt) sz)) 0 0 (va_A (W_findPeaks cI cJ cZ cG cH wy pl s0 co wba wka pk gpk lpk fwa fta fra fga cxa cup clast cpeak cptick fw ft fr fg cx pna pta rails limit retry behind pn pt) sz) := by
  refine xMet (cc := cX9_findPeaks) (maxL := 6) (ret := none) (Qf := Q_findPeaks D cI cJ cZ cG cH wy pl s0 co wba wka pk gpk lpk fwa fta fra fga cxa cup clast cpeak cptick fw ft fr fg cx pna pta rails limit retry behind pn pt) (by decide) rfl (Nat.le_of_ble_eq_true rfl) ?_
  intro p e s m below meth c ls A hx hb hr hml hts hown hlocks hnm hsz hP hK hD hA hS hl
  have hown : s.vm.findClass RX9 = some m.cls := hown
  have hP : va_P D vwCl [oX9 wy co wba wka pk gpk lpk, oX0 co fwa fta fra fga cxa cup clast cpeak cptick, oAI fwa cI 8 fw, oAI fta cI 8 ft, oAI fra cI 8 fr, oAI fga cI 8 fg, oAI cxa cI 145 cx, oX3 pl pna pta rails limit retry behind, oAI pna cI 64 pn, oAJ pta cJ 64 pt] s.heap := hP
  have hD : va_D A [oX9 wy co wba wka pk gpk lpk, oX0 co fwa fta fra fga cxa cup clast cpeak cptick, oAI fwa cI 8 fw, oAI fta cI 8 ft, oAI fra cI 8 fr, oAI fga cI 8 fg, oAI cxa cI 145 cx, oX3 pl pna pta rails limit retry behind, oAI pna cI 64 pn, oAJ pta cJ 64 pt] := hD
  have hl : lv_has ls 6 [(0, .ref wy), (1, .ref pl), (2, .int s0)] := hl
  refine lv_aload_n hx hb dX9_findPeaks_0 rfl (lv_at hl 0 rfl) ?_
  refine va_get (D := D) (ci := 8) (v := .int pk) (C := RX9) (T := TX9) (N := 6) hx hb hts (fun w h => tbC w (tbfX9 w h)) hown hK hP 0 rfl rfl 3 (by decide) (hts (.fieldLink RX9 23 "PowerRails$Ways" "peaksKnown" "Z") (tbC _ wd165)) (fun _ h9 => h9) rfl dX9_findPeaks_1 ?_
  refine lv_if_eq (tgt := 8) hx hb dX9_findPeaks_4 (by decide) (fun c_1 => ?_) (fun c_1 => ?_)
  · skip
    have i_1 : pk.toInt = 0 := (ieq rfl (by decide)).mp c_1
    refine lv_aload_n hx hb dX9_findPeaks_8 rfl (lv_at hl 1 rfl) ?_
    refine lv_iload_n hx hb dX9_findPeaks_9 rfl (lv_at hl 2 rfl) ?_
    obtain ⟨hPc, hDc, hFc, hC9⟩ := xpk (wc := W_upAmong cI cJ cZ cG cH pl s0 pna pta rails limit retry behind pt) hP hD hS hA [7, 9] (by decide +kernel) rfl
    refine va_calli (va_runV (As := [.int s0]) (rest := []) ⟨hx, hb, hml, hown, hts⟩ (c_upAmong l D cI cJ cZ cG cH s.heap.size pl s0 pna pta rails limit retry behind pt (xrng rfl (by omega) (by omega))) (cwV 1 hts (xGV tbC wd556 wd508 wd509 wd59 wd1041) rfl rfl rfl (by decide +kernel) ⟨Nat.le_of_ble_eq_true rfl, Nat.le_of_ble_eq_true rfl⟩) ⟨xPc_blind, va_recv hK hPc (ci := 2) (q0 := 0) rfl rfl, xPc_pre hPc hK hDc⟩ rfl rfl hl.1 rfl (lv_room (Nat.le_of_ble_eq_true rfl)) dX9_findPeaks_10 ⟨Nat.le_of_ble_eq_true rfl, Nat.le_of_ble_eq_true rfl⟩) hS (fun q _ h => hFc q h) hFc (fun r2 u t H1 locs ht hvm hw2 hB hz1 hk1 hS => ?_)
    obtain ⟨hru9, hw2⟩ := hw2
    subst hru9
    obtain ⟨hf2_0, hP1, hK1, hD1⟩ := hB
    rw [ht] at hP1
    obtain ⟨hP, hD⟩ : xPD D A [oX9 wy co wba wka pk gpk lpk, oX0 co fwa fta fra fga cxa cup clast cpeak cptick, oAI fwa cI 8 fw, oAI fta cI 8 ft, oAI fra cI 8 fr, oAI fga cI 8 fg, oAI cxa cI 145 cx, oAI pna cI 64 pn, oX3 pl pna pta rails limit retry behind, oAJ pta cJ 64 pt] H1 := xjn 8 hP hD [7, 9] [0, 1, 2, 3, 4, 5, 6, 8] hC9 rfl (by decide +kernel) (by decide +kernel) hk1 hFc hP1 hD1
    generalize H1 = H at hP hS ⊢
    have hf2_0 : M_upAmong rails s0 pt = (r2) := hf2_0
    have hw2 : 0 ≤ r2.toInt ∧ r2.toInt ≤ 255 := hw2
    refine lv_istore_n (lv' := [(3, .int r2), (0, .ref wy), (1, .ref pl), (2, .int s0)]) hx hb dX9_findPeaks_13 rfl hl (by decide) rfl (fun ls hl => ?_)
    refine lv_aload_n hx hb dX9_findPeaks_14 rfl (lv_at hl 1 rfl) ?_
    refine lv_aload_n hx hb dX9_findPeaks_15 rfl (lv_at hl 2 rfl) ?_
    obtain ⟨hPc, hDc, hFc, hC9⟩ := xpk (wc := W_wStart cI cJ cZ cG cH wy pl co wba wka pk gpk lpk fwa fta fra fga cxa cup clast cpeak cptick fw ft pna pta rails limit retry behind pn) hP hD hS hA [0, 1, 2, 3, 8, 7] (by decide +kernel) rfl
    refine va_callv (va_runV (As := [.ref pl]) (rest := []) ⟨hx, hb, hml, hown, hts⟩ (c_wStart l D cI cJ cZ cG cH H.size wy pl co wba wka pk gpk lpk fwa fta fra fga cxa cup clast cpeak cptick fw ft pna pta rails limit retry behind pn (xrng rfl (by omega) (by omega)) (xrng rfl (by omega) (by omega)) (xwk_rng h_fw (by decide) (by decide)) (xwk_rng h_ft (by decide) (by decide)) (xrng rfl (by omega) (by omega)) (xwk_rng h_pn (by decide) (by decide))) (cwV 1 hts (xGV tbC wd557 wd558 wd559 wd55 wd1056) rfl rfl rfl (by decide +kernel) ⟨Nat.le_of_ble_eq_true rfl, Nat.le_of_ble_eq_true rfl⟩) ⟨xPc_blind, va_recv hK hPc (ci := 8) (q0 := 0) rfl rfl, xPc_pre hPc hK hDc⟩ rfl rfl hl.1 rfl (lv_room (Nat.le_of_ble_eq_true rfl)) dX9_findPeaks_16 ⟨Nat.le_of_ble_eq_true rfl, Nat.le_of_ble_eq_true rfl⟩) hS (fun q _ h => hFc q h) hFc (fun u t H1 locs ht hvm hw3 hB hz1 hk1 hS => ?_)
    obtain ⟨fw_4, ft_5, hf5_0, hf5_1, hP1, hK1, hD1⟩ := hB
    rw [ht] at hP1
    obtain ⟨hP, hD⟩ : xPD D A [oAI fra cI 8 fr, oAI fga cI 8 fg, oAI cxa cI 145 cx, oAJ pta cJ 64 pt, oX9 wy co wba wka pk gpk lpk, oX0 co fwa fta fra fga cxa cup clast cpeak cptick, oAI fwa cI 8 fw_4, oAI fta cI 8 ft_5, oX3 pl pna pta rails limit retry behind, oAI pna cI 64 pn] H1 := xjn 4 hP hD [0, 1, 2, 3, 8, 7] [4, 5, 6, 9] hC9 rfl (by decide +kernel) (by decide +kernel) hk1 hFc hP1 hD1
    generalize H1 = H at hP hS ⊢
    have hf5_0 : ∀ j, j < 8 → 0 ≤ (fw_4 j).toInt ∧ (fw_4 j).toInt ≤ 511 := hf5_0
    have hf5_1 : ∀ j, j < 8 → 0 ≤ (ft_5 j).toInt ∧ (ft_5 j).toInt ≤ 511 := hf5_1
    refine lv_aload_n hx hb dX9_findPeaks_19 rfl (lv_at hl 1 rfl) ?_
    refine va_get (D := D) (ci := 8) (v := .ref co) (C := RX9) (T := TX9) (N := 6) hx hb hts (fun w h => tbC w (tbfX9 w h)) hown hK hP 4 rfl rfl 0 (by decide) (hts (.fieldLink RX9 9 "PowerRails$Ways" "course" "LPowerRails$Course;") (tbC _ wd162)) (fun _ h9 => h9) rfl dX9_findPeaks_20 ?_
    refine lv_aload_n hx hb dX9_findPeaks_23 rfl (lv_at hl 2 rfl) ?_
    refine lv_iload_n hx hb dX9_findPeaks_24 rfl (lv_at hl 0 rfl) ?_
    obtain ⟨hPc, hDc, hFc, hC9⟩ := xpk (wc := W_follow cI cJ cZ cG cH co pl r2 fwa fta fra fga cxa cup clast cpeak cptick fw_4 ft_5 fr fg pna pta rails limit retry behind pt) hP hD hS hA [5, 6, 7, 0, 1, 8, 3] (by decide +kernel) rfl
    refine va_callv (va_runV (As := [.ref pl, .int r2]) (rest := []) ⟨hx, hb, hml, hown, hts⟩ (c_follow l D cI cJ cZ cG cH H.size co pl r2 fwa fta fra fga cxa cup clast cpeak cptick fw_4 ft_5 fr fg pna pta rails limit retry behind pt (xrng rfl (by omega) (by omega)) (xwk_rng hf5_0 (by decide) (by decide)) (xwk_rng hf5_1 (by decide) (by decide)) (xwk_rng h_fr (by decide) (by decide)) (xwk_rng h_fg (by decide) (by decide)) (xrng rfl (by omega) (by omega)) h_le) (cwV 2 hts (xGV tbC wd562 wd526 wd527 wd54 wd1047) rfl rfl rfl (by decide +kernel) ⟨Nat.le_of_ble_eq_true rfl, Nat.le_of_ble_eq_true rfl⟩) ⟨xPc_blind, va_recv hK hPc (ci := 0) (q0 := 0) rfl rfl, xPc_pre hPc hK hDc⟩ rfl rfl hl.1 rfl (lv_room (Nat.le_of_ble_eq_true rfl)) dX9_findPeaks_25 ⟨Nat.le_of_ble_eq_true rfl, Nat.le_of_ble_eq_true rfl⟩) hS (fun q _ h => hFc q h) hFc (fun u t H1 locs ht hvm hw6 hB hz1 hk1 hS => ?_)
    revert hB
    refine xex4r (fun cup_7 clast_8 fr_9 fg_10 => ?_)
    refine xan8r (fun hf10_0 hf10_1 hf10_2 hf10_3 hf10_4 hP1 hK1 hD1 => ?_)
    rw [ht] at hP1
    obtain ⟨hP, hD⟩ : xPD D A [oAI cxa cI 145 cx, oX9 wy co wba wka pk gpk lpk, oAI pna cI 64 pn, oX0 co fwa fta fra fga cxa cup_7 clast_8 cpeak cptick, oAI fwa cI 8 fw_4, oAI fta cI 8 ft_5, oAI fra cI 8 fr_9, oAI fga cI 8 fg_10, oX3 pl pna pta rails limit retry behind, oAJ pta cJ 64 pt] H1 := xjn 3 hP hD [5, 6, 7, 0, 1, 8, 3] [2, 4, 9] hC9 rfl (by decide +kernel) (by decide +kernel) hk1 hFc hP1 hD1
    generalize H1 = H at hP hS ⊢
    have hf10_0 : 0 ≤ cup_7.toInt ∧ cup_7.toInt ≤ 255 := hf10_0
    have hf10_1 : 0 ≤ clast_8.toInt ∧ clast_8.toInt ≤ 144 := hf10_1
    have hf10_2 : ∀ j, j < 8 → 0 ≤ (fr_9 j).toInt ∧ (fr_9 j).toInt ≤ 655 := hf10_2
    have hf10_3 : ∀ j, j < 8 → 0 ≤ (fg_10 j).toInt ∧ (fg_10 j).toInt ≤ 1166 := hf10_3
    have hf10_4 : ∀ j, j < 8 → (fr_9 j).toInt ≤ (fg_10 j).toInt := hf10_4
    refine lv_aload_n hx hb dX9_findPeaks_28 rfl (lv_at hl 1 rfl) ?_
    refine va_get (D := D) (ci := 8) (v := .ref co) (C := RX9) (T := TX9) (N := 6) hx hb hts (fun w h => tbC w (tbfX9 w h)) hown hK hP 1 rfl rfl 0 (by decide) (hts (.fieldLink RX9 9 "PowerRails$Ways" "course" "LPowerRails$Course;") (tbC _ wd162)) (fun _ h9 => h9) rfl dX9_findPeaks_29 ?_
    refine lv_aload_n hx hb dX9_findPeaks_32 rfl (lv_at hl 2 rfl) ?_
    obtain ⟨hPc, hDc, hFc, hC9⟩ := xpk (wc := W_findPeak cI cJ cZ cG cH co pl fwa fta fra fga cxa cup_7 clast_8 cpeak cptick fr_9 fg_10 cx pna pta rails limit retry behind pn) hP hD hS hA [3, 6, 7, 0, 8, 2] (by decide +kernel) rfl
    refine va_callv (va_runV (As := [.ref pl]) (rest := []) ⟨hx, hb, hml, hown, hts⟩ (c_findPeak l D cI cJ cZ cG cH H.size co pl fwa fta fra fga cxa cup_7 clast_8 cpeak cptick fr_9 fg_10 cx pna pta rails limit retry behind pn (xrng rfl (by omega) (by omega)) (xwk_rng hf10_2 (by decide) (by decide)) (xwk_rng hf10_3 (by decide) (by decide)) (xrng rfl (by omega) (by omega)) (xwk_rng h_pn (by decide) (by decide)) hf10_4) (cwV 1 hts (xGV tbC wd581 wd582 wd583 wd54 wd1062) rfl rfl rfl (by decide +kernel) ⟨Nat.le_of_ble_eq_true rfl, Nat.le_of_ble_eq_true rfl⟩) ⟨xPc_blind, va_recv hK hPc (ci := 0) (q0 := 0) rfl rfl, xPc_pre hPc hK hDc⟩ rfl rfl hl.1 rfl (lv_room (Nat.le_of_ble_eq_true rfl)) dX9_findPeaks_33 ⟨Nat.le_of_ble_eq_true rfl, Nat.le_of_ble_eq_true rfl⟩) hS (fun q _ h => hFc q h) hFc (fun u t H1 locs ht hvm hw11 hB hz1 hk1 hS => ?_)
    obtain ⟨cpeak_12, cptick_13, cx_14, hf14_0, hP1, hK1, hD1⟩ := hB
    rw [ht] at hP1
    obtain ⟨hP, hD⟩ : xPD D A [oX9 wy co wba wka pk gpk lpk, oAI fwa cI 8 fw_4, oAI fta cI 8 ft_5, oAJ pta cJ 64 pt, oX0 co fwa fta fra fga cxa cup_7 clast_8 cpeak_12 cptick_13, oAI fra cI 8 fr_9, oAI fga cI 8 fg_10, oAI cxa cI 145 cx_14, oX3 pl pna pta rails limit retry behind, oAI pna cI 64 pn] H1 := xjn 4 hP hD [3, 6, 7, 0, 8, 2] [1, 4, 5, 9] hC9 rfl (by decide +kernel) (by decide +kernel) hk1 hFc hP1 hD1
    generalize H1 = H at hP hS ⊢
    have hf14_0 : (-4) ≤ cptick_13.toInt ∧ cptick_13.toInt ≤ 144 := hf14_0
    refine lv_aload_n hx hb dX9_findPeaks_36 rfl (lv_at hl 1 rfl) ?_
    refine lv_aload_n hx hb dX9_findPeaks_37 rfl (lv_at hl 1 rfl) ?_
    refine va_get (D := D) (ci := 8) (v := .ref co) (C := RX9) (T := TX9) (N := 6) hx hb hts (fun w h => tbC w (tbfX9 w h)) hown hK hP 0 rfl rfl 0 (by decide) (hts (.fieldLink RX9 9 "PowerRails$Ways" "course" "LPowerRails$Course;") (tbC _ wd162)) (fun _ h9 => h9) rfl dX9_findPeaks_38 ?_
    refine va_get (D := D) (ci := 0) (v := .int cpeak_12) (C := RX0) (T := TX0) (N := 9) hx hb hts (fun w h => tbC w (tbfX0 w h)) hown hK hP 4 rfl rfl 7 (by decide) (hts (.fieldLink RX9 62 "PowerRails$Course" "peak" "I") (tbC _ wd152)) (fun _ h9 => h9) rfl dX9_findPeaks_41 ?_
    refine va_put (D := D) (ci := 8) (v := .int cpeak_12) (ty := .int) (C := RX9) (T := TX9) (N := 6) hx hb hts (fun w h => tbC w (tbfX9 w h)) tyX9 tyX9_ok nmX9 hown hK hP hD hS 0 rfl rfl 4 (by decide) (hts (.fieldLink RX9 66 "PowerRails$Ways" "greatestPeak" "I") (tbC _ wd166)) (fun _ h9 => h9) rfl (by decide +kernel) rfl rfl (Nat.le_of_ble_eq_true rfl) dX9_findPeaks_44 (fun H locs hP hD hS => ?_)
    obtain ⟨hP, hD⟩ : xPD D A [oX9 wy co wba wka pk cpeak_12 lpk, oAI fwa cI 8 fw_4, oAI fta cI 8 ft_5, oAJ pta cJ 64 pt, oX0 co fwa fta fra fga cxa cup_7 clast_8 cpeak_12 cptick_13, oAI fra cI 8 fr_9, oAI fga cI 8 fg_10, oAI cxa cI 145 cx_14, oX3 pl pna pta rails limit retry behind, oAI pna cI 64 pn] H := ⟨hP, hD⟩
    refine lv_aload_n hx hb dX9_findPeaks_47 rfl (lv_at hl 1 rfl) ?_
    refine lv_aload_n hx hb dX9_findPeaks_48 rfl (lv_at hl 1 rfl) ?_
    refine va_get (D := D) (ci := 8) (v := .ref co) (C := RX9) (T := TX9) (N := 6) hx hb hts (fun w h => tbC w (tbfX9 w h)) hown hK hP 0 rfl rfl 0 (by decide) (hts (.fieldLink RX9 9 "PowerRails$Ways" "course" "LPowerRails$Course;") (tbC _ wd162)) (fun _ h9 => h9) rfl dX9_findPeaks_49 ?_
    refine va_get (D := D) (ci := 0) (v := .int cpeak_12) (C := RX0) (T := TX0) (N := 9) hx hb hts (fun w h => tbC w (tbfX0 w h)) hown hK hP 4 rfl rfl 7 (by decide) (hts (.fieldLink RX9 62 "PowerRails$Course" "peak" "I") (tbC _ wd152)) (fun _ h9 => h9) rfl dX9_findPeaks_52 ?_
    refine va_put (D := D) (ci := 8) (v := .int cpeak_12) (ty := .int) (C := RX9) (T := TX9) (N := 6) hx hb hts (fun w h => tbC w (tbfX9 w h)) tyX9 tyX9_ok nmX9 hown hK hP hD hS 0 rfl rfl 5 (by decide) (hts (.fieldLink RX9 69 "PowerRails$Ways" "leastPeak" "I") (tbC _ wd168)) (fun _ h9 => h9) rfl (by decide +kernel) rfl rfl (Nat.le_of_ble_eq_true rfl) dX9_findPeaks_55 (fun H locs hP hD hS => ?_)
    obtain ⟨hP, hD⟩ : xPD D A [oX9 wy co wba wka pk cpeak_12 cpeak_12, oAI fwa cI 8 fw_4, oAI fta cI 8 ft_5, oAJ pta cJ 64 pt, oX0 co fwa fta fra fga cxa cup_7 clast_8 cpeak_12 cptick_13, oAI fra cI 8 fr_9, oAI fga cI 8 fg_10, oAI cxa cI 145 cx_14, oX3 pl pna pta rails limit retry behind, oAI pna cI 64 pn] H := ⟨hP, hD⟩
    refine lv_aload_n hx hb dX9_findPeaks_58 rfl (lv_at hl 1 rfl) ?_
    refine lv_aload_n hx hb dX9_findPeaks_59 rfl (lv_at hl 2 rfl) ?_
    refine lv_iload_n hx hb dX9_findPeaks_60 rfl (lv_at hl 0 rfl) ?_
    obtain ⟨hPc, hDc, hFc, hC9⟩ := xpk (wc := W_nextWay cI cJ cZ cG cH wy pl r2 co wba wka pk cpeak_12 cpeak_12 fwa fta fra fga cxa cup_7 clast_8 cpeak_12 cptick_13 ft_5 pna pta rails limit retry behind pn) hP hD hS hA [0, 4, 2, 8, 9] (by decide +kernel) rfl
    refine va_calli (va_runV (As := [.ref pl, .int r2]) (rest := []) ⟨hx, hb, hml, hown, hts⟩ (c_nextWay l D cI cJ cZ cG cH H.size wy pl r2 co wba wka pk cpeak_12 cpeak_12 fwa fta fra fga cxa cup_7 clast_8 cpeak_12 cptick_13 ft_5 pna pta rails limit retry behind pn (xrng rfl (by omega) (by omega)) (xrng rfl (by omega) (by omega)) (xwk_rng hf5_1 (by decide) (by decide)) (xrng rfl (by omega) (by omega)) (xwk_rng h_pn (by decide) (by decide))) (cwV 2 hts (xGV tbC wd564 wd565 wd566 wd55 wd1057) rfl rfl rfl (by decide +kernel) ⟨Nat.le_of_ble_eq_true rfl, Nat.le_of_ble_eq_true rfl⟩) ⟨xPc_blind, va_recv hK hPc (ci := 8) (q0 := 0) rfl rfl, xPc_pre hPc hK hDc⟩ rfl rfl hl.1 rfl (lv_room (Nat.le_of_ble_eq_true rfl)) dX9_findPeaks_61 ⟨Nat.le_of_ble_eq_true rfl, Nat.le_of_ble_eq_true rfl⟩) hS (fun q _ h => hFc q h) hFc (fun r15 u t H1 locs ht hvm hw15 hB hz1 hk1 hS => ?_)
    obtain ⟨ft_16, hf16_0, hP1, hK1, hD1⟩ := hB
    rw [ht] at hP1
    obtain ⟨hP, hD⟩ : xPD D A [oAI fwa cI 8 fw_4, oAJ pta cJ 64 pt, oAI fra cI 8 fr_9, oAI fga cI 8 fg_10, oAI cxa cI 145 cx_14, oX9 wy co wba wka pk cpeak_12 cpeak_12, oX0 co fwa fta fra fga cxa cup_7 clast_8 cpeak_12 cptick_13, oAI fta cI 8 ft_16, oX3 pl pna pta rails limit retry behind, oAI pna cI 64 pn] H1 := xjn 5 hP hD [0, 4, 2, 8, 9] [1, 3, 5, 6, 7] hC9 rfl (by decide +kernel) (by decide +kernel) hk1 hFc hP1 hD1
    generalize H1 = H at hP hS ⊢
    have hf16_0 : ∀ j, j < 8 → 0 ≤ (ft_16 j).toInt ∧ (ft_16 j).toInt ≤ 511 := hf16_0
    have hw15 : 0 ≤ r15.toInt ∧ r15.toInt ≤ 1 := hw15
    refine lv_istore (lv' := [(4, .int r15), (3, .int r2), (0, .ref wy), (1, .ref pl), (2, .int s0)]) hx hb dX9_findPeaks_64 hl (by decide) rfl (fun ls hl => ?_)
    refine lv_iconst (v := 1) hx hb dX9_findPeaks_66 (by decide) ?_
    refine lv_istore (lv' := [(5, .int 1), (4, .int r15), (3, .int r2), (0, .ref wy), (1, .ref pl), (2, .int s0)]) hx hb dX9_findPeaks_67 hl (by decide) rfl (fun ls hl => ?_)
    have hl183 : ∀ (nhl183 : Nat) (x171 : Int32) (x172 : Int32) (f173 : Nat → Int32) (f174 : Nat → Int32) (f175 : Nat → Int32) (x176 : Int32) (x177 : Int32) (x178 : Int32) (x179 : Int32) (x180 : Int32) (x181 : Int32) (f182 : Nat → Int32), ((20000 - x171.toInt).toNat < nhl183) → (hx171 : 1 ≤ x171.toInt ∧ x171.toInt ≤ 20000) → (hx172 : 0 ≤ x172.toInt ∧ x172.toInt ≤ 1) → (hf173 : ∀ j, j < 8 → 0 ≤ (f173 j).toInt ∧ (f173 j).toInt ≤ 655) → (hf174 : ∀ j, j < 8 → 0 ≤ (f174 j).toInt ∧ (f174 j).toInt ≤ 1166) → (hx178 : 0 ≤ x178.toInt ∧ x178.toInt ≤ 255) → (hx179 : 0 ≤ x179.toInt ∧ x179.toInt ≤ 144) → (hx181 : (-4) ≤ x181.toInt ∧ x181.toInt ≤ 144) → (hf182 : ∀ j, j < 8 → 0 ≤ (f182 j).toInt ∧ (f182 j).toInt ≤ 511) → (hle_f173_f174 : ∀ j, j < 8 → (f173 j).toInt ≤ (f174 j).toInt) → ∀ (H : Heap) (locs : List Loc), va_P D vwCl [oAI fwa cI 8 fw_4, oAJ pta cJ 64 pt, oAI fra cI 8 f173, oAI fga cI 8 f174, oAI cxa cI 145 f175, oX9 wy co wba wka pk x176 x177, oX0 co fwa fta fra fga cxa x178 x179 x180 x181, oAI fta cI 8 f182, oX3 pl pna pta rails limit retry behind, oAI pna cI 64 pn] H → va_D A [oAI fwa cI 8 fw_4, oAJ pta cJ 64 pt, oAI fra cI 8 f173, oAI fga cI 8 f174, oAI cxa cI 145 f175, oX9 wy co wba wka pk x176 x177, oX0 co fwa fta fra fga cxa x178 x179 x180 x181, oAI fta cI 8 f182, oX3 pl pna pta rails limit retry behind, oAI pna cI 64 pn] → va_S A s.heap H locs → ∀ (ls : Array Slot), lv_has ls 6 [(5, .int x171), (4, .int x172), (3, .int r2), (0, .ref wy), (1, .ref pl), (2, .int s0)] → W p l e rm_findPeaks s m [Value.ref wy, Value.ref pl, Value.int s0].toArray below meth c H locs 0 0 (MQ below ((Q_findPeaks D cI cJ cZ cG cH wy pl s0 co wba wka pk gpk lpk fwa fta fra fga cxa cup clast cpeak cptick fw ft fr fg cx pna pta rails limit retry behind pn pt) A) [Value.ref wy, Value.ref pl, Value.int s0].toArray s 0 0 A) (F0 m 69 ls []) := by
      intro nhl183
      induction nhl183 with
      | zero =>
        intro x171 x172 f173 f174 f175 x176 x177 x178 x179 x180 x181 f182 hmhl183
        exact absurd hmhl183 (Nat.not_lt_zero _)
      | succ nhl183 ihhl183 =>
        intro x171 x172 f173 f174 f175 x176 x177 x178 x179 x180 x181 f182 hmhl183 hx171 hx172 hf173 hf174 hx178 hx179 hx181 hf182 hle_f173_f174 H locs hP hD hS ls hl
        refine lv_iload hx hb dX9_findPeaks_69 (lv_at hl 0 rfl) ?_
        refine lv_sipush (v := 20000) hx hb dX9_findPeaks_71 (by decide) ?_
        refine lv_icmp_ge (tgt := 149) hx hb dX9_findPeaks_74 (by decide) (fun c_184 => ?_) (fun c_184 => ?_)
        · skip
          have i_184 : 20000 ≤ x171.toInt := (ile (by decide) rfl).mp c_184
          refine lv_aload_n hx hb dX9_findPeaks_149 rfl (lv_at hl 3 rfl) ?_
          refine lv_iconst (v := 1) hx hb dX9_findPeaks_150 (by decide) ?_
          refine va_put (D := D) (ci := 8) (v := .int 1) (ty := .boolean) (C := RX9) (T := TX9) (N := 6) hx hb hts (fun w h => tbC w (tbfX9 w h)) tyX9 tyX9_ok nmX9 hown hK hP hD hS 5 rfl rfl 3 (by decide) (hts (.fieldLink RX9 23 "PowerRails$Ways" "peaksKnown" "Z") (tbC _ wd165)) (fun _ h9 => h9) rfl (by decide +kernel) (by decide) rfl (Nat.le_of_ble_eq_true rfl) dX9_findPeaks_151 (fun H locs hP hD hS => ?_)
          obtain ⟨hP, hD⟩ : xPD D A [oAI fwa cI 8 fw_4, oAJ pta cJ 64 pt, oAI fra cI 8 f173, oAI fga cI 8 f174, oAI cxa cI 145 f175, oX9 wy co wba wka 1 x176 x177, oX0 co fwa fta fra fga cxa x178 x179 x180 x181, oAI fta cI 8 f182, oX3 pl pna pta rails limit retry behind, oAI pna cI 64 pn] H := ⟨hP, hD⟩
          refine W.widen (k := 0) (n := 0) (by decide) (by decide) ?_
          exact W.vret hx hb hr (fun t ht hW => ⟨⟨(), rfl, trivial, ⟨1, x176, x177, x178, x179, x180, x181, fw_4, f182, f173, f174, f175, ⟨by decide, by decide⟩, (xrng rfl (by omega) (by omega)), (xwk_rng hf5_0 (by decide) (by decide)), (xwk_rng hf182 (by decide) (by decide)), (xwk_rng hf173 (by decide) (by decide)), (xwk_rng hf174 (by decide) (by decide)), hle_f173_f174, xB_of9 ht hW hP hK hD [5, 6, 0, 7, 2, 3, 4, 8, 9, 1] (by decide +kernel) rfl⟩⟩, hS.F ht⟩) hS.2.2 dX9_findPeaks_154
        · skip
          have i_184 : ¬ (20000 ≤ x171.toInt) := fun h9 => c_184 ((ile (by decide) rfl).mpr h9)
          refine lv_iload hx hb dX9_findPeaks_77 (lv_at hl 1 rfl) ?_
          refine lv_if_eq (tgt := 149) hx hb dX9_findPeaks_79 (by decide) (fun c_185 => ?_) (fun c_185 => ?_)
          · skip
            have i_185 : x172.toInt = 0 := (ieq rfl (by decide)).mp c_185
            refine lv_aload_n hx hb dX9_findPeaks_149 rfl (lv_at hl 3 rfl) ?_
            refine lv_iconst (v := 1) hx hb dX9_findPeaks_150 (by decide) ?_
            refine va_put (D := D) (ci := 8) (v := .int 1) (ty := .boolean) (C := RX9) (T := TX9) (N := 6) hx hb hts (fun w h => tbC w (tbfX9 w h)) tyX9 tyX9_ok nmX9 hown hK hP hD hS 5 rfl rfl 3 (by decide) (hts (.fieldLink RX9 23 "PowerRails$Ways" "peaksKnown" "Z") (tbC _ wd165)) (fun _ h9 => h9) rfl (by decide +kernel) (by decide) rfl (Nat.le_of_ble_eq_true rfl) dX9_findPeaks_151 (fun H locs hP hD hS => ?_)
            obtain ⟨hP, hD⟩ : xPD D A [oAI fwa cI 8 fw_4, oAJ pta cJ 64 pt, oAI fra cI 8 f173, oAI fga cI 8 f174, oAI cxa cI 145 f175, oX9 wy co wba wka 1 x176 x177, oX0 co fwa fta fra fga cxa x178 x179 x180 x181, oAI fta cI 8 f182, oX3 pl pna pta rails limit retry behind, oAI pna cI 64 pn] H := ⟨hP, hD⟩
            refine W.widen (k := 0) (n := 0) (by decide) (by decide) ?_
            exact W.vret hx hb hr (fun t ht hW => ⟨⟨(), rfl, trivial, ⟨1, x176, x177, x178, x179, x180, x181, fw_4, f182, f173, f174, f175, ⟨by decide, by decide⟩, (xrng rfl (by omega) (by omega)), (xwk_rng hf5_0 (by decide) (by decide)), (xwk_rng hf182 (by decide) (by decide)), (xwk_rng hf173 (by decide) (by decide)), (xwk_rng hf174 (by decide) (by decide)), hle_f173_f174, xB_of9 ht hW hP hK hD [5, 6, 0, 7, 2, 3, 4, 8, 9, 1] (by decide +kernel) rfl⟩⟩, hS.F ht⟩) hS.2.2 dX9_findPeaks_154
          · skip
            have i_185 : ¬ (x172.toInt = 0) := fun h9 => c_185 ((ieq rfl (by decide)).mpr h9)
            refine lv_aload_n hx hb dX9_findPeaks_82 rfl (lv_at hl 3 rfl) ?_
            refine va_get (D := D) (ci := 8) (v := .ref co) (C := RX9) (T := TX9) (N := 6) hx hb hts (fun w h => tbC w (tbfX9 w h)) hown hK hP 5 rfl rfl 0 (by decide) (hts (.fieldLink RX9 9 "PowerRails$Ways" "course" "LPowerRails$Course;") (tbC _ wd162)) (fun _ h9 => h9) rfl dX9_findPeaks_83 ?_
            refine lv_aload_n hx hb dX9_findPeaks_86 rfl (lv_at hl 4 rfl) ?_
            refine lv_iload_n hx hb dX9_findPeaks_87 rfl (lv_at hl 2 rfl) ?_
            obtain ⟨hPc, hDc, hFc, hC9⟩ := xpk (wc := W_follow cI cJ cZ cG cH co pl r2 fwa fta fra fga cxa x178 x179 x180 x181 fw_4 f182 f173 f174 pna pta rails limit retry behind pt) hP hD hS hA [6, 0, 7, 2, 3, 8, 1] (by decide +kernel) rfl
            refine va_callv (va_runV (As := [.ref pl, .int r2]) (rest := []) ⟨hx, hb, hml, hown, hts⟩ (c_follow l D cI cJ cZ cG cH H.size co pl r2 fwa fta fra fga cxa x178 x179 x180 x181 fw_4 f182 f173 f174 pna pta rails limit retry behind pt (xrng rfl (by omega) (by omega)) (xwk_rng hf5_0 (by decide) (by decide)) (xwk_rng hf182 (by decide) (by decide)) (xwk_rng hf173 (by decide) (by decide)) (xwk_rng hf174 (by decide) (by decide)) (xrng rfl (by omega) (by omega)) hle_f173_f174) (cwV 2 hts (xGV tbC wd562 wd526 wd527 wd54 wd1047) rfl rfl rfl (by decide +kernel) ⟨Nat.le_of_ble_eq_true rfl, Nat.le_of_ble_eq_true rfl⟩) ⟨xPc_blind, va_recv hK hPc (ci := 0) (q0 := 0) rfl rfl, xPc_pre hPc hK hDc⟩ rfl rfl hl.1 rfl (lv_room (Nat.le_of_ble_eq_true rfl)) dX9_findPeaks_88 ⟨Nat.le_of_ble_eq_true rfl, Nat.le_of_ble_eq_true rfl⟩) hS (fun q _ h => hFc q h) hFc (fun u t H1 locs ht hvm hw186 hB hz1 hk1 hS => ?_)
            revert hB
            refine xex4r (fun cup_187 clast_188 fr_189 fg_190 => ?_)
            refine xan8r (fun hf190_0 hf190_1 hf190_2 hf190_3 hf190_4 hP1 hK1 hD1 => ?_)
            rw [ht] at hP1
            obtain ⟨hP, hD⟩ : xPD D A [oAI cxa cI 145 f175, oX9 wy co wba wka pk x176 x177, oAI pna cI 64 pn, oX0 co fwa fta fra fga cxa cup_187 clast_188 x180 x181, oAI fwa cI 8 fw_4, oAI fta cI 8 f182, oAI fra cI 8 fr_189, oAI fga cI 8 fg_190, oX3 pl pna pta rails limit retry behind, oAJ pta cJ 64 pt] H1 := xjn 3 hP hD [6, 0, 7, 2, 3, 8, 1] [4, 5, 9] hC9 rfl (by decide +kernel) (by decide +kernel) hk1 hFc hP1 hD1
            generalize H1 = H at hP hS ⊢
            have hf190_0 : 0 ≤ cup_187.toInt ∧ cup_187.toInt ≤ 255 := hf190_0
            have hf190_1 : 0 ≤ clast_188.toInt ∧ clast_188.toInt ≤ 144 := hf190_1
            have hf190_2 : ∀ j, j < 8 → 0 ≤ (fr_189 j).toInt ∧ (fr_189 j).toInt ≤ 655 := hf190_2
            have hf190_3 : ∀ j, j < 8 → 0 ≤ (fg_190 j).toInt ∧ (fg_190 j).toInt ≤ 1166 := hf190_3
            have hf190_4 : ∀ j, j < 8 → (fr_189 j).toInt ≤ (fg_190 j).toInt := hf190_4
            refine lv_aload_n hx hb dX9_findPeaks_91 rfl (lv_at hl 3 rfl) ?_
            refine va_get (D := D) (ci := 8) (v := .ref co) (C := RX9) (T := TX9) (N := 6) hx hb hts (fun w h => tbC w (tbfX9 w h)) hown hK hP 1 rfl rfl 0 (by decide) (hts (.fieldLink RX9 9 "PowerRails$Ways" "course" "LPowerRails$Course;") (tbC _ wd162)) (fun _ h9 => h9) rfl dX9_findPeaks_92 ?_
            refine lv_aload_n hx hb dX9_findPeaks_95 rfl (lv_at hl 4 rfl) ?_
            obtain ⟨hPc, hDc, hFc, hC9⟩ := xpk (wc := W_findPeak cI cJ cZ cG cH co pl fwa fta fra fga cxa cup_187 clast_188 x180 x181 fr_189 fg_190 f175 pna pta rails limit retry behind pn) hP hD hS hA [3, 6, 7, 0, 8, 2] (by decide +kernel) rfl
            refine va_callv (va_runV (As := [.ref pl]) (rest := []) ⟨hx, hb, hml, hown, hts⟩ (c_findPeak l D cI cJ cZ cG cH H.size co pl fwa fta fra fga cxa cup_187 clast_188 x180 x181 fr_189 fg_190 f175 pna pta rails limit retry behind pn (xrng rfl (by omega) (by omega)) (xwk_rng hf190_2 (by decide) (by decide)) (xwk_rng hf190_3 (by decide) (by decide)) (xrng rfl (by omega) (by omega)) (xwk_rng h_pn (by decide) (by decide)) hf190_4) (cwV 1 hts (xGV tbC wd581 wd582 wd583 wd54 wd1062) rfl rfl rfl (by decide +kernel) ⟨Nat.le_of_ble_eq_true rfl, Nat.le_of_ble_eq_true rfl⟩) ⟨xPc_blind, va_recv hK hPc (ci := 0) (q0 := 0) rfl rfl, xPc_pre hPc hK hDc⟩ rfl rfl hl.1 rfl (lv_room (Nat.le_of_ble_eq_true rfl)) dX9_findPeaks_96 ⟨Nat.le_of_ble_eq_true rfl, Nat.le_of_ble_eq_true rfl⟩) hS (fun q _ h => hFc q h) hFc (fun u t H1 locs ht hvm hw191 hB hz1 hk1 hS => ?_)
            obtain ⟨cpeak_192, cptick_193, cx_194, hf194_0, hP1, hK1, hD1⟩ := hB
            rw [ht] at hP1
            obtain ⟨hP, hD⟩ : xPD D A [oX9 wy co wba wka pk x176 x177, oAI fwa cI 8 fw_4, oAI fta cI 8 f182, oAJ pta cJ 64 pt, oX0 co fwa fta fra fga cxa cup_187 clast_188 cpeak_192 cptick_193, oAI fra cI 8 fr_189, oAI fga cI 8 fg_190, oAI cxa cI 145 cx_194, oX3 pl pna pta rails limit retry behind, oAI pna cI 64 pn] H1 := xjn 4 hP hD [3, 6, 7, 0, 8, 2] [1, 4, 5, 9] hC9 rfl (by decide +kernel) (by decide +kernel) hk1 hFc hP1 hD1
            generalize H1 = H at hP hS ⊢
            have hf194_0 : (-4) ≤ cptick_193.toInt ∧ cptick_193.toInt ≤ 144 := hf194_0
            refine lv_aload_n hx hb dX9_findPeaks_99 rfl (lv_at hl 3 rfl) ?_
            refine lv_aload_n hx hb dX9_findPeaks_100 rfl (lv_at hl 3 rfl) ?_
            refine va_get (D := D) (ci := 8) (v := .int x176) (C := RX9) (T := TX9) (N := 6) hx hb hts (fun w h => tbC w (tbfX9 w h)) hown hK hP 0 rfl rfl 4 (by decide) (hts (.fieldLink RX9 66 "PowerRails$Ways" "greatestPeak" "I") (tbC _ wd166)) (fun _ h9 => h9) rfl dX9_findPeaks_101 ?_
            refine lv_aload_n hx hb dX9_findPeaks_104 rfl (lv_at hl 3 rfl) ?_
            refine va_get (D := D) (ci := 8) (v := .ref co) (C := RX9) (T := TX9) (N := 6) hx hb hts (fun w h => tbC w (tbfX9 w h)) hown hK hP 0 rfl rfl 0 (by decide) (hts (.fieldLink RX9 9 "PowerRails$Ways" "course" "LPowerRails$Course;") (tbC _ wd162)) (fun _ h9 => h9) rfl dX9_findPeaks_105 ?_
            refine va_get (D := D) (ci := 0) (v := .int cpeak_192) (C := RX0) (T := TX0) (N := 9) hx hb hts (fun w h => tbC w (tbfX0 w h)) hown hK hP 4 rfl rfl 7 (by decide) (hts (.fieldLink RX9 62 "PowerRails$Course" "peak" "I") (tbC _ wd152)) (fun _ h9 => h9) rfl dX9_findPeaks_108 ?_
            refine va_mmax hx hb (hml.trans hl.1.symm) hown (hts (.methodLink RX9 49 Lib.Math.max.name) (tbC _ wd563)) (hts (.static Lib.Math.max.name) (tbC _ wd484)) (hts (.initialized "java/lang/Math") (tbC _ wd67)) (hts (.code Lib.Math.max.name Lib.Math.max.code 2 (some .int)) (tbC _ wd1033)) (Nat.le_of_ble_eq_true rfl) (Nat.le_of_ble_eq_true rfl) (Nat.le_of_ble_eq_true rfl) (Nat.le_of_ble_eq_true rfl) dX9_findPeaks_111 ?_
            refine lv_topi (fun v195 ev195 => ?_)
            have rv195 : (v195.toInt = x176.toInt ∨ v195.toInt = cpeak_192.toInt) ∧ x176.toInt ≤ v195.toInt ∧ cpeak_192.toInt ≤ v195.toInt := xmaxL ev195 (show (x176 : Int32).toInt = x176.toInt from rfl) (show (cpeak_192 : Int32).toInt = cpeak_192.toInt from rfl)
            refine va_put (D := D) (ci := 8) (v := .int v195) (ty := .int) (C := RX9) (T := TX9) (N := 6) hx hb hts (fun w h => tbC w (tbfX9 w h)) tyX9 tyX9_ok nmX9 hown hK hP hD hS 0 rfl rfl 4 (by decide) (hts (.fieldLink RX9 66 "PowerRails$Ways" "greatestPeak" "I") (tbC _ wd166)) (fun _ h9 => h9) rfl (by decide +kernel) rfl rfl (Nat.le_of_ble_eq_true rfl) dX9_findPeaks_114 (fun H locs hP hD hS => ?_)
            obtain ⟨hP, hD⟩ : xPD D A [oX9 wy co wba wka pk v195 x177, oAI fwa cI 8 fw_4, oAI fta cI 8 f182, oAJ pta cJ 64 pt, oX0 co fwa fta fra fga cxa cup_187 clast_188 cpeak_192 cptick_193, oAI fra cI 8 fr_189, oAI fga cI 8 fg_190, oAI cxa cI 145 cx_194, oX3 pl pna pta rails limit retry behind, oAI pna cI 64 pn] H := ⟨hP, hD⟩
            refine lv_aload_n hx hb dX9_findPeaks_117 rfl (lv_at hl 3 rfl) ?_
            refine lv_aload_n hx hb dX9_findPeaks_118 rfl (lv_at hl 3 rfl) ?_
            refine va_get (D := D) (ci := 8) (v := .int x177) (C := RX9) (T := TX9) (N := 6) hx hb hts (fun w h => tbC w (tbfX9 w h)) hown hK hP 0 rfl rfl 5 (by decide) (hts (.fieldLink RX9 69 "PowerRails$Ways" "leastPeak" "I") (tbC _ wd168)) (fun _ h9 => h9) rfl dX9_findPeaks_119 ?_
            refine lv_aload_n hx hb dX9_findPeaks_122 rfl (lv_at hl 3 rfl) ?_
            refine va_get (D := D) (ci := 8) (v := .ref co) (C := RX9) (T := TX9) (N := 6) hx hb hts (fun w h => tbC w (tbfX9 w h)) hown hK hP 0 rfl rfl 0 (by decide) (hts (.fieldLink RX9 9 "PowerRails$Ways" "course" "LPowerRails$Course;") (tbC _ wd162)) (fun _ h9 => h9) rfl dX9_findPeaks_123 ?_
            refine va_get (D := D) (ci := 0) (v := .int cpeak_192) (C := RX0) (T := TX0) (N := 9) hx hb hts (fun w h => tbC w (tbfX0 w h)) hown hK hP 4 rfl rfl 7 (by decide) (hts (.fieldLink RX9 62 "PowerRails$Course" "peak" "I") (tbC _ wd152)) (fun _ h9 => h9) rfl dX9_findPeaks_126 ?_
            refine va_mmin hx hb (hml.trans hl.1.symm) hown (hts (.methodLink RX9 72 Lib.Math.min.name) (tbC _ wd584)) (hts (.static Lib.Math.min.name) (tbC _ wd393)) (hts (.initialized "java/lang/Math") (tbC _ wd67)) (hts (.code Lib.Math.min.name Lib.Math.min.code 2 (some .int)) (tbC _ wd1003)) (Nat.le_of_ble_eq_true rfl) (Nat.le_of_ble_eq_true rfl) (Nat.le_of_ble_eq_true rfl) (Nat.le_of_ble_eq_true rfl) dX9_findPeaks_129 ?_
            refine lv_topi (fun v196 ev196 => ?_)
            have rv196 : (v196.toInt = x177.toInt ∨ v196.toInt = cpeak_192.toInt) ∧ v196.toInt ≤ x177.toInt ∧ v196.toInt ≤ cpeak_192.toInt := xminL ev196 (show (x177 : Int32).toInt = x177.toInt from rfl) (show (cpeak_192 : Int32).toInt = cpeak_192.toInt from rfl)
            refine va_put (D := D) (ci := 8) (v := .int v196) (ty := .int) (C := RX9) (T := TX9) (N := 6) hx hb hts (fun w h => tbC w (tbfX9 w h)) tyX9 tyX9_ok nmX9 hown hK hP hD hS 0 rfl rfl 5 (by decide) (hts (.fieldLink RX9 69 "PowerRails$Ways" "leastPeak" "I") (tbC _ wd168)) (fun _ h9 => h9) rfl (by decide +kernel) rfl rfl (Nat.le_of_ble_eq_true rfl) dX9_findPeaks_132 (fun H locs hP hD hS => ?_)
            obtain ⟨hP, hD⟩ : xPD D A [oX9 wy co wba wka pk v195 v196, oAI fwa cI 8 fw_4, oAI fta cI 8 f182, oAJ pta cJ 64 pt, oX0 co fwa fta fra fga cxa cup_187 clast_188 cpeak_192 cptick_193, oAI fra cI 8 fr_189, oAI fga cI 8 fg_190, oAI cxa cI 145 cx_194, oX3 pl pna pta rails limit retry behind, oAI pna cI 64 pn] H := ⟨hP, hD⟩
            refine lv_aload_n hx hb dX9_findPeaks_135 rfl (lv_at hl 3 rfl) ?_
            refine lv_aload_n hx hb dX9_findPeaks_136 rfl (lv_at hl 4 rfl) ?_
            refine lv_iload_n hx hb dX9_findPeaks_137 rfl (lv_at hl 2 rfl) ?_
            obtain ⟨hPc, hDc, hFc, hC9⟩ := xpk (wc := W_nextWay cI cJ cZ cG cH wy pl r2 co wba wka pk v195 v196 fwa fta fra fga cxa cup_187 clast_188 cpeak_192 cptick_193 f182 pna pta rails limit retry behind pn) hP hD hS hA [0, 4, 2, 8, 9] (by decide +kernel) rfl
            refine va_calli (va_runV (As := [.ref pl, .int r2]) (rest := []) ⟨hx, hb, hml, hown, hts⟩ (c_nextWay l D cI cJ cZ cG cH H.size wy pl r2 co wba wka pk v195 v196 fwa fta fra fga cxa cup_187 clast_188 cpeak_192 cptick_193 f182 pna pta rails limit retry behind pn (xrng rfl (by omega) (by omega)) (xrng rfl (by omega) (by omega)) (xwk_rng hf182 (by decide) (by decide)) (xrng rfl (by omega) (by omega)) (xwk_rng h_pn (by decide) (by decide))) (cwV 2 hts (xGV tbC wd564 wd565 wd566 wd55 wd1057) rfl rfl rfl (by decide +kernel) ⟨Nat.le_of_ble_eq_true rfl, Nat.le_of_ble_eq_true rfl⟩) ⟨xPc_blind, va_recv hK hPc (ci := 8) (q0 := 0) rfl rfl, xPc_pre hPc hK hDc⟩ rfl rfl hl.1 rfl (lv_room (Nat.le_of_ble_eq_true rfl)) dX9_findPeaks_138 ⟨Nat.le_of_ble_eq_true rfl, Nat.le_of_ble_eq_true rfl⟩) hS (fun q _ h => hFc q h) hFc (fun r197 u t H1 locs ht hvm hw197 hB hz1 hk1 hS => ?_)
            obtain ⟨ft_198, hf198_0, hP1, hK1, hD1⟩ := hB
            rw [ht] at hP1
            obtain ⟨hP, hD⟩ : xPD D A [oAI fwa cI 8 fw_4, oAJ pta cJ 64 pt, oAI fra cI 8 fr_189, oAI fga cI 8 fg_190, oAI cxa cI 145 cx_194, oX9 wy co wba wka pk v195 v196, oX0 co fwa fta fra fga cxa cup_187 clast_188 cpeak_192 cptick_193, oAI fta cI 8 ft_198, oX3 pl pna pta rails limit retry behind, oAI pna cI 64 pn] H1 := xjn 5 hP hD [0, 4, 2, 8, 9] [1, 3, 5, 6, 7] hC9 rfl (by decide +kernel) (by decide +kernel) hk1 hFc hP1 hD1
            generalize H1 = H at hP hS ⊢
            have hf198_0 : ∀ j, j < 8 → 0 ≤ (ft_198 j).toInt ∧ (ft_198 j).toInt ≤ 511 := hf198_0
            have hw197 : 0 ≤ r197.toInt ∧ r197.toInt ≤ 1 := hw197
            refine lv_istore (lv' := [(4, .int r197), (5, .int x171), (3, .int r2), (0, .ref wy), (1, .ref pl), (2, .int s0)]) hx hb dX9_findPeaks_141 hl (by decide) rfl (fun ls hl => ?_)
            obtain ⟨x199, ex199⟩ : ∃ y : Int32, y = x171 + 1 := ⟨_, rfl⟩
            have tx199 : x199.toInt = (x171.toInt + 1) := (congrArg Int32.toInt ex199).trans (xadd rfl (by decide) (by omega) (by omega))
            refine lv_iinc (v := x199) (lv' := [(5, .int x199), (4, .int r197), (3, .int r2), (0, .ref wy), (1, .ref pl), (2, .int s0)]) hx hb dX9_findPeaks_143 hl (k := 1) rfl (by rw [ex199]; rfl) (by decide) rfl (fun ls hl => ?_)
            refine lv_goto (tgt := 69) hx hb dX9_findPeaks_146 (by decide) ?_
            exact ihhl183 x199 r197 fr_189 fg_190 cx_194 v195 v196 cup_187 clast_188 cpeak_192 cptick_193 ft_198 (by omega) (xrng tx199 (by omega) (by omega)) (xrng rfl (by omega) (by omega)) (xwk_rng hf190_2 (by decide) (by decide)) (xwk_rng hf190_3 (by decide) (by decide)) (xrng rfl (by omega) (by omega)) (xrng rfl (by omega) (by omega)) (xrng rfl (by omega) (by omega)) (xwk_rng hf198_0 (by decide) (by decide)) hf190_4 _ _ hP hD hS ls (lv_sub hl [0, 1, 2, 3, 4, 5] rfl)
    exact hl183 _ 1 r15 fr_9 fg_10 cx_14 cpeak_12 cpeak_12 cup_7 clast_8 cpeak_12 cptick_13 ft_16 (Nat.lt_succ_self _) ⟨by decide, by decide⟩ (xrng rfl (by omega) (by omega)) (xwk_rng hf10_2 (by decide) (by decide)) (xwk_rng hf10_3 (by decide) (by decide)) (xrng rfl (by omega) (by omega)) (xrng rfl (by omega) (by omega)) (xrng rfl (by omega) (by omega)) (xwk_rng hf16_0 (by decide) (by decide)) hf10_4 _ _ hP hD hS ls (lv_sub hl [0, 1, 2, 3, 4, 5] rfl)
  · skip
    have i_1 : ¬ (pk.toInt = 0) := fun h9 => c_1 ((ieq rfl (by decide)).mpr h9)
    refine W.widen (k := 0) (n := 0) (by decide) (by decide) ?_
    exact W.vret hx hb hr (fun t ht hW => ⟨⟨(), rfl, trivial, ⟨pk, gpk, lpk, cup, clast, cpeak, cptick, fw, ft, fr, fg, cx, (xrng rfl (by omega) (by omega)), (xrng rfl (by omega) (by omega)), (xwk_rng h_fw (by decide) (by decide)), (xwk_rng h_ft (by decide) (by decide)), (xwk_rng h_fr (by decide) (by decide)), (xwk_rng h_fg (by decide) (by decide)), h_le, xB_of9 ht hW hP hK hD [0, 1, 2, 3, 4, 5, 6, 7, 8, 9] (by decide +kernel) rfl⟩⟩, hS.F ht⟩) hS.2.2 dX9_findPeaks_7
abbrev W_nextRow (cI cJ cZ cG cH : ClassId) (sg : Nat) (s0 : Int32) (co : Nat) (srwa : Nat) (kn : Int32) (slast : Int32) (fwa : Nat) (fta : Nat) (fra : Nat) (fga : Nat) (cxa : Nat) (cup : Int32) (clast : Int32) (cpeak : Int32) (cptick : Int32) (fw : Nat → Int32) : va_W := [oX7 sg co srwa kn slast, oX0 co fwa fta fra fga cxa cup clast cpeak cptick, oAI fwa cI 8 fw]
abbrev Q_nextRow (D : va_G) (cI cJ cZ cG cH : ClassId) (sg : Nat) (s0 : Int32) (co : Nat) (srwa : Nat) (kn : Int32) (slast : Int32) (fwa : Nat) (fta : Nat) (fra : Nat) (fga : Nat) (cxa : Nat) (cup : Int32) (clast : Int32) (cpeak : Int32) (cptick : Int32) (fw : Nat → Int32) (A : Nat → Prop) : Array Value → State → Outcome → State → Prop := va_Qi (fun (r : Int32) (_ : Unit) => 0 ≤ r.toInt ∧ r.toInt ≤ 1) (fun _ t => ∃ (fw9 : Nat → Int32), (∀ j, j < 8 → 0 ≤ (fw9 j).toInt ∧ (fw9 j).toInt ≤ 511) ∧ xB D (tyL cI cJ cZ cG cH) [oX7 sg co srwa kn slast, oX0 co fwa fta fra fga cxa cup clast cpeak cptick, oAI fwa cI 8 fw9] A t) A
abbrev rm_nextRow : Room := { frames := 0, cells := 0, slots := 0, locals := 0 }
set_option maxRecDepth 100000 in
set_option maxHeartbeats 40000000 in
theorem c_nextRow (l : Launch) (D : va_G) (cI cJ cZ cG cH : ClassId) (sz : Nat) (sg : Nat) (s0 : Int32) (co : Nat) (srwa : Nat) (kn : Int32) (slast : Int32) (fwa : Nat) (fta : Nat) (fra : Nat) (fga : Nat) (cxa : Nat) (cup : Int32) (clast : Int32) (cpeak : Int32) (cptick : Int32) (fw : Nat → Int32) (h_kn : 0 ≤ kn.toInt ∧ kn.toInt ≤ 1) (h_clast : 0 ≤ clast.toInt ∧ clast.toInt ≤ 144) (h_fw : ∀ j, j < 8 → 0 ≤ (fw j).toInt ∧ (fw j).toInt ≤ 511) : Met l yX7_nextRow (wt yX7_nextRow cX7_nextRow 3 (some .boolean)) rm_nextRow (xPc [.ref sg, .int s0] D (tyL cI cJ cZ cG cH) (W_nextRow cI cJ cZ cG cH sg s0 co srwa kn slast fwa fta fra fga cxa cup clast cpeak cptick fw) sz) (Q_nextRow D cI cJ cZ cG cH sg s0 co srwa kn slast fwa fta fra fga cxa cup clast cpeak cptick fw (va_A (W_nextRow cI cJ cZ cG cH sg s0 co srwa kn slast fwa fta fra fga cxa cup clast cpeak cptick fw) sz)) 0 0 (va_A (W_nextRow cI cJ cZ cG cH sg s0 co srwa kn slast fwa fta fra fga cxa cup clast cpeak cptick fw) sz) := by
  refine xMet (cc := cX7_nextRow) (maxL := 3) (ret := (some .boolean)) (Qf := Q_nextRow D cI cJ cZ cG cH sg s0 co srwa kn slast fwa fta fra fga cxa cup clast cpeak cptick fw) (by decide) rfl (Nat.le_of_ble_eq_true rfl) ?_
  intro p e s m below meth c ls A hx hb hr hml hts hown hlocks hnm hsz hP hK hD hA hS hl
  have hown : s.vm.findClass RX7 = some m.cls := hown
  have hP : va_P D vwCl [oX7 sg co srwa kn slast, oX0 co fwa fta fra fga cxa cup clast cpeak cptick, oAI fwa cI 8 fw] s.heap := hP
  have hD : va_D A [oX7 sg co srwa kn slast, oX0 co fwa fta fra fga cxa cup clast cpeak cptick, oAI fwa cI 8 fw] := hD
  have hl : lv_has ls 3 [(0, .ref sg), (1, .int s0)] := hl
  refine lv_bipush (v := 7) hx hb dX7_nextRow_0 (by decide) ?_
  refine lv_istore_n (lv' := [(2, .int 7), (0, .ref sg), (1, .int s0)]) hx hb dX7_nextRow_2 rfl hl (by decide) rfl (fun ls hl => ?_)
  have hl54 : ∀ (nhl54 : Nat) (x52 : Int32) (f53 : Nat → Int32), ((x52.toInt - (-1)).toNat < nhl54) → (hx52 : (-1) ≤ x52.toInt ∧ x52.toInt ≤ 7) → (hf53 : ∀ j, j < 8 → 0 ≤ (f53 j).toInt ∧ (f53 j).toInt ≤ 511) → ∀ (H : Heap) (locs : List Loc), va_P D vwCl [oX7 sg co srwa kn slast, oX0 co fwa fta fra fga cxa cup clast cpeak cptick, oAI fwa cI 8 f53] H → va_D A [oX7 sg co srwa kn slast, oX0 co fwa fta fra fga cxa cup clast cpeak cptick, oAI fwa cI 8 f53] → va_S A s.heap H locs → ∀ (ls : Array Slot), lv_has ls 3 [(2, .int x52), (0, .ref sg), (1, .int s0)] → W p l e rm_nextRow s m [Value.ref sg, Value.int s0].toArray below meth c H locs 0 0 (MQ below ((Q_nextRow D cI cJ cZ cG cH sg s0 co srwa kn slast fwa fta fra fga cxa cup clast cpeak cptick fw) A) [Value.ref sg, Value.int s0].toArray s 0 0 A) (F0 m 3 ls []) := by
    intro nhl54
    induction nhl54 with
    | zero =>
      intro x52 f53 hmhl54
      exact absurd hmhl54 (Nat.not_lt_zero _)
    | succ nhl54 ihhl54 =>
      intro x52 f53 hmhl54 hx52 hf53 H locs hP hD hS ls hl
      refine lv_iload_n hx hb dX7_nextRow_3 rfl (lv_at hl 0 rfl) ?_
      refine lv_if_lt (tgt := 62) hx hb dX7_nextRow_4 (by decide) (fun c_55 => ?_) (fun c_55 => ?_)
      · skip
        have i_55 : x52.toInt < 0 := (ilt rfl (by decide)).mp c_55
        refine lv_iconst (v := 0) hx hb dX7_nextRow_62 (by decide) ?_
        refine W.widen (k := 0) (n := 0) (by decide) (by decide) ?_
        exact W.zret (v := 0) hx hb hr (by decide) (fun t ht hW => ⟨⟨0, (), rfl, ⟨by decide, by decide⟩, ⟨f53, (xwk_rng hf53 (by decide) (by decide)), xB_of9 ht hW hP hK hD [0, 1, 2] (by decide +kernel) rfl⟩⟩, hS.F ht⟩) hS.2.2 dX7_nextRow_63
      · skip
        have i_55 : ¬ (x52.toInt < 0) := fun h9 => c_55 ((ilt rfl (by decide)).mpr h9)
        refine lv_iload_n hx hb dX7_nextRow_7 rfl (lv_at hl 2 rfl) ?_
        refine lv_iload_n hx hb dX7_nextRow_8 rfl (lv_at hl 0 rfl) ?_
        refine lv_ishr hx hb dX7_nextRow_9 ?_
        refine lv_topi (fun v56 ev56 => ?_)
        refine lv_iconst (v := 1) hx hb dX7_nextRow_10 (by decide) ?_
        refine lv_iand hx hb dX7_nextRow_11 ?_
        refine lv_topi (fun v57 ev57 => ?_)
        have rv57 : 0 ≤ v57.toInt ∧ v57.toInt ≤ 1 := xandL ev57 (show (1 : Int32).toInt = 1 from (by decide)) (by omega)
        refine lv_if_ne (tgt := 18) hx hb dX7_nextRow_12 (by decide) (fun c_58 => ?_) (fun c_58 => ?_)
        · skip
          have i_58 : ¬ (v57.toInt = 0) := fun h9 => c_58 ((ieq rfl (by decide)).mpr h9)
          refine lv_aload_n hx hb dX7_nextRow_18 rfl (lv_at hl 1 rfl) ?_
          refine va_get (D := D) (ci := 6) (v := .ref co) (C := RX7) (T := TX7) (N := 4) hx hb hts (fun w h => tbC w (tbfX7 w h)) hown hK hP 0 rfl rfl 0 (by decide) (hts (.fieldLink RX7 9 "PowerRails$Stagger" "course" "LPowerRails$Course;") (tbC _ wd176)) (fun _ h9 => h9) rfl dX7_nextRow_19 ?_
          refine va_get (D := D) (ci := 0) (v := .ref fwa) (C := RX0) (T := TX0) (N := 9) hx hb hts (fun w h => tbC w (tbfX0 w h)) hown hK hP 1 rfl rfl 0 (by decide) (hts (.fieldLink RX7 33 "PowerRails$Course" "waits" "[I") (tbC _ wd139)) (fun _ h9 => h9) rfl dX7_nextRow_22 ?_
          refine lv_iload_n hx hb dX7_nextRow_25 rfl (lv_at hl 0 rfl) ?_
          refine va_iald hx hb hK hP 2 0 rfl rfl (vp_in_iff.mpr ⟨by omega, by omega⟩) dX7_nextRow_26 ?_
          refine lv_topi (fun v59 ev59 => ?_)
          have rv59 : 0 ≤ v59.toInt ∧ v59.toInt ≤ 511 := xrd ev59 hf53 (xinK (vp_in_iff.mpr ⟨by omega, by omega⟩))
          refine lv_iconst (v := 3) hx hb dX7_nextRow_27 (by decide) ?_
          refine lv_icmp_ge (tgt := 46) hx hb dX7_nextRow_28 (by decide) (fun c_60 => ?_) (fun c_60 => ?_)
          · skip
            have i_60 : 3 ≤ v59.toInt := (ile (by decide) rfl).mp c_60
            refine lv_aload_n hx hb dX7_nextRow_46 rfl (lv_at hl 1 rfl) ?_
            refine va_get (D := D) (ci := 6) (v := .ref co) (C := RX7) (T := TX7) (N := 4) hx hb hts (fun w h => tbC w (tbfX7 w h)) hown hK hP 0 rfl rfl 0 (by decide) (hts (.fieldLink RX7 9 "PowerRails$Stagger" "course" "LPowerRails$Course;") (tbC _ wd176)) (fun _ h9 => h9) rfl dX7_nextRow_47 ?_
            refine va_get (D := D) (ci := 0) (v := .ref fwa) (C := RX0) (T := TX0) (N := 9) hx hb hts (fun w h => tbC w (tbfX0 w h)) hown hK hP 1 rfl rfl 0 (by decide) (hts (.fieldLink RX7 33 "PowerRails$Course" "waits" "[I") (tbC _ wd139)) (fun _ h9 => h9) rfl dX7_nextRow_50 ?_
            refine lv_iload_n hx hb dX7_nextRow_53 rfl (lv_at hl 0 rfl) ?_
            refine lv_iconst (v := 0) hx hb dX7_nextRow_54 (by decide) ?_
            refine va_iast hx hb hK hP hD hS 2 0 rfl rfl (vp_in_iff.mpr ⟨by omega, by omega⟩) dX7_nextRow_55 (fun H locs hP hD hS => ?_)
            obtain ⟨f61, ef61⟩ : ∃ fz9 : Nat → Int32, fz9 = upd f53 (x52 : Int32).toNatClampNeg 0 := ⟨_, rfl⟩
            have hP : va_P D vwCl [oX7 sg co srwa kn slast, oX0 co fwa fta fra fga cxa cup clast cpeak cptick, oAI fwa cI 8 f61] H := by rw [ef61]; exact hP
            have hD : va_D A [oX7 sg co srwa kn slast, oX0 co fwa fta fra fga cxa cup clast cpeak cptick, oAI fwa cI 8 f61] := by rw [ef61]; exact hD
            have rf61 : ∀ j, j < 8 → 0 ≤ (f61 j).toInt ∧ (f61 j).toInt ≤ 511 := by rw [ef61]; exact xup_rng (xwk_rng hf53 (by decide) (by decide)) ⟨by decide, by decide⟩
            obtain ⟨x62, ex62⟩ : ∃ y : Int32, y = x52 + (-1) := ⟨_, rfl⟩
            have tx62 : x62.toInt = (x52.toInt + (-1)) := (congrArg Int32.toInt ex62).trans (xadd rfl (by decide) (by omega) (by omega))
            refine lv_iinc (v := x62) (lv' := [(2, .int x62), (0, .ref sg), (1, .int s0)]) hx hb dX7_nextRow_56 hl (k := 0) rfl (by rw [ex62]; rfl) (by decide) rfl (fun ls hl => ?_)
            refine lv_goto (tgt := 3) hx hb dX7_nextRow_59 (by decide) ?_
            exact ihhl54 x62 f61 (by omega) (xrng tx62 (by omega) (by omega)) (xwk_rng rf61 (by decide) (by decide)) _ _ hP hD hS ls (lv_sub hl [0, 1, 2] rfl)
          · skip
            have i_60 : ¬ (3 ≤ v59.toInt) := fun h9 => c_60 ((ile (by decide) rfl).mpr h9)
            refine lv_aload_n hx hb dX7_nextRow_31 rfl (lv_at hl 1 rfl) ?_
            refine va_get (D := D) (ci := 6) (v := .ref co) (C := RX7) (T := TX7) (N := 4) hx hb hts (fun w h => tbC w (tbfX7 w h)) hown hK hP 0 rfl rfl 0 (by decide) (hts (.fieldLink RX7 9 "PowerRails$Stagger" "course" "LPowerRails$Course;") (tbC _ wd176)) (fun _ h9 => h9) rfl dX7_nextRow_32 ?_
            refine va_get (D := D) (ci := 0) (v := .ref fwa) (C := RX0) (T := TX0) (N := 9) hx hb hts (fun w h => tbC w (tbfX0 w h)) hown hK hP 1 rfl rfl 0 (by decide) (hts (.fieldLink RX7 33 "PowerRails$Course" "waits" "[I") (tbC _ wd139)) (fun _ h9 => h9) rfl dX7_nextRow_35 ?_
            refine lv_iload_n hx hb dX7_nextRow_38 rfl (lv_at hl 0 rfl) ?_
            refine lv_dup2_11 hx hb dX7_nextRow_39 rfl rfl ?_
            refine va_iald hx hb hK hP 2 0 rfl rfl (vp_in_iff.mpr ⟨by omega, by omega⟩) dX7_nextRow_40 ?_
            refine lv_topi (fun v63 ev63 => ?_)
            have rv63 : 0 ≤ v63.toInt ∧ v63.toInt ≤ 511 := xrd ev63 hf53 (xinK (vp_in_iff.mpr ⟨by omega, by omega⟩))
            have qv63 : v63.toInt = v59.toInt := by rw [ev63, ev59]
            refine lv_iconst (v := 1) hx hb dX7_nextRow_41 (by decide) ?_
            refine lv_iadd hx hb dX7_nextRow_42 ?_
            refine lv_topi (fun v64 ev64 => ?_)
            have tv64 : v64.toInt = (v59.toInt + 1) := (congrArg Int32.toInt ev64).trans (xadd qv63 (by decide) (by omega) (by omega))
            refine va_iast hx hb hK hP hD hS 2 0 rfl rfl (vp_in_iff.mpr ⟨by omega, by omega⟩) dX7_nextRow_43 (fun H locs hP hD hS => ?_)
            obtain ⟨f65, ef65⟩ : ∃ fz9 : Nat → Int32, fz9 = upd f53 (x52 : Int32).toNatClampNeg v64 := ⟨_, rfl⟩
            have hP : va_P D vwCl [oX7 sg co srwa kn slast, oX0 co fwa fta fra fga cxa cup clast cpeak cptick, oAI fwa cI 8 f65] H := by rw [ef65]; exact hP
            have hD : va_D A [oX7 sg co srwa kn slast, oX0 co fwa fta fra fga cxa cup clast cpeak cptick, oAI fwa cI 8 f65] := by rw [ef65]; exact hD
            have rf65 : ∀ j, j < 8 → 0 ≤ (f65 j).toInt ∧ (f65 j).toInt ≤ 511 := by rw [ef65]; exact xup_rng (xwk_rng hf53 (by decide) (by decide)) (xrng tv64 (by omega) (by omega))
            refine lv_iconst (v := 1) hx hb dX7_nextRow_44 (by decide) ?_
            refine W.widen (k := 0) (n := 0) (by decide) (by decide) ?_
            exact W.zret (v := 1) hx hb hr (by decide) (fun t ht hW => ⟨⟨1, (), rfl, ⟨by decide, by decide⟩, ⟨f65, (xwk_rng rf65 (by decide) (by decide)), xB_of9 ht hW hP hK hD [0, 1, 2] (by decide +kernel) rfl⟩⟩, hS.F ht⟩) hS.2.2 dX7_nextRow_45
        · skip
          have i_58 : v57.toInt = 0 := (ieq rfl (by decide)).mp c_58
          refine lv_goto (tgt := 56) hx hb dX7_nextRow_15 (by decide) ?_
          obtain ⟨x66, ex66⟩ : ∃ y : Int32, y = x52 + (-1) := ⟨_, rfl⟩
          have tx66 : x66.toInt = (x52.toInt + (-1)) := (congrArg Int32.toInt ex66).trans (xadd rfl (by decide) (by omega) (by omega))
          refine lv_iinc (v := x66) (lv' := [(2, .int x66), (0, .ref sg), (1, .int s0)]) hx hb dX7_nextRow_56 hl (k := 0) rfl (by rw [ex66]; rfl) (by decide) rfl (fun ls hl => ?_)
          refine lv_goto (tgt := 3) hx hb dX7_nextRow_59 (by decide) ?_
          exact ihhl54 x66 f53 (by omega) (xrng tx66 (by omega) (by omega)) (xwk_rng hf53 (by decide) (by decide)) _ _ hP hD hS ls (lv_sub hl [0, 1, 2] rfl)
  exact hl54 _ 7 fw (Nat.lt_succ_self _) ⟨by decide, by decide⟩ (xwk_rng h_fw (by decide) (by decide)) _ _ hP hD hS ls (lv_sub hl [0, 1, 2] rfl)
abbrev W_keepIf (cI cJ cZ cG cH : ClassId) (sg : Nat) (pl : Nat) (co : Nat) (srwa : Nat) (kn : Int32) (slast : Int32) (srow : Nat → Int32) (fwa : Nat) (fta : Nat) (fra : Nat) (fga : Nat) (cxa : Nat) (cup : Int32) (clast : Int32) (cpeak : Int32) (cptick : Int32) (fw : Nat → Int32) (fr : Nat → Int32) (fg : Nat → Int32) (cx : Nat → Int32) (pna : Nat) (pta : Nat) (rails : Int32) (limit : Int32) (retry : Int32) (behind : Int32) (pn : Nat → Int32) : va_W := [oX7 sg co srwa kn slast, oAI srwa cI 8 srow, oX0 co fwa fta fra fga cxa cup clast cpeak cptick, oAI fwa cI 8 fw, oAI fra cI 8 fr, oAI fga cI 8 fg, oAI cxa cI 145 cx, oX3 pl pna pta rails limit retry behind, oAI pna cI 64 pn]
abbrev Q_keepIf (D : va_G) (cI cJ cZ cG cH : ClassId) (sg : Nat) (pl : Nat) (co : Nat) (srwa : Nat) (kn : Int32) (slast : Int32) (srow : Nat → Int32) (fwa : Nat) (fta : Nat) (fra : Nat) (fga : Nat) (cxa : Nat) (cup : Int32) (clast : Int32) (cpeak : Int32) (cptick : Int32) (fw : Nat → Int32) (fr : Nat → Int32) (fg : Nat → Int32) (cx : Nat → Int32) (pna : Nat) (pta : Nat) (rails : Int32) (limit : Int32) (retry : Int32) (behind : Int32) (pn : Nat → Int32) (A : Nat → Prop) : Array Value → State → Outcome → State → Prop := va_Qv (fun (_ : Unit) => True) (fun _ t => ∃ (slast9 : Int32) (srow9 : Nat → Int32) (cpeak9 : Int32) (cptick9 : Int32) (cx9 : Nat → Int32), (∀ j, j < 8 → 0 ≤ (srow9 j).toInt ∧ (srow9 j).toInt ≤ 511) ∧ ((-4) ≤ cptick9.toInt ∧ cptick9.toInt ≤ 144) ∧ xB D (tyL cI cJ cZ cG cH) [oX7 sg co srwa kn slast9, oAI srwa cI 8 srow9, oX0 co fwa fta fra fga cxa cup clast cpeak9 cptick9, oAI fwa cI 8 fw, oAI fra cI 8 fr, oAI fga cI 8 fg, oAI cxa cI 145 cx9, oX3 pl pna pta rails limit retry behind, oAI pna cI 64 pn] A t) A
abbrev rm_keepIf : Room := { frames := 2, cells := 0, slots := 0, locals := 45 }
set_option maxRecDepth 100000 in
set_option maxHeartbeats 40000000 in
theorem c_keepIf (l : Launch) (D : va_G) (cI cJ cZ cG cH : ClassId) (sz : Nat) (sg : Nat) (pl : Nat) (co : Nat) (srwa : Nat) (kn : Int32) (slast : Int32) (srow : Nat → Int32) (fwa : Nat) (fta : Nat) (fra : Nat) (fga : Nat) (cxa : Nat) (cup : Int32) (clast : Int32) (cpeak : Int32) (cptick : Int32) (fw : Nat → Int32) (fr : Nat → Int32) (fg : Nat → Int32) (cx : Nat → Int32) (pna : Nat) (pta : Nat) (rails : Int32) (limit : Int32) (retry : Int32) (behind : Int32) (pn : Nat → Int32) (h_kn : 0 ≤ kn.toInt ∧ kn.toInt ≤ 1) (h_srow : ∀ j, j < 8 → 0 ≤ (srow j).toInt ∧ (srow j).toInt ≤ 511) (h_clast : 0 ≤ clast.toInt ∧ clast.toInt ≤ 144) (h_fw : ∀ j, j < 8 → 0 ≤ (fw j).toInt ∧ (fw j).toInt ≤ 511) (h_fr : ∀ j, j < 8 → 0 ≤ (fr j).toInt ∧ (fr j).toInt ≤ 655) (h_fg : ∀ j, j < 8 → 0 ≤ (fg j).toInt ∧ (fg j).toInt ≤ 1166) (h_rails : 0 ≤ rails.toInt ∧ rails.toInt ≤ 8) (h_pn : ∀ j, j < 64 → 0 ≤ (pn j).toInt ∧ (pn j).toInt ≤ 511) (h_le : ∀ j, j < 8 → (fr j).toInt ≤ (fg j).toInt) : Met l yX7_keepIfBelowLimit (wt yX7_keepIfBelowLimit cX7_keepIfBelowLimit 2 none) rm_keepIf (xPc [.ref sg, .ref pl] D (tyL cI cJ cZ cG cH) (W_keepIf cI cJ cZ cG cH sg pl co srwa kn slast srow fwa fta fra fga cxa cup clast cpeak cptick fw fr fg cx pna pta rails limit retry behind pn) sz) (Q_keepIf D cI cJ cZ cG cH sg pl co srwa kn slast srow fwa fta fra fga cxa cup clast cpeak cptick fw fr fg cx pna pta rails limit retry behind pn (va_A (W_keepIf cI cJ cZ cG cH sg pl co srwa kn slast srow fwa fta fra fga cxa cup clast cpeak cptick fw fr fg cx pna pta rails limit retry behind pn) sz)) 0 0 (va_A (W_keepIf cI cJ cZ cG cH sg pl co srwa kn slast srow fwa fta fra fga cxa cup clast cpeak cptick fw fr fg cx pna pta rails limit retry behind pn) sz) := by
  refine xMet (cc := cX7_keepIfBelowLimit) (maxL := 2) (ret := none) (Qf := Q_keepIf D cI cJ cZ cG cH sg pl co srwa kn slast srow fwa fta fra fga cxa cup clast cpeak cptick fw fr fg cx pna pta rails limit retry behind pn) (by decide) rfl (Nat.le_of_ble_eq_true rfl) ?_
  intro p e s m below meth c ls A hx hb hr hml hts hown hlocks hnm hsz hP hK hD hA hS hl
  have hown : s.vm.findClass RX7 = some m.cls := hown
  have hP : va_P D vwCl [oX7 sg co srwa kn slast, oAI srwa cI 8 srow, oX0 co fwa fta fra fga cxa cup clast cpeak cptick, oAI fwa cI 8 fw, oAI fra cI 8 fr, oAI fga cI 8 fg, oAI cxa cI 145 cx, oX3 pl pna pta rails limit retry behind, oAI pna cI 64 pn] s.heap := hP
  have hD : va_D A [oX7 sg co srwa kn slast, oAI srwa cI 8 srow, oX0 co fwa fta fra fga cxa cup clast cpeak cptick, oAI fwa cI 8 fw, oAI fra cI 8 fr, oAI fga cI 8 fg, oAI cxa cI 145 cx, oX3 pl pna pta rails limit retry behind, oAI pna cI 64 pn] := hD
  have hl : lv_has ls 2 [(0, .ref sg), (1, .ref pl)] := hl
  refine lv_aload_n hx hb dX7_keepIfBelowLimit_0 rfl (lv_at hl 0 rfl) ?_
  refine va_get (D := D) (ci := 6) (v := .ref co) (C := RX7) (T := TX7) (N := 4) hx hb hts (fun w h => tbC w (tbfX7 w h)) hown hK hP 0 rfl rfl 0 (by decide) (hts (.fieldLink RX7 9 "PowerRails$Stagger" "course" "LPowerRails$Course;") (tbC _ wd176)) (fun _ h9 => h9) rfl dX7_keepIfBelowLimit_1 ?_
  refine lv_aload_n hx hb dX7_keepIfBelowLimit_4 rfl (lv_at hl 1 rfl) ?_
  obtain ⟨hPc, hDc, hFc, hC9⟩ := xpk (wc := W_findPeak cI cJ cZ cG cH co pl fwa fta fra fga cxa cup clast cpeak cptick fr fg cx pna pta rails limit retry behind pn) hP hD hS hA [2, 4, 5, 6, 7, 8] (by decide +kernel) rfl
  refine va_callv (va_runV (As := [.ref pl]) (rest := []) ⟨hx, hb, hml, hown, hts⟩ (c_findPeak l D cI cJ cZ cG cH s.heap.size co pl fwa fta fra fga cxa cup clast cpeak cptick fr fg cx pna pta rails limit retry behind pn (xrng rfl (by omega) (by omega)) (xwk_rng h_fr (by decide) (by decide)) (xwk_rng h_fg (by decide) (by decide)) (xrng rfl (by omega) (by omega)) (xwk_rng h_pn (by decide) (by decide)) h_le) (cwV 1 hts (xGV tbC wd598 wd582 wd583 wd54 wd1062) rfl rfl rfl (by decide +kernel) ⟨Nat.le_of_ble_eq_true rfl, Nat.le_of_ble_eq_true rfl⟩) ⟨xPc_blind, va_recv hK hPc (ci := 0) (q0 := 0) rfl rfl, xPc_pre hPc hK hDc⟩ rfl rfl hl.1 rfl (lv_room (Nat.le_of_ble_eq_true rfl)) dX7_keepIfBelowLimit_5 ⟨Nat.le_of_ble_eq_true rfl, Nat.le_of_ble_eq_true rfl⟩) hS (fun q _ h => hFc q h) hFc (fun u t H1 locs ht hvm hw1 hB hz1 hk1 hS => ?_)
  obtain ⟨cpeak_2, cptick_3, cx_4, hf4_0, hP1, hK1, hD1⟩ := hB
  rw [ht] at hP1
  obtain ⟨hP, hD⟩ : xPD D A [oX7 sg co srwa kn slast, oAI srwa cI 8 srow, oAI fwa cI 8 fw, oX0 co fwa fta fra fga cxa cup clast cpeak_2 cptick_3, oAI fra cI 8 fr, oAI fga cI 8 fg, oAI cxa cI 145 cx_4, oX3 pl pna pta rails limit retry behind, oAI pna cI 64 pn] H1 := xjn 3 hP hD [2, 4, 5, 6, 7, 8] [0, 1, 3] hC9 rfl (by decide +kernel) (by decide +kernel) hk1 hFc hP1 hD1
  generalize H1 = H at hP hS ⊢
  have hf4_0 : (-4) ≤ cptick_3.toInt ∧ cptick_3.toInt ≤ 144 := hf4_0
  refine lv_aload_n hx hb dX7_keepIfBelowLimit_8 rfl (lv_at hl 0 rfl) ?_
  refine va_get (D := D) (ci := 6) (v := .ref co) (C := RX7) (T := TX7) (N := 4) hx hb hts (fun w h => tbC w (tbfX7 w h)) hown hK hP 0 rfl rfl 0 (by decide) (hts (.fieldLink RX7 9 "PowerRails$Stagger" "course" "LPowerRails$Course;") (tbC _ wd176)) (fun _ h9 => h9) rfl dX7_keepIfBelowLimit_9 ?_
  refine va_get (D := D) (ci := 0) (v := .int cpeak_2) (C := RX0) (T := TX0) (N := 9) hx hb hts (fun w h => tbC w (tbfX0 w h)) hown hK hP 3 rfl rfl 7 (by decide) (hts (.fieldLink RX7 61 "PowerRails$Course" "peak" "I") (tbC _ wd151)) (fun _ h9 => h9) rfl dX7_keepIfBelowLimit_12 ?_
  refine lv_aload_n hx hb dX7_keepIfBelowLimit_15 rfl (lv_at hl 1 rfl) ?_
  refine va_get (D := D) (ci := 2) (v := .int limit) (C := RX3) (T := TX3) (N := 6) hx hb hts (fun w h => tbC w (tbfX3 w h)) hown hK hP 7 rfl rfl 3 (by decide) (hts (.fieldLink RX7 64 "PowerRails$Plan" "limit" "I") (tbC _ wd213)) (fun _ h9 => h9) rfl dX7_keepIfBelowLimit_16 ?_
  refine lv_icmp_gt (tgt := 51) hx hb dX7_keepIfBelowLimit_19 (by decide) (fun c_5 => ?_) (fun c_5 => ?_)
  · skip
    have i_5 : limit.toInt < cpeak_2.toInt := (ilt rfl rfl).mp c_5
    refine W.widen (k := 0) (n := 0) (by decide) (by decide) ?_
    exact W.vret hx hb hr (fun t ht hW => ⟨⟨(), rfl, trivial, ⟨slast, srow, cpeak_2, cptick_3, cx_4, (xwk_rng h_srow (by decide) (by decide)), (xrng rfl (by omega) (by omega)), xB_of9 ht hW hP hK hD [0, 1, 3, 2, 4, 5, 6, 7, 8] (by decide +kernel) rfl⟩⟩, hS.F ht⟩) hS.2.2 dX7_keepIfBelowLimit_51
  · skip
    have i_5 : ¬ (limit.toInt < cpeak_2.toInt) := fun h9 => c_5 ((ilt rfl rfl).mpr h9)
    refine lv_aload_n hx hb dX7_keepIfBelowLimit_22 rfl (lv_at hl 0 rfl) ?_
    refine lv_aload_n hx hb dX7_keepIfBelowLimit_23 rfl (lv_at hl 0 rfl) ?_
    refine va_get (D := D) (ci := 6) (v := .ref co) (C := RX7) (T := TX7) (N := 4) hx hb hts (fun w h => tbC w (tbfX7 w h)) hown hK hP 0 rfl rfl 0 (by decide) (hts (.fieldLink RX7 9 "PowerRails$Stagger" "course" "LPowerRails$Course;") (tbC _ wd176)) (fun _ h9 => h9) rfl dX7_keepIfBelowLimit_24 ?_
    refine va_get (D := D) (ci := 0) (v := .int clast) (C := RX0) (T := TX0) (N := 9) hx hb hts (fun w h => tbC w (tbfX0 w h)) hown hK hP 3 rfl rfl 6 (by decide) (hts (.fieldLink RX7 49 "PowerRails$Course" "last" "I") (tbC _ wd149)) (fun _ h9 => h9) rfl dX7_keepIfBelowLimit_27 ?_
    refine va_put (D := D) (ci := 6) (v := .int clast) (ty := .int) (C := RX7) (T := TX7) (N := 4) hx hb hts (fun w h => tbC w (tbfX7 w h)) tyX7 tyX7_ok nmX7 hown hK hP hD hS 0 rfl rfl 3 (by decide) (hts (.fieldLink RX7 23 "PowerRails$Stagger" "last" "I") (tbC _ wd181)) (fun _ h9 => h9) rfl (by decide +kernel) rfl rfl (Nat.le_of_ble_eq_true rfl) dX7_keepIfBelowLimit_30 (fun H locs hP hD hS => ?_)
    obtain ⟨hP, hD⟩ : xPD D A [oX7 sg co srwa kn clast, oAI srwa cI 8 srow, oAI fwa cI 8 fw, oX0 co fwa fta fra fga cxa cup clast cpeak_2 cptick_3, oAI fra cI 8 fr, oAI fga cI 8 fg, oAI cxa cI 145 cx_4, oX3 pl pna pta rails limit retry behind, oAI pna cI 64 pn] H := ⟨hP, hD⟩
    refine lv_aload_n hx hb dX7_keepIfBelowLimit_33 rfl (lv_at hl 0 rfl) ?_
    refine va_get (D := D) (ci := 6) (v := .ref co) (C := RX7) (T := TX7) (N := 4) hx hb hts (fun w h => tbC w (tbfX7 w h)) hown hK hP 0 rfl rfl 0 (by decide) (hts (.fieldLink RX7 9 "PowerRails$Stagger" "course" "LPowerRails$Course;") (tbC _ wd176)) (fun _ h9 => h9) rfl dX7_keepIfBelowLimit_34 ?_
    refine va_get (D := D) (ci := 0) (v := .ref fwa) (C := RX0) (T := TX0) (N := 9) hx hb hts (fun w h => tbC w (tbfX0 w h)) hown hK hP 3 rfl rfl 0 (by decide) (hts (.fieldLink RX7 33 "PowerRails$Course" "waits" "[I") (tbC _ wd139)) (fun _ h9 => h9) rfl dX7_keepIfBelowLimit_37 ?_
    refine lv_iconst (v := 0) hx hb dX7_keepIfBelowLimit_40 (by decide) ?_
    refine lv_aload_n hx hb dX7_keepIfBelowLimit_41 rfl (lv_at hl 0 rfl) ?_
    refine va_get (D := D) (ci := 6) (v := .ref srwa) (C := RX7) (T := TX7) (N := 4) hx hb hts (fun w h => tbC w (tbfX7 w h)) hown hK hP 0 rfl rfl 1 (by decide) (hts (.fieldLink RX7 15 "PowerRails$Stagger" "row" "[I") (tbC _ wd177)) (fun _ h9 => h9) rfl dX7_keepIfBelowLimit_42 ?_
    refine lv_iconst (v := 0) hx hb dX7_keepIfBelowLimit_45 (by decide) ?_
    refine lv_bipush (v := 8) hx hb dX7_keepIfBelowLimit_46 (by decide) ?_
    refine va_copyi hx hb (hml.trans hl.1.symm) hown (hts (.methodLink RX7 69 arraycopyName) (tbC _ wd599)) (hts (.native arraycopyName) (tbC _ wd382)) (hts (.static arraycopyName) (tbC _ wd381)) (hts (.initialized "java/lang/System") (tbC _ wd66)) hK hP hD hS 2 1 0 0 rfl rfl rfl rfl rfl (by decide) (by decide) (by decide) (by decide) (by decide) (fun _ _ => rfl) (Nat.le_of_ble_eq_true rfl) (Nat.le_of_ble_eq_true rfl) dX7_keepIfBelowLimit_48 (fun H locs hP hD hS => ?_)
    obtain ⟨f6, ef6⟩ : ∃ fz9 : Nat → Int32, fz9 = va_cpy fw srow (0 : Int32).toNatClampNeg (0 : Int32).toNatClampNeg (8 : Int32).toNatClampNeg := ⟨_, rfl⟩
    have hP : va_P D vwCl [oX7 sg co srwa kn clast, oAI srwa cI 8 f6, oAI fwa cI 8 fw, oX0 co fwa fta fra fga cxa cup clast cpeak_2 cptick_3, oAI fra cI 8 fr, oAI fga cI 8 fg, oAI cxa cI 145 cx_4, oX3 pl pna pta rails limit retry behind, oAI pna cI 64 pn] H := by rw [ef6]; exact hP
    have hD : va_D A [oX7 sg co srwa kn clast, oAI srwa cI 8 f6, oAI fwa cI 8 fw, oX0 co fwa fta fra fga cxa cup clast cpeak_2 cptick_3, oAI fra cI 8 fr, oAI fga cI 8 fg, oAI cxa cI 145 cx_4, oX3 pl pna pta rails limit retry behind, oAI pna cI 64 pn] := by rw [ef6]; exact hD
    have rf6 : ∀ j, j < 8 → 0 ≤ (f6 j).toInt ∧ (f6 j).toInt ≤ 511 := by rw [ef6]; exact xcp_rng (xwk_rng h_fw (by decide) (by decide)) (xwk_rng h_srow (by decide) (by decide)) (by decide)
    refine W.widen (k := 0) (n := 0) (by decide) (by decide) ?_
    exact W.vret hx hb hr (fun t ht hW => ⟨⟨(), rfl, trivial, ⟨clast, f6, cpeak_2, cptick_3, cx_4, (xwk_rng rf6 (by decide) (by decide)), (xrng rfl (by omega) (by omega)), xB_of9 ht hW hP hK hD [0, 1, 3, 2, 4, 5, 6, 7, 8] (by decide +kernel) rfl⟩⟩, hS.F ht⟩) hS.2.2 dX7_keepIfBelowLimit_51
abbrev W_findRow (cI cJ cZ cG cH : ClassId) (sg : Nat) (pl : Nat) (s0 : Int32) (rta : Nat) (co : Nat) (srwa : Nat) (kn : Int32) (slast : Int32) (srow : Nat → Int32) (fwa : Nat) (fta : Nat) (fra : Nat) (fga : Nat) (cxa : Nat) (cup : Int32) (clast : Int32) (cpeak : Int32) (cptick : Int32) (fw : Nat → Int32) (ft : Nat → Int32) (fr : Nat → Int32) (fg : Nat → Int32) (cx : Nat → Int32) (pna : Nat) (pta : Nat) (rails : Int32) (limit : Int32) (retry : Int32) (behind : Int32) (pn : Nat → Int32) (pt : Nat → Int64) (rt : Nat → Int32) : va_W := [oX7 sg co srwa kn slast, oAI srwa cI 8 srow, oX0 co fwa fta fra fga cxa cup clast cpeak cptick, oAI fwa cI 8 fw, oAI fta cI 8 ft, oAI fra cI 8 fr, oAI fga cI 8 fg, oAI cxa cI 145 cx, oX3 pl pna pta rails limit retry behind, oAI pna cI 64 pn, oAJ pta cJ 64 pt, oAI rta cI 8 rt]
abbrev Q_findRow (D : va_G) (cI cJ cZ cG cH : ClassId) (sg : Nat) (pl : Nat) (s0 : Int32) (rta : Nat) (co : Nat) (srwa : Nat) (kn : Int32) (slast : Int32) (srow : Nat → Int32) (fwa : Nat) (fta : Nat) (fra : Nat) (fga : Nat) (cxa : Nat) (cup : Int32) (clast : Int32) (cpeak : Int32) (cptick : Int32) (fw : Nat → Int32) (ft : Nat → Int32) (fr : Nat → Int32) (fg : Nat → Int32) (cx : Nat → Int32) (pna : Nat) (pta : Nat) (rails : Int32) (limit : Int32) (retry : Int32) (behind : Int32) (pn : Nat → Int32) (pt : Nat → Int64) (rt : Nat → Int32) (A : Nat → Prop) : Array Value → State → Outcome → State → Prop := va_Qv (fun (_ : Unit) => True) (fun _ t => ∃ (kn9 : Int32) (slast9 : Int32) (srow9 : Nat → Int32) (cup9 : Int32) (clast9 : Int32) (cpeak9 : Int32) (cptick9 : Int32) (fw9 : Nat → Int32) (ft9 : Nat → Int32) (fr9 : Nat → Int32) (fg9 : Nat → Int32) (cx9 : Nat → Int32), (0 ≤ kn9.toInt ∧ kn9.toInt ≤ 1) ∧ (∀ j, j < 8 → 0 ≤ (srow9 j).toInt ∧ (srow9 j).toInt ≤ 511) ∧ (0 ≤ clast9.toInt ∧ clast9.toInt ≤ 144) ∧ (∀ j, j < 8 → 0 ≤ (fw9 j).toInt ∧ (fw9 j).toInt ≤ 511) ∧ (∀ j, j < 8 → 0 ≤ (ft9 j).toInt ∧ (ft9 j).toInt ≤ 511) ∧ (∀ j, j < 8 → 0 ≤ (fr9 j).toInt ∧ (fr9 j).toInt ≤ 655) ∧ (∀ j, j < 8 → 0 ≤ (fg9 j).toInt ∧ (fg9 j).toInt ≤ 1166) ∧ (∀ j, j < 8 → (fr9 j).toInt ≤ (fg9 j).toInt) ∧ xB D (tyL cI cJ cZ cG cH) [oX7 sg co srwa kn9 slast9, oAI srwa cI 8 srow9, oX0 co fwa fta fra fga cxa cup9 clast9 cpeak9 cptick9, oAI fwa cI 8 fw9, oAI fta cI 8 ft9, oAI fra cI 8 fr9, oAI fga cI 8 fg9, oAI cxa cI 145 cx9, oX3 pl pna pta rails limit retry behind, oAI pna cI 64 pn, oAJ pta cJ 64 pt, oAI rta cI 8 rt] A t) A
abbrev rm_findRow : Room := { frames := 3, cells := 0, slots := 0, locals := 72 }
set_option maxRecDepth 100000 in
set_option maxHeartbeats 40000000 in
theorem c_findRow (l : Launch) (D : va_G) (cI cJ cZ cG cH : ClassId) (sz : Nat) (sg : Nat) (pl : Nat) (s0 : Int32) (rta : Nat) (co : Nat) (srwa : Nat) (kn : Int32) (slast : Int32) (srow : Nat → Int32) (fwa : Nat) (fta : Nat) (fra : Nat) (fga : Nat) (cxa : Nat) (cup : Int32) (clast : Int32) (cpeak : Int32) (cptick : Int32) (fw : Nat → Int32) (ft : Nat → Int32) (fr : Nat → Int32) (fg : Nat → Int32) (cx : Nat → Int32) (pna : Nat) (pta : Nat) (rails : Int32) (limit : Int32) (retry : Int32) (behind : Int32) (pn : Nat → Int32) (pt : Nat → Int64) (rt : Nat → Int32) (h_kn : 0 ≤ kn.toInt ∧ kn.toInt ≤ 1) (h_srow : ∀ j, j < 8 → 0 ≤ (srow j).toInt ∧ (srow j).toInt ≤ 511) (h_clast : 0 ≤ clast.toInt ∧ clast.toInt ≤ 144) (h_fw : ∀ j, j < 8 → 0 ≤ (fw j).toInt ∧ (fw j).toInt ≤ 511) (h_ft : ∀ j, j < 8 → 0 ≤ (ft j).toInt ∧ (ft j).toInt ≤ 511) (h_fr : ∀ j, j < 8 → 0 ≤ (fr j).toInt ∧ (fr j).toInt ≤ 655) (h_fg : ∀ j, j < 8 → 0 ≤ (fg j).toInt ∧ (fg j).toInt ≤ 1166) (h_rails : 0 ≤ rails.toInt ∧ rails.toInt ≤ 8) (h_pn : ∀ j, j < 64 → 0 ≤ (pn j).toInt ∧ (pn j).toInt ≤ 511) (h_rt : ∀ j, j < 8 → 0 ≤ (rt j).toInt ∧ (rt j).toInt ≤ 511) (h_le : ∀ j, j < 8 → (fr j).toInt ≤ (fg j).toInt) : Met l yX7_findRow (wt yX7_findRow cX7_findRow 8 none) rm_findRow (xPc [.ref sg, .ref pl, .int s0, .ref rta] D (tyL cI cJ cZ cG cH) (W_findRow cI cJ cZ cG cH sg pl s0 rta co srwa kn slast srow fwa fta fra fga cxa cup clast cpeak cptick fw ft fr fg cx pna pta rails limit retry behind pn pt rt) sz) (Q_findRow D cI cJ cZ cG cH sg pl s0 rta co srwa kn slast srow fwa fta fra fga cxa cup clast cpeak cptick fw ft fr fg cx pna pta rails limit retry behind pn pt rt (va_A (W_findRow cI cJ cZ cG cH sg pl s0 rta co srwa kn slast srow fwa fta fra fga cxa cup clast cpeak cptick fw ft fr fg cx pna pta rails limit retry behind pn pt rt) sz)) 0 0 (va_A (W_findRow cI cJ cZ cG cH sg pl s0 rta co srwa kn slast srow fwa fta fra fga cxa cup clast cpeak cptick fw ft fr fg cx pna pta rails limit retry behind pn pt rt) sz) := by
  refine xMet (cc := cX7_findRow) (maxL := 8) (ret := none) (Qf := Q_findRow D cI cJ cZ cG cH sg pl s0 rta co srwa kn slast srow fwa fta fra fga cxa cup clast cpeak cptick fw ft fr fg cx pna pta rails limit retry behind pn pt rt) (by decide) rfl (Nat.le_of_ble_eq_true rfl) ?_
  intro p e s m below meth c ls A hx hb hr hml hts hown hlocks hnm hsz hP hK hD hA hS hl
  have hown : s.vm.findClass RX7 = some m.cls := hown
  have hP : va_P D vwCl [oX7 sg co srwa kn slast, oAI srwa cI 8 srow, oX0 co fwa fta fra fga cxa cup clast cpeak cptick, oAI fwa cI 8 fw, oAI fta cI 8 ft, oAI fra cI 8 fr, oAI fga cI 8 fg, oAI cxa cI 145 cx, oX3 pl pna pta rails limit retry behind, oAI pna cI 64 pn, oAJ pta cJ 64 pt, oAI rta cI 8 rt] s.heap := hP
  have hD : va_D A [oX7 sg co srwa kn slast, oAI srwa cI 8 srow, oX0 co fwa fta fra fga cxa cup clast cpeak cptick, oAI fwa cI 8 fw, oAI fta cI 8 ft, oAI fra cI 8 fr, oAI fga cI 8 fg, oAI cxa cI 145 cx, oX3 pl pna pta rails limit retry behind, oAI pna cI 64 pn, oAJ pta cJ 64 pt, oAI rta cI 8 rt] := hD
  have hl : lv_has ls 8 [(0, .ref sg), (1, .ref pl), (2, .int s0), (3, .ref rta)] := hl
  refine lv_aload_n hx hb dX7_findRow_0 rfl (lv_at hl 0 rfl) ?_
  refine va_get (D := D) (ci := 6) (v := .int kn) (C := RX7) (T := TX7) (N := 4) hx hb hts (fun w h => tbC w (tbfX7 w h)) hown hK hP 0 rfl rfl 2 (by decide) (hts (.fieldLink RX7 19 "PowerRails$Stagger" "known" "Z") (tbC _ wd179)) (fun _ h9 => h9) rfl dX7_findRow_1 ?_
  refine lv_if_eq (tgt := 8) hx hb dX7_findRow_4 (by decide) (fun c_1 => ?_) (fun c_1 => ?_)
  · skip
    have i_1 : kn.toInt = 0 := (ieq rfl (by decide)).mp c_1
    refine lv_aload_n hx hb dX7_findRow_8 rfl (lv_at hl 0 rfl) ?_
    refine lv_iconst (v := 1) hx hb dX7_findRow_9 (by decide) ?_
    refine va_put (D := D) (ci := 6) (v := .int 1) (ty := .boolean) (C := RX7) (T := TX7) (N := 4) hx hb hts (fun w h => tbC w (tbfX7 w h)) tyX7 tyX7_ok nmX7 hown hK hP hD hS 0 rfl rfl 2 (by decide) (hts (.fieldLink RX7 19 "PowerRails$Stagger" "known" "Z") (tbC _ wd179)) (fun _ h9 => h9) rfl (by decide +kernel) (by decide) rfl (Nat.le_of_ble_eq_true rfl) dX7_findRow_10 (fun H locs hP hD hS => ?_)
    obtain ⟨hP, hD⟩ : xPD D A [oX7 sg co srwa 1 slast, oAI srwa cI 8 srow, oX0 co fwa fta fra fga cxa cup clast cpeak cptick, oAI fwa cI 8 fw, oAI fta cI 8 ft, oAI fra cI 8 fr, oAI fga cI 8 fg, oAI cxa cI 145 cx, oX3 pl pna pta rails limit retry behind, oAI pna cI 64 pn, oAJ pta cJ 64 pt, oAI rta cI 8 rt] H := ⟨hP, hD⟩
    refine lv_aload_n hx hb dX7_findRow_13 rfl (lv_at hl 0 rfl) ?_
    refine lv_bipush (v := (-4)) hx hb dX7_findRow_14 (by decide) ?_
    refine va_put (D := D) (ci := 6) (v := .int (-4)) (ty := .int) (C := RX7) (T := TX7) (N := 4) hx hb hts (fun w h => tbC w (tbfX7 w h)) tyX7 tyX7_ok nmX7 hown hK hP hD hS 0 rfl rfl 3 (by decide) (hts (.fieldLink RX7 23 "PowerRails$Stagger" "last" "I") (tbC _ wd181)) (fun _ h9 => h9) rfl (by decide +kernel) rfl rfl (Nat.le_of_ble_eq_true rfl) dX7_findRow_16 (fun H locs hP hD hS => ?_)
    obtain ⟨hP, hD⟩ : xPD D A [oX7 sg co srwa 1 (-4), oAI srwa cI 8 srow, oX0 co fwa fta fra fga cxa cup clast cpeak cptick, oAI fwa cI 8 fw, oAI fta cI 8 ft, oAI fra cI 8 fr, oAI fga cI 8 fg, oAI cxa cI 145 cx, oX3 pl pna pta rails limit retry behind, oAI pna cI 64 pn, oAJ pta cJ 64 pt, oAI rta cI 8 rt] H := ⟨hP, hD⟩
    refine lv_aload_n hx hb dX7_findRow_19 rfl (lv_at hl 0 rfl) ?_
    refine va_get (D := D) (ci := 6) (v := .ref srwa) (C := RX7) (T := TX7) (N := 4) hx hb hts (fun w h => tbC w (tbfX7 w h)) hown hK hP 0 rfl rfl 1 (by decide) (hts (.fieldLink RX7 15 "PowerRails$Stagger" "row" "[I") (tbC _ wd177)) (fun _ h9 => h9) rfl dX7_findRow_20 ?_
    refine lv_iconst (v := 0) hx hb dX7_findRow_23 (by decide) ?_
    obtain ⟨hPc, hDc, hFc, hC9⟩ := xpk (wc := W_fillI cI cJ cZ cG cH srwa (0 : Int32) 8 srow) hP hD hS hA [1] (by decide +kernel) rfl
    refine va_callv (va_runS (As := [.ref srwa, .int 0]) (rest := []) ⟨hx, hb, hml, hown, hts⟩ (c_fillI l D cI cJ cZ cG cH H.size srwa (0 : Int32) 8 srow (by decide)) (va_cwS 2 hts (xGS tbC wd592 wd190 wd58 wd957) rfl rfl rfl (by decide +kernel) ⟨Nat.le_of_ble_eq_true rfl, Nat.le_of_ble_eq_true rfl⟩) ⟨xPc_blind, xPc_pre hPc hK hDc⟩ rfl rfl hl.1 rfl (lv_room (Nat.le_of_ble_eq_true rfl)) dX7_findRow_24 ⟨Nat.le_of_ble_eq_true rfl, Nat.le_of_ble_eq_true rfl⟩) hS (fun q _ h => hFc q h) hFc (fun u t H1 locs ht hvm hw2 hB hz1 hk1 hS => ?_)
    obtain ⟨g_3, hf3_0, hf3_1, hP1, hK1, hD1⟩ := hB
    rw [ht] at hP1
    obtain ⟨hP, hD⟩ : xPD D A [oX7 sg co srwa 1 (-4), oX0 co fwa fta fra fga cxa cup clast cpeak cptick, oAI fwa cI 8 fw, oAI fta cI 8 ft, oAI fra cI 8 fr, oAI fga cI 8 fg, oAI cxa cI 145 cx, oX3 pl pna pta rails limit retry behind, oAI pna cI 64 pn, oAJ pta cJ 64 pt, oAI rta cI 8 rt, oAI srwa cI 8 g_3] H1 := xjn 11 hP hD [1] [0, 2, 3, 4, 5, 6, 7, 8, 9, 10, 11] hC9 rfl (by decide +kernel) (by decide +kernel) hk1 hFc hP1 hD1
    generalize H1 = H at hP hS ⊢
    have hf3_0 : ∀ j, j < 8 → g_3 j = (0 : Int32) := hf3_0
    have hf3_1 : M_fillI 8 (0 : Int32) srow = g_3 := hf3_1
    have rg_3 : ∀ j, j < 8 → 0 ≤ (g_3 j).toInt ∧ (g_3 j).toInt ≤ 0 := xeq_rng hf3_0 ⟨by decide, by decide⟩
    refine lv_aload_n hx hb dX7_findRow_27 rfl (lv_at hl 0 rfl) ?_
    refine va_get (D := D) (ci := 6) (v := .ref co) (C := RX7) (T := TX7) (N := 4) hx hb hts (fun w h => tbC w (tbfX7 w h)) hown hK hP 0 rfl rfl 0 (by decide) (hts (.fieldLink RX7 9 "PowerRails$Stagger" "course" "LPowerRails$Course;") (tbC _ wd176)) (fun _ h9 => h9) rfl dX7_findRow_28 ?_
    refine va_get (D := D) (ci := 0) (v := .ref fwa) (C := RX0) (T := TX0) (N := 9) hx hb hts (fun w h => tbC w (tbfX0 w h)) hown hK hP 1 rfl rfl 0 (by decide) (hts (.fieldLink RX7 33 "PowerRails$Course" "waits" "[I") (tbC _ wd139)) (fun _ h9 => h9) rfl dX7_findRow_31 ?_
    refine lv_iconst (v := 0) hx hb dX7_findRow_34 (by decide) ?_
    obtain ⟨hPc, hDc, hFc, hC9⟩ := xpk (wc := W_fillI cI cJ cZ cG cH fwa (0 : Int32) 8 fw) hP hD hS hA [2] (by decide +kernel) rfl
    refine va_callv (va_runS (As := [.ref fwa, .int 0]) (rest := []) ⟨hx, hb, hml, hown, hts⟩ (c_fillI l D cI cJ cZ cG cH H.size fwa (0 : Int32) 8 fw (by decide)) (va_cwS 2 hts (xGS tbC wd592 wd190 wd58 wd957) rfl rfl rfl (by decide +kernel) ⟨Nat.le_of_ble_eq_true rfl, Nat.le_of_ble_eq_true rfl⟩) ⟨xPc_blind, xPc_pre hPc hK hDc⟩ rfl rfl hl.1 rfl (lv_room (Nat.le_of_ble_eq_true rfl)) dX7_findRow_35 ⟨Nat.le_of_ble_eq_true rfl, Nat.le_of_ble_eq_true rfl⟩) hS (fun q _ h => hFc q h) hFc (fun u t H1 locs ht hvm hw4 hB hz1 hk1 hS => ?_)
    obtain ⟨g_5, hf5_0, hf5_1, hP1, hK1, hD1⟩ := hB
    rw [ht] at hP1
    obtain ⟨hP, hD⟩ : xPD D A [oX7 sg co srwa 1 (-4), oX0 co fwa fta fra fga cxa cup clast cpeak cptick, oAI fta cI 8 ft, oAI fra cI 8 fr, oAI fga cI 8 fg, oAI cxa cI 145 cx, oX3 pl pna pta rails limit retry behind, oAI pna cI 64 pn, oAJ pta cJ 64 pt, oAI rta cI 8 rt, oAI srwa cI 8 g_3, oAI fwa cI 8 g_5] H1 := xjn 11 hP hD [2] [0, 1, 3, 4, 5, 6, 7, 8, 9, 10, 11] hC9 rfl (by decide +kernel) (by decide +kernel) hk1 hFc hP1 hD1
    generalize H1 = H at hP hS ⊢
    have hf5_0 : ∀ j, j < 8 → g_5 j = (0 : Int32) := hf5_0
    have hf5_1 : M_fillI 8 (0 : Int32) fw = g_5 := hf5_1
    have rg_5 : ∀ j, j < 8 → 0 ≤ (g_5 j).toInt ∧ (g_5 j).toInt ≤ 0 := xeq_rng hf5_0 ⟨by decide, by decide⟩
    refine lv_aload_n hx hb dX7_findRow_38 rfl (lv_at hl 0 rfl) ?_
    refine va_get (D := D) (ci := 6) (v := .ref co) (C := RX7) (T := TX7) (N := 4) hx hb hts (fun w h => tbC w (tbfX7 w h)) hown hK hP 0 rfl rfl 0 (by decide) (hts (.fieldLink RX7 9 "PowerRails$Stagger" "course" "LPowerRails$Course;") (tbC _ wd176)) (fun _ h9 => h9) rfl dX7_findRow_39 ?_
    refine lv_aload_n hx hb dX7_findRow_42 rfl (lv_at hl 3 rfl) ?_
    obtain ⟨hPc, hDc, hFc, hC9⟩ := xpk (wc := W_copyTakes cI cJ cZ cG cH co rta fwa fta fra fga cxa cup clast cpeak cptick ft rt) hP hD hS hA [1, 2, 9] (by decide +kernel) rfl
    refine va_callv (va_runV (As := [.ref rta]) (rest := []) ⟨hx, hb, hml, hown, hts⟩ (c_copyTakes l D cI cJ cZ cG cH H.size co rta fwa fta fra fga cxa cup clast cpeak cptick ft rt (xrng rfl (by omega) (by omega)) (xwk_rng h_ft (by decide) (by decide)) (xwk_rng h_rt (by decide) (by decide))) (cwV 1 hts (xGV tbC wd593 wd520 wd521 wd54 wd1045) rfl rfl rfl (by decide +kernel) ⟨Nat.le_of_ble_eq_true rfl, Nat.le_of_ble_eq_true rfl⟩) ⟨xPc_blind, va_recv hK hPc (ci := 0) (q0 := 0) rfl rfl, xPc_pre hPc hK hDc⟩ rfl rfl hl.1 rfl (lv_room (Nat.le_of_ble_eq_true rfl)) dX7_findRow_43 ⟨Nat.le_of_ble_eq_true rfl, Nat.le_of_ble_eq_true rfl⟩) hS (fun q _ h => hFc q h) hFc (fun u t H1 locs ht hvm hw6 hB hz1 hk1 hS => ?_)
    obtain ⟨ft_7, hf7_0, hP1, hK1, hD1⟩ := hB
    rw [ht] at hP1
    obtain ⟨hP, hD⟩ : xPD D A [oX7 sg co srwa 1 (-4), oAI fra cI 8 fr, oAI fga cI 8 fg, oAI cxa cI 145 cx, oX3 pl pna pta rails limit retry behind, oAI pna cI 64 pn, oAJ pta cJ 64 pt, oAI srwa cI 8 g_3, oAI fwa cI 8 g_5, oX0 co fwa fta fra fga cxa cup clast cpeak cptick, oAI fta cI 8 ft_7, oAI rta cI 8 rt] H1 := xjn 9 hP hD [1, 2, 9] [0, 3, 4, 5, 6, 7, 8, 10, 11] hC9 rfl (by decide +kernel) (by decide +kernel) hk1 hFc hP1 hD1
    generalize H1 = H at hP hS ⊢
    have hf7_0 : ∀ j, j < 8 → 0 ≤ (ft_7 j).toInt ∧ (ft_7 j).toInt ≤ 511 := hf7_0
    refine lv_aload_n hx hb dX7_findRow_46 rfl (lv_at hl 0 rfl) ?_
    refine va_get (D := D) (ci := 6) (v := .ref co) (C := RX7) (T := TX7) (N := 4) hx hb hts (fun w h => tbC w (tbfX7 w h)) hown hK hP 0 rfl rfl 0 (by decide) (hts (.fieldLink RX7 9 "PowerRails$Stagger" "course" "LPowerRails$Course;") (tbC _ wd176)) (fun _ h9 => h9) rfl dX7_findRow_47 ?_
    refine lv_aload_n hx hb dX7_findRow_50 rfl (lv_at hl 1 rfl) ?_
    refine lv_iload_n hx hb dX7_findRow_51 rfl (lv_at hl 2 rfl) ?_
    obtain ⟨hPc, hDc, hFc, hC9⟩ := xpk (wc := W_follow cI cJ cZ cG cH co pl s0 fwa fta fra fga cxa cup clast cpeak cptick g_5 ft_7 fr fg pna pta rails limit retry behind pt) hP hD hS hA [9, 8, 10, 1, 2, 4, 6] (by decide +kernel) rfl
    refine va_callv (va_runV (As := [.ref pl, .int s0]) (rest := []) ⟨hx, hb, hml, hown, hts⟩ (c_follow l D cI cJ cZ cG cH H.size co pl s0 fwa fta fra fga cxa cup clast cpeak cptick g_5 ft_7 fr fg pna pta rails limit retry behind pt (xrng rfl (by omega) (by omega)) (xwk_rng rg_5 (by decide) (by decide)) (xwk_rng hf7_0 (by decide) (by decide)) (xwk_rng h_fr (by decide) (by decide)) (xwk_rng h_fg (by decide) (by decide)) (xrng rfl (by omega) (by omega)) h_le) (cwV 2 hts (xGV tbC wd594 wd526 wd527 wd54 wd1047) rfl rfl rfl (by decide +kernel) ⟨Nat.le_of_ble_eq_true rfl, Nat.le_of_ble_eq_true rfl⟩) ⟨xPc_blind, va_recv hK hPc (ci := 0) (q0 := 0) rfl rfl, xPc_pre hPc hK hDc⟩ rfl rfl hl.1 rfl (lv_room (Nat.le_of_ble_eq_true rfl)) dX7_findRow_52 ⟨Nat.le_of_ble_eq_true rfl, Nat.le_of_ble_eq_true rfl⟩) hS (fun q _ h => hFc q h) hFc (fun u t H1 locs ht hvm hw8 hB hz1 hk1 hS => ?_)
    revert hB
    refine xex4r (fun cup_9 clast_10 fr_11 fg_12 => ?_)
    refine xan8r (fun hf12_0 hf12_1 hf12_2 hf12_3 hf12_4 hP1 hK1 hD1 => ?_)
    rw [ht] at hP1
    obtain ⟨hP, hD⟩ : xPD D A [oX7 sg co srwa 1 (-4), oAI cxa cI 145 cx, oAI pna cI 64 pn, oAI srwa cI 8 g_3, oAI rta cI 8 rt, oX0 co fwa fta fra fga cxa cup_9 clast_10 cpeak cptick, oAI fwa cI 8 g_5, oAI fta cI 8 ft_7, oAI fra cI 8 fr_11, oAI fga cI 8 fg_12, oX3 pl pna pta rails limit retry behind, oAJ pta cJ 64 pt] H1 := xjn 5 hP hD [9, 8, 10, 1, 2, 4, 6] [0, 3, 5, 7, 11] hC9 rfl (by decide +kernel) (by decide +kernel) hk1 hFc hP1 hD1
    generalize H1 = H at hP hS ⊢
    have hf12_0 : 0 ≤ cup_9.toInt ∧ cup_9.toInt ≤ 255 := hf12_0
    have hf12_1 : 0 ≤ clast_10.toInt ∧ clast_10.toInt ≤ 144 := hf12_1
    have hf12_2 : ∀ j, j < 8 → 0 ≤ (fr_11 j).toInt ∧ (fr_11 j).toInt ≤ 655 := hf12_2
    have hf12_3 : ∀ j, j < 8 → 0 ≤ (fg_12 j).toInt ∧ (fg_12 j).toInt ≤ 1166 := hf12_3
    have hf12_4 : ∀ j, j < 8 → (fr_11 j).toInt ≤ (fg_12 j).toInt := hf12_4
    refine lv_aload_n hx hb dX7_findRow_55 rfl (lv_at hl 0 rfl) ?_
    refine va_get (D := D) (ci := 6) (v := .ref co) (C := RX7) (T := TX7) (N := 4) hx hb hts (fun w h => tbC w (tbfX7 w h)) hown hK hP 0 rfl rfl 0 (by decide) (hts (.fieldLink RX7 9 "PowerRails$Stagger" "course" "LPowerRails$Course;") (tbC _ wd176)) (fun _ h9 => h9) rfl dX7_findRow_56 ?_
    refine va_get (D := D) (ci := 0) (v := .int cup_9) (C := RX0) (T := TX0) (N := 9) hx hb hts (fun w h => tbC w (tbfX0 w h)) hown hK hP 5 rfl rfl 5 (by decide) (hts (.fieldLink RX7 46 "PowerRails$Course" "up" "I") (tbC _ wd147)) (fun _ h9 => h9) rfl dX7_findRow_59 ?_
    refine lv_istore (lv' := [(4, .int cup_9), (0, .ref sg), (1, .ref pl), (2, .int s0), (3, .ref rta)]) hx hb dX7_findRow_62 hl (by decide) rfl (fun ls hl => ?_)
    refine lv_iload hx hb dX7_findRow_64 (lv_at hl 0 rfl) ?_
    refine lv_if_ne (tgt := 70) hx hb dX7_findRow_66 (by decide) (fun c_13 => ?_) (fun c_13 => ?_)
    · skip
      have i_13 : ¬ (cup_9.toInt = 0) := fun h9 => c_13 ((ieq rfl (by decide)).mpr h9)
      refine lv_aload_n hx hb dX7_findRow_70 rfl (lv_at hl 1 rfl) ?_
      refine va_get (D := D) (ci := 6) (v := .ref co) (C := RX7) (T := TX7) (N := 4) hx hb hts (fun w h => tbC w (tbfX7 w h)) hown hK hP 0 rfl rfl 0 (by decide) (hts (.fieldLink RX7 9 "PowerRails$Stagger" "course" "LPowerRails$Course;") (tbC _ wd176)) (fun _ h9 => h9) rfl dX7_findRow_71 ?_
      refine va_get (D := D) (ci := 0) (v := .int clast_10) (C := RX0) (T := TX0) (N := 9) hx hb hts (fun w h => tbC w (tbfX0 w h)) hown hK hP 5 rfl rfl 6 (by decide) (hts (.fieldLink RX7 49 "PowerRails$Course" "last" "I") (tbC _ wd149)) (fun _ h9 => h9) rfl dX7_findRow_74 ?_
      refine lv_istore (lv' := [(5, .int clast_10), (4, .int cup_9), (0, .ref sg), (1, .ref pl), (2, .int s0), (3, .ref rta)]) hx hb dX7_findRow_77 hl (by decide) rfl (fun ls hl => ?_)
      refine lv_iconst (v := 1) hx hb dX7_findRow_79 (by decide) ?_
      refine lv_istore (lv' := [(6, .int 1), (5, .int clast_10), (4, .int cup_9), (0, .ref sg), (1, .ref pl), (2, .int s0), (3, .ref rta)]) hx hb dX7_findRow_80 hl (by decide) rfl (fun ls hl => ?_)
      refine lv_iconst (v := 0) hx hb dX7_findRow_82 (by decide) ?_
      refine lv_istore (lv' := [(7, .int 0), (6, .int 1), (5, .int clast_10), (4, .int cup_9), (0, .ref sg), (1, .ref pl), (2, .int s0), (3, .ref rta)]) hx hb dX7_findRow_83 hl (by decide) rfl (fun ls hl => ?_)
      have hl255 : ∀ (nhl255 : Nat) (x243 : Int32) (x244 : Int32) (x245 : Int32) (f246 : Nat → Int32) (f247 : Nat → Int32) (x248 : Int32) (x249 : Int32) (x250 : Int32) (x251 : Int32) (f252 : Nat → Int32) (f253 : Nat → Int32) (f254 : Nat → Int32), ((4096 - x243.toInt).toNat < nhl255) → (hx243 : 0 ≤ x243.toInt ∧ x243.toInt ≤ 4096) → (hx244 : 0 ≤ x244.toInt ∧ x244.toInt ≤ 1) → (hf247 : ∀ j, j < 8 → 0 ≤ (f247 j).toInt ∧ (f247 j).toInt ≤ 511) → (hx248 : 0 ≤ x248.toInt ∧ x248.toInt ≤ 255) → (hx249 : 0 ≤ x249.toInt ∧ x249.toInt ≤ 144) → (hf252 : ∀ j, j < 8 → 0 ≤ (f252 j).toInt ∧ (f252 j).toInt ≤ 511) → (hf253 : ∀ j, j < 8 → 0 ≤ (f253 j).toInt ∧ (f253 j).toInt ≤ 655) → (hf254 : ∀ j, j < 8 → 0 ≤ (f254 j).toInt ∧ (f254 j).toInt ≤ 1166) → (hle_f253_f254 : ∀ j, j < 8 → (f253 j).toInt ≤ (f254 j).toInt) → ∀ (H : Heap) (locs : List Loc), va_P D vwCl [oX7 sg co srwa 1 x245, oAI cxa cI 145 f246, oAI pna cI 64 pn, oAI srwa cI 8 f247, oAI rta cI 8 rt, oX0 co fwa fta fra fga cxa x248 x249 x250 x251, oAI fwa cI 8 f252, oAI fta cI 8 ft_7, oAI fra cI 8 f253, oAI fga cI 8 f254, oX3 pl pna pta rails limit retry behind, oAJ pta cJ 64 pt] H → va_D A [oX7 sg co srwa 1 x245, oAI cxa cI 145 f246, oAI pna cI 64 pn, oAI srwa cI 8 f247, oAI rta cI 8 rt, oX0 co fwa fta fra fga cxa x248 x249 x250 x251, oAI fwa cI 8 f252, oAI fta cI 8 ft_7, oAI fra cI 8 f253, oAI fga cI 8 f254, oX3 pl pna pta rails limit retry behind, oAJ pta cJ 64 pt] → va_S A s.heap H locs → ∀ (ls : Array Slot), lv_has ls 8 [(7, .int x243), (6, .int x244), (5, .int clast_10), (4, .int cup_9), (0, .ref sg), (1, .ref pl), (2, .int s0), (3, .ref rta)] → W p l e rm_findRow s m [Value.ref sg, Value.ref pl, Value.int s0, Value.ref rta].toArray below meth c H locs 0 0 (MQ below ((Q_findRow D cI cJ cZ cG cH sg pl s0 rta co srwa kn slast srow fwa fta fra fga cxa cup clast cpeak cptick fw ft fr fg cx pna pta rails limit retry behind pn pt rt) A) [Value.ref sg, Value.ref pl, Value.int s0, Value.ref rta].toArray s 0 0 A) (F0 m 85 ls []) := by
        intro nhl255
        induction nhl255 with
        | zero =>
          intro x243 x244 x245 f246 f247 x248 x249 x250 x251 f252 f253 f254 hmhl255
          exact absurd hmhl255 (Nat.not_lt_zero _)
        | succ nhl255 ihhl255 =>
          intro x243 x244 x245 f246 f247 x248 x249 x250 x251 f252 f253 f254 hmhl255 hx243 hx244 hf247 hx248 hx249 hf252 hf253 hf254 hle_f253_f254 H locs hP hD hS ls hl
          refine lv_iload hx hb dX7_findRow_85 (lv_at hl 0 rfl) ?_
          refine lv_sipush (v := 4096) hx hb dX7_findRow_87 (by decide) ?_
          refine lv_icmp_ge (tgt := 159) hx hb dX7_findRow_90 (by decide) (fun c_256 => ?_) (fun c_256 => ?_)
          · skip
            have i_256 : 4096 ≤ x243.toInt := (ile (by decide) rfl).mp c_256
            refine W.widen (k := 0) (n := 0) (by decide) (by decide) ?_
            exact W.vret hx hb hr (fun t ht hW => ⟨⟨(), rfl, trivial, ⟨1, x245, f247, x248, x249, x250, x251, f252, ft_7, f253, f254, f246, ⟨by decide, by decide⟩, (xwk_rng hf247 (by decide) (by decide)), (xrng rfl (by omega) (by omega)), (xwk_rng hf252 (by decide) (by decide)), (xwk_rng hf7_0 (by decide) (by decide)), (xwk_rng hf253 (by decide) (by decide)), (xwk_rng hf254 (by decide) (by decide)), hle_f253_f254, xB_of9 ht hW hP hK hD [0, 3, 5, 6, 7, 8, 9, 1, 10, 2, 11, 4] (by decide +kernel) rfl⟩⟩, hS.F ht⟩) hS.2.2 dX7_findRow_159
          · skip
            have i_256 : ¬ (4096 ≤ x243.toInt) := fun h9 => c_256 ((ile (by decide) rfl).mpr h9)
            refine lv_iload hx hb dX7_findRow_93 (lv_at hl 1 rfl) ?_
            refine lv_if_eq (tgt := 159) hx hb dX7_findRow_95 (by decide) (fun c_257 => ?_) (fun c_257 => ?_)
            · skip
              have i_257 : x244.toInt = 0 := (ieq rfl (by decide)).mp c_257
              refine W.widen (k := 0) (n := 0) (by decide) (by decide) ?_
              exact W.vret hx hb hr (fun t ht hW => ⟨⟨(), rfl, trivial, ⟨1, x245, f247, x248, x249, x250, x251, f252, ft_7, f253, f254, f246, ⟨by decide, by decide⟩, (xwk_rng hf247 (by decide) (by decide)), (xrng rfl (by omega) (by omega)), (xwk_rng hf252 (by decide) (by decide)), (xwk_rng hf7_0 (by decide) (by decide)), (xwk_rng hf253 (by decide) (by decide)), (xwk_rng hf254 (by decide) (by decide)), hle_f253_f254, xB_of9 ht hW hP hK hD [0, 3, 5, 6, 7, 8, 9, 1, 10, 2, 11, 4] (by decide +kernel) rfl⟩⟩, hS.F ht⟩) hS.2.2 dX7_findRow_159
            · skip
              have i_257 : ¬ (x244.toInt = 0) := fun h9 => c_257 ((ieq rfl (by decide)).mpr h9)
              refine lv_aload_n hx hb dX7_findRow_98 rfl (lv_at hl 4 rfl) ?_
              refine va_get (D := D) (ci := 6) (v := .int x245) (C := RX7) (T := TX7) (N := 4) hx hb hts (fun w h => tbC w (tbfX7 w h)) hown hK hP 0 rfl rfl 3 (by decide) (hts (.fieldLink RX7 23 "PowerRails$Stagger" "last" "I") (tbC _ wd181)) (fun _ h9 => h9) rfl dX7_findRow_99 ?_
              refine lv_iload hx hb dX7_findRow_102 (lv_at hl 2 rfl) ?_
              refine lv_icmp_eq (tgt := 159) hx hb dX7_findRow_104 (by decide) (fun c_258 => ?_) (fun c_258 => ?_)
              · skip
                have i_258 : x245.toInt = clast_10.toInt := (ieq rfl rfl).mp c_258
                refine W.widen (k := 0) (n := 0) (by decide) (by decide) ?_
                exact W.vret hx hb hr (fun t ht hW => ⟨⟨(), rfl, trivial, ⟨1, x245, f247, x248, x249, x250, x251, f252, ft_7, f253, f254, f246, ⟨by decide, by decide⟩, (xwk_rng hf247 (by decide) (by decide)), (xrng rfl (by omega) (by omega)), (xwk_rng hf252 (by decide) (by decide)), (xwk_rng hf7_0 (by decide) (by decide)), (xwk_rng hf253 (by decide) (by decide)), (xwk_rng hf254 (by decide) (by decide)), hle_f253_f254, xB_of9 ht hW hP hK hD [0, 3, 5, 6, 7, 8, 9, 1, 10, 2, 11, 4] (by decide +kernel) rfl⟩⟩, hS.F ht⟩) hS.2.2 dX7_findRow_159
              · skip
                have i_258 : ¬ (x245.toInt = clast_10.toInt) := fun h9 => c_258 ((ieq rfl rfl).mpr h9)
                refine lv_aload_n hx hb dX7_findRow_107 rfl (lv_at hl 4 rfl) ?_
                refine va_get (D := D) (ci := 6) (v := .ref co) (C := RX7) (T := TX7) (N := 4) hx hb hts (fun w h => tbC w (tbfX7 w h)) hown hK hP 0 rfl rfl 0 (by decide) (hts (.fieldLink RX7 9 "PowerRails$Stagger" "course" "LPowerRails$Course;") (tbC _ wd176)) (fun _ h9 => h9) rfl dX7_findRow_108 ?_
                refine lv_aload_n hx hb dX7_findRow_111 rfl (lv_at hl 5 rfl) ?_
                refine lv_iload hx hb dX7_findRow_112 (lv_at hl 3 rfl) ?_
                obtain ⟨hPc, hDc, hFc, hC9⟩ := xpk (wc := W_follow cI cJ cZ cG cH co pl cup_9 fwa fta fra fga cxa x248 x249 x250 x251 f252 ft_7 f253 f254 pna pta rails limit retry behind pt) hP hD hS hA [5, 6, 7, 8, 9, 10, 11] (by decide +kernel) rfl
                refine va_callv (va_runV (As := [.ref pl, .int cup_9]) (rest := []) ⟨hx, hb, hml, hown, hts⟩ (c_follow l D cI cJ cZ cG cH H.size co pl cup_9 fwa fta fra fga cxa x248 x249 x250 x251 f252 ft_7 f253 f254 pna pta rails limit retry behind pt (xrng rfl (by omega) (by omega)) (xwk_rng hf252 (by decide) (by decide)) (xwk_rng hf7_0 (by decide) (by decide)) (xwk_rng hf253 (by decide) (by decide)) (xwk_rng hf254 (by decide) (by decide)) (xrng rfl (by omega) (by omega)) hle_f253_f254) (cwV 2 hts (xGV tbC wd594 wd526 wd527 wd54 wd1047) rfl rfl rfl (by decide +kernel) ⟨Nat.le_of_ble_eq_true rfl, Nat.le_of_ble_eq_true rfl⟩) ⟨xPc_blind, va_recv hK hPc (ci := 0) (q0 := 0) rfl rfl, xPc_pre hPc hK hDc⟩ rfl rfl hl.1 rfl (lv_room (Nat.le_of_ble_eq_true rfl)) dX7_findRow_114 ⟨Nat.le_of_ble_eq_true rfl, Nat.le_of_ble_eq_true rfl⟩) hS (fun q _ h => hFc q h) hFc (fun u t H1 locs ht hvm hw259 hB hz1 hk1 hS => ?_)
                revert hB
                refine xex4r (fun cup_260 clast_261 fr_262 fg_263 => ?_)
                refine xan8r (fun hf263_0 hf263_1 hf263_2 hf263_3 hf263_4 hP1 hK1 hD1 => ?_)
                rw [ht] at hP1
                obtain ⟨hP, hD⟩ : xPD D A [oX7 sg co srwa 1 x245, oAI cxa cI 145 f246, oAI pna cI 64 pn, oAI srwa cI 8 f247, oAI rta cI 8 rt, oX0 co fwa fta fra fga cxa cup_260 clast_261 x250 x251, oAI fwa cI 8 f252, oAI fta cI 8 ft_7, oAI fra cI 8 fr_262, oAI fga cI 8 fg_263, oX3 pl pna pta rails limit retry behind, oAJ pta cJ 64 pt] H1 := xjn 5 hP hD [5, 6, 7, 8, 9, 10, 11] [0, 1, 2, 3, 4] hC9 rfl (by decide +kernel) (by decide +kernel) hk1 hFc hP1 hD1
                generalize H1 = H at hP hS ⊢
                have hf263_0 : 0 ≤ cup_260.toInt ∧ cup_260.toInt ≤ 255 := hf263_0
                have hf263_1 : 0 ≤ clast_261.toInt ∧ clast_261.toInt ≤ 144 := hf263_1
                have hf263_2 : ∀ j, j < 8 → 0 ≤ (fr_262 j).toInt ∧ (fr_262 j).toInt ≤ 655 := hf263_2
                have hf263_3 : ∀ j, j < 8 → 0 ≤ (fg_263 j).toInt ∧ (fg_263 j).toInt ≤ 1166 := hf263_3
                have hf263_4 : ∀ j, j < 8 → (fr_262 j).toInt ≤ (fg_263 j).toInt := hf263_4
                refine lv_aload_n hx hb dX7_findRow_117 rfl (lv_at hl 4 rfl) ?_
                refine va_get (D := D) (ci := 6) (v := .int x245) (C := RX7) (T := TX7) (N := 4) hx hb hts (fun w h => tbC w (tbfX7 w h)) hown hK hP 0 rfl rfl 3 (by decide) (hts (.fieldLink RX7 23 "PowerRails$Stagger" "last" "I") (tbC _ wd181)) (fun _ h9 => h9) rfl dX7_findRow_118 ?_
                refine lv_bipush (v := (-4)) hx hb dX7_findRow_121 (by decide) ?_
                refine lv_icmp_eq (tgt := 140) hx hb dX7_findRow_123 (by decide) (fun c_264 => ?_) (fun c_264 => ?_)
                · skip
                  have i_264 : x245.toInt = (-4) := (ieq rfl (by decide)).mp c_264
                  refine lv_aload_n hx hb dX7_findRow_140 rfl (lv_at hl 4 rfl) ?_
                  refine lv_aload_n hx hb dX7_findRow_141 rfl (lv_at hl 5 rfl) ?_
                  obtain ⟨hPc, hDc, hFc, hC9⟩ := xpk (wc := W_keepIf cI cJ cZ cG cH sg pl co srwa (1 : Int32) x245 f247 fwa fta fra fga cxa cup_260 clast_261 x250 x251 f252 fr_262 fg_263 f246 pna pta rails limit retry behind pn) hP hD hS hA [0, 3, 5, 6, 8, 9, 1, 10, 2] (by decide +kernel) rfl
                  refine va_callv (va_runV (As := [.ref pl]) (rest := []) ⟨hx, hb, hml, hown, hts⟩ (c_keepIf l D cI cJ cZ cG cH H.size sg pl co srwa (1 : Int32) x245 f247 fwa fta fra fga cxa cup_260 clast_261 x250 x251 f252 fr_262 fg_263 f246 pna pta rails limit retry behind pn ⟨by decide, by decide⟩ (xwk_rng hf247 (by decide) (by decide)) (xrng rfl (by omega) (by omega)) (xwk_rng hf252 (by decide) (by decide)) (xwk_rng hf263_2 (by decide) (by decide)) (xwk_rng hf263_3 (by decide) (by decide)) (xrng rfl (by omega) (by omega)) (xwk_rng h_pn (by decide) (by decide)) hf263_4) (cwV 1 hts (xGV tbC wd595 wd596 wd597 wd56 wd1065) rfl rfl rfl (by decide +kernel) ⟨Nat.le_of_ble_eq_true rfl, Nat.le_of_ble_eq_true rfl⟩) ⟨xPc_blind, va_recv hK hPc (ci := 6) (q0 := 0) rfl rfl, xPc_pre hPc hK hDc⟩ rfl rfl hl.1 rfl (lv_room (Nat.le_of_ble_eq_true rfl)) dX7_findRow_142 ⟨Nat.le_of_ble_eq_true rfl, Nat.le_of_ble_eq_true rfl⟩) hS (fun q _ h => hFc q h) hFc (fun u t H1 locs ht hvm hw265 hB hz1 hk1 hS => ?_)
                  obtain ⟨slast_266, srow_267, cpeak_268, cptick_269, cx_270, hf270_0, hf270_1, hP1, hK1, hD1⟩ := hB
                  rw [ht] at hP1
                  obtain ⟨hP, hD⟩ : xPD D A [oAI rta cI 8 rt, oAI fta cI 8 ft_7, oAJ pta cJ 64 pt, oX7 sg co srwa 1 slast_266, oAI srwa cI 8 srow_267, oX0 co fwa fta fra fga cxa cup_260 clast_261 cpeak_268 cptick_269, oAI fwa cI 8 f252, oAI fra cI 8 fr_262, oAI fga cI 8 fg_263, oAI cxa cI 145 cx_270, oX3 pl pna pta rails limit retry behind, oAI pna cI 64 pn] H1 := xjn 3 hP hD [0, 3, 5, 6, 8, 9, 1, 10, 2] [4, 7, 11] hC9 rfl (by decide +kernel) (by decide +kernel) hk1 hFc hP1 hD1
                  generalize H1 = H at hP hS ⊢
                  have hf270_0 : ∀ j, j < 8 → 0 ≤ (srow_267 j).toInt ∧ (srow_267 j).toInt ≤ 511 := hf270_0
                  have hf270_1 : (-4) ≤ cptick_269.toInt ∧ cptick_269.toInt ≤ 144 := hf270_1
                  refine lv_aload_n hx hb dX7_findRow_145 rfl (lv_at hl 4 rfl) ?_
                  refine lv_iload hx hb dX7_findRow_146 (lv_at hl 3 rfl) ?_
                  obtain ⟨hPc, hDc, hFc, hC9⟩ := xpk (wc := W_nextRow cI cJ cZ cG cH sg cup_9 co srwa (1 : Int32) slast_266 fwa fta fra fga cxa cup_260 clast_261 cpeak_268 cptick_269 f252) hP hD hS hA [3, 5, 6] (by decide +kernel) rfl
                  refine va_calli (va_runV (As := [.int cup_9]) (rest := []) ⟨hx, hb, hml, hown, hts⟩ (c_nextRow l D cI cJ cZ cG cH H.size sg cup_9 co srwa (1 : Int32) slast_266 fwa fta fra fga cxa cup_260 clast_261 cpeak_268 cptick_269 f252 ⟨by decide, by decide⟩ (xrng rfl (by omega) (by omega)) (xwk_rng hf252 (by decide) (by decide))) (cwV 1 hts (xGV tbC wd600 wd601 wd602 wd56 wd1066) rfl rfl rfl (by decide +kernel) ⟨Nat.le_of_ble_eq_true rfl, Nat.le_of_ble_eq_true rfl⟩) ⟨xPc_blind, va_recv hK hPc (ci := 6) (q0 := 0) rfl rfl, xPc_pre hPc hK hDc⟩ rfl rfl hl.1 rfl (lv_room (Nat.le_of_ble_eq_true rfl)) dX7_findRow_148 ⟨Nat.le_of_ble_eq_true rfl, Nat.le_of_ble_eq_true rfl⟩) hS (fun q _ h => hFc q h) hFc (fun r271 u t H1 locs ht hvm hw271 hB hz1 hk1 hS => ?_)
                  obtain ⟨fw_272, hf272_0, hP1, hK1, hD1⟩ := hB
                  rw [ht] at hP1
                  obtain ⟨hP, hD⟩ : xPD D A [oAI rta cI 8 rt, oAI fta cI 8 ft_7, oAJ pta cJ 64 pt, oAI srwa cI 8 srow_267, oAI fra cI 8 fr_262, oAI fga cI 8 fg_263, oAI cxa cI 145 cx_270, oX3 pl pna pta rails limit retry behind, oAI pna cI 64 pn, oX7 sg co srwa 1 slast_266, oX0 co fwa fta fra fga cxa cup_260 clast_261 cpeak_268 cptick_269, oAI fwa cI 8 fw_272] H1 := xjn 9 hP hD [3, 5, 6] [0, 1, 2, 4, 7, 8, 9, 10, 11] hC9 rfl (by decide +kernel) (by decide +kernel) hk1 hFc hP1 hD1
                  generalize H1 = H at hP hS ⊢
                  have hf272_0 : ∀ j, j < 8 → 0 ≤ (fw_272 j).toInt ∧ (fw_272 j).toInt ≤ 511 := hf272_0
                  have hw271 : 0 ≤ r271.toInt ∧ r271.toInt ≤ 1 := hw271
                  refine lv_istore (lv' := [(6, .int r271), (7, .int x243), (5, .int clast_10), (4, .int cup_9), (0, .ref sg), (1, .ref pl), (2, .int s0), (3, .ref rta)]) hx hb dX7_findRow_151 hl (by decide) rfl (fun ls hl => ?_)
                  obtain ⟨x273, ex273⟩ : ∃ y : Int32, y = x243 + 1 := ⟨_, rfl⟩
                  have tx273 : x273.toInt = (x243.toInt + 1) := (congrArg Int32.toInt ex273).trans (xadd rfl (by decide) (by omega) (by omega))
                  refine lv_iinc (v := x273) (lv' := [(7, .int x273), (6, .int r271), (5, .int clast_10), (4, .int cup_9), (0, .ref sg), (1, .ref pl), (2, .int s0), (3, .ref rta)]) hx hb dX7_findRow_153 hl (k := 1) rfl (by rw [ex273]; rfl) (by decide) rfl (fun ls hl => ?_)
                  refine lv_goto (tgt := 85) hx hb dX7_findRow_156 (by decide) ?_
                  obtain ⟨hP, hD⟩ := xsb (ws' := [oX7 sg co srwa 1 slast_266, oAI cxa cI 145 cx_270, oAI pna cI 64 pn, oAI srwa cI 8 srow_267, oAI rta cI 8 rt, oX0 co fwa fta fra fga cxa cup_260 clast_261 cpeak_268 cptick_269, oAI fwa cI 8 fw_272, oAI fta cI 8 ft_7, oAI fra cI 8 fr_262, oAI fga cI 8 fg_263, oX3 pl pna pta rails limit retry behind, oAJ pta cJ 64 pt]) hP hD [9, 6, 8, 3, 0, 10, 11, 1, 4, 5, 7, 2] (by decide +kernel) rfl
                  exact ihhl255 x273 r271 slast_266 cx_270 srow_267 cup_260 clast_261 cpeak_268 cptick_269 fw_272 fr_262 fg_263 (by omega) (xrng tx273 (by omega) (by omega)) (xrng rfl (by omega) (by omega)) (xwk_rng hf270_0 (by decide) (by decide)) (xrng rfl (by omega) (by omega)) (xrng rfl (by omega) (by omega)) (xwk_rng hf272_0 (by decide) (by decide)) (xwk_rng hf263_2 (by decide) (by decide)) (xwk_rng hf263_3 (by decide) (by decide)) hf263_4 _ _ hP hD hS ls (lv_sub hl [0, 1, 2, 3, 4, 5, 6, 7] rfl)
                · skip
                  have i_264 : ¬ (x245.toInt = (-4)) := fun h9 => c_264 ((ieq rfl (by decide)).mpr h9)
                  refine lv_aload_n hx hb dX7_findRow_126 rfl (lv_at hl 4 rfl) ?_
                  refine va_get (D := D) (ci := 6) (v := .ref co) (C := RX7) (T := TX7) (N := 4) hx hb hts (fun w h => tbC w (tbfX7 w h)) hown hK hP 0 rfl rfl 0 (by decide) (hts (.fieldLink RX7 9 "PowerRails$Stagger" "course" "LPowerRails$Course;") (tbC _ wd176)) (fun _ h9 => h9) rfl dX7_findRow_127 ?_
                  refine va_get (D := D) (ci := 0) (v := .int clast_261) (C := RX0) (T := TX0) (N := 9) hx hb hts (fun w h => tbC w (tbfX0 w h)) hown hK hP 5 rfl rfl 6 (by decide) (hts (.fieldLink RX7 49 "PowerRails$Course" "last" "I") (tbC _ wd149)) (fun _ h9 => h9) rfl dX7_findRow_130 ?_
                  refine lv_aload_n hx hb dX7_findRow_133 rfl (lv_at hl 4 rfl) ?_
                  refine va_get (D := D) (ci := 6) (v := .int x245) (C := RX7) (T := TX7) (N := 4) hx hb hts (fun w h => tbC w (tbfX7 w h)) hown hK hP 0 rfl rfl 3 (by decide) (hts (.fieldLink RX7 23 "PowerRails$Stagger" "last" "I") (tbC _ wd181)) (fun _ h9 => h9) rfl dX7_findRow_134 ?_
                  refine lv_icmp_ge (tgt := 145) hx hb dX7_findRow_137 (by decide) (fun c_274 => ?_) (fun c_274 => ?_)
                  · skip
                    have i_274 : x245.toInt ≤ clast_261.toInt := (ile rfl rfl).mp c_274
                    refine lv_aload_n hx hb dX7_findRow_145 rfl (lv_at hl 4 rfl) ?_
                    refine lv_iload hx hb dX7_findRow_146 (lv_at hl 3 rfl) ?_
                    obtain ⟨hPc, hDc, hFc, hC9⟩ := xpk (wc := W_nextRow cI cJ cZ cG cH sg cup_9 co srwa (1 : Int32) x245 fwa fta fra fga cxa cup_260 clast_261 x250 x251 f252) hP hD hS hA [0, 5, 6] (by decide +kernel) rfl
                    refine va_calli (va_runV (As := [.int cup_9]) (rest := []) ⟨hx, hb, hml, hown, hts⟩ (c_nextRow l D cI cJ cZ cG cH H.size sg cup_9 co srwa (1 : Int32) x245 fwa fta fra fga cxa cup_260 clast_261 x250 x251 f252 ⟨by decide, by decide⟩ (xrng rfl (by omega) (by omega)) (xwk_rng hf252 (by decide) (by decide))) (cwV 1 hts (xGV tbC wd600 wd601 wd602 wd56 wd1066) rfl rfl rfl (by decide +kernel) ⟨Nat.le_of_ble_eq_true rfl, Nat.le_of_ble_eq_true rfl⟩) ⟨xPc_blind, va_recv hK hPc (ci := 6) (q0 := 0) rfl rfl, xPc_pre hPc hK hDc⟩ rfl rfl hl.1 rfl (lv_room (Nat.le_of_ble_eq_true rfl)) dX7_findRow_148 ⟨Nat.le_of_ble_eq_true rfl, Nat.le_of_ble_eq_true rfl⟩) hS (fun q _ h => hFc q h) hFc (fun r275 u t H1 locs ht hvm hw275 hB hz1 hk1 hS => ?_)
                    obtain ⟨fw_276, hf276_0, hP1, hK1, hD1⟩ := hB
                    rw [ht] at hP1
                    obtain ⟨hP, hD⟩ : xPD D A [oAI cxa cI 145 f246, oAI pna cI 64 pn, oAI srwa cI 8 f247, oAI rta cI 8 rt, oAI fta cI 8 ft_7, oAI fra cI 8 fr_262, oAI fga cI 8 fg_263, oX3 pl pna pta rails limit retry behind, oAJ pta cJ 64 pt, oX7 sg co srwa 1 x245, oX0 co fwa fta fra fga cxa cup_260 clast_261 x250 x251, oAI fwa cI 8 fw_276] H1 := xjn 9 hP hD [0, 5, 6] [1, 2, 3, 4, 7, 8, 9, 10, 11] hC9 rfl (by decide +kernel) (by decide +kernel) hk1 hFc hP1 hD1
                    generalize H1 = H at hP hS ⊢
                    have hf276_0 : ∀ j, j < 8 → 0 ≤ (fw_276 j).toInt ∧ (fw_276 j).toInt ≤ 511 := hf276_0
                    have hw275 : 0 ≤ r275.toInt ∧ r275.toInt ≤ 1 := hw275
                    refine lv_istore (lv' := [(6, .int r275), (7, .int x243), (5, .int clast_10), (4, .int cup_9), (0, .ref sg), (1, .ref pl), (2, .int s0), (3, .ref rta)]) hx hb dX7_findRow_151 hl (by decide) rfl (fun ls hl => ?_)
                    obtain ⟨x277, ex277⟩ : ∃ y : Int32, y = x243 + 1 := ⟨_, rfl⟩
                    have tx277 : x277.toInt = (x243.toInt + 1) := (congrArg Int32.toInt ex277).trans (xadd rfl (by decide) (by omega) (by omega))
                    refine lv_iinc (v := x277) (lv' := [(7, .int x277), (6, .int r275), (5, .int clast_10), (4, .int cup_9), (0, .ref sg), (1, .ref pl), (2, .int s0), (3, .ref rta)]) hx hb dX7_findRow_153 hl (k := 1) rfl (by rw [ex277]; rfl) (by decide) rfl (fun ls hl => ?_)
                    refine lv_goto (tgt := 85) hx hb dX7_findRow_156 (by decide) ?_
                    obtain ⟨hP, hD⟩ := xsb (ws' := [oX7 sg co srwa 1 x245, oAI cxa cI 145 f246, oAI pna cI 64 pn, oAI srwa cI 8 f247, oAI rta cI 8 rt, oX0 co fwa fta fra fga cxa cup_260 clast_261 x250 x251, oAI fwa cI 8 fw_276, oAI fta cI 8 ft_7, oAI fra cI 8 fr_262, oAI fga cI 8 fg_263, oX3 pl pna pta rails limit retry behind, oAJ pta cJ 64 pt]) hP hD [9, 0, 1, 2, 3, 10, 11, 4, 5, 6, 7, 8] (by decide +kernel) rfl
                    exact ihhl255 x277 r275 x245 f246 f247 cup_260 clast_261 x250 x251 fw_276 fr_262 fg_263 (by omega) (xrng tx277 (by omega) (by omega)) (xrng rfl (by omega) (by omega)) (xwk_rng hf247 (by decide) (by decide)) (xrng rfl (by omega) (by omega)) (xrng rfl (by omega) (by omega)) (xwk_rng hf276_0 (by decide) (by decide)) (xwk_rng hf263_2 (by decide) (by decide)) (xwk_rng hf263_3 (by decide) (by decide)) hf263_4 _ _ hP hD hS ls (lv_sub hl [0, 1, 2, 3, 4, 5, 6, 7] rfl)
                  · skip
                    have i_274 : ¬ (x245.toInt ≤ clast_261.toInt) := fun h9 => c_274 ((ile rfl rfl).mpr h9)
                    refine lv_aload_n hx hb dX7_findRow_140 rfl (lv_at hl 4 rfl) ?_
                    refine lv_aload_n hx hb dX7_findRow_141 rfl (lv_at hl 5 rfl) ?_
                    obtain ⟨hPc, hDc, hFc, hC9⟩ := xpk (wc := W_keepIf cI cJ cZ cG cH sg pl co srwa (1 : Int32) x245 f247 fwa fta fra fga cxa cup_260 clast_261 x250 x251 f252 fr_262 fg_263 f246 pna pta rails limit retry behind pn) hP hD hS hA [0, 3, 5, 6, 8, 9, 1, 10, 2] (by decide +kernel) rfl
                    refine va_callv (va_runV (As := [.ref pl]) (rest := []) ⟨hx, hb, hml, hown, hts⟩ (c_keepIf l D cI cJ cZ cG cH H.size sg pl co srwa (1 : Int32) x245 f247 fwa fta fra fga cxa cup_260 clast_261 x250 x251 f252 fr_262 fg_263 f246 pna pta rails limit retry behind pn ⟨by decide, by decide⟩ (xwk_rng hf247 (by decide) (by decide)) (xrng rfl (by omega) (by omega)) (xwk_rng hf252 (by decide) (by decide)) (xwk_rng hf263_2 (by decide) (by decide)) (xwk_rng hf263_3 (by decide) (by decide)) (xrng rfl (by omega) (by omega)) (xwk_rng h_pn (by decide) (by decide)) hf263_4) (cwV 1 hts (xGV tbC wd595 wd596 wd597 wd56 wd1065) rfl rfl rfl (by decide +kernel) ⟨Nat.le_of_ble_eq_true rfl, Nat.le_of_ble_eq_true rfl⟩) ⟨xPc_blind, va_recv hK hPc (ci := 6) (q0 := 0) rfl rfl, xPc_pre hPc hK hDc⟩ rfl rfl hl.1 rfl (lv_room (Nat.le_of_ble_eq_true rfl)) dX7_findRow_142 ⟨Nat.le_of_ble_eq_true rfl, Nat.le_of_ble_eq_true rfl⟩) hS (fun q _ h => hFc q h) hFc (fun u t H1 locs ht hvm hw278 hB hz1 hk1 hS => ?_)
                    obtain ⟨slast_279, srow_280, cpeak_281, cptick_282, cx_283, hf283_0, hf283_1, hP1, hK1, hD1⟩ := hB
                    rw [ht] at hP1
                    obtain ⟨hP, hD⟩ : xPD D A [oAI rta cI 8 rt, oAI fta cI 8 ft_7, oAJ pta cJ 64 pt, oX7 sg co srwa 1 slast_279, oAI srwa cI 8 srow_280, oX0 co fwa fta fra fga cxa cup_260 clast_261 cpeak_281 cptick_282, oAI fwa cI 8 f252, oAI fra cI 8 fr_262, oAI fga cI 8 fg_263, oAI cxa cI 145 cx_283, oX3 pl pna pta rails limit retry behind, oAI pna cI 64 pn] H1 := xjn 3 hP hD [0, 3, 5, 6, 8, 9, 1, 10, 2] [4, 7, 11] hC9 rfl (by decide +kernel) (by decide +kernel) hk1 hFc hP1 hD1
                    generalize H1 = H at hP hS ⊢
                    have hf283_0 : ∀ j, j < 8 → 0 ≤ (srow_280 j).toInt ∧ (srow_280 j).toInt ≤ 511 := hf283_0
                    have hf283_1 : (-4) ≤ cptick_282.toInt ∧ cptick_282.toInt ≤ 144 := hf283_1
                    refine lv_aload_n hx hb dX7_findRow_145 rfl (lv_at hl 4 rfl) ?_
                    refine lv_iload hx hb dX7_findRow_146 (lv_at hl 3 rfl) ?_
                    obtain ⟨hPc, hDc, hFc, hC9⟩ := xpk (wc := W_nextRow cI cJ cZ cG cH sg cup_9 co srwa (1 : Int32) slast_279 fwa fta fra fga cxa cup_260 clast_261 cpeak_281 cptick_282 f252) hP hD hS hA [3, 5, 6] (by decide +kernel) rfl
                    refine va_calli (va_runV (As := [.int cup_9]) (rest := []) ⟨hx, hb, hml, hown, hts⟩ (c_nextRow l D cI cJ cZ cG cH H.size sg cup_9 co srwa (1 : Int32) slast_279 fwa fta fra fga cxa cup_260 clast_261 cpeak_281 cptick_282 f252 ⟨by decide, by decide⟩ (xrng rfl (by omega) (by omega)) (xwk_rng hf252 (by decide) (by decide))) (cwV 1 hts (xGV tbC wd600 wd601 wd602 wd56 wd1066) rfl rfl rfl (by decide +kernel) ⟨Nat.le_of_ble_eq_true rfl, Nat.le_of_ble_eq_true rfl⟩) ⟨xPc_blind, va_recv hK hPc (ci := 6) (q0 := 0) rfl rfl, xPc_pre hPc hK hDc⟩ rfl rfl hl.1 rfl (lv_room (Nat.le_of_ble_eq_true rfl)) dX7_findRow_148 ⟨Nat.le_of_ble_eq_true rfl, Nat.le_of_ble_eq_true rfl⟩) hS (fun q _ h => hFc q h) hFc (fun r284 u t H1 locs ht hvm hw284 hB hz1 hk1 hS => ?_)
                    obtain ⟨fw_285, hf285_0, hP1, hK1, hD1⟩ := hB
                    rw [ht] at hP1
                    obtain ⟨hP, hD⟩ : xPD D A [oAI rta cI 8 rt, oAI fta cI 8 ft_7, oAJ pta cJ 64 pt, oAI srwa cI 8 srow_280, oAI fra cI 8 fr_262, oAI fga cI 8 fg_263, oAI cxa cI 145 cx_283, oX3 pl pna pta rails limit retry behind, oAI pna cI 64 pn, oX7 sg co srwa 1 slast_279, oX0 co fwa fta fra fga cxa cup_260 clast_261 cpeak_281 cptick_282, oAI fwa cI 8 fw_285] H1 := xjn 9 hP hD [3, 5, 6] [0, 1, 2, 4, 7, 8, 9, 10, 11] hC9 rfl (by decide +kernel) (by decide +kernel) hk1 hFc hP1 hD1
                    generalize H1 = H at hP hS ⊢
                    have hf285_0 : ∀ j, j < 8 → 0 ≤ (fw_285 j).toInt ∧ (fw_285 j).toInt ≤ 511 := hf285_0
                    have hw284 : 0 ≤ r284.toInt ∧ r284.toInt ≤ 1 := hw284
                    refine lv_istore (lv' := [(6, .int r284), (7, .int x243), (5, .int clast_10), (4, .int cup_9), (0, .ref sg), (1, .ref pl), (2, .int s0), (3, .ref rta)]) hx hb dX7_findRow_151 hl (by decide) rfl (fun ls hl => ?_)
                    obtain ⟨x286, ex286⟩ : ∃ y : Int32, y = x243 + 1 := ⟨_, rfl⟩
                    have tx286 : x286.toInt = (x243.toInt + 1) := (congrArg Int32.toInt ex286).trans (xadd rfl (by decide) (by omega) (by omega))
                    refine lv_iinc (v := x286) (lv' := [(7, .int x286), (6, .int r284), (5, .int clast_10), (4, .int cup_9), (0, .ref sg), (1, .ref pl), (2, .int s0), (3, .ref rta)]) hx hb dX7_findRow_153 hl (k := 1) rfl (by rw [ex286]; rfl) (by decide) rfl (fun ls hl => ?_)
                    refine lv_goto (tgt := 85) hx hb dX7_findRow_156 (by decide) ?_
                    obtain ⟨hP, hD⟩ := xsb (ws' := [oX7 sg co srwa 1 slast_279, oAI cxa cI 145 cx_283, oAI pna cI 64 pn, oAI srwa cI 8 srow_280, oAI rta cI 8 rt, oX0 co fwa fta fra fga cxa cup_260 clast_261 cpeak_281 cptick_282, oAI fwa cI 8 fw_285, oAI fta cI 8 ft_7, oAI fra cI 8 fr_262, oAI fga cI 8 fg_263, oX3 pl pna pta rails limit retry behind, oAJ pta cJ 64 pt]) hP hD [9, 6, 8, 3, 0, 10, 11, 1, 4, 5, 7, 2] (by decide +kernel) rfl
                    exact ihhl255 x286 r284 slast_279 cx_283 srow_280 cup_260 clast_261 cpeak_281 cptick_282 fw_285 fr_262 fg_263 (by omega) (xrng tx286 (by omega) (by omega)) (xrng rfl (by omega) (by omega)) (xwk_rng hf283_0 (by decide) (by decide)) (xrng rfl (by omega) (by omega)) (xrng rfl (by omega) (by omega)) (xwk_rng hf285_0 (by decide) (by decide)) (xwk_rng hf263_2 (by decide) (by decide)) (xwk_rng hf263_3 (by decide) (by decide)) hf263_4 _ _ hP hD hS ls (lv_sub hl [0, 1, 2, 3, 4, 5, 6, 7] rfl)
      exact hl255 _ 0 1 (-4) cx g_3 cup_9 clast_10 cpeak cptick g_5 fr_11 fg_12 (Nat.lt_succ_self _) ⟨by decide, by decide⟩ ⟨by decide, by decide⟩ (xwk_rng rg_3 (by decide) (by decide)) (xrng rfl (by omega) (by omega)) (xrng rfl (by omega) (by omega)) (xwk_rng rg_5 (by decide) (by decide)) (xwk_rng hf12_2 (by decide) (by decide)) (xwk_rng hf12_3 (by decide) (by decide)) hf12_4 _ _ hP hD hS ls (lv_sub hl [0, 1, 2, 3, 4, 5, 6, 7] rfl)
    · skip
      have i_13 : cup_9.toInt = 0 := (ieq rfl (by decide)).mp c_13
      refine W.widen (k := 0) (n := 0) (by decide) (by decide) ?_
      exact W.vret hx hb hr (fun t ht hW => ⟨⟨(), rfl, trivial, ⟨1, (-4), g_3, cup_9, clast_10, cpeak, cptick, g_5, ft_7, fr_11, fg_12, cx, ⟨by decide, by decide⟩, (xwk_rng rg_3 (by decide) (by decide)), (xrng rfl (by omega) (by omega)), (xwk_rng rg_5 (by decide) (by decide)), (xwk_rng hf7_0 (by decide) (by decide)), (xwk_rng hf12_2 (by decide) (by decide)), (xwk_rng hf12_3 (by decide) (by decide)), hf12_4, xB_of9 ht hW hP hK hD [0, 3, 5, 6, 7, 8, 9, 1, 10, 2, 11, 4] (by decide +kernel) rfl⟩⟩, hS.F ht⟩) hS.2.2 dX7_findRow_69
  · skip
    have i_1 : ¬ (kn.toInt = 0) := fun h9 => c_1 ((ieq rfl (by decide)).mpr h9)
    refine W.widen (k := 0) (n := 0) (by decide) (by decide) ?_
    exact W.vret hx hb hr (fun t ht hW => ⟨⟨(), rfl, trivial, ⟨kn, slast, srow, cup, clast, cpeak, cptick, fw, ft, fr, fg, cx, (xrng rfl (by omega) (by omega)), (xwk_rng h_srow (by decide) (by decide)), (xrng rfl (by omega) (by omega)), (xwk_rng h_fw (by decide) (by decide)), (xwk_rng h_ft (by decide) (by decide)), (xwk_rng h_fr (by decide) (by decide)), (xwk_rng h_fg (by decide) (by decide)), h_le, xB_of9 ht hW hP hK hD [0, 1, 2, 3, 4, 5, 6, 7, 8, 9, 10, 11] (by decide +kernel) rfl⟩⟩, hS.F ht⟩) hS.2.2 dX7_findRow_7
