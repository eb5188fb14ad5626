abbrev W_dIsUp (cI cJ cZ cG cH : ClassId) (pl : Nat) (s0 : Int32) (r0 : Int32) (pna : Nat) (pta : Nat) (rails : Int32) (limit : Int32) (retry : Int32) (behind : Int32) (pt : Nat → Int64) : va_W := [(pl, .inr (2, [.ref pna, .ref pta, .int rails, .int limit, .int retry, .int behind])), (pta, .inl (cJ, 64, .inr (.inl pt)))]
abbrev Q_dIsUp (D : va_G) (cI cJ cZ cG cH : ClassId) (pl : Nat) (s0 : Int32) (r0 : Int32) (pna : Nat) (pta : Nat) (rails : Int32) (limit : Int32) (retry : Int32) (behind : Int32) (pt : Nat → Int64) (A : Nat → Prop) : Array Value → State → Outcome → State → Prop := va_Qi (fun (r : Int32) (_ : Unit) => 0 ≤ r.toInt ∧ r.toInt ≤ 1) (fun _ t => xB D (tyL cI cJ cZ cG cH) [(pl, .inr (2, [.ref pna, .ref pta, .int rails, .int limit, .int retry, .int behind])), (pta, .inl (cJ, 64, .inr (.inl pt)))] A t) A
abbrev rm_dIsUp : Room := { frames := 2, cells := 0, slots := 0, locals := 47 }
set_option maxRecDepth 100000 in
set_option maxHeartbeats 4000000 in
theorem c_dIsUp (l : Launch) (D : va_G) (cI cJ cZ cG cH : ClassId) (sz : Nat) (pl : Nat) (s0 : Int32) (r0 : Int32) (pna : Nat) (pta : Nat) (rails : Int32) (limit : Int32) (retry : Int32) (behind : Int32) (pt : Nat → Int64) (h_rails : 0 ≤ rails.toInt ∧ rails.toInt ≤ 8) : Met l yX1_isUpAmong (wt yX1_isUpAmong cX1_isUpAmong 3 (some .boolean)) rm_dIsUp (xPc [.ref pl, .int s0, .int r0] D (tyL cI cJ cZ cG cH) (W_dIsUp cI cJ cZ cG cH pl s0 r0 pna pta rails limit retry behind pt) sz) (Q_dIsUp D cI cJ cZ cG cH pl s0 r0 pna pta rails limit retry behind pt (va_A (W_dIsUp cI cJ cZ cG cH pl s0 r0 pna pta rails limit retry behind pt) sz)) 0 0 (va_A (W_dIsUp cI cJ cZ cG cH pl s0 r0 pna pta rails limit retry behind pt) sz) := by
  refine xMet (cc := cX1_isUpAmong) (maxL := 3) (ret := (some .boolean)) (Qf := Q_dIsUp D cI cJ cZ cG cH pl s0 r0 pna pta rails limit retry behind pt) (by decide) rfl (Nat.le_of_ble_eq_true rfl) ?_
  intro p e s m below meth c ls A hx hb hr hml hts hown hlocks hnm hsz hP hK hD hA hS hl
  have hown : s.vm.findClass RX1 = some m.cls := hown
  have hP : va_P D vwCl [(pl, .inr (2, [.ref pna, .ref pta, .int rails, .int limit, .int retry, .int behind])), (pta, .inl (cJ, 64, .inr (.inl pt)))] s.heap := hP
  have hD : va_D A [(pl, .inr (2, [.ref pna, .ref pta, .int rails, .int limit, .int retry, .int behind])), (pta, .inl (cJ, 64, .inr (.inl pt)))] := hD
  have hl : lv_has ls 3 [(0, .ref pl), (1, .int s0), (2, .int r0)] := hl
  refine lv_aload_n hx hb dX1_isUpAmong_0 rfl (lv_at hl 0 rfl) ?_
  refine lv_iload_n hx hb dX1_isUpAmong_1 rfl (lv_at hl 1 rfl) ?_
  have hPc := hP.sub (ws' := [(pl, .inr (2, [.ref pna, .ref pta, .int rails, .int limit, .int retry, .int behind])), (pta, .inl (cJ, 64, .inr (.inl pt)))]) [0, 1] rfl
  have hDc := hD.sub (ws' := [(pl, .inr (2, [.ref pna, .ref pta, .int rails, .int limit, .int retry, .int behind])), (pta, .inl (cJ, 64, .inr (.inl pt)))]) [0, 1] (by decide) rfl
  have hFc := va_free (wc := [(pl, .inr (2, [.ref pna, .ref pta, .int rails, .int limit, .int retry, .int behind])), (pta, .inl (cJ, 64, .inr (.inl pt)))]) hD hS hA [0, 1] rfl
  refine va_calli (va_runV (As := [.int s0]) (rest := []) ⟨hx, hb, hml, hown, hts⟩ (c_upAmong l D cI cJ cZ cG cH s.heap.size pl s0 pna pta rails limit retry behind pt (xrng rfl (by omega) (by omega))) (cwV 1 hts (xGV tbC wd1064 wd796 wd797 wd39 wd798) rfl rfl rfl (by decide +kernel) ⟨Nat.le_of_ble_eq_true rfl, Nat.le_of_ble_eq_true rfl⟩) ⟨xPc_blind, va_recv hK hPc (ci := 2) (q0 := 0) rfl rfl, xPc_pre hPc hK hDc⟩ rfl rfl hl.1 rfl (lv_room (Nat.le_of_ble_eq_true rfl)) dX1_isUpAmong_2 ⟨Nat.le_of_ble_eq_true rfl, Nat.le_of_ble_eq_true rfl⟩) hS (fun q _ h => hFc q h) hFc (fun r1 u t H1 locs ht hvm hw1 hB hz1 hk1 hS => ?_)
  obtain ⟨hP1, hK1, hD1⟩ := hB
  rw [ht] at hP1
  obtain ⟨hP, hD⟩ := va_join (wr := []) (w1 := [(pl, .inr (2, [.ref pna, .ref pta, .int rails, .int limit, .int retry, .int behind])), (pta, .inl (cJ, 64, .inr (.inl pt)))]) hP hD [0, 1] [] rfl rfl (by decide) (by decide) hk1 hFc hP1 hD1
  generalize H1 = H at hP hS ⊢
  have hP : va_P D vwCl [(pl, .inr (2, [.ref pna, .ref pta, .int rails, .int limit, .int retry, .int behind])), (pta, .inl (cJ, 64, .inr (.inl pt)))] H := hP
  have hD : va_D A [(pl, .inr (2, [.ref pna, .ref pta, .int rails, .int limit, .int retry, .int behind])), (pta, .inl (cJ, 64, .inr (.inl pt)))] := hD
  have hw1 : 0 ≤ r1.toInt ∧ r1.toInt ≤ 2147483647 := hw1
  refine lv_iload_n hx hb dX1_isUpAmong_5 rfl (lv_at hl 2 rfl) ?_
  refine lv_ishr hx hb dX1_isUpAmong_6 ?_
  refine lv_topi (fun v2 ev2 => ?_)
  refine lv_iconst (v := 1) hx hb dX1_isUpAmong_7 (by decide) ?_
  refine lv_iand hx hb dX1_isUpAmong_8 ?_
  refine lv_topi (fun v3 ev3 => ?_)
  have rv3 : 0 ≤ v3.toInt ∧ v3.toInt ≤ 1 := xandL ev3 (show (1 : Int32).toInt = 1 from (by decide)) (by omega)
  refine lv_iconst (v := 1) hx hb dX1_isUpAmong_9 (by decide) ?_
  refine lv_icmp_ne (tgt := 17) hx hb dX1_isUpAmong_10 (by decide) (fun c_4 => ?_) (fun c_4 => ?_)
  · skip
    have i_4 : ¬ (v3.toInt = 1) := fun h9 => c_4 ((ieq rfl (by decide)).mpr h9)
    refine lv_iconst (v := 0) hx hb dX1_isUpAmong_17 (by decide) ?_
    refine W.widen (k := 0) (n := 0) (by decide) (by decide) ?_
    have hP9 := hP.sub (ws' := [(pl, .inr (2, [.ref pna, .ref pta, .int rails, .int limit, .int retry, .int behind])), (pta, .inl (cJ, 64, .inr (.inl pt)))]) [0, 1] rfl
    have hD9 := hD.sub (ws' := [(pl, .inr (2, [.ref pna, .ref pta, .int rails, .int limit, .int retry, .int behind])), (pta, .inl (cJ, 64, .inr (.inl pt)))]) [0, 1] (by decide) rfl
    exact W.zret (v := 0) hx hb hr (by decide) (fun t ht hW => ⟨⟨0, (), rfl, ⟨by decide, by decide⟩, xB_of ht hW hP9 hK hD9⟩, hS.F ht⟩) hS.2.2 dX1_isUpAmong_18
  · skip
    have i_4 : v3.toInt = 1 := (ieq rfl (by decide)).mp c_4
    refine lv_iconst (v := 1) hx hb dX1_isUpAmong_13 (by decide) ?_
    refine lv_goto (tgt := 18) hx hb dX1_isUpAmong_14 (by decide) ?_
    refine W.widen (k := 0) (n := 0) (by decide) (by decide) ?_
    have hP9 := hP.sub (ws' := [(pl, .inr (2, [.ref pna, .ref pta, .int rails, .int limit, .int retry, .int behind])), (pta, .inl (cJ, 64, .inr (.inl pt)))]) [0, 1] rfl
    have hD9 := hD.sub (ws' := [(pl, .inr (2, [.ref pna, .ref pta, .int rails, .int limit, .int retry, .int behind])), (pta, .inl (cJ, 64, .inr (.inl pt)))]) [0, 1] (by decide) rfl
    exact W.zret (v := 1) hx hb hr (by decide) (fun t ht hW => ⟨⟨1, (), rfl, ⟨by decide, by decide⟩, xB_of ht hW hP9 hK hD9⟩, hS.F ht⟩) hS.2.2 dX1_isUpAmong_18
abbrev W_fewestCut (cI cJ cZ cG cH : ClassId) (pl : Nat) (s0 : Int32) (r0 : Int32) (pna : Nat) (pta : Nat) (rails : Int32) (limit : Int32) (retry : Int32) (behind : Int32) (pt : Nat → Int64) : va_W := [(pl, .inr (2, [.ref pna, .ref pta, .int rails, .int limit, .int retry, .int behind])), (pta, .inl (cJ, 64, .inr (.inl pt)))]
abbrev Q_fewestCut (D : va_G) (cI cJ cZ cG cH : ClassId) (pl : Nat) (s0 : Int32) (r0 : Int32) (pna : Nat) (pta : Nat) (rails : Int32) (limit : Int32) (retry : Int32) (behind : Int32) (pt : Nat → Int64) (A : Nat → Prop) : Array Value → State → Outcome → State → Prop := va_Qi (fun (r : Int32) (_ : Unit) => 0 ≤ r.toInt ∧ r.toInt ≤ 255) (fun _ t => xB D (tyL cI cJ cZ cG cH) [(pl, .inr (2, [.ref pna, .ref pta, .int rails, .int limit, .int retry, .int behind])), (pta, .inl (cJ, 64, .inr (.inl pt)))] A t) A
abbrev rm_fewestCut : Room := { frames := 3, cells := 0, slots := 0, locals := 69 }
set_option maxRecDepth 100000 in
set_option maxHeartbeats 4000000 in
theorem c_fewestCut (l : Launch) (D : va_G) (cI cJ cZ cG cH : ClassId) (sz : Nat) (pl : Nat) (s0 : Int32) (r0 : Int32) (pna : Nat) (pta : Nat) (rails : Int32) (limit : Int32) (retry : Int32) (behind : Int32) (pt : Nat → Int64) (h_rails : 0 ≤ rails.toInt ∧ rails.toInt ≤ 8) : Met l yX1_fewestThatCut (wt yX1_fewestThatCut cX1_fewestThatCut 7 (some .int)) rm_fewestCut (xPc [.ref pl, .int s0, .int r0] D (tyL cI cJ cZ cG cH) (W_fewestCut cI cJ cZ cG cH pl s0 r0 pna pta rails limit retry behind pt) sz) (Q_fewestCut D cI cJ cZ cG cH pl s0 r0 pna pta rails limit retry behind pt (va_A (W_fewestCut cI cJ cZ cG cH pl s0 r0 pna pta rails limit retry behind pt) sz)) 0 0 (va_A (W_fewestCut cI cJ cZ cG cH pl s0 r0 pna pta rails limit retry behind pt) sz) := by
  refine xMet (cc := cX1_fewestThatCut) (maxL := 7) (ret := (some .int)) (Qf := Q_fewestCut D cI cJ cZ cG cH pl s0 r0 pna pta rails limit retry behind pt) (by decide) rfl (Nat.le_of_ble_eq_true rfl) ?_
  intro p e s m below meth c ls A hx hb hr hml hts hown hlocks hnm hsz hP hK hD hA hS hl
  have hown : s.vm.findClass RX1 = some m.cls := hown
  have hP : va_P D vwCl [(pl, .inr (2, [.ref pna, .ref pta, .int rails, .int limit, .int retry, .int behind])), (pta, .inl (cJ, 64, .inr (.inl pt)))] s.heap := hP
  have hD : va_D A [(pl, .inr (2, [.ref pna, .ref pta, .int rails, .int limit, .int retry, .int behind])), (pta, .inl (cJ, 64, .inr (.inl pt)))] := hD
  have hl : lv_has ls 7 [(0, .ref pl), (1, .int s0), (2, .int r0)] := hl
  refine lv_iconst (v := 0) hx hb dX1_fewestThatCut_0 (by decide) ?_
  refine lv_istore_n (lv' := [(3, .int 0), (0, .ref pl), (1, .int s0), (2, .int r0)]) hx hb dX1_fewestThatCut_1 rfl hl (by decide) rfl (fun ls hl => ?_)
  refine lv_iconst (v := 1) hx hb dX1_fewestThatCut_2 (by decide) ?_
  refine lv_istore (lv' := [(4, .int 1), (3, .int 0), (0, .ref pl), (1, .int s0), (2, .int r0)]) hx hb dX1_fewestThatCut_3 hl (by decide) rfl (fun ls hl => ?_)
  have hl74 : ∀ (nhl74 : Nat) (x72 : Int32) (x73 : Int32), ((256 - x72.toInt).toNat < nhl74) → (hx72 : 1 ≤ x72.toInt ∧ x72.toInt ≤ 256) → (hx73 : 0 ≤ x73.toInt ∧ x73.toInt ≤ 255) → ∀ (H : Heap) (locs : List Loc), va_P D vwCl [(pl, .inr (2, [.ref pna, .ref pta, .int rails, .int limit, .int retry, .int behind])), (pta, .inl (cJ, 64, .inr (.inl pt)))] H → va_D A [(pl, .inr (2, [.ref pna, .ref pta, .int rails, .int limit, .int retry, .int behind])), (pta, .inl (cJ, 64, .inr (.inl pt)))] → va_S A s.heap H locs → ∀ (ls : Array Slot), lv_has ls 7 [(4, .int x72), (3, .int x73), (0, .ref pl), (1, .int s0), (2, .int r0)] → W p l e rm_fewestCut s m [Value.ref pl, Value.int s0, Value.int r0].toArray below meth c H locs 0 0 (MQ below ((Q_fewestCut D cI cJ cZ cG cH pl s0 r0 pna pta rails limit retry behind pt) A) [Value.ref pl, Value.int s0, Value.int r0].toArray s 0 0 A) (F0 m 5 ls []) := by
    intro nhl74
    induction nhl74 with
    | zero =>
      intro x72 x73 hmhl74
      exact absurd hmhl74 (Nat.not_lt_zero _)
    | succ nhl74 ihhl74 =>
      intro x72 x73 hmhl74 hx72 hx73 H locs hP hD hS ls hl
      refine lv_iload hx hb dX1_fewestThatCut_5 (lv_at hl 0 rfl) ?_
      refine lv_aload_n hx hb dX1_fewestThatCut_7 rfl (lv_at hl 2 rfl) ?_
      have hPc := hP.sub (ws' := [(pl, .inr (2, [.ref pna, .ref pta, .int rails, .int limit, .int retry, .int behind]))]) [0] rfl
      have hDc := hD.sub (ws' := [(pl, .inr (2, [.ref pna, .ref pta, .int rails, .int limit, .int retry, .int behind]))]) [0] (by decide) rfl
      have hFc := va_free (wc := [(pl, .inr (2, [.ref pna, .ref pta, .int rails, .int limit, .int retry, .int behind]))]) hD hS hA [0] rfl
      refine va_calli (va_runV (As := []) (rest := [.int x72]) ⟨hx, hb, hml, hown, hts⟩ (c_allRails l D cI cJ cZ cG cH H.size pl pna pta rails limit retry behind (xrng rfl (by omega) (by omega))) (cwV 0 hts (xGV tbC wd1053 wd576 wd577 wd39 wd578) rfl rfl rfl (by decide +kernel) ⟨Nat.le_of_ble_eq_true rfl, Nat.le_of_ble_eq_true rfl⟩) ⟨xPc_blind, va_recv hK hPc (ci := 2) (q0 := 0) rfl rfl, xPc_pre hPc hK hDc⟩ rfl rfl hl.1 rfl (lv_room (Nat.le_of_ble_eq_true rfl)) dX1_fewestThatCut_8 ⟨Nat.le_of_ble_eq_true rfl, Nat.le_of_ble_eq_true rfl⟩) hS (fun q _ h => hFc q h) hFc (fun r75 u t H1 locs ht hvm hw75 hB hz1 hk1 hS => ?_)
      obtain ⟨hP1, hK1, hD1⟩ := hB
      rw [ht] at hP1
      obtain ⟨hP, hD⟩ := va_join (wr := [(pta, .inl (cJ, 64, .inr (.inl pt)))]) (w1 := [(pl, .inr (2, [.ref pna, .ref pta, .int rails, .int limit, .int retry, .int behind]))]) hP hD [0] [1] rfl rfl (by decide) (by decide) hk1 hFc hP1 hD1
      generalize H1 = H at hP hS ⊢
      have hP : va_P D vwCl [(pta, .inl (cJ, 64, .inr (.inl pt))), (pl, .inr (2, [.ref pna, .ref pta, .int rails, .int limit, .int retry, .int behind]))] H := hP
      have hD : va_D A [(pta, .inl (cJ, 64, .inr (.inl pt))), (pl, .inr (2, [.ref pna, .ref pta, .int rails, .int limit, .int retry, .int behind]))] := hD
      have hw75 : 0 ≤ r75.toInt ∧ r75.toInt ≤ 255 := hw75
      refine lv_icmp_gt (tgt := 86) hx hb dX1_fewestThatCut_11 (by decide) (fun c_76 => ?_) (fun c_76 => ?_)
      · skip
        have i_76 : r75.toInt < x72.toInt := (ilt rfl rfl).mp c_76
        refine lv_iload_n hx hb dX1_fewestThatCut_86 rfl (lv_at hl 1 rfl) ?_
        refine W.widen (k := 0) (n := 0) (by decide) (by decide) ?_
        have hP9 := hP.sub (ws' := [(pl, .inr (2, [.ref pna, .ref pta, .int rails, .int limit, .int retry, .int behind])), (pta, .inl (cJ, 64, .inr (.inl pt)))]) [1, 0] rfl
        have hD9 := hD.sub (ws' := [(pl, .inr (2, [.ref pna, .ref pta, .int rails, .int limit, .int retry, .int behind])), (pta, .inl (cJ, 64, .inr (.inl pt)))]) [1, 0] (by decide) rfl
        exact W.iret (v := x73) hx hb hr (fun t ht hW => ⟨⟨x73, (), rfl, (xrng rfl (by omega) (by omega)), xB_of ht hW hP9 hK hD9⟩, hS.F ht⟩) hS.2.2 dX1_fewestThatCut_87
      · skip
        have i_76 : ¬ (r75.toInt < x72.toInt) := fun h9 => c_76 ((ilt rfl rfl).mpr h9)
        refine lv_iload hx hb dX1_fewestThatCut_14 (lv_at hl 0 rfl) ?_
        refine lv_iload_n hx hb dX1_fewestThatCut_16 rfl (lv_at hl 4 rfl) ?_
        refine lv_ishr hx hb dX1_fewestThatCut_17 ?_
        refine lv_topi (fun v77 ev77 => ?_)
        refine lv_iconst (v := 1) hx hb dX1_fewestThatCut_18 (by decide) ?_
        refine lv_iand hx hb dX1_fewestThatCut_19 ?_
        refine lv_topi (fun v78 ev78 => ?_)
        have rv78 : 0 ≤ v78.toInt ∧ v78.toInt ≤ 1 := xandL ev78 (show (1 : Int32).toInt = 1 from (by decide)) (by omega)
        refine lv_if_ne (tgt := 27) hx hb dX1_fewestThatCut_20 (by decide) (fun c_79 => ?_) (fun c_79 => ?_)
        · skip
          have i_79 : ¬ (v78.toInt = 0) := fun h9 => c_79 ((ieq rfl (by decide)).mpr h9)
          refine lv_iconst (v := 0) hx hb dX1_fewestThatCut_27 (by decide) ?_
          refine lv_istore (lv' := [(5, .int 0), (4, .int x72), (3, .int x73), (0, .ref pl), (1, .int s0), (2, .int r0)]) hx hb dX1_fewestThatCut_28 hl (by decide) rfl (fun ls hl => ?_)
          refine lv_iload_n hx hb dX1_fewestThatCut_30 rfl (lv_at hl 2 rfl) ?_
          refine lv_if_eq (tgt := 46) hx hb dX1_fewestThatCut_31 (by decide) (fun c_80 => ?_) (fun c_80 => ?_)
          · skip
            have i_80 : x73.toInt = 0 := (ieq rfl (by decide)).mp c_80
            refine lv_iconst (v := 1) hx hb dX1_fewestThatCut_46 (by decide) ?_
            refine lv_goto (tgt := 51) hx hb dX1_fewestThatCut_47 (by decide) ?_
            refine lv_istore (lv' := [(6, .int 1), (5, .int 0), (4, .int x72), (3, .int x73), (0, .ref pl), (1, .int s0), (2, .int r0)]) hx hb dX1_fewestThatCut_51 hl (by decide) rfl (fun ls hl => ?_)
            refine lv_iload hx hb dX1_fewestThatCut_53 (lv_at hl 1 rfl) ?_
            refine lv_if_eq (tgt := 80) hx hb dX1_fewestThatCut_55 (by decide) (fun _ => ?_) (fun c9 => absurd c9 (by decide))
            obtain ⟨x81, ex81⟩ : ∃ y : Int32, y = x72 + 1 := ⟨_, rfl⟩
            have tx81 : x81.toInt = (x72.toInt + 1) := (congrArg Int32.toInt ex81).trans (xadd rfl (by decide) (by omega) (by omega))
            refine lv_iinc (v := x81) (lv' := [(4, .int x81), (6, .int 1), (5, .int 0), (3, .int x73), (0, .ref pl), (1, .int s0), (2, .int r0)]) hx hb dX1_fewestThatCut_80 hl (k := 2) rfl (by rw [ex81]; rfl) (by decide) rfl (fun ls hl => ?_)
            refine lv_goto (tgt := 5) hx hb dX1_fewestThatCut_83 (by decide) ?_
            have hP := hP.sub (ws' := [(pl, .inr (2, [.ref pna, .ref pta, .int rails, .int limit, .int retry, .int behind])), (pta, .inl (cJ, 64, .inr (.inl pt)))]) [1, 0] rfl
            have hD := hD.sub (ws' := [(pl, .inr (2, [.ref pna, .ref pta, .int rails, .int limit, .int retry, .int behind])), (pta, .inl (cJ, 64, .inr (.inl pt)))]) [1, 0] (by decide) rfl
            exact ihhl74 x81 x73 (by omega) (xrng tx81 (by omega) (by omega)) (xrng rfl (by omega) (by omega)) _ _ hP hD hS ls (lv_sub hl [0, 3, 4, 5, 6] rfl)
          · skip
            have i_80 : ¬ (x73.toInt = 0) := fun h9 => c_80 ((ieq rfl (by decide)).mpr h9)
            refine lv_iload hx hb dX1_fewestThatCut_34 (lv_at hl 1 rfl) ?_
            have hPc := hP.sub (ws' := []) [] rfl
            have hDc := hD.sub (ws' := []) [] (by decide) rfl
            have hFc := va_free (wc := []) hD hS hA [] rfl
            refine va_calli (va_runS (As := [.int x72]) (rest := []) ⟨hx, hb, hml, hown, hts⟩ (c_bitCount l D cI cJ cZ cG cH H.size x72) (va_cwS 1 hts (xGS tbC wd1054 wd1055 wd1056 wd1057) rfl rfl rfl (by decide +kernel) ⟨Nat.le_of_ble_eq_true rfl, Nat.le_of_ble_eq_true rfl⟩) ⟨xPc_blind, xPc_pre hPc hK hDc⟩ rfl rfl hl.1 rfl (lv_room (Nat.le_of_ble_eq_true rfl)) dX1_fewestThatCut_36 ⟨Nat.le_of_ble_eq_true rfl, Nat.le_of_ble_eq_true rfl⟩) hS (fun q _ h => hFc q h) hFc (fun r82 u t H1 locs ht hvm hw82 hB hz1 hk1 hS => ?_)
            obtain ⟨hP1, hK1, hD1⟩ := hB
            rw [ht] at hP1
            obtain ⟨hP, hD⟩ := va_join (wr := [(pta, .inl (cJ, 64, .inr (.inl pt))), (pl, .inr (2, [.ref pna, .ref pta, .int rails, .int limit, .int retry, .int behind]))]) (w1 := []) hP hD [] [0, 1] rfl rfl (by decide) (by decide) hk1 hFc hP1 hD1
            generalize H1 = H at hP hS ⊢
            have hP : va_P D vwCl [(pta, .inl (cJ, 64, .inr (.inl pt))), (pl, .inr (2, [.ref pna, .ref pta, .int rails, .int limit, .int retry, .int behind]))] H := hP
            have hD : va_D A [(pta, .inl (cJ, 64, .inr (.inl pt))), (pl, .inr (2, [.ref pna, .ref pta, .int rails, .int limit, .int retry, .int behind]))] := hD
            have hw82 : 0 ≤ r82.toInt ∧ r82.toInt ≤ 63 := hw82
            refine lv_iload_n hx hb dX1_fewestThatCut_39 rfl (lv_at hl 2 rfl) ?_
            have hPc := hP.sub (ws' := []) [] rfl
            have hDc := hD.sub (ws' := []) [] (by decide) rfl
            have hFc := va_free (wc := []) hD hS hA [] rfl
            refine va_calli (va_runS (As := [.int x73]) (rest := [.int r82]) ⟨hx, hb, hml, hown, hts⟩ (c_bitCount l D cI cJ cZ cG cH H.size x73) (va_cwS 1 hts (xGS tbC wd1054 wd1055 wd1056 wd1057) rfl rfl rfl (by decide +kernel) ⟨Nat.le_of_ble_eq_true rfl, Nat.le_of_ble_eq_true rfl⟩) ⟨xPc_blind, xPc_pre hPc hK hDc⟩ rfl rfl hl.1 rfl (lv_room (Nat.le_of_ble_eq_true rfl)) dX1_fewestThatCut_40 ⟨Nat.le_of_ble_eq_true rfl, Nat.le_of_ble_eq_true rfl⟩) hS (fun q _ h => hFc q h) hFc (fun r83 u t H1 locs ht hvm hw83 hB hz1 hk1 hS => ?_)
            obtain ⟨hP1, hK1, hD1⟩ := hB
            rw [ht] at hP1
            obtain ⟨hP, hD⟩ := va_join (wr := [(pta, .inl (cJ, 64, .inr (.inl pt))), (pl, .inr (2, [.ref pna, .ref pta, .int rails, .int limit, .int retry, .int behind]))]) (w1 := []) hP hD [] [0, 1] rfl rfl (by decide) (by decide) hk1 hFc hP1 hD1
            generalize H1 = H at hP hS ⊢
            have hP : va_P D vwCl [(pta, .inl (cJ, 64, .inr (.inl pt))), (pl, .inr (2, [.ref pna, .ref pta, .int rails, .int limit, .int retry, .int behind]))] H := hP
            have hD : va_D A [(pta, .inl (cJ, 64, .inr (.inl pt))), (pl, .inr (2, [.ref pna, .ref pta, .int rails, .int limit, .int retry, .int behind]))] := hD
            have hw83 : 0 ≤ r83.toInt ∧ r83.toInt ≤ 63 := hw83
            refine lv_icmp_ge (tgt := 50) hx hb dX1_fewestThatCut_43 (by decide) (fun c_84 => ?_) (fun c_84 => ?_)
            · skip
              have i_84 : r83.toInt ≤ r82.toInt := (ile rfl rfl).mp c_84
              refine lv_iconst (v := 0) hx hb dX1_fewestThatCut_50 (by decide) ?_
              refine lv_istore (lv' := [(6, .int 0), (5, .int 0), (4, .int x72), (3, .int x73), (0, .ref pl), (1, .int s0), (2, .int r0)]) hx hb dX1_fewestThatCut_51 hl (by decide) rfl (fun ls hl => ?_)
              refine lv_iload hx hb dX1_fewestThatCut_53 (lv_at hl 1 rfl) ?_
              refine lv_if_eq (tgt := 80) hx hb dX1_fewestThatCut_55 (by decide) (fun _ => ?_) (fun c9 => absurd c9 (by decide))
              obtain ⟨x85, ex85⟩ : ∃ y : Int32, y = x72 + 1 := ⟨_, rfl⟩
              have tx85 : x85.toInt = (x72.toInt + 1) := (congrArg Int32.toInt ex85).trans (xadd rfl (by decide) (by omega) (by omega))
              refine lv_iinc (v := x85) (lv' := [(4, .int x85), (6, .int 0), (5, .int 0), (3, .int x73), (0, .ref pl), (1, .int s0), (2, .int r0)]) hx hb dX1_fewestThatCut_80 hl (k := 2) rfl (by rw [ex85]; rfl) (by decide) rfl (fun ls hl => ?_)
              refine lv_goto (tgt := 5) hx hb dX1_fewestThatCut_83 (by decide) ?_
              have hP := hP.sub (ws' := [(pl, .inr (2, [.ref pna, .ref pta, .int rails, .int limit, .int retry, .int behind])), (pta, .inl (cJ, 64, .inr (.inl pt)))]) [1, 0] rfl
              have hD := hD.sub (ws' := [(pl, .inr (2, [.ref pna, .ref pta, .int rails, .int limit, .int retry, .int behind])), (pta, .inl (cJ, 64, .inr (.inl pt)))]) [1, 0] (by decide) rfl
              exact ihhl74 x85 x73 (by omega) (xrng tx85 (by omega) (by omega)) (xrng rfl (by omega) (by omega)) _ _ hP hD hS ls (lv_sub hl [0, 3, 4, 5, 6] rfl)
            · skip
              have i_84 : ¬ (r83.toInt ≤ r82.toInt) := fun h9 => c_84 ((ile rfl rfl).mpr h9)
              refine lv_iconst (v := 1) hx hb dX1_fewestThatCut_46 (by decide) ?_
              refine lv_goto (tgt := 51) hx hb dX1_fewestThatCut_47 (by decide) ?_
              refine lv_istore (lv' := [(6, .int 1), (5, .int 0), (4, .int x72), (3, .int x73), (0, .ref pl), (1, .int s0), (2, .int r0)]) hx hb dX1_fewestThatCut_51 hl (by decide) rfl (fun ls hl => ?_)
              refine lv_iload hx hb dX1_fewestThatCut_53 (lv_at hl 1 rfl) ?_
              refine lv_if_eq (tgt := 80) hx hb dX1_fewestThatCut_55 (by decide) (fun _ => ?_) (fun c9 => absurd c9 (by decide))
              obtain ⟨x86, ex86⟩ : ∃ y : Int32, y = x72 + 1 := ⟨_, rfl⟩
              have tx86 : x86.toInt = (x72.toInt + 1) := (congrArg Int32.toInt ex86).trans (xadd rfl (by decide) (by omega) (by omega))
              refine lv_iinc (v := x86) (lv' := [(4, .int x86), (6, .int 1), (5, .int 0), (3, .int x73), (0, .ref pl), (1, .int s0), (2, .int r0)]) hx hb dX1_fewestThatCut_80 hl (k := 2) rfl (by rw [ex86]; rfl) (by decide) rfl (fun ls hl => ?_)
              refine lv_goto (tgt := 5) hx hb dX1_fewestThatCut_83 (by decide) ?_
              have hP := hP.sub (ws' := [(pl, .inr (2, [.ref pna, .ref pta, .int rails, .int limit, .int retry, .int behind])), (pta, .inl (cJ, 64, .inr (.inl pt)))]) [1, 0] rfl
              have hD := hD.sub (ws' := [(pl, .inr (2, [.ref pna, .ref pta, .int rails, .int limit, .int retry, .int behind])), (pta, .inl (cJ, 64, .inr (.inl pt)))]) [1, 0] (by decide) rfl
              exact ihhl74 x86 x73 (by omega) (xrng tx86 (by omega) (by omega)) (xrng rfl (by omega) (by omega)) _ _ hP hD hS ls (lv_sub hl [0, 3, 4, 5, 6] rfl)
        · skip
          have i_79 : v78.toInt = 0 := (ieq rfl (by decide)).mp c_79
          refine lv_iconst (v := 1) hx hb dX1_fewestThatCut_23 (by decide) ?_
          refine lv_goto (tgt := 28) hx hb dX1_fewestThatCut_24 (by decide) ?_
          refine lv_istore (lv' := [(5, .int 1), (4, .int x72), (3, .int x73), (0, .ref pl), (1, .int s0), (2, .int r0)]) hx hb dX1_fewestThatCut_28 hl (by decide) rfl (fun ls hl => ?_)
          refine lv_iload_n hx hb dX1_fewestThatCut_30 rfl (lv_at hl 2 rfl) ?_
          refine lv_if_eq (tgt := 46) hx hb dX1_fewestThatCut_31 (by decide) (fun c_87 => ?_) (fun c_87 => ?_)
          · skip
            have i_87 : x73.toInt = 0 := (ieq rfl (by decide)).mp c_87
            refine lv_iconst (v := 1) hx hb dX1_fewestThatCut_46 (by decide) ?_
            refine lv_goto (tgt := 51) hx hb dX1_fewestThatCut_47 (by decide) ?_
            refine lv_istore (lv' := [(6, .int 1), (5, .int 1), (4, .int x72), (3, .int x73), (0, .ref pl), (1, .int s0), (2, .int r0)]) hx hb dX1_fewestThatCut_51 hl (by decide) rfl (fun ls hl => ?_)
            refine lv_iload hx hb dX1_fewestThatCut_53 (lv_at hl 1 rfl) ?_
            refine lv_if_eq (tgt := 80) hx hb dX1_fewestThatCut_55 (by decide) (fun c9 => absurd c9 (by decide)) (fun _ => ?_)
            refine lv_iload hx hb dX1_fewestThatCut_58 (lv_at hl 0 rfl) ?_
            refine lv_if_eq (tgt := 80) hx hb dX1_fewestThatCut_60 (by decide) (fun c9 => absurd c9 (by decide)) (fun _ => ?_)
            refine lv_aload_n hx hb dX1_fewestThatCut_63 rfl (lv_at hl 4 rfl) ?_
            refine lv_iload_n hx hb dX1_fewestThatCut_64 rfl (lv_at hl 5 rfl) ?_
            refine lv_iload hx hb dX1_fewestThatCut_65 (lv_at hl 2 rfl) ?_
            refine lv_iconst (v := (-1)) hx hb dX1_fewestThatCut_67 (by decide) ?_
            refine lv_ixor hx hb dX1_fewestThatCut_68 ?_
            refine lv_topi (fun v88 ev88 => ?_)
            refine lv_iand hx hb dX1_fewestThatCut_69 ?_
            refine lv_topi (fun v89 ev89 => ?_)
            refine lv_iload_n hx hb dX1_fewestThatCut_70 rfl (lv_at hl 6 rfl) ?_
            have hPc := hP.sub (ws' := [(pl, .inr (2, [.ref pna, .ref pta, .int rails, .int limit, .int retry, .int behind])), (pta, .inl (cJ, 64, .inr (.inl pt)))]) [1, 0] rfl
            have hDc := hD.sub (ws' := [(pl, .inr (2, [.ref pna, .ref pta, .int rails, .int limit, .int retry, .int behind])), (pta, .inl (cJ, 64, .inr (.inl pt)))]) [1, 0] (by decide) rfl
            have hFc := va_free (wc := [(pl, .inr (2, [.ref pna, .ref pta, .int rails, .int limit, .int retry, .int behind])), (pta, .inl (cJ, 64, .inr (.inl pt)))]) hD hS hA [1, 0] rfl
            refine va_calli (va_runS (As := [.ref pl, .int v89, .int r0]) (rest := []) ⟨hx, hb, hml, hown, hts⟩ (c_dIsUp l D cI cJ cZ cG cH H.size pl v89 r0 pna pta rails limit retry behind pt (xrng rfl (by omega) (by omega))) (va_cwS 3 hts (xGS tbC wd1061 wd1062 wd1051 wd1063) rfl rfl rfl (by decide +kernel) ⟨Nat.le_of_ble_eq_true rfl, Nat.le_of_ble_eq_true rfl⟩) ⟨xPc_blind, xPc_pre hPc hK hDc⟩ rfl rfl hl.1 rfl (lv_room (Nat.le_of_ble_eq_true rfl)) dX1_fewestThatCut_71 ⟨Nat.le_of_ble_eq_true rfl, Nat.le_of_ble_eq_true rfl⟩) hS (fun q _ h => hFc q h) hFc (fun r90 u t H1 locs ht hvm hw90 hB hz1 hk1 hS => ?_)
            obtain ⟨hP1, hK1, hD1⟩ := hB
            rw [ht] at hP1
            obtain ⟨hP, hD⟩ := va_join (wr := []) (w1 := [(pl, .inr (2, [.ref pna, .ref pta, .int rails, .int limit, .int retry, .int behind])), (pta, .inl (cJ, 64, .inr (.inl pt)))]) hP hD [1, 0] [] rfl rfl (by decide) (by decide) hk1 hFc hP1 hD1
            generalize H1 = H at hP hS ⊢
            have hP : va_P D vwCl [(pl, .inr (2, [.ref pna, .ref pta, .int rails, .int limit, .int retry, .int behind])), (pta, .inl (cJ, 64, .inr (.inl pt)))] H := hP
            have hD : va_D A [(pl, .inr (2, [.ref pna, .ref pta, .int rails, .int limit, .int retry, .int behind])), (pta, .inl (cJ, 64, .inr (.inl pt)))] := hD
            have hw90 : 0 ≤ r90.toInt ∧ r90.toInt ≤ 1 := hw90
            refine lv_if_ne (tgt := 80) hx hb dX1_fewestThatCut_74 (by decide) (fun c_91 => ?_) (fun c_91 => ?_)
            · skip
              have i_91 : ¬ (r90.toInt = 0) := fun h9 => c_91 ((ieq rfl (by decide)).mpr h9)
              obtain ⟨x92, ex92⟩ : ∃ y : Int32, y = x72 + 1 := ⟨_, rfl⟩
              have tx92 : x92.toInt = (x72.toInt + 1) := (congrArg Int32.toInt ex92).trans (xadd rfl (by decide) (by omega) (by omega))
              refine lv_iinc (v := x92) (lv' := [(4, .int x92), (6, .int 1), (5, .int 1), (3, .int x73), (0, .ref pl), (1, .int s0), (2, .int r0)]) hx hb dX1_fewestThatCut_80 hl (k := 2) rfl (by rw [ex92]; rfl) (by decide) rfl (fun ls hl => ?_)
              refine lv_goto (tgt := 5) hx hb dX1_fewestThatCut_83 (by decide) ?_
              exact ihhl74 x92 x73 (by omega) (xrng tx92 (by omega) (by omega)) (xrng rfl (by omega) (by omega)) _ _ hP hD hS ls (lv_sub hl [0, 3, 4, 5, 6] rfl)
            · skip
              have i_91 : r90.toInt = 0 := (ieq rfl (by decide)).mp c_91
              refine lv_iload hx hb dX1_fewestThatCut_77 (lv_at hl 2 rfl) ?_
              refine lv_istore_n (lv' := [(3, .int x72), (6, .int 1), (5, .int 1), (4, .int x72), (0, .ref pl), (1, .int s0), (2, .int r0)]) hx hb dX1_fewestThatCut_79 rfl hl (by decide) rfl (fun ls hl => ?_)
              obtain ⟨x93, ex93⟩ : ∃ y : Int32, y = x72 + 1 := ⟨_, rfl⟩
              have tx93 : x93.toInt = (x72.toInt + 1) := (congrArg Int32.toInt ex93).trans (xadd rfl (by decide) (by omega) (by omega))
              refine lv_iinc (v := x93) (lv' := [(4, .int x93), (3, .int x72), (6, .int 1), (5, .int 1), (0, .ref pl), (1, .int s0), (2, .int r0)]) hx hb dX1_fewestThatCut_80 hl (k := 3) rfl (by rw [ex93]; rfl) (by decide) rfl (fun ls hl => ?_)
              refine lv_goto (tgt := 5) hx hb dX1_fewestThatCut_83 (by decide) ?_
              exact ihhl74 x93 x72 (by omega) (xrng tx93 (by omega) (by omega)) (xrng rfl (by omega) (by omega)) _ _ hP hD hS ls (lv_sub hl [0, 1, 4, 5, 6] rfl)
          · skip
            have i_87 : ¬ (x73.toInt = 0) := fun h9 => c_87 ((ieq rfl (by decide)).mpr h9)
            refine lv_iload hx hb dX1_fewestThatCut_34 (lv_at hl 1 rfl) ?_
            have hPc := hP.sub (ws' := []) [] rfl
            have hDc := hD.sub (ws' := []) [] (by decide) rfl
            have hFc := va_free (wc := []) hD hS hA [] rfl
            refine va_calli (va_runS (As := [.int x72]) (rest := []) ⟨hx, hb, hml, hown, hts⟩ (c_bitCount l D cI cJ cZ cG cH H.size x72) (va_cwS 1 hts (xGS tbC wd1054 wd1055 wd1056 wd1057) rfl rfl rfl (by decide +kernel) ⟨Nat.le_of_ble_eq_true rfl, Nat.le_of_ble_eq_true rfl⟩) ⟨xPc_blind, xPc_pre hPc hK hDc⟩ rfl rfl hl.1 rfl (lv_room (Nat.le_of_ble_eq_true rfl)) dX1_fewestThatCut_36 ⟨Nat.le_of_ble_eq_true rfl, Nat.le_of_ble_eq_true rfl⟩) hS (fun q _ h => hFc q h) hFc (fun r94 u t H1 locs ht hvm hw94 hB hz1 hk1 hS => ?_)
            obtain ⟨hP1, hK1, hD1⟩ := hB
            rw [ht] at hP1
            obtain ⟨hP, hD⟩ := va_join (wr := [(pta, .inl (cJ, 64, .inr (.inl pt))), (pl, .inr (2, [.ref pna, .ref pta, .int rails, .int limit, .int retry, .int behind]))]) (w1 := []) hP hD [] [0, 1] rfl rfl (by decide) (by decide) hk1 hFc hP1 hD1
            generalize H1 = H at hP hS ⊢
            have hP : va_P D vwCl [(pta, .inl (cJ, 64, .inr (.inl pt))), (pl, .inr (2, [.ref pna, .ref pta, .int rails, .int limit, .int retry, .int behind]))] H := hP
            have hD : va_D A [(pta, .inl (cJ, 64, .inr (.inl pt))), (pl, .inr (2, [.ref pna, .ref pta, .int rails, .int limit, .int retry, .int behind]))] := hD
            have hw94 : 0 ≤ r94.toInt ∧ r94.toInt ≤ 63 := hw94
            refine lv_iload_n hx hb dX1_fewestThatCut_39 rfl (lv_at hl 2 rfl) ?_
            have hPc := hP.sub (ws' := []) [] rfl
            have hDc := hD.sub (ws' := []) [] (by decide) rfl
            have hFc := va_free (wc := []) hD hS hA [] rfl
            refine va_calli (va_runS (As := [.int x73]) (rest := [.int r94]) ⟨hx, hb, hml, hown, hts⟩ (c_bitCount l D cI cJ cZ cG cH H.size x73) (va_cwS 1 hts (xGS tbC wd1054 wd1055 wd1056 wd1057) rfl rfl rfl (by decide +kernel) ⟨Nat.le_of_ble_eq_true rfl, Nat.le_of_ble_eq_true rfl⟩) ⟨xPc_blind, xPc_pre hPc hK hDc⟩ rfl rfl hl.1 rfl (lv_room (Nat.le_of_ble_eq_true rfl)) dX1_fewestThatCut_40 ⟨Nat.le_of_ble_eq_true rfl, Nat.le_of_ble_eq_true rfl⟩) hS (fun q _ h => hFc q h) hFc (fun r95 u t H1 locs ht hvm hw95 hB hz1 hk1 hS => ?_)
            obtain ⟨hP1, hK1, hD1⟩ := hB
            rw [ht] at hP1
            obtain ⟨hP, hD⟩ := va_join (wr := [(pta, .inl (cJ, 64, .inr (.inl pt))), (pl, .inr (2, [.ref pna, .ref pta, .int rails, .int limit, .int retry, .int behind]))]) (w1 := []) hP hD [] [0, 1] rfl rfl (by decide) (by decide) hk1 hFc hP1 hD1
            generalize H1 = H at hP hS ⊢
            have hP : va_P D vwCl [(pta, .inl (cJ, 64, .inr (.inl pt))), (pl, .inr (2, [.ref pna, .ref pta, .int rails, .int limit, .int retry, .int behind]))] H := hP
            have hD : va_D A [(pta, .inl (cJ, 64, .inr (.inl pt))), (pl, .inr (2, [.ref pna, .ref pta, .int rails, .int limit, .int retry, .int behind]))] := hD
            have hw95 : 0 ≤ r95.toInt ∧ r95.toInt ≤ 63 := hw95
            refine lv_icmp_ge (tgt := 50) hx hb dX1_fewestThatCut_43 (by decide) (fun c_96 => ?_) (fun c_96 => ?_)
            · skip
              have i_96 : r95.toInt ≤ r94.toInt := (ile rfl rfl).mp c_96
              refine lv_iconst (v := 0) hx hb dX1_fewestThatCut_50 (by decide) ?_
              refine lv_istore (lv' := [(6, .int 0), (5, .int 1), (4, .int x72), (3, .int x73), (0, .ref pl), (1, .int s0), (2, .int r0)]) hx hb dX1_fewestThatCut_51 hl (by decide) rfl (fun ls hl => ?_)
              refine lv_iload hx hb dX1_fewestThatCut_53 (lv_at hl 1 rfl) ?_
              refine lv_if_eq (tgt := 80) hx hb dX1_fewestThatCut_55 (by decide) (fun c9 => absurd c9 (by decide)) (fun _ => ?_)
              refine lv_iload hx hb dX1_fewestThatCut_58 (lv_at hl 0 rfl) ?_
              refine lv_if_eq (tgt := 80) hx hb dX1_fewestThatCut_60 (by decide) (fun _ => ?_) (fun c9 => absurd c9 (by decide))
              obtain ⟨x97, ex97⟩ : ∃ y : Int32, y = x72 + 1 := ⟨_, rfl⟩
              have tx97 : x97.toInt = (x72.toInt + 1) := (congrArg Int32.toInt ex97).trans (xadd rfl (by decide) (by omega) (by omega))
              refine lv_iinc (v := x97) (lv' := [(4, .int x97), (6, .int 0), (5, .int 1), (3, .int x73), (0, .ref pl), (1, .int s0), (2, .int r0)]) hx hb dX1_fewestThatCut_80 hl (k := 2) rfl (by rw [ex97]; rfl) (by decide) rfl (fun ls hl => ?_)
              refine lv_goto (tgt := 5) hx hb dX1_fewestThatCut_83 (by decide) ?_
              have hP := hP.sub (ws' := [(pl, .inr (2, [.ref pna, .ref pta, .int rails, .int limit, .int retry, .int behind])), (pta, .inl (cJ, 64, .inr (.inl pt)))]) [1, 0] rfl
              have hD := hD.sub (ws' := [(pl, .inr (2, [.ref pna, .ref pta, .int rails, .int limit, .int retry, .int behind])), (pta, .inl (cJ, 64, .inr (.inl pt)))]) [1, 0] (by decide) rfl
              exact ihhl74 x97 x73 (by omega) (xrng tx97 (by omega) (by omega)) (xrng rfl (by omega) (by omega)) _ _ hP hD hS ls (lv_sub hl [0, 3, 4, 5, 6] rfl)
            · skip
              have i_96 : ¬ (r95.toInt ≤ r94.toInt) := fun h9 => c_96 ((ile rfl rfl).mpr h9)
              refine lv_iconst (v := 1) hx hb dX1_fewestThatCut_46 (by decide) ?_
              refine lv_goto (tgt := 51) hx hb dX1_fewestThatCut_47 (by decide) ?_
              refine lv_istore (lv' := [(6, .int 1), (5, .int 1), (4, .int x72), (3, .int x73), (0, .ref pl), (1, .int s0), (2, .int r0)]) hx hb dX1_fewestThatCut_51 hl (by decide) rfl (fun ls hl => ?_)
              refine lv_iload hx hb dX1_fewestThatCut_53 (lv_at hl 1 rfl) ?_
              refine lv_if_eq (tgt := 80) hx hb dX1_fewestThatCut_55 (by decide) (fun c9 => absurd c9 (by decide)) (fun _ => ?_)
              refine lv_iload hx hb dX1_fewestThatCut_58 (lv_at hl 0 rfl) ?_
              refine lv_if_eq (tgt := 80) hx hb dX1_fewestThatCut_60 (by decide) (fun c9 => absurd c9 (by decide)) (fun _ => ?_)
              refine lv_aload_n hx hb dX1_fewestThatCut_63 rfl (lv_at hl 4 rfl) ?_
              refine lv_iload_n hx hb dX1_fewestThatCut_64 rfl (lv_at hl 5 rfl) ?_
              refine lv_iload hx hb dX1_fewestThatCut_65 (lv_at hl 2 rfl) ?_
              refine lv_iconst (v := (-1)) hx hb dX1_fewestThatCut_67 (by decide) ?_
              refine lv_ixor hx hb dX1_fewestThatCut_68 ?_
              refine lv_topi (fun v98 ev98 => ?_)
              refine lv_iand hx hb dX1_fewestThatCut_69 ?_
              refine lv_topi (fun v99 ev99 => ?_)
              refine lv_iload_n hx hb dX1_fewestThatCut_70 rfl (lv_at hl 6 rfl) ?_
              have hPc := hP.sub (ws' := [(pl, .inr (2, [.ref pna, .ref pta, .int rails, .int limit, .int retry, .int behind])), (pta, .inl (cJ, 64, .inr (.inl pt)))]) [1, 0] rfl
              have hDc := hD.sub (ws' := [(pl, .inr (2, [.ref pna, .ref pta, .int rails, .int limit, .int retry, .int behind])), (pta, .inl (cJ, 64, .inr (.inl pt)))]) [1, 0] (by decide) rfl
              have hFc := va_free (wc := [(pl, .inr (2, [.ref pna, .ref pta, .int rails, .int limit, .int retry, .int behind])), (pta, .inl (cJ, 64, .inr (.inl pt)))]) hD hS hA [1, 0] rfl
              refine va_calli (va_runS (As := [.ref pl, .int v99, .int r0]) (rest := []) ⟨hx, hb, hml, hown, hts⟩ (c_dIsUp l D cI cJ cZ cG cH H.size pl v99 r0 pna pta rails limit retry behind pt (xrng rfl (by omega) (by omega))) (va_cwS 3 hts (xGS tbC wd1061 wd1062 wd1051 wd1063) rfl rfl rfl (by decide +kernel) ⟨Nat.le_of_ble_eq_true rfl, Nat.le_of_ble_eq_true rfl⟩) ⟨xPc_blind, xPc_pre hPc hK hDc⟩ rfl rfl hl.1 rfl (lv_room (Nat.le_of_ble_eq_true rfl)) dX1_fewestThatCut_71 ⟨Nat.le_of_ble_eq_true rfl, Nat.le_of_ble_eq_true rfl⟩) hS (fun q _ h => hFc q h) hFc (fun r100 u t H1 locs ht hvm hw100 hB hz1 hk1 hS => ?_)
              obtain ⟨hP1, hK1, hD1⟩ := hB
              rw [ht] at hP1
              obtain ⟨hP, hD⟩ := va_join (wr := []) (w1 := [(pl, .inr (2, [.ref pna, .ref pta, .int rails, .int limit, .int retry, .int behind])), (pta, .inl (cJ, 64, .inr (.inl pt)))]) hP hD [1, 0] [] rfl rfl (by decide) (by decide) hk1 hFc hP1 hD1
              generalize H1 = H at hP hS ⊢
              have hP : va_P D vwCl [(pl, .inr (2, [.ref pna, .ref pta, .int rails, .int limit, .int retry, .int behind])), (pta, .inl (cJ, 64, .inr (.inl pt)))] H := hP
              have hD : va_D A [(pl, .inr (2, [.ref pna, .ref pta, .int rails, .int limit, .int retry, .int behind])), (pta, .inl (cJ, 64, .inr (.inl pt)))] := hD
              have hw100 : 0 ≤ r100.toInt ∧ r100.toInt ≤ 1 := hw100
              refine lv_if_ne (tgt := 80) hx hb dX1_fewestThatCut_74 (by decide) (fun c_101 => ?_) (fun c_101 => ?_)
              · skip
                have i_101 : ¬ (r100.toInt = 0) := fun h9 => c_101 ((ieq rfl (by decide)).mpr h9)
                obtain ⟨x102, ex102⟩ : ∃ y : Int32, y = x72 + 1 := ⟨_, rfl⟩
                have tx102 : x102.toInt = (x72.toInt + 1) := (congrArg Int32.toInt ex102).trans (xadd rfl (by decide) (by omega) (by omega))
                refine lv_iinc (v := x102) (lv' := [(4, .int x102), (6, .int 1), (5, .int 1), (3, .int x73), (0, .ref pl), (1, .int s0), (2, .int r0)]) hx hb dX1_fewestThatCut_80 hl (k := 2) rfl (by rw [ex102]; rfl) (by decide) rfl (fun ls hl => ?_)
                refine lv_goto (tgt := 5) hx hb dX1_fewestThatCut_83 (by decide) ?_
                exact ihhl74 x102 x73 (by omega) (xrng tx102 (by omega) (by omega)) (xrng rfl (by omega) (by omega)) _ _ hP hD hS ls (lv_sub hl [0, 3, 4, 5, 6] rfl)
              · skip
                have i_101 : r100.toInt = 0 := (ieq rfl (by decide)).mp c_101
                refine lv_iload hx hb dX1_fewestThatCut_77 (lv_at hl 2 rfl) ?_
                refine lv_istore_n (lv' := [(3, .int x72), (6, .int 1), (5, .int 1), (4, .int x72), (0, .ref pl), (1, .int s0), (2, .int r0)]) hx hb dX1_fewestThatCut_79 rfl hl (by decide) rfl (fun ls hl => ?_)
                obtain ⟨x103, ex103⟩ : ∃ y : Int32, y = x72 + 1 := ⟨_, rfl⟩
                have tx103 : x103.toInt = (x72.toInt + 1) := (congrArg Int32.toInt ex103).trans (xadd rfl (by decide) (by omega) (by omega))
                refine lv_iinc (v := x103) (lv' := [(4, .int x103), (3, .int x72), (6, .int 1), (5, .int 1), (0, .ref pl), (1, .int s0), (2, .int r0)]) hx hb dX1_fewestThatCut_80 hl (k := 3) rfl (by rw [ex103]; rfl) (by decide) rfl (fun ls hl => ?_)
                refine lv_goto (tgt := 5) hx hb dX1_fewestThatCut_83 (by decide) ?_
                exact ihhl74 x103 x72 (by omega) (xrng tx103 (by omega) (by omega)) (xrng rfl (by omega) (by omega)) _ _ hP hD hS ls (lv_sub hl [0, 1, 4, 5, 6] rfl)
  exact hl74 _ 1 0 (Nat.lt_succ_self _) ⟨by decide, by decide⟩ ⟨by decide, by decide⟩ _ _ hP hD hS ls (lv_sub hl [0, 1, 2, 3, 4] rfl)
abbrev W_fewestDo (cI cJ cZ cG cH : ClassId) (pl : Nat) (s0 : Int32) (r0 : Int32) (pna : Nat) (pta : Nat) (rails : Int32) (limit : Int32) (retry : Int32) (behind : Int32) (pt : Nat → Int64) : va_W := [(pl, .inr (2, [.ref pna, .ref pta, .int rails, .int limit, .int retry, .int behind])), (pta, .inl (cJ, 64, .inr (.inl pt)))]
abbrev Q_fewestDo (D : va_G) (cI cJ cZ cG cH : ClassId) (pl : Nat) (s0 : Int32) (r0 : Int32) (pna : Nat) (pta : Nat) (rails : Int32) (limit : Int32) (retry : Int32) (behind : Int32) (pt : Nat → Int64) (A : Nat → Prop) : Array Value → State → Outcome → State → Prop := va_Qi (fun (r : Int32) (_ : Unit) => 0 ≤ r.toInt ∧ r.toInt ≤ 255) (fun _ t => xB D (tyL cI cJ cZ cG cH) [(pl, .inr (2, [.ref pna, .ref pta, .int rails, .int limit, .int retry, .int behind])), (pta, .inl (cJ, 64, .inr (.inl pt)))] A t) A
abbrev rm_fewestDo : Room := { frames := 3, cells := 0, slots := 0, locals := 69 }
set_option maxRecDepth 100000 in
set_option maxHeartbeats 4000000 in
theorem c_fewestDo (l : Launch) (D : va_G) (cI cJ cZ cG cH : ClassId) (sz : Nat) (pl : Nat) (s0 : Int32) (r0 : Int32) (pna : Nat) (pta : Nat) (rails : Int32) (limit : Int32) (retry : Int32) (behind : Int32) (pt : Nat → Int64) (h_rails : 0 ≤ rails.toInt ∧ rails.toInt ≤ 8) : Met l yX1_fewestThatDo (wt yX1_fewestThatDo cX1_fewestThatDo 6 (some .int)) rm_fewestDo (xPc [.ref pl, .int s0, .int r0] D (tyL cI cJ cZ cG cH) (W_fewestDo cI cJ cZ cG cH pl s0 r0 pna pta rails limit retry behind pt) sz) (Q_fewestDo D cI cJ cZ cG cH pl s0 r0 pna pta rails limit retry behind pt (va_A (W_fewestDo cI cJ cZ cG cH pl s0 r0 pna pta rails limit retry behind pt) sz)) 0 0 (va_A (W_fewestDo cI cJ cZ cG cH pl s0 r0 pna pta rails limit retry behind pt) sz) := by
  refine xMet (cc := cX1_fewestThatDo) (maxL := 6) (ret := (some .int)) (Qf := Q_fewestDo D cI cJ cZ cG cH pl s0 r0 pna pta rails limit retry behind pt) (by decide) rfl (Nat.le_of_ble_eq_true rfl) ?_
  intro p e s m below meth c ls A hx hb hr hml hts hown hlocks hnm hsz hP hK hD hA hS hl
  have hown : s.vm.findClass RX1 = some m.cls := hown
  have hP : va_P D vwCl [(pl, .inr (2, [.ref pna, .ref pta, .int rails, .int limit, .int retry, .int behind])), (pta, .inl (cJ, 64, .inr (.inl pt)))] s.heap := hP
  have hD : va_D A [(pl, .inr (2, [.ref pna, .ref pta, .int rails, .int limit, .int retry, .int behind])), (pta, .inl (cJ, 64, .inr (.inl pt)))] := hD
  have hl : lv_has ls 6 [(0, .ref pl), (1, .int s0), (2, .int r0)] := hl
  refine lv_aload_n hx hb dX1_fewestThatDo_0 rfl (lv_at hl 0 rfl) ?_
  have hPc := hP.sub (ws' := [(pl, .inr (2, [.ref pna, .ref pta, .int rails, .int limit, .int retry, .int behind]))]) [0] rfl
  have hDc := hD.sub (ws' := [(pl, .inr (2, [.ref pna, .ref pta, .int rails, .int limit, .int retry, .int behind]))]) [0] (by decide) rfl
  have hFc := va_free (wc := [(pl, .inr (2, [.ref pna, .ref pta, .int rails, .int limit, .int retry, .int behind]))]) hD hS hA [0] rfl
  refine va_calli (va_runV (As := []) (rest := []) ⟨hx, hb, hml, hown, hts⟩ (c_allRails l D cI cJ cZ cG cH s.heap.size pl pna pta rails limit retry behind (xrng rfl (by omega) (by omega))) (cwV 0 hts (xGV tbC wd1053 wd576 wd577 wd39 wd578) rfl rfl rfl (by decide +kernel) ⟨Nat.le_of_ble_eq_true rfl, Nat.le_of_ble_eq_true rfl⟩) ⟨xPc_blind, va_recv hK hPc (ci := 2) (q0 := 0) rfl rfl, xPc_pre hPc hK hDc⟩ rfl rfl hl.1 rfl (lv_room (Nat.le_of_ble_eq_true rfl)) dX1_fewestThatDo_1 ⟨Nat.le_of_ble_eq_true rfl, Nat.le_of_ble_eq_true rfl⟩) hS (fun q _ h => hFc q h) hFc (fun r1 u t H1 locs ht hvm hw1 hB hz1 hk1 hS => ?_)
  obtain ⟨hP1, hK1, hD1⟩ := hB
  rw [ht] at hP1
  obtain ⟨hP, hD⟩ := va_join (wr := [(pta, .inl (cJ, 64, .inr (.inl pt)))]) (w1 := [(pl, .inr (2, [.ref pna, .ref pta, .int rails, .int limit, .int retry, .int behind]))]) hP hD [0] [1] rfl rfl (by decide) (by decide) hk1 hFc hP1 hD1
  generalize H1 = H at hP hS ⊢
  have hP : va_P D vwCl [(pta, .inl (cJ, 64, .inr (.inl pt))), (pl, .inr (2, [.ref pna, .ref pta, .int rails, .int limit, .int retry, .int behind]))] H := hP
  have hD : va_D A [(pta, .inl (cJ, 64, .inr (.inl pt))), (pl, .inr (2, [.ref pna, .ref pta, .int rails, .int limit, .int retry, .int behind]))] := hD
  have hw1 : 0 ≤ r1.toInt ∧ r1.toInt ≤ 255 := hw1
  refine lv_istore_n (lv' := [(3, .int r1), (0, .ref pl), (1, .int s0), (2, .int r0)]) hx hb dX1_fewestThatDo_4 rfl hl (by decide) rfl (fun ls hl => ?_)
  refine lv_iconst (v := 1) hx hb dX1_fewestThatDo_5 (by decide) ?_
  refine lv_istore (lv' := [(4, .int 1), (3, .int r1), (0, .ref pl), (1, .int s0), (2, .int r0)]) hx hb dX1_fewestThatDo_6 hl (by decide) rfl (fun ls hl => ?_)
  have hl38 : ∀ (nhl38 : Nat) (x36 : Int32) (x37 : Int32), ((256 - x36.toInt).toNat < nhl38) → (hx36 : 1 ≤ x36.toInt ∧ x36.toInt ≤ 256) → (hx37 : 0 ≤ x37.toInt ∧ x37.toInt ≤ 255) → ∀ (H : Heap) (locs : List Loc), va_P D vwCl [(pta, .inl (cJ, 64, .inr (.inl pt))), (pl, .inr (2, [.ref pna, .ref pta, .int rails, .int limit, .int retry, .int behind]))] H → va_D A [(pta, .inl (cJ, 64, .inr (.inl pt))), (pl, .inr (2, [.ref pna, .ref pta, .int rails, .int limit, .int retry, .int behind]))] → va_S A s.heap H locs → ∀ (ls : Array Slot), lv_has ls 6 [(4, .int x36), (3, .int x37), (0, .ref pl), (1, .int s0), (2, .int r0)] → W p l e rm_fewestDo s m [Value.ref pl, Value.int s0, Value.int r0].toArray below meth c H locs 0 0 (MQ below ((Q_fewestDo D cI cJ cZ cG cH pl s0 r0 pna pta rails limit retry behind pt) A) [Value.ref pl, Value.int s0, Value.int r0].toArray s 0 0 A) (F0 m 8 ls []) := by
    intro nhl38
    induction nhl38 with
    | zero =>
      intro x36 x37 hmhl38
      exact absurd hmhl38 (Nat.not_lt_zero _)
    | succ nhl38 ihhl38 =>
      intro x36 x37 hmhl38 hx36 hx37 H locs hP hD hS ls hl
      refine lv_iload hx hb dX1_fewestThatDo_8 (lv_at hl 0 rfl) ?_
      refine lv_aload_n hx hb dX1_fewestThatDo_10 rfl (lv_at hl 2 rfl) ?_
      have hPc := hP.sub (ws' := [(pl, .inr (2, [.ref pna, .ref pta, .int rails, .int limit, .int retry, .int behind]))]) [1] rfl
      have hDc := hD.sub (ws' := [(pl, .inr (2, [.ref pna, .ref pta, .int rails, .int limit, .int retry, .int behind]))]) [1] (by decide) rfl
      have hFc := va_free (wc := [(pl, .inr (2, [.ref pna, .ref pta, .int rails, .int limit, .int retry, .int behind]))]) hD hS hA [1] rfl
      refine va_calli (va_runV (As := []) (rest := [.int x36]) ⟨hx, hb, hml, hown, hts⟩ (c_allRails l D cI cJ cZ cG cH H.size pl pna pta rails limit retry behind (xrng rfl (by omega) (by omega))) (cwV 0 hts (xGV tbC wd1053 wd576 wd577 wd39 wd578) rfl rfl rfl (by decide +kernel) ⟨Nat.le_of_ble_eq_true rfl, Nat.le_of_ble_eq_true rfl⟩) ⟨xPc_blind, va_recv hK hPc (ci := 2) (q0 := 0) rfl rfl, xPc_pre hPc hK hDc⟩ rfl rfl hl.1 rfl (lv_room (Nat.le_of_ble_eq_true rfl)) dX1_fewestThatDo_11 ⟨Nat.le_of_ble_eq_true rfl, Nat.le_of_ble_eq_true rfl⟩) hS (fun q _ h => hFc q h) hFc (fun r39 u t H1 locs ht hvm hw39 hB hz1 hk1 hS => ?_)
      obtain ⟨hP1, hK1, hD1⟩ := hB
      rw [ht] at hP1
      obtain ⟨hP, hD⟩ := va_join (wr := [(pta, .inl (cJ, 64, .inr (.inl pt)))]) (w1 := [(pl, .inr (2, [.ref pna, .ref pta, .int rails, .int limit, .int retry, .int behind]))]) hP hD [1] [0] rfl rfl (by decide) (by decide) hk1 hFc hP1 hD1
      generalize H1 = H at hP hS ⊢
      have hP : va_P D vwCl [(pta, .inl (cJ, 64, .inr (.inl pt))), (pl, .inr (2, [.ref pna, .ref pta, .int rails, .int limit, .int retry, .int behind]))] H := hP
      have hD : va_D A [(pta, .inl (cJ, 64, .inr (.inl pt))), (pl, .inr (2, [.ref pna, .ref pta, .int rails, .int limit, .int retry, .int behind]))] := hD
      have hw39 : 0 ≤ r39.toInt ∧ r39.toInt ≤ 255 := hw39
      refine lv_icmp_gt (tgt := 62) hx hb dX1_fewestThatDo_14 (by decide) (fun c_40 => ?_) (fun c_40 => ?_)
      · skip
        have i_40 : r39.toInt < x36.toInt := (ilt rfl rfl).mp c_40
        refine lv_iload_n hx hb dX1_fewestThatDo_62 rfl (lv_at hl 1 rfl) ?_
        refine W.widen (k := 0) (n := 0) (by decide) (by decide) ?_
        have hP9 := hP.sub (ws' := [(pl, .inr (2, [.ref pna, .ref pta, .int rails, .int limit, .int retry, .int behind])), (pta, .inl (cJ, 64, .inr (.inl pt)))]) [1, 0] rfl
        have hD9 := hD.sub (ws' := [(pl, .inr (2, [.ref pna, .ref pta, .int rails, .int limit, .int retry, .int behind])), (pta, .inl (cJ, 64, .inr (.inl pt)))]) [1, 0] (by decide) rfl
        exact W.iret (v := x37) hx hb hr (fun t ht hW => ⟨⟨x37, (), rfl, (xrng rfl (by omega) (by omega)), xB_of ht hW hP9 hK hD9⟩, hS.F ht⟩) hS.2.2 dX1_fewestThatDo_63
      · skip
        have i_40 : ¬ (r39.toInt < x36.toInt) := fun h9 => c_40 ((ilt rfl rfl).mpr h9)
        refine lv_iload hx hb dX1_fewestThatDo_17 (lv_at hl 0 rfl) ?_
        have hPc := hP.sub (ws' := []) [] rfl
        have hDc := hD.sub (ws' := []) [] (by decide) rfl
        have hFc := va_free (wc := []) hD hS hA [] rfl
        refine va_calli (va_runS (As := [.int x36]) (rest := []) ⟨hx, hb, hml, hown, hts⟩ (c_bitCount l D cI cJ cZ cG cH H.size x36) (va_cwS 1 hts (xGS tbC wd1054 wd1055 wd1056 wd1057) rfl rfl rfl (by decide +kernel) ⟨Nat.le_of_ble_eq_true rfl, Nat.le_of_ble_eq_true rfl⟩) ⟨xPc_blind, xPc_pre hPc hK hDc⟩ rfl rfl hl.1 rfl (lv_room (Nat.le_of_ble_eq_true rfl)) dX1_fewestThatDo_19 ⟨Nat.le_of_ble_eq_true rfl, Nat.le_of_ble_eq_true rfl⟩) hS (fun q _ h => hFc q h) hFc (fun r41 u t H1 locs ht hvm hw41 hB hz1 hk1 hS => ?_)
        obtain ⟨hP1, hK1, hD1⟩ := hB
        rw [ht] at hP1
        obtain ⟨hP, hD⟩ := va_join (wr := [(pta, .inl (cJ, 64, .inr (.inl pt))), (pl, .inr (2, [.ref pna, .ref pta, .int rails, .int limit, .int retry, .int behind]))]) (w1 := []) hP hD [] [0, 1] rfl rfl (by decide) (by decide) hk1 hFc hP1 hD1
        generalize H1 = H at hP hS ⊢
        have hP : va_P D vwCl [(pta, .inl (cJ, 64, .inr (.inl pt))), (pl, .inr (2, [.ref pna, .ref pta, .int rails, .int limit, .int retry, .int behind]))] H := hP
        have hD : va_D A [(pta, .inl (cJ, 64, .inr (.inl pt))), (pl, .inr (2, [.ref pna, .ref pta, .int rails, .int limit, .int retry, .int behind]))] := hD
        have hw41 : 0 ≤ r41.toInt ∧ r41.toInt ≤ 63 := hw41
        refine lv_iload_n hx hb dX1_fewestThatDo_22 rfl (lv_at hl 1 rfl) ?_
        have hPc := hP.sub (ws' := []) [] rfl
        have hDc := hD.sub (ws' := []) [] (by decide) rfl
        have hFc := va_free (wc := []) hD hS hA [] rfl
        refine va_calli (va_runS (As := [.int x37]) (rest := [.int r41]) ⟨hx, hb, hml, hown, hts⟩ (c_bitCount l D cI cJ cZ cG cH H.size x37) (va_cwS 1 hts (xGS tbC wd1054 wd1055 wd1056 wd1057) rfl rfl rfl (by decide +kernel) ⟨Nat.le_of_ble_eq_true rfl, Nat.le_of_ble_eq_true rfl⟩) ⟨xPc_blind, xPc_pre hPc hK hDc⟩ rfl rfl hl.1 rfl (lv_room (Nat.le_of_ble_eq_true rfl)) dX1_fewestThatDo_23 ⟨Nat.le_of_ble_eq_true rfl, Nat.le_of_ble_eq_true rfl⟩) hS (fun q _ h => hFc q h) hFc (fun r42 u t H1 locs ht hvm hw42 hB hz1 hk1 hS => ?_)
        obtain ⟨hP1, hK1, hD1⟩ := hB
        rw [ht] at hP1
        obtain ⟨hP, hD⟩ := va_join (wr := [(pta, .inl (cJ, 64, .inr (.inl pt))), (pl, .inr (2, [.ref pna, .ref pta, .int rails, .int limit, .int retry, .int behind]))]) (w1 := []) hP hD [] [0, 1] rfl rfl (by decide) (by decide) hk1 hFc hP1 hD1
        generalize H1 = H at hP hS ⊢
        have hP : va_P D vwCl [(pta, .inl (cJ, 64, .inr (.inl pt))), (pl, .inr (2, [.ref pna, .ref pta, .int rails, .int limit, .int retry, .int behind]))] H := hP
        have hD : va_D A [(pta, .inl (cJ, 64, .inr (.inl pt))), (pl, .inr (2, [.ref pna, .ref pta, .int rails, .int limit, .int retry, .int behind]))] := hD
        have hw42 : 0 ≤ r42.toInt ∧ r42.toInt ≤ 63 := hw42
        refine lv_icmp_ge (tgt := 33) hx hb dX1_fewestThatDo_26 (by decide) (fun c_43 => ?_) (fun c_43 => ?_)
        · skip
          have i_43 : r42.toInt ≤ r41.toInt := (ile rfl rfl).mp c_43
          refine lv_iconst (v := 0) hx hb dX1_fewestThatDo_33 (by decide) ?_
          refine lv_istore (lv' := [(5, .int 0), (4, .int x36), (3, .int x37), (0, .ref pl), (1, .int s0), (2, .int r0)]) hx hb dX1_fewestThatDo_34 hl (by decide) rfl (fun ls hl => ?_)
          refine lv_iload hx hb dX1_fewestThatDo_36 (lv_at hl 0 rfl) ?_
          refine lv_if_eq (tgt := 56) hx hb dX1_fewestThatDo_38 (by decide) (fun _ => ?_) (fun c9 => absurd c9 (by decide))
          obtain ⟨x44, ex44⟩ : ∃ y : Int32, y = x36 + 1 := ⟨_, rfl⟩
          have tx44 : x44.toInt = (x36.toInt + 1) := (congrArg Int32.toInt ex44).trans (xadd rfl (by decide) (by omega) (by omega))
          refine lv_iinc (v := x44) (lv' := [(4, .int x44), (5, .int 0), (3, .int x37), (0, .ref pl), (1, .int s0), (2, .int r0)]) hx hb dX1_fewestThatDo_56 hl (k := 1) rfl (by rw [ex44]; rfl) (by decide) rfl (fun ls hl => ?_)
          refine lv_goto (tgt := 8) hx hb dX1_fewestThatDo_59 (by decide) ?_
          exact ihhl38 x44 x37 (by omega) (xrng tx44 (by omega) (by omega)) (xrng rfl (by omega) (by omega)) _ _ hP hD hS ls (lv_sub hl [0, 2, 3, 4, 5] rfl)
        · skip
          have i_43 : ¬ (r42.toInt ≤ r41.toInt) := fun h9 => c_43 ((ile rfl rfl).mpr h9)
          refine lv_iconst (v := 1) hx hb dX1_fewestThatDo_29 (by decide) ?_
          refine lv_goto (tgt := 34) hx hb dX1_fewestThatDo_30 (by decide) ?_
          refine lv_istore (lv' := [(5, .int 1), (4, .int x36), (3, .int x37), (0, .ref pl), (1, .int s0), (2, .int r0)]) hx hb dX1_fewestThatDo_34 hl (by decide) rfl (fun ls hl => ?_)
          refine lv_iload hx hb dX1_fewestThatDo_36 (lv_at hl 0 rfl) ?_
          refine lv_if_eq (tgt := 56) hx hb dX1_fewestThatDo_38 (by decide) (fun c9 => absurd c9 (by decide)) (fun _ => ?_)
          refine lv_aload_n hx hb dX1_fewestThatDo_41 rfl (lv_at hl 3 rfl) ?_
          refine lv_iload_n hx hb dX1_fewestThatDo_42 rfl (lv_at hl 4 rfl) ?_
          refine lv_iload hx hb dX1_fewestThatDo_43 (lv_at hl 1 rfl) ?_
          refine lv_iand hx hb dX1_fewestThatDo_45 ?_
          refine lv_topi (fun v45 ev45 => ?_)
          have rv45 : 0 ≤ v45.toInt ∧ v45.toInt ≤ x36.toInt := xandL ev45 (show (x36 : Int32).toInt = x36.toInt from rfl) (by omega)
          refine lv_iload_n hx hb dX1_fewestThatDo_46 rfl (lv_at hl 5 rfl) ?_
          have hPc := hP.sub (ws' := [(pl, .inr (2, [.ref pna, .ref pta, .int rails, .int limit, .int retry, .int behind])), (pta, .inl (cJ, 64, .inr (.inl pt)))]) [1, 0] rfl
          have hDc := hD.sub (ws' := [(pl, .inr (2, [.ref pna, .ref pta, .int rails, .int limit, .int retry, .int behind])), (pta, .inl (cJ, 64, .inr (.inl pt)))]) [1, 0] (by decide) rfl
          have hFc := va_free (wc := [(pl, .inr (2, [.ref pna, .ref pta, .int rails, .int limit, .int retry, .int behind])), (pta, .inl (cJ, 64, .inr (.inl pt)))]) hD hS hA [1, 0] rfl
          refine va_calli (va_runS (As := [.ref pl, .int v45, .int r0]) (rest := []) ⟨hx, hb, hml, hown, hts⟩ (c_dIsUp l D cI cJ cZ cG cH H.size pl v45 r0 pna pta rails limit retry behind pt (xrng rfl (by omega) (by omega))) (va_cwS 3 hts (xGS tbC wd1061 wd1062 wd1051 wd1063) rfl rfl rfl (by decide +kernel) ⟨Nat.le_of_ble_eq_true rfl, Nat.le_of_ble_eq_true rfl⟩) ⟨xPc_blind, xPc_pre hPc hK hDc⟩ rfl rfl hl.1 rfl (lv_room (Nat.le_of_ble_eq_true rfl)) dX1_fewestThatDo_47 ⟨Nat.le_of_ble_eq_true rfl, Nat.le_of_ble_eq_true rfl⟩) hS (fun q _ h => hFc q h) hFc (fun r46 u t H1 locs ht hvm hw46 hB hz1 hk1 hS => ?_)
          obtain ⟨hP1, hK1, hD1⟩ := hB
          rw [ht] at hP1
          obtain ⟨hP, hD⟩ := va_join (wr := []) (w1 := [(pl, .inr (2, [.ref pna, .ref pta, .int rails, .int limit, .int retry, .int behind])), (pta, .inl (cJ, 64, .inr (.inl pt)))]) hP hD [1, 0] [] rfl rfl (by decide) (by decide) hk1 hFc hP1 hD1
          generalize H1 = H at hP hS ⊢
          have hP : va_P D vwCl [(pl, .inr (2, [.ref pna, .ref pta, .int rails, .int limit, .int retry, .int behind])), (pta, .inl (cJ, 64, .inr (.inl pt)))] H := hP
          have hD : va_D A [(pl, .inr (2, [.ref pna, .ref pta, .int rails, .int limit, .int retry, .int behind])), (pta, .inl (cJ, 64, .inr (.inl pt)))] := hD
          have hw46 : 0 ≤ r46.toInt ∧ r46.toInt ≤ 1 := hw46
          refine lv_if_eq (tgt := 56) hx hb dX1_fewestThatDo_50 (by decide) (fun c_47 => ?_) (fun c_47 => ?_)
          · skip
            have i_47 : r46.toInt = 0 := (ieq rfl (by decide)).mp c_47
            obtain ⟨x48, ex48⟩ : ∃ y : Int32, y = x36 + 1 := ⟨_, rfl⟩
            have tx48 : x48.toInt = (x36.toInt + 1) := (congrArg Int32.toInt ex48).trans (xadd rfl (by decide) (by omega) (by omega))
            refine lv_iinc (v := x48) (lv' := [(4, .int x48), (5, .int 1), (3, .int x37), (0, .ref pl), (1, .int s0), (2, .int r0)]) hx hb dX1_fewestThatDo_56 hl (k := 1) rfl (by rw [ex48]; rfl) (by decide) rfl (fun ls hl => ?_)
            refine lv_goto (tgt := 8) hx hb dX1_fewestThatDo_59 (by decide) ?_
            have hP := hP.sub (ws' := [(pta, .inl (cJ, 64, .inr (.inl pt))), (pl, .inr (2, [.ref pna, .ref pta, .int rails, .int limit, .int retry, .int behind]))]) [1, 0] rfl
            have hD := hD.sub (ws' := [(pta, .inl (cJ, 64, .inr (.inl pt))), (pl, .inr (2, [.ref pna, .ref pta, .int rails, .int limit, .int retry, .int behind]))]) [1, 0] (by decide) rfl
            exact ihhl38 x48 x37 (by omega) (xrng tx48 (by omega) (by omega)) (xrng rfl (by omega) (by omega)) _ _ hP hD hS ls (lv_sub hl [0, 2, 3, 4, 5] rfl)
          · skip
            have i_47 : ¬ (r46.toInt = 0) := fun h9 => c_47 ((ieq rfl (by decide)).mpr h9)
            refine lv_iload hx hb dX1_fewestThatDo_53 (lv_at hl 1 rfl) ?_
            refine lv_istore_n (lv' := [(3, .int x36), (5, .int 1), (4, .int x36), (0, .ref pl), (1, .int s0), (2, .int r0)]) hx hb dX1_fewestThatDo_55 rfl hl (by decide) rfl (fun ls hl => ?_)
            obtain ⟨x49, ex49⟩ : ∃ y : Int32, y = x36 + 1 := ⟨_, rfl⟩
            have tx49 : x49.toInt = (x36.toInt + 1) := (congrArg Int32.toInt ex49).trans (xadd rfl (by decide) (by omega) (by omega))
            refine lv_iinc (v := x49) (lv' := [(4, .int x49), (3, .int x36), (5, .int 1), (0, .ref pl), (1, .int s0), (2, .int r0)]) hx hb dX1_fewestThatDo_56 hl (k := 2) rfl (by rw [ex49]; rfl) (by decide) rfl (fun ls hl => ?_)
            refine lv_goto (tgt := 8) hx hb dX1_fewestThatDo_59 (by decide) ?_
            have hP := hP.sub (ws' := [(pta, .inl (cJ, 64, .inr (.inl pt))), (pl, .inr (2, [.ref pna, .ref pta, .int rails, .int limit, .int retry, .int behind]))]) [1, 0] rfl
            have hD := hD.sub (ws' := [(pta, .inl (cJ, 64, .inr (.inl pt))), (pl, .inr (2, [.ref pna, .ref pta, .int rails, .int limit, .int retry, .int behind]))]) [1, 0] (by decide) rfl
            exact ihhl38 x49 x36 (by omega) (xrng tx49 (by omega) (by omega)) (xrng rfl (by omega) (by omega)) _ _ hP hD hS ls (lv_sub hl [0, 1, 3, 4, 5] rfl)
  exact hl38 _ 1 r1 (Nat.lt_succ_self _) ⟨by decide, by decide⟩ (xrng rfl (by omega) (by omega)) _ _ hP hD hS ls (lv_sub hl [0, 1, 2, 3, 4] rfl)
abbrev W_never (cI cJ cZ cG cH : ClassId) (pl : Nat) (s0 : Int32) (r0 : Int32) (pna : Nat) (pta : Nat) (rails : Int32) (limit : Int32) (retry : Int32) (behind : Int32) (pt : Nat → Int64) : va_W := [(pl, .inr (2, [.ref pna, .ref pta, .int rails, .int limit, .int retry, .int behind])), (pta, .inl (cJ, 64, .inr (.inl pt)))]
abbrev Q_never (D : va_G) (cI cJ cZ cG cH : ClassId) (pl : Nat) (s0 : Int32) (r0 : Int32) (pna : Nat) (pta : Nat) (rails : Int32) (limit : Int32) (retry : Int32) (behind : Int32) (pt : Nat → Int64) (A : Nat → Prop) : Array Value → State → Outcome → State → Prop := va_Qi (fun (r : Int32) (_ : Unit) => 0 ≤ r.toInt ∧ r.toInt ≤ 2147483647) (fun _ t => xB D (tyL cI cJ cZ cG cH) [(pl, .inr (2, [.ref pna, .ref pta, .int rails, .int limit, .int retry, .int behind])), (pta, .inl (cJ, 64, .inr (.inl pt)))] A t) A
abbrev rm_never : Room := { frames := 3, cells := 0, slots := 0, locals := 69 }
set_option maxRecDepth 100000 in
set_option maxHeartbeats 4000000 in
theorem c_never (l : Launch) (D : va_G) (cI cJ cZ cG cH : ClassId) (sz : Nat) (pl : Nat) (s0 : Int32) (r0 : Int32) (pna : Nat) (pta : Nat) (rails : Int32) (limit : Int32) (retry : Int32) (behind : Int32) (pt : Nat → Int64) (h_rails : 0 ≤ rails.toInt ∧ rails.toInt ≤ 8) : Met l yX1_neverWithout (wt yX1_neverWithout cX1_neverWithout 5 (some .int)) rm_never (xPc [.ref pl, .int s0, .int r0] D (tyL cI cJ cZ cG cH) (W_never cI cJ cZ cG cH pl s0 r0 pna pta rails limit retry behind pt) sz) (Q_never D cI cJ cZ cG cH pl s0 r0 pna pta rails limit retry behind pt (va_A (W_never cI cJ cZ cG cH pl s0 r0 pna pta rails limit retry behind pt) sz)) 0 0 (va_A (W_never cI cJ cZ cG cH pl s0 r0 pna pta rails limit retry behind pt) sz) := by
  refine xMet (cc := cX1_neverWithout) (maxL := 5) (ret := (some .int)) (Qf := Q_never D cI cJ cZ cG cH pl s0 r0 pna pta rails limit retry behind pt) (by decide) rfl (Nat.le_of_ble_eq_true rfl) ?_
  intro p e s m below meth c ls A hx hb hr hml hts hown hlocks hnm hsz hP hK hD hA hS hl
  have hown : s.vm.findClass RX1 = some m.cls := hown
  have hP : va_P D vwCl [(pl, .inr (2, [.ref pna, .ref pta, .int rails, .int limit, .int retry, .int behind])), (pta, .inl (cJ, 64, .inr (.inl pt)))] s.heap := hP
  have hD : va_D A [(pl, .inr (2, [.ref pna, .ref pta, .int rails, .int limit, .int retry, .int behind])), (pta, .inl (cJ, 64, .inr (.inl pt)))] := hD
  have hl : lv_has ls 5 [(0, .ref pl), (1, .int s0), (2, .int r0)] := hl
  refine lv_iconst (v := 0) hx hb dX1_neverWithout_0 (by decide) ?_
  refine lv_istore_n (lv' := [(3, .int 0), (0, .ref pl), (1, .int s0), (2, .int r0)]) hx hb dX1_neverWithout_1 rfl hl (by decide) rfl (fun ls hl => ?_)
  refine lv_iconst (v := 0) hx hb dX1_neverWithout_2 (by decide) ?_
  refine lv_istore (lv' := [(4, .int 0), (3, .int 0), (0, .ref pl), (1, .int s0), (2, .int r0)]) hx hb dX1_neverWithout_3 hl (by decide) rfl (fun ls hl => ?_)
  have hl35 : ∀ (nhl35 : Nat) (x33 : Int32) (x34 : Int32), ((8 - x33.toInt).toNat < nhl35) → (hx33 : 0 ≤ x33.toInt ∧ x33.toInt ≤ 8) → (hx34 : 0 ≤ x34.toInt ∧ x34.toInt ≤ 2147483647) → ∀ (H : Heap) (locs : List Loc), va_P D vwCl [(pl, .inr (2, [.ref pna, .ref pta, .int rails, .int limit, .int retry, .int behind])), (pta, .inl (cJ, 64, .inr (.inl pt)))] H → va_D A [(pl, .inr (2, [.ref pna, .ref pta, .int rails, .int limit, .int retry, .int behind])), (pta, .inl (cJ, 64, .inr (.inl pt)))] → va_S A s.heap H locs → ∀ (ls : Array Slot), lv_has ls 5 [(4, .int x33), (3, .int x34), (0, .ref pl), (1, .int s0), (2, .int r0)] → W p l e rm_never s m [Value.ref pl, Value.int s0, Value.int r0].toArray below meth c H locs 0 0 (MQ below ((Q_never D cI cJ cZ cG cH pl s0 r0 pna pta rails limit retry behind pt) A) [Value.ref pl, Value.int s0, Value.int r0].toArray s 0 0 A) (F0 m 5 ls []) := by
    intro nhl35
    induction nhl35 with
    | zero =>
      intro x33 x34 hmhl35
      exact absurd hmhl35 (Nat.not_lt_zero _)
    | succ nhl35 ihhl35 =>
      intro x33 x34 hmhl35 hx33 hx34 H locs hP hD hS ls hl
      refine lv_iload hx hb dX1_neverWithout_5 (lv_at hl 0 rfl) ?_
      refine lv_aload_n hx hb dX1_neverWithout_7 rfl (lv_at hl 2 rfl) ?_
      refine va_get (D := D) (ci := 2) (v := .int rails) (C := RX3) (T := TX3) (N := 6) hx hb hts (fun w h => tbC w (tbfX3 w h)) hown hK hP 0 rfl rfl 2 (by decide) (hts (.fieldLink RX1 30 "PowerRails$Plan" "rails" "I") (tbC _ wd1095)) (fun _ h9 => h9) rfl dX1_neverWithout_8 ?_
      refine lv_icmp_ge (tgt := 43) hx hb dX1_neverWithout_11 (by decide) (fun c_36 => ?_) (fun c_36 => ?_)
      · skip
        have i_36 : rails.toInt ≤ x33.toInt := (ile rfl rfl).mp c_36
        refine lv_iload_n hx hb dX1_neverWithout_43 rfl (lv_at hl 1 rfl) ?_
        refine W.widen (k := 0) (n := 0) (by decide) (by decide) ?_
        have hP9 := hP.sub (ws' := [(pl, .inr (2, [.ref pna, .ref pta, .int rails, .int limit, .int retry, .int behind])), (pta, .inl (cJ, 64, .inr (.inl pt)))]) [0, 1] rfl
        have hD9 := hD.sub (ws' := [(pl, .inr (2, [.ref pna, .ref pta, .int rails, .int limit, .int retry, .int behind])), (pta, .inl (cJ, 64, .inr (.inl pt)))]) [0, 1] (by decide) rfl
        exact W.iret (v := x34) hx hb hr (fun t ht hW => ⟨⟨x34, (), rfl, (xrng rfl (by omega) (by omega)), xB_of ht hW hP9 hK hD9⟩, hS.F ht⟩) hS.2.2 dX1_neverWithout_44
      · skip
        have i_36 : ¬ (rails.toInt ≤ x33.toInt) := fun h9 => c_36 ((ile rfl rfl).mpr h9)
        refine lv_aload_n hx hb dX1_neverWithout_14 rfl (lv_at hl 2 rfl) ?_
        refine lv_iload_n hx hb dX1_neverWithout_15 rfl (lv_at hl 3 rfl) ?_
        refine lv_iconst (v := 1) hx hb dX1_neverWithout_16 (by decide) ?_
        refine lv_iload hx hb dX1_neverWithout_17 (lv_at hl 0 rfl) ?_
        refine lv_ishl hx hb dX1_neverWithout_19 ?_
        refine lv_topi (fun v37 ev37 => ?_)
        have rv37 : 1 ≤ v37.toInt ∧ v37.toInt ≤ 128 := xshl1 7 ev37 (show (x33 : Int32).toInt = x33.toInt from rfl) (by omega) (by omega) (by decide)
        refine lv_iconst (v := (-1)) hx hb dX1_neverWithout_20 (by decide) ?_
        refine lv_ixor hx hb dX1_neverWithout_21 ?_
        refine lv_topi (fun v38 ev38 => ?_)
        refine lv_iand hx hb dX1_neverWithout_22 ?_
        refine lv_topi (fun v39 ev39 => ?_)
        refine lv_iload_n hx hb dX1_neverWithout_23 rfl (lv_at hl 4 rfl) ?_
        have hPc := hP.sub (ws' := [(pl, .inr (2, [.ref pna, .ref pta, .int rails, .int limit, .int retry, .int behind])), (pta, .inl (cJ, 64, .inr (.inl pt)))]) [0, 1] rfl
        have hDc := hD.sub (ws' := [(pl, .inr (2, [.ref pna, .ref pta, .int rails, .int limit, .int retry, .int behind])), (pta, .inl (cJ, 64, .inr (.inl pt)))]) [0, 1] (by decide) rfl
        have hFc := va_free (wc := [(pl, .inr (2, [.ref pna, .ref pta, .int rails, .int limit, .int retry, .int behind])), (pta, .inl (cJ, 64, .inr (.inl pt)))]) hD hS hA [0, 1] rfl
        refine va_calli (va_runS (As := [.ref pl, .int v39, .int r0]) (rest := []) ⟨hx, hb, hml, hown, hts⟩ (c_dIsUp l D cI cJ cZ cG cH H.size pl v39 r0 pna pta rails limit retry behind pt (xrng rfl (by omega) (by omega))) (va_cwS 3 hts (xGS tbC wd1061 wd1062 wd1051 wd1063) rfl rfl rfl (by decide +kernel) ⟨Nat.le_of_ble_eq_true rfl, Nat.le_of_ble_eq_true rfl⟩) ⟨xPc_blind, xPc_pre hPc hK hDc⟩ rfl rfl hl.1 rfl (lv_room (Nat.le_of_ble_eq_true rfl)) dX1_neverWithout_24 ⟨Nat.le_of_ble_eq_true rfl, Nat.le_of_ble_eq_true rfl⟩) hS (fun q _ h => hFc q h) hFc (fun r40 u t H1 locs ht hvm hw40 hB hz1 hk1 hS => ?_)
        obtain ⟨hP1, hK1, hD1⟩ := hB
        rw [ht] at hP1
        obtain ⟨hP, hD⟩ := va_join (wr := []) (w1 := [(pl, .inr (2, [.ref pna, .ref pta, .int rails, .int limit, .int retry, .int behind])), (pta, .inl (cJ, 64, .inr (.inl pt)))]) hP hD [0, 1] [] rfl rfl (by decide) (by decide) hk1 hFc hP1 hD1
        generalize H1 = H at hP hS ⊢
        have hP : va_P D vwCl [(pl, .inr (2, [.ref pna, .ref pta, .int rails, .int limit, .int retry, .int behind])), (pta, .inl (cJ, 64, .inr (.inl pt)))] H := hP
        have hD : va_D A [(pl, .inr (2, [.ref pna, .ref pta, .int rails, .int limit, .int retry, .int behind])), (pta, .inl (cJ, 64, .inr (.inl pt)))] := hD
        have hw40 : 0 ≤ r40.toInt ∧ r40.toInt ≤ 1 := hw40
        refine lv_if_ne (tgt := 37) hx hb dX1_neverWithout_27 (by decide) (fun c_41 => ?_) (fun c_41 => ?_)
        · skip
          have i_41 : ¬ (r40.toInt = 0) := fun h9 => c_41 ((ieq rfl (by decide)).mpr h9)
          obtain ⟨x42, ex42⟩ : ∃ y : Int32, y = x33 + 1 := ⟨_, rfl⟩
          have tx42 : x42.toInt = (x33.toInt + 1) := (congrArg Int32.toInt ex42).trans (xadd rfl (by decide) (by omega) (by omega))
          refine lv_iinc (v := x42) (lv' := [(4, .int x42), (3, .int x34), (0, .ref pl), (1, .int s0), (2, .int r0)]) hx hb dX1_neverWithout_37 hl (k := 0) rfl (by rw [ex42]; rfl) (by decide) rfl (fun ls hl => ?_)
          refine lv_goto (tgt := 5) hx hb dX1_neverWithout_40 (by decide) ?_
          exact ihhl35 x42 x34 (by omega) (xrng tx42 (by omega) (by omega)) (xrng rfl (by omega) (by omega)) _ _ hP hD hS ls (lv_sub hl [0, 1, 2, 3, 4] rfl)
        · skip
          have i_41 : r40.toInt = 0 := (ieq rfl (by decide)).mp c_41
          refine lv_iload_n hx hb dX1_neverWithout_30 rfl (lv_at hl 1 rfl) ?_
          refine lv_iconst (v := 1) hx hb dX1_neverWithout_31 (by decide) ?_
          refine lv_iload hx hb dX1_neverWithout_32 (lv_at hl 0 rfl) ?_
          refine lv_ishl hx hb dX1_neverWithout_34 ?_
          refine lv_topi (fun v43 ev43 => ?_)
          have rv43 : 1 ≤ v43.toInt ∧ v43.toInt ≤ 128 := xshl1 7 ev43 (show (x33 : Int32).toInt = x33.toInt from rfl) (by omega) (by omega) (by decide)
          refine lv_ior hx hb dX1_neverWithout_35 ?_
          refine lv_topi (fun v44 ev44 => ?_)
          have rv44 : 0 ≤ v44.toInt ∧ v44.toInt ≤ 2147483647 := xorL 31 ev44 (show (x34 : Int32).toInt = x34.toInt from rfl) (show (v43 : Int32).toInt = v43.toInt from rfl) (by decide) (by decide) (by omega) (by omega) (by omega) (by omega)
          refine lv_istore_n (lv' := [(3, .int v44), (4, .int x33), (0, .ref pl), (1, .int s0), (2, .int r0)]) hx hb dX1_neverWithout_36 rfl hl (by decide) rfl (fun ls hl => ?_)
          obtain ⟨x45, ex45⟩ : ∃ y : Int32, y = x33 + 1 := ⟨_, rfl⟩
          have tx45 : x45.toInt = (x33.toInt + 1) := (congrArg Int32.toInt ex45).trans (xadd rfl (by decide) (by omega) (by omega))
          refine lv_iinc (v := x45) (lv' := [(4, .int x45), (3, .int v44), (0, .ref pl), (1, .int s0), (2, .int r0)]) hx hb dX1_neverWithout_37 hl (k := 1) rfl (by rw [ex45]; rfl) (by decide) rfl (fun ls hl => ?_)
          refine lv_goto (tgt := 5) hx hb dX1_neverWithout_40 (by decide) ?_
          exact ihhl35 x45 v44 (by omega) (xrng tx45 (by omega) (by omega)) (xrng rfl (by omega) (by omega)) _ _ hP hD hS ls (lv_sub hl [0, 1, 2, 3, 4] rfl)
  exact hl35 _ 0 0 (Nat.lt_succ_self _) ⟨by decide, by decide⟩ ⟨by decide, by decide⟩ _ _ hP hD hS ls (lv_sub hl [0, 1, 2, 3, 4] rfl)
abbrev W_explain (cI cJ cZ cG cH : ClassId) (pl : Nat) (s0 : Int32) (pna : Nat) (pta : Nat) (rails : Int32) (limit : Int32) (retry : Int32) (behind : Int32) (pt : Nat → Int64) : va_W := [(pl, .inr (2, [.ref pna, .ref pta, .int rails, .int limit, .int retry, .int behind])), (pta, .inl (cJ, 64, .inr (.inl pt)))]
abbrev Q_explain (D : va_G) (cI cJ cZ cG cH : ClassId) (pl : Nat) (s0 : Int32) (pna : Nat) (pta : Nat) (rails : Int32) (limit : Int32) (retry : Int32) (behind : Int32) (pt : Nat → Int64) (A : Nat → Prop) : Array Value → State → Outcome → State → Prop := va_Qi (fun (r : Int32) (_ : Unit) => 0 ≤ r.toInt ∧ r.toInt ≤ 2147483647) (fun _ t => xB D (tyL cI cJ cZ cG cH) [(pl, .inr (2, [.ref pna, .ref pta, .int rails, .int limit, .int retry, .int behind])), (pta, .inl (cJ, 64, .inr (.inl pt)))] A t) A
abbrev rm_explain : Room := { frames := 2, cells := 0, slots := 0, locals := 47 }
set_option maxRecDepth 100000 in
set_option maxHeartbeats 4000000 in
theorem c_explain (l : Launch) (D : va_G) (cI cJ cZ cG cH : ClassId) (sz : Nat) (pl : Nat) (s0 : Int32) (pna : Nat) (pta : Nat) (rails : Int32) (limit : Int32) (retry : Int32) (behind : Int32) (pt : Nat → Int64) (h_rails : 0 ≤ rails.toInt ∧ rails.toInt ≤ 8) : Met l yX1_thatExplain (wt yX1_thatExplain cX1_thatExplain 5 (some .int)) rm_explain (xPc [.ref pl, .int s0] D (tyL cI cJ cZ cG cH) (W_explain cI cJ cZ cG cH pl s0 pna pta rails limit retry behind pt) sz) (Q_explain D cI cJ cZ cG cH pl s0 pna pta rails limit retry behind pt (va_A (W_explain cI cJ cZ cG cH pl s0 pna pta rails limit retry behind pt) sz)) 0 0 (va_A (W_explain cI cJ cZ cG cH pl s0 pna pta rails limit retry behind pt) sz) := by
  refine xMet (cc := cX1_thatExplain) (maxL := 5) (ret := (some .int)) (Qf := Q_explain D cI cJ cZ cG cH pl s0 pna pta rails limit retry behind pt) (by decide) rfl (Nat.le_of_ble_eq_true rfl) ?_
  intro p e s m below meth c ls A hx hb hr hml hts hown hlocks hnm hsz hP hK hD hA hS hl
  have hown : s.vm.findClass RX1 = some m.cls := hown
  have hP : va_P D vwCl [(pl, .inr (2, [.ref pna, .ref pta, .int rails, .int limit, .int retry, .int behind])), (pta, .inl (cJ, 64, .inr (.inl pt)))] s.heap := hP
  have hD : va_D A [(pl, .inr (2, [.ref pna, .ref pta, .int rails, .int limit, .int retry, .int behind])), (pta, .inl (cJ, 64, .inr (.inl pt)))] := hD
  have hl : lv_has ls 5 [(0, .ref pl), (1, .int s0)] := hl
  refine lv_aload_n hx hb dX1_thatExplain_0 rfl (lv_at hl 0 rfl) ?_
  have hPc := hP.sub (ws' := [(pl, .inr (2, [.ref pna, .ref pta, .int rails, .int limit, .int retry, .int behind]))]) [0] rfl
  have hDc := hD.sub (ws' := [(pl, .inr (2, [.ref pna, .ref pta, .int rails, .int limit, .int retry, .int behind]))]) [0] (by decide) rfl
  have hFc := va_free (wc := [(pl, .inr (2, [.ref pna, .ref pta, .int rails, .int limit, .int retry, .int behind]))]) hD hS hA [0] rfl
  refine va_calli (va_runV (As := []) (rest := []) ⟨hx, hb, hml, hown, hts⟩ (c_allRails l D cI cJ cZ cG cH s.heap.size pl pna pta rails limit retry behind (xrng rfl (by omega) (by omega))) (cwV 0 hts (xGV tbC wd1053 wd576 wd577 wd39 wd578) rfl rfl rfl (by decide +kernel) ⟨Nat.le_of_ble_eq_true rfl, Nat.le_of_ble_eq_true rfl⟩) ⟨xPc_blind, va_recv hK hPc (ci := 2) (q0 := 0) rfl rfl, xPc_pre hPc hK hDc⟩ rfl rfl hl.1 rfl (lv_room (Nat.le_of_ble_eq_true rfl)) dX1_thatExplain_1 ⟨Nat.le_of_ble_eq_true rfl, Nat.le_of_ble_eq_true rfl⟩) hS (fun q _ h => hFc q h) hFc (fun r1 u t H1 locs ht hvm hw1 hB hz1 hk1 hS => ?_)
  obtain ⟨hP1, hK1, hD1⟩ := hB
  rw [ht] at hP1
  obtain ⟨hP, hD⟩ := va_join (wr := [(pta, .inl (cJ, 64, .inr (.inl pt)))]) (w1 := [(pl, .inr (2, [.ref pna, .ref pta, .int rails, .int limit, .int retry, .int behind]))]) hP hD [0] [1] rfl rfl (by decide) (by decide) hk1 hFc hP1 hD1
  generalize H1 = H at hP hS ⊢
  have hP : va_P D vwCl [(pta, .inl (cJ, 64, .inr (.inl pt))), (pl, .inr (2, [.ref pna, .ref pta, .int rails, .int limit, .int retry, .int behind]))] H := hP
  have hD : va_D A [(pta, .inl (cJ, 64, .inr (.inl pt))), (pl, .inr (2, [.ref pna, .ref pta, .int rails, .int limit, .int retry, .int behind]))] := hD
  have hw1 : 0 ≤ r1.toInt ∧ r1.toInt ≤ 255 := hw1
  refine lv_istore_n (lv' := [(2, .int r1), (0, .ref pl), (1, .int s0)]) hx hb dX1_thatExplain_4 rfl hl (by decide) rfl (fun ls hl => ?_)
  refine lv_aload_n hx hb dX1_thatExplain_5 rfl (lv_at hl 1 rfl) ?_
  refine lv_iload_n hx hb dX1_thatExplain_6 rfl (lv_at hl 0 rfl) ?_
  have hPc := hP.sub (ws' := [(pl, .inr (2, [.ref pna, .ref pta, .int rails, .int limit, .int retry, .int behind])), (pta, .inl (cJ, 64, .inr (.inl pt)))]) [1, 0] rfl
  have hDc := hD.sub (ws' := [(pl, .inr (2, [.ref pna, .ref pta, .int rails, .int limit, .int retry, .int behind])), (pta, .inl (cJ, 64, .inr (.inl pt)))]) [1, 0] (by decide) rfl
  have hFc := va_free (wc := [(pl, .inr (2, [.ref pna, .ref pta, .int rails, .int limit, .int retry, .int behind])), (pta, .inl (cJ, 64, .inr (.inl pt)))]) hD hS hA [1, 0] rfl
  refine va_calli (va_runV (As := [.int r1]) (rest := []) ⟨hx, hb, hml, hown, hts⟩ (c_upAmong l D cI cJ cZ cG cH H.size pl r1 pna pta rails limit retry behind pt (xrng rfl (by omega) (by omega))) (cwV 1 hts (xGV tbC wd1064 wd796 wd797 wd39 wd798) rfl rfl rfl (by decide +kernel) ⟨Nat.le_of_ble_eq_true rfl, Nat.le_of_ble_eq_true rfl⟩) ⟨xPc_blind, va_recv hK hPc (ci := 2) (q0 := 0) rfl rfl, xPc_pre hPc hK hDc⟩ rfl rfl hl.1 rfl (lv_room (Nat.le_of_ble_eq_true rfl)) dX1_thatExplain_7 ⟨Nat.le_of_ble_eq_true rfl, Nat.le_of_ble_eq_true rfl⟩) hS (fun q _ h => hFc q h) hFc (fun r2 u t H1 locs ht hvm hw2 hB hz1 hk1 hS => ?_)
  obtain ⟨hP1, hK1, hD1⟩ := hB
  rw [ht] at hP1
  obtain ⟨hP, hD⟩ := va_join (wr := []) (w1 := [(pl, .inr (2, [.ref pna, .ref pta, .int rails, .int limit, .int retry, .int behind])), (pta, .inl (cJ, 64, .inr (.inl pt)))]) hP hD [1, 0] [] rfl rfl (by decide) (by decide) hk1 hFc hP1 hD1
  generalize H1 = H at hP hS ⊢
  have hP : va_P D vwCl [(pl, .inr (2, [.ref pna, .ref pta, .int rails, .int limit, .int retry, .int behind])), (pta, .inl (cJ, 64, .inr (.inl pt)))] H := hP
  have hD : va_D A [(pl, .inr (2, [.ref pna, .ref pta, .int rails, .int limit, .int retry, .int behind])), (pta, .inl (cJ, 64, .inr (.inl pt)))] := hD
  have hw2 : 0 ≤ r2.toInt ∧ r2.toInt ≤ 2147483647 := hw2
  refine lv_iload_n hx hb dX1_thatExplain_10 rfl (lv_at hl 2 rfl) ?_
  refine lv_icmp_ne (tgt := 20) hx hb dX1_thatExplain_11 (by decide) (fun c_3 => ?_) (fun c_3 => ?_)
  · skip
    have i_3 : ¬ (r2.toInt = s0.toInt) := fun h9 => c_3 ((ieq rfl rfl).mpr h9)
    refine lv_iconst (v := 0) hx hb dX1_thatExplain_20 (by decide) ?_
    refine lv_istore_n (lv' := [(3, .int 0), (2, .int r1), (0, .ref pl), (1, .int s0)]) hx hb dX1_thatExplain_21 rfl hl (by decide) rfl (fun ls hl => ?_)
    refine lv_iconst (v := 0) hx hb dX1_thatExplain_22 (by decide) ?_
    refine lv_istore (lv' := [(4, .int 0), (3, .int 0), (2, .int r1), (0, .ref pl), (1, .int s0)]) hx hb dX1_thatExplain_23 hl (by decide) rfl (fun ls hl => ?_)
    have hl38 : ∀ (nhl38 : Nat) (x36 : Int32) (x37 : Int32), ((8 - x36.toInt).toNat < nhl38) → (hx36 : 0 ≤ x36.toInt ∧ x36.toInt ≤ 8) → (hx37 : 0 ≤ x37.toInt ∧ x37.toInt ≤ 2147483647) → ∀ (H : Heap) (locs : List Loc), va_P D vwCl [(pl, .inr (2, [.ref pna, .ref pta, .int rails, .int limit, .int retry, .int behind])), (pta, .inl (cJ, 64, .inr (.inl pt)))] H → va_D A [(pl, .inr (2, [.ref pna, .ref pta, .int rails, .int limit, .int retry, .int behind])), (pta, .inl (cJ, 64, .inr (.inl pt)))] → va_S A s.heap H locs → ∀ (ls : Array Slot), lv_has ls 5 [(4, .int x36), (3, .int x37), (2, .int r1), (0, .ref pl), (1, .int s0)] → W p l e rm_explain s m [Value.ref pl, Value.int s0].toArray below meth c H locs 0 0 (MQ below ((Q_explain D cI cJ cZ cG cH pl s0 pna pta rails limit retry behind pt) A) [Value.ref pl, Value.int s0].toArray s 0 0 A) (F0 m 25 ls []) := by
      intro nhl38
      induction nhl38 with
      | zero =>
        intro x36 x37 hmhl38
        exact absurd hmhl38 (Nat.not_lt_zero _)
      | succ nhl38 ihhl38 =>
        intro x36 x37 hmhl38 hx36 hx37 H locs hP hD hS ls hl
        refine lv_iload hx hb dX1_thatExplain_25 (lv_at hl 0 rfl) ?_
        refine lv_aload_n hx hb dX1_thatExplain_27 rfl (lv_at hl 3 rfl) ?_
        refine va_get (D := D) (ci := 2) (v := .int rails) (C := RX3) (T := TX3) (N := 6) hx hb hts (fun w h => tbC w (tbfX3 w h)) hown hK hP 0 rfl rfl 2 (by decide) (hts (.fieldLink RX1 30 "PowerRails$Plan" "rails" "I") (tbC _ wd1095)) (fun _ h9 => h9) rfl dX1_thatExplain_28 ?_
        refine lv_icmp_ge (tgt := 63) hx hb dX1_thatExplain_31 (by decide) (fun c_39 => ?_) (fun c_39 => ?_)
        · skip
          have i_39 : rails.toInt ≤ x36.toInt := (ile rfl rfl).mp c_39
          refine lv_iload_n hx hb dX1_thatExplain_63 rfl (lv_at hl 1 rfl) ?_
          refine W.widen (k := 0) (n := 0) (by decide) (by decide) ?_
          have hP9 := hP.sub (ws' := [(pl, .inr (2, [.ref pna, .ref pta, .int rails, .int limit, .int retry, .int behind])), (pta, .inl (cJ, 64, .inr (.inl pt)))]) [0, 1] rfl
          have hD9 := hD.sub (ws' := [(pl, .inr (2, [.ref pna, .ref pta, .int rails, .int limit, .int retry, .int behind])), (pta, .inl (cJ, 64, .inr (.inl pt)))]) [0, 1] (by decide) rfl
          exact W.iret (v := x37) hx hb hr (fun t ht hW => ⟨⟨x37, (), rfl, (xrng rfl (by omega) (by omega)), xB_of ht hW hP9 hK hD9⟩, hS.F ht⟩) hS.2.2 dX1_thatExplain_64
        · skip
          have i_39 : ¬ (rails.toInt ≤ x36.toInt) := fun h9 => c_39 ((ile rfl rfl).mpr h9)
          refine lv_aload_n hx hb dX1_thatExplain_34 rfl (lv_at hl 3 rfl) ?_
          refine lv_iload_n hx hb dX1_thatExplain_35 rfl (lv_at hl 2 rfl) ?_
          refine lv_iconst (v := 1) hx hb dX1_thatExplain_36 (by decide) ?_
          refine lv_iload hx hb dX1_thatExplain_37 (lv_at hl 0 rfl) ?_
          refine lv_ishl hx hb dX1_thatExplain_39 ?_
          refine lv_topi (fun v40 ev40 => ?_)
          have rv40 : 1 ≤ v40.toInt ∧ v40.toInt ≤ 128 := xshl1 7 ev40 (show (x36 : Int32).toInt = x36.toInt from rfl) (by omega) (by omega) (by decide)
          refine lv_iconst (v := (-1)) hx hb dX1_thatExplain_40 (by decide) ?_
          refine lv_ixor hx hb dX1_thatExplain_41 ?_
          refine lv_topi (fun v41 ev41 => ?_)
          refine lv_iand hx hb dX1_thatExplain_42 ?_
          refine lv_topi (fun v42 ev42 => ?_)
          have rv42 : 0 ≤ v42.toInt ∧ v42.toInt ≤ r1.toInt := xandL' ev42 (show (r1 : Int32).toInt = r1.toInt from rfl) (by omega)
          have hPc := hP.sub (ws' := [(pl, .inr (2, [.ref pna, .ref pta, .int rails, .int limit, .int retry, .int behind])), (pta, .inl (cJ, 64, .inr (.inl pt)))]) [0, 1] rfl
          have hDc := hD.sub (ws' := [(pl, .inr (2, [.ref pna, .ref pta, .int rails, .int limit, .int retry, .int behind])), (pta, .inl (cJ, 64, .inr (.inl pt)))]) [0, 1] (by decide) rfl
          have hFc := va_free (wc := [(pl, .inr (2, [.ref pna, .ref pta, .int rails, .int limit, .int retry, .int behind])), (pta, .inl (cJ, 64, .inr (.inl pt)))]) hD hS hA [0, 1] rfl
          refine va_calli (va_runV (As := [.int v42]) (rest := []) ⟨hx, hb, hml, hown, hts⟩ (c_upAmong l D cI cJ cZ cG cH H.size pl v42 pna pta rails limit retry behind pt (xrng rfl (by omega) (by omega))) (cwV 1 hts (xGV tbC wd1064 wd796 wd797 wd39 wd798) rfl rfl rfl (by decide +kernel) ⟨Nat.le_of_ble_eq_true rfl, Nat.le_of_ble_eq_true rfl⟩) ⟨xPc_blind, va_recv hK hPc (ci := 2) (q0 := 0) rfl rfl, xPc_pre hPc hK hDc⟩ rfl rfl hl.1 rfl (lv_room (Nat.le_of_ble_eq_true rfl)) dX1_thatExplain_43 ⟨Nat.le_of_ble_eq_true rfl, Nat.le_of_ble_eq_true rfl⟩) hS (fun q _ h => hFc q h) hFc (fun r43 u t H1 locs ht hvm hw43 hB hz1 hk1 hS => ?_)
          obtain ⟨hP1, hK1, hD1⟩ := hB
          rw [ht] at hP1
          obtain ⟨hP, hD⟩ := va_join (wr := []) (w1 := [(pl, .inr (2, [.ref pna, .ref pta, .int rails, .int limit, .int retry, .int behind])), (pta, .inl (cJ, 64, .inr (.inl pt)))]) hP hD [0, 1] [] rfl rfl (by decide) (by decide) hk1 hFc hP1 hD1
          generalize H1 = H at hP hS ⊢
          have hP : va_P D vwCl [(pl, .inr (2, [.ref pna, .ref pta, .int rails, .int limit, .int retry, .int behind])), (pta, .inl (cJ, 64, .inr (.inl pt)))] H := hP
          have hD : va_D A [(pl, .inr (2, [.ref pna, .ref pta, .int rails, .int limit, .int retry, .int behind])), (pta, .inl (cJ, 64, .inr (.inl pt)))] := hD
          have hw43 : 0 ≤ r43.toInt ∧ r43.toInt ≤ 2147483647 := hw43
          refine lv_iload_n hx hb dX1_thatExplain_46 rfl (lv_at hl 4 rfl) ?_
          refine lv_icmp_ne (tgt := 57) hx hb dX1_thatExplain_47 (by decide) (fun c_44 => ?_) (fun c_44 => ?_)
          · skip
            have i_44 : ¬ (r43.toInt = s0.toInt) := fun h9 => c_44 ((ieq rfl rfl).mpr h9)
            obtain ⟨x45, ex45⟩ : ∃ y : Int32, y = x36 + 1 := ⟨_, rfl⟩
            have tx45 : x45.toInt = (x36.toInt + 1) := (congrArg Int32.toInt ex45).trans (xadd rfl (by decide) (by omega) (by omega))
            refine lv_iinc (v := x45) (lv' := [(4, .int x45), (3, .int x37), (2, .int r1), (0, .ref pl), (1, .int s0)]) hx hb dX1_thatExplain_57 hl (k := 0) rfl (by rw [ex45]; rfl) (by decide) rfl (fun ls hl => ?_)
            refine lv_goto (tgt := 25) hx hb dX1_thatExplain_60 (by decide) ?_
            exact ihhl38 x45 x37 (by omega) (xrng tx45 (by omega) (by omega)) (xrng rfl (by omega) (by omega)) _ _ hP hD hS ls (lv_sub hl [0, 1, 2, 3, 4] rfl)
          · skip
            have i_44 : r43.toInt = s0.toInt := (ieq rfl rfl).mp c_44
            refine lv_iload_n hx hb dX1_thatExplain_50 rfl (lv_at hl 1 rfl) ?_
            refine lv_iconst (v := 1) hx hb dX1_thatExplain_51 (by decide) ?_
            refine lv_iload hx hb dX1_thatExplain_52 (lv_at hl 0 rfl) ?_
            refine lv_ishl hx hb dX1_thatExplain_54 ?_
            refine lv_topi (fun v46 ev46 => ?_)
            have rv46 : 1 ≤ v46.toInt ∧ v46.toInt ≤ 128 := xshl1 7 ev46 (show (x36 : Int32).toInt = x36.toInt from rfl) (by omega) (by omega) (by decide)
            refine lv_ior hx hb dX1_thatExplain_55 ?_
            refine lv_topi (fun v47 ev47 => ?_)
            have rv47 : 0 ≤ v47.toInt ∧ v47.toInt ≤ 2147483647 := xorL 31 ev47 (show (x37 : Int32).toInt = x37.toInt from rfl) (show (v46 : Int32).toInt = v46.toInt from rfl) (by decide) (by decide) (by omega) (by omega) (by omega) (by omega)
            refine lv_istore_n (lv' := [(3, .int v47), (4, .int x36), (2, .int r1), (0, .ref pl), (1, .int s0)]) hx hb dX1_thatExplain_56 rfl hl (by decide) rfl (fun ls hl => ?_)
            obtain ⟨x48, ex48⟩ : ∃ y : Int32, y = x36 + 1 := ⟨_, rfl⟩
            have tx48 : x48.toInt = (x36.toInt + 1) := (congrArg Int32.toInt ex48).trans (xadd rfl (by decide) (by omega) (by omega))
            refine lv_iinc (v := x48) (lv' := [(4, .int x48), (3, .int v47), (2, .int r1), (0, .ref pl), (1, .int s0)]) hx hb dX1_thatExplain_57 hl (k := 1) rfl (by rw [ex48]; rfl) (by decide) rfl (fun ls hl => ?_)
            refine lv_goto (tgt := 25) hx hb dX1_thatExplain_60 (by decide) ?_
            exact ihhl38 x48 v47 (by omega) (xrng tx48 (by omega) (by omega)) (xrng rfl (by omega) (by omega)) _ _ hP hD hS ls (lv_sub hl [0, 1, 2, 3, 4] rfl)
    exact hl38 _ 0 0 (Nat.lt_succ_self _) ⟨by decide, by decide⟩ ⟨by decide, by decide⟩ _ _ hP hD hS ls (lv_sub hl [0, 1, 2, 3, 4] rfl)
  · skip
    have i_3 : r2.toInt = s0.toInt := (ieq rfl rfl).mp c_3
    refine lv_sipush (v := 256) hx hb dX1_thatExplain_14 (by decide) ?_
    refine lv_goto (tgt := 21) hx hb dX1_thatExplain_17 (by decide) ?_
    refine lv_istore_n (lv' := [(3, .int 256), (2, .int r1), (0, .ref pl), (1, .int s0)]) hx hb dX1_thatExplain_21 rfl hl (by decide) rfl (fun ls hl => ?_)
    refine lv_iconst (v := 0) hx hb dX1_thatExplain_22 (by decide) ?_
    refine lv_istore (lv' := [(4, .int 0), (3, .int 256), (2, .int r1), (0, .ref pl), (1, .int s0)]) hx hb dX1_thatExplain_23 hl (by decide) rfl (fun ls hl => ?_)
    have hl83 : ∀ (nhl83 : Nat) (x81 : Int32) (x82 : Int32), ((8 - x81.toInt).toNat < nhl83) → (hx81 : 0 ≤ x81.toInt ∧ x81.toInt ≤ 8) → (hx82 : 0 ≤ x82.toInt ∧ x82.toInt ≤ 2147483647) → ∀ (H : Heap) (locs : List Loc), va_P D vwCl [(pl, .inr (2, [.ref pna, .ref pta, .int rails, .int limit, .int retry, .int behind])), (pta, .inl (cJ, 64, .inr (.inl pt)))] H → va_D A [(pl, .inr (2, [.ref pna, .ref pta, .int rails, .int limit, .int retry, .int behind])), (pta, .inl (cJ, 64, .inr (.inl pt)))] → va_S A s.heap H locs → ∀ (ls : Array Slot), lv_has ls 5 [(4, .int x81), (3, .int x82), (2, .int r1), (0, .ref pl), (1, .int s0)] → W p l e rm_explain s m [Value.ref pl, Value.int s0].toArray below meth c H locs 0 0 (MQ below ((Q_explain D cI cJ cZ cG cH pl s0 pna pta rails limit retry behind pt) A) [Value.ref pl, Value.int s0].toArray s 0 0 A) (F0 m 25 ls []) := by
      intro nhl83
      induction nhl83 with
      | zero =>
        intro x81 x82 hmhl83
        exact absurd hmhl83 (Nat.not_lt_zero _)
      | succ nhl83 ihhl83 =>
        intro x81 x82 hmhl83 hx81 hx82 H locs hP hD hS ls hl
        refine lv_iload hx hb dX1_thatExplain_25 (lv_at hl 0 rfl) ?_
        refine lv_aload_n hx hb dX1_thatExplain_27 rfl (lv_at hl 3 rfl) ?_
        refine va_get (D := D) (ci := 2) (v := .int rails) (C := RX3) (T := TX3) (N := 6) hx hb hts (fun w h => tbC w (tbfX3 w h)) hown hK hP 0 rfl rfl 2 (by decide) (hts (.fieldLink RX1 30 "PowerRails$Plan" "rails" "I") (tbC _ wd1095)) (fun _ h9 => h9) rfl dX1_thatExplain_28 ?_
        refine lv_icmp_ge (tgt := 63) hx hb dX1_thatExplain_31 (by decide) (fun c_84 => ?_) (fun c_84 => ?_)
        · skip
          have i_84 : rails.toInt ≤ x81.toInt := (ile rfl rfl).mp c_84
          refine lv_iload_n hx hb dX1_thatExplain_63 rfl (lv_at hl 1 rfl) ?_
          refine W.widen (k := 0) (n := 0) (by decide) (by decide) ?_
          have hP9 := hP.sub (ws' := [(pl, .inr (2, [.ref pna, .ref pta, .int rails, .int limit, .int retry, .int behind])), (pta, .inl (cJ, 64, .inr (.inl pt)))]) [0, 1] rfl
          have hD9 := hD.sub (ws' := [(pl, .inr (2, [.ref pna, .ref pta, .int rails, .int limit, .int retry, .int behind])), (pta, .inl (cJ, 64, .inr (.inl pt)))]) [0, 1] (by decide) rfl
          exact W.iret (v := x82) hx hb hr (fun t ht hW => ⟨⟨x82, (), rfl, (xrng rfl (by omega) (by omega)), xB_of ht hW hP9 hK hD9⟩, hS.F ht⟩) hS.2.2 dX1_thatExplain_64
        · skip
          have i_84 : ¬ (rails.toInt ≤ x81.toInt) := fun h9 => c_84 ((ile rfl rfl).mpr h9)
          refine lv_aload_n hx hb dX1_thatExplain_34 rfl (lv_at hl 3 rfl) ?_
          refine lv_iload_n hx hb dX1_thatExplain_35 rfl (lv_at hl 2 rfl) ?_
          refine lv_iconst (v := 1) hx hb dX1_thatExplain_36 (by decide) ?_
          refine lv_iload hx hb dX1_thatExplain_37 (lv_at hl 0 rfl) ?_
          refine lv_ishl hx hb dX1_thatExplain_39 ?_
          refine lv_topi (fun v85 ev85 => ?_)
          have rv85 : 1 ≤ v85.toInt ∧ v85.toInt ≤ 128 := xshl1 7 ev85 (show (x81 : Int32).toInt = x81.toInt from rfl) (by omega) (by omega) (by decide)
          refine lv_iconst (v := (-1)) hx hb dX1_thatExplain_40 (by decide) ?_
          refine lv_ixor hx hb dX1_thatExplain_41 ?_
          refine lv_topi (fun v86 ev86 => ?_)
          refine lv_iand hx hb dX1_thatExplain_42 ?_
          refine lv_topi (fun v87 ev87 => ?_)
          have rv87 : 0 ≤ v87.toInt ∧ v87.toInt ≤ r1.toInt := xandL' ev87 (show (r1 : Int32).toInt = r1.toInt from rfl) (by omega)
          have hPc := hP.sub (ws' := [(pl, .inr (2, [.ref pna, .ref pta, .int rails, .int limit, .int retry, .int behind])), (pta, .inl (cJ, 64, .inr (.inl pt)))]) [0, 1] rfl
          have hDc := hD.sub (ws' := [(pl, .inr (2, [.ref pna, .ref pta, .int rails, .int limit, .int retry, .int behind])), (pta, .inl (cJ, 64, .inr (.inl pt)))]) [0, 1] (by decide) rfl
          have hFc := va_free (wc := [(pl, .inr (2, [.ref pna, .ref pta, .int rails, .int limit, .int retry, .int behind])), (pta, .inl (cJ, 64, .inr (.inl pt)))]) hD hS hA [0, 1] rfl
          refine va_calli (va_runV (As := [.int v87]) (rest := []) ⟨hx, hb, hml, hown, hts⟩ (c_upAmong l D cI cJ cZ cG cH H.size pl v87 pna pta rails limit retry behind pt (xrng rfl (by omega) (by omega))) (cwV 1 hts (xGV tbC wd1064 wd796 wd797 wd39 wd798) rfl rfl rfl (by decide +kernel) ⟨Nat.le_of_ble_eq_true rfl, Nat.le_of_ble_eq_true rfl⟩) ⟨xPc_blind, va_recv hK hPc (ci := 2) (q0 := 0) rfl rfl, xPc_pre hPc hK hDc⟩ rfl rfl hl.1 rfl (lv_room (Nat.le_of_ble_eq_true rfl)) dX1_thatExplain_43 ⟨Nat.le_of_ble_eq_true rfl, Nat.le_of_ble_eq_true rfl⟩) hS (fun q _ h => hFc q h) hFc (fun r88 u t H1 locs ht hvm hw88 hB hz1 hk1 hS => ?_)
          obtain ⟨hP1, hK1, hD1⟩ := hB
          rw [ht] at hP1
          obtain ⟨hP, hD⟩ := va_join (wr := []) (w1 := [(pl, .inr (2, [.ref pna, .ref pta, .int rails, .int limit, .int retry, .int behind])), (pta, .inl (cJ, 64, .inr (.inl pt)))]) hP hD [0, 1] [] rfl rfl (by decide) (by decide) hk1 hFc hP1 hD1
          generalize H1 = H at hP hS ⊢
          have hP : va_P D vwCl [(pl, .inr (2, [.ref pna, .ref pta, .int rails, .int limit, .int retry, .int behind])), (pta, .inl (cJ, 64, .inr (.inl pt)))] H := hP
          have hD : va_D A [(pl, .inr (2, [.ref pna, .ref pta, .int rails, .int limit, .int retry, .int behind])), (pta, .inl (cJ, 64, .inr (.inl pt)))] := hD
          have hw88 : 0 ≤ r88.toInt ∧ r88.toInt ≤ 2147483647 := hw88
          refine lv_iload_n hx hb dX1_thatExplain_46 rfl (lv_at hl 4 rfl) ?_
          refine lv_icmp_ne (tgt := 57) hx hb dX1_thatExplain_47 (by decide) (fun c_89 => ?_) (fun c_89 => ?_)
          · skip
            have i_89 : ¬ (r88.toInt = s0.toInt) := fun h9 => c_89 ((ieq rfl rfl).mpr h9)
            obtain ⟨x90, ex90⟩ : ∃ y : Int32, y = x81 + 1 := ⟨_, rfl⟩
            have tx90 : x90.toInt = (x81.toInt + 1) := (congrArg Int32.toInt ex90).trans (xadd rfl (by decide) (by omega) (by omega))
            refine lv_iinc (v := x90) (lv' := [(4, .int x90), (3, .int x82), (2, .int r1), (0, .ref pl), (1, .int s0)]) hx hb dX1_thatExplain_57 hl (k := 0) rfl (by rw [ex90]; rfl) (by decide) rfl (fun ls hl => ?_)
            refine lv_goto (tgt := 25) hx hb dX1_thatExplain_60 (by decide) ?_
            exact ihhl83 x90 x82 (by omega) (xrng tx90 (by omega) (by omega)) (xrng rfl (by omega) (by omega)) _ _ hP hD hS ls (lv_sub hl [0, 1, 2, 3, 4] rfl)
          · skip
            have i_89 : r88.toInt = s0.toInt := (ieq rfl rfl).mp c_89
            refine lv_iload_n hx hb dX1_thatExplain_50 rfl (lv_at hl 1 rfl) ?_
            refine lv_iconst (v := 1) hx hb dX1_thatExplain_51 (by decide) ?_
            refine lv_iload hx hb dX1_thatExplain_52 (lv_at hl 0 rfl) ?_
            refine lv_ishl hx hb dX1_thatExplain_54 ?_
            refine lv_topi (fun v91 ev91 => ?_)
            have rv91 : 1 ≤ v91.toInt ∧ v91.toInt ≤ 128 := xshl1 7 ev91 (show (x81 : Int32).toInt = x81.toInt from rfl) (by omega) (by omega) (by decide)
            refine lv_ior hx hb dX1_thatExplain_55 ?_
            refine lv_topi (fun v92 ev92 => ?_)
            have rv92 : 0 ≤ v92.toInt ∧ v92.toInt ≤ 2147483647 := xorL 31 ev92 (show (x82 : Int32).toInt = x82.toInt from rfl) (show (v91 : Int32).toInt = v91.toInt from rfl) (by decide) (by decide) (by omega) (by omega) (by omega) (by omega)
            refine lv_istore_n (lv' := [(3, .int v92), (4, .int x81), (2, .int r1), (0, .ref pl), (1, .int s0)]) hx hb dX1_thatExplain_56 rfl hl (by decide) rfl (fun ls hl => ?_)
            obtain ⟨x93, ex93⟩ : ∃ y : Int32, y = x81 + 1 := ⟨_, rfl⟩
            have tx93 : x93.toInt = (x81.toInt + 1) := (congrArg Int32.toInt ex93).trans (xadd rfl (by decide) (by omega) (by omega))
            refine lv_iinc (v := x93) (lv' := [(4, .int x93), (3, .int v92), (2, .int r1), (0, .ref pl), (1, .int s0)]) hx hb dX1_thatExplain_57 hl (k := 1) rfl (by rw [ex93]; rfl) (by decide) rfl (fun ls hl => ?_)
            refine lv_goto (tgt := 25) hx hb dX1_thatExplain_60 (by decide) ?_
            exact ihhl83 x93 v92 (by omega) (xrng tx93 (by omega) (by omega)) (xrng rfl (by omega) (by omega)) _ _ hP hD hS ls (lv_sub hl [0, 1, 2, 3, 4] rfl)
    exact hl83 _ 0 256 (Nat.lt_succ_self _) ⟨by decide, by decide⟩ ⟨by decide, by decide⟩ _ _ hP hD hS ls (lv_sub hl [0, 1, 2, 3, 4] rfl)
