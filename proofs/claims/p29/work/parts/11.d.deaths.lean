abbrev W_dIsUp (cI cJ cZ cG cH : ClassId) (pl : Nat) (s0 : Int32) (r0 : Int32) (pna : Nat) (pta : Nat) (rails : Int32) (limit : Int32) (retry : Int32) (behind : Int32) (pt : Nat → Int64) : va_W := [(pl, .inr (2, [.ref pna, .ref pta, .int rails, .int limit, .int retry, .int behind])), (pta, .inl (cJ, 64, .inr (.inl pt)))]
abbrev Q_dIsUp (D : va_G) (cI cJ cZ cG cH : ClassId) (pl : Nat) (s0 : Int32) (r0 : Int32) (pna : Nat) (pta : Nat) (rails : Int32) (limit : Int32) (retry : Int32) (behind : Int32) (pt : Nat → Int64) (A : Nat → Prop) : Array Value → State → Outcome → State → Prop := va_Qi (fun (r : Int32) (_ : Unit) => 0 ≤ r.toInt ∧ r.toInt ≤ 1) (fun _ t => xB D (tyL cI cJ cZ cG cH) [(pl, .inr (2, [.ref pna, .ref pta, .int rails, .int limit, .int retry, .int behind])), (pta, .inl (cJ, 64, .inr (.inl pt)))] A t) A
abbrev rm_dIsUp : Room := { frames := 2, cells := 0, slots := 0, locals := 47 }
set_option maxRecDepth 100000 in
set_option maxHeartbeats 4000000 in
theorem c_dIsUp (l : Launch) (D : va_G) (cI cJ cZ cG cH : ClassId) (sz : Nat) (pl : Nat) (s0 : Int32) (r0 : Int32) (pna : Nat) (pta : Nat) (rails : Int32) (limit : Int32) (retry : Int32) (behind : Int32) (pt : Nat → Int64) (h_rails : 0 ≤ rails.toInt ∧ rails.toInt ≤ 8) : Met l yX1_isUpAmong (wt yX1_isUpAmong cX1_isUpAmong 3 (some .boolean)) rm_dIsUp (xPc [.ref pl, .int s0, .int r0] D (tyL cI cJ cZ cG cH) (W_dIsUp cI cJ cZ cG cH pl s0 r0 pna pta rails limit retry behind pt) sz) (Q_dIsUp D cI cJ cZ cG cH pl s0 r0 pna pta rails limit retry behind pt (va_A (W_dIsUp cI cJ cZ cG cH pl s0 r0 pna pta rails limit retry behind pt) sz)) 0 0 (va_A (W_dIsUp cI cJ cZ cG cH pl s0 r0 pna pta rails limit retry behind pt) sz) := by
  refine xMet (cc := cX1_isUpAmong) (maxL := 3) (ret := (some .boolean)) (Qf := Q_dIsUp D cI cJ cZ cG cH pl s0 r0 pna pta rails limit retry behind pt) (by decide) rfl (Nat.le_of_ble_eq_true rfl) ?_
  intro p e s m below meth c ls A hx hb hr hml hts hown hlocks hnm hsz hP hK hD hA hS hl
  have hown : s.vm.findClass RX1 = some m.cls := hown
  have hP : va_P D vwCl [(pl, .inr (2, [.ref pna, .ref pta, .int rails, .int limit, .int retry, .int behind])), (pta, .inl (cJ, 64, .inr (.inl pt)))] s.heap := hP
  have hD : va_D A [(pl, .inr (2, [.ref pna, .ref pta, .int rails, .int limit, .int retry, .int behind])), (pta, .inl (cJ, 64, .inr (.inl pt)))] := hD
  have hl : lv_has ls 3 [(0, .ref pl), (1, .int s0), (2, .int r0)] := hl
  refine lv_aload_n hx hb dX1_isUpAmong_0 rfl (lv_at hl 0 rfl) ?_
  refine lv_iload_n hx hb dX1_isUpAmong_1 rfl (lv_at hl 1 rfl) ?_
  have hPc := hP.sub (ws' := [(pl, .inr (2, [.ref pna, .ref pta, .int rails, .int limit, .int retry, .int behind])), (pta, .inl (cJ, 64, .inr (.inl pt)))]) [0, 1] rfl
  have hDc := hD.sub (ws' := [(pl, .inr (2, [.ref pna, .ref pta, .int rails, .int limit, .int retry, .int behind])), (pta, .inl (cJ, 64, .inr (.inl pt)))]) [0, 1] (by decide) rfl
  have hFc := va_free (wc := [(pl, .inr (2, [.ref pna, .ref pta, .int rails, .int limit, .int retry, .int behind])), (pta, .inl (cJ, 64, .inr (.inl pt)))]) hD hS hA [0, 1] rfl
  refine va_calli (va_runV (As := [.int s0]) (rest := []) ⟨hx, hb, hml, hown, hts⟩ (c_upAmong l D cI cJ cZ cG cH s.heap.size pl s0 pna pta rails limit retry behind pt (xrng rfl (by omega) (by omega))) (cwV 1 hts (xGV tbC wd1064 wd796 wd797 wd39 wd798) rfl rfl rfl (by decide +kernel) ⟨Nat.le_of_ble_eq_true rfl, Nat.le_of_ble_eq_true rfl⟩) ⟨xPc_blind, va_recv hK hPc (ci := 2) (q0 := 0) rfl rfl, xPc_pre hPc hK hDc⟩ rfl rfl hl.1 rfl (lv_room (Nat.le_of_ble_eq_true rfl)) dX1_isUpAmong_2 ⟨Nat.le_of_ble_eq_true rfl, Nat.le_of_ble_eq_true rfl⟩) hS (fun q _ h => hFc q h) hFc (fun r1 u t H1 locs ht hvm hw1 hB hz1 hk1 hS => ?_)
  obtain ⟨hP1, hK1, hD1⟩ := hB
  rw [ht] at hP1
  obtain ⟨hP, hD⟩ := va_join (wr := []) (w1 := [(pl, .inr (2, [.ref pna, .ref pta, .int rails, .int limit, .int retry, .int behind])), (pta, .inl (cJ, 64, .inr (.inl pt)))]) hP hD [0, 1] [] rfl rfl (by decide) (by decide) hk1 hFc hP1 hD1
  generalize H1 = H at hP hS ⊢
  have hP : va_P D vwCl [(pl, .inr (2, [.ref pna, .ref pta, .int rails, .int limit, .int retry, .int behind])), (pta, .inl (cJ, 64, .inr (.inl pt)))] H := hP
  have hD : va_D A [(pl, .inr (2, [.ref pna, .ref pta, .int rails, .int limit, .int retry, .int behind])), (pta, .inl (cJ, 64, .inr (.inl pt)))] := hD
  have hw1 : 0 ≤ r1.toInt ∧ r1.toInt ≤ 2147483647 := hw1
  refine lv_iload_n hx hb dX1_isUpAmong_5 rfl (lv_at hl 2 rfl) ?_
  refine lv_ishr hx hb dX1_isUpAmong_6 ?_
  refine lv_topi (fun v2 ev2 => ?_)
  refine lv_iconst (v := 1) hx hb dX1_isUpAmong_7 (by decide) ?_
  refine lv_iand hx hb dX1_isUpAmong_8 ?_
  refine lv_topi (fun v3 ev3 => ?_)
  have rv3 : 0 ≤ v3.toInt ∧ v3.toInt ≤ 1 := xandL ev3 (show (1 : Int32).toInt = 1 from (by decide)) (by omega)
  refine lv_iconst (v := 1) hx hb dX1_isUpAmong_9 (by decide) ?_
  refine lv_icmp_ne (tgt := 17) hx hb dX1_isUpAmong_10 (by decide) (fun c_4 => ?_) (fun c_4 => ?_)
  · skip
    have i_4 : ¬ (v3.toInt = 1) := fun h9 => c_4 ((ieq rfl (by decide)).mpr h9)
    refine lv_iconst (v := 0) hx hb dX1_isUpAmong_17 (by decide) ?_
    refine W.widen (k := 0) (n := 0) (by decide) (by decide) ?_
    have hP9 := hP.sub (ws' := [(pl, .inr (2, [.ref pna, .ref pta, .int rails, .int limit, .int retry, .int behind])), (pta, .inl (cJ, 64, .inr (.inl pt)))]) [0, 1] rfl
    have hD9 := hD.sub (ws' := [(pl, .inr (2, [.ref pna, .ref pta, .int rails, .int limit, .int retry, .int behind])), (pta, .inl (cJ, 64, .inr (.inl pt)))]) [0, 1] (by decide) rfl
    exact W.zret (v := 0) hx hb hr (by decide) (fun t ht hW => ⟨⟨0, (), rfl, ⟨by decide, by decide⟩, xB_of ht hW hP9 hK hD9⟩, hS.F ht⟩) hS.2.2 dX1_isUpAmong_18
  · skip
    have i_4 : v3.toInt = 1 := (ieq rfl (by decide)).mp c_4
    refine lv_iconst (v := 1) hx hb dX1_isUpAmong_13 (by decide) ?_
    refine lv_goto (tgt := 18) hx hb dX1_isUpAmong_14 (by decide) ?_
    refine W.widen (k := 0) (n := 0) (by decide) (by decide) ?_
    have hP9 := hP.sub (ws' := [(pl, .inr (2, [.ref pna, .ref pta, .int rails, .int limit, .int retry, .int behind])), (pta, .inl (cJ, 64, .inr (.inl pt)))]) [0, 1] rfl
    have hD9 := hD.sub (ws' := [(pl, .inr (2, [.ref pna, .ref pta, .int rails, .int limit, .int retry, .int behind])), (pta, .inl (cJ, 64, .inr (.inl pt)))]) [0, 1] (by decide) rfl
    exact W.zret (v := 1) hx hb hr (by decide) (fun t ht hW => ⟨⟨1, (), rfl, ⟨by decide, by decide⟩, xB_of ht hW hP9 hK hD9⟩, hS.F ht⟩) hS.2.2 dX1_isUpAmong_18
abbrev W_fewestCut (cI cJ cZ cG cH : ClassId) (pl : Nat) (s0 : Int32) (r0 : Int32) (pna : Nat) (pta : Nat) (rails : Int32) (limit : Int32) (retry : Int32) (behind : Int32) (pt : Nat → Int64) : va_W := [(pl, .inr (2, [.ref pna, .ref pta, .int rails, .int limit, .int retry, .int behind])), (pta, .inl (cJ, 64, .inr (.inl pt)))]
abbrev Q_fewestCut (D : va_G) (cI cJ cZ cG cH : ClassId) (pl : Nat) (s0 : Int32) (r0 : Int32) (pna : Nat) (pta : Nat) (rails : Int32) (limit : Int32) (retry : Int32) (behind : Int32) (pt : Nat → Int64) (A : Nat → Prop) : Array Value → State → Outcome → State → Prop := va_Qi (fun (r : Int32) (_ : Unit) => 0 ≤ r.toInt ∧ r.toInt ≤ 255) (fun _ t => xB D (tyL cI cJ cZ cG cH) [(pl, .inr (2, [.ref pna, .ref pta, .int rails, .int limit, .int retry, .int behind])), (pta, .inl (cJ, 64, .inr (.inl pt)))] A t) A
abbrev rm_fewestCut : Room := { frames := 3, cells := 0, slots := 0, locals := 69 }
set_option maxRecDepth 100000 in
set_option maxHeartbeats 4000000 in
theorem c_fewestCut (l : Launch) (D : va_G) (cI cJ cZ cG cH : ClassId) (sz : Nat) (pl : Nat) (s0 : Int32) (r0 : Int32) (pna : Nat) (pta : Nat) (rails : Int32) (limit : Int32) (retry : Int32) (behind : Int32) (pt : Nat → Int64) (h_rails : 0 ≤ rails.toInt ∧ rails.toInt ≤ 8) : Met l yX1_fewestThatCut (wt yX1_fewestThatCut cX1_fewestThatCut 7 (some .int)) rm_fewestCut (xPc [.ref pl, .int s0, .int r0] D (tyL cI cJ cZ cG cH) (W_fewestCut cI cJ cZ cG cH pl s0 r0 pna pta rails limit retry behind pt) sz) (Q_fewestCut D cI cJ cZ cG cH pl s0 r0 pna pta rails limit retry behind pt (va_A (W_fewestCut cI cJ cZ cG cH pl s0 r0 pna pta rails limit retry behind pt) sz)) 0 0 (va_A (W_fewestCut cI cJ cZ cG cH pl s0 r0 pna pta rails limit retry behind pt) sz) := by
  refine xMet (cc := cX1_fewestThatCut) (maxL := 7) (ret := (some .int)) (Qf := Q_fewestCut D cI cJ cZ cG cH pl s0 r0 pna pta rails limit retry behind pt) (by decide) rfl (Nat.le_of_ble_eq_true rfl) ?_
  intro p e s m below meth c ls A hx hb hr hml hts hown hlocks hnm hsz hP hK hD hA hS hl
  have hown : s.vm.findClass RX1 = some m.cls := hown
  have hP : va_P D vwCl [(pl, .inr (2, [.ref pna, .ref pta, .int rails, .int limit, .int retry, .int behind])), (pta, .inl (cJ, 64, .inr (.inl pt)))] s.heap := hP
  have hD : va_D A [(pl, .inr (2, [.ref pna, .ref pta, .int rails, .int limit, .int retry, .int behind])), (pta, .inl (cJ, 64, .inr (.inl pt)))] := hD
  have hl : lv_has ls 7 [(0, .ref pl), (1, .int s0), (2, .int r0)] := hl
  refine lv_iconst (v := 0) hx hb dX1_fewestThatCut_0 (by decide) ?_
  refine lv_istore_n (lv' := [(3, .int 0), (0, .ref pl), (1, .int s0), (2, .int r0)]) hx hb dX1_fewestThatCut_1 rfl hl (by decide) rfl (fun ls hl => ?_)
  refine lv_iconst (v := 1) hx hb dX1_fewestThatCut_2 (by decide) ?_
  refine lv_istore (lv' := [(4, .int 1), (3, .int 0), (0, .ref pl), (1, .int s0), (2, .int r0)]) hx hb dX1_fewestThatCut_3 hl (by decide) rfl (fun ls hl => ?_)
  have hl167 : ∀ (nhl167 : Nat) (x165 : Int32) (x166 : Int32), ((256 - x165.toInt).toNat < nhl167) → (hx165 : 1 ≤ x165.toInt ∧ x165.toInt ≤ 256) → (hx166 : 0 ≤ x166.toInt ∧ x166.toInt ≤ 255) → ∀ (H : Heap) (locs : List Loc), va_P D vwCl [(pl, .inr (2, [.ref pna, .ref pta, .int rails, .int limit, .int retry, .int behind])), (pta, .inl (cJ, 64, .inr (.inl pt)))] H → va_D A [(pl, .inr (2, [.ref pna, .ref pta, .int rails, .int limit, .int retry, .int behind])), (pta, .inl (cJ, 64, .inr (.inl pt)))] → va_S A s.heap H locs → ∀ (ls : Array Slot), lv_has ls 7 [(4, .int x165), (3, .int x166), (0, .ref pl), (1, .int s0), (2, .int r0)] → W p l e rm_fewestCut s m [Value.ref pl, Value.int s0, Value.int r0].toArray below meth c H locs 0 0 (MQ below ((Q_fewestCut D cI cJ cZ cG cH pl s0 r0 pna pta rails limit retry behind pt) A) [Value.ref pl, Value.int s0, Value.int r0].toArray s 0 0 A) (F0 m 5 ls []) := by
    intro nhl167
    induction nhl167 with
    | zero =>
      intro x165 x166 hmhl167
      exact absurd hmhl167 (Nat.not_lt_zero _)
    | succ nhl167 ihhl167 =>
      intro x165 x166 hmhl167 hx165 hx166 H locs hP hD hS ls hl
      refine lv_iload hx hb dX1_fewestThatCut_5 (lv_at hl 0 rfl) ?_
      refine lv_aload_n hx hb dX1_fewestThatCut_7 rfl (lv_at hl 2 rfl) ?_
      have hPc := hP.sub (ws' := [(pl, .inr (2, [.ref pna, .ref pta, .int rails, .int limit, .int retry, .int behind]))]) [0] rfl
      have hDc := hD.sub (ws' := [(pl, .inr (2, [.ref pna, .ref pta, .int rails, .int limit, .int retry, .int behind]))]) [0] (by decide) rfl
      have hFc := va_free (wc := [(pl, .inr (2, [.ref pna, .ref pta, .int rails, .int limit, .int retry, .int behind]))]) hD hS hA [0] rfl
      refine va_calli (va_runV (As := []) (rest := [.int x165]) ⟨hx, hb, hml, hown, hts⟩ (c_allRails l D cI cJ cZ cG cH H.size pl pna pta rails limit retry behind (xrng rfl (by omega) (by omega))) (cwV 0 hts (xGV tbC wd1053 wd576 wd577 wd39 wd578) rfl rfl rfl (by decide +kernel) ⟨Nat.le_of_ble_eq_true rfl, Nat.le_of_ble_eq_true rfl⟩) ⟨xPc_blind, va_recv hK hPc (ci := 2) (q0 := 0) rfl rfl, xPc_pre hPc hK hDc⟩ rfl rfl hl.1 rfl (lv_room (Nat.le_of_ble_eq_true rfl)) dX1_fewestThatCut_8 ⟨Nat.le_of_ble_eq_true rfl, Nat.le_of_ble_eq_true rfl⟩) hS (fun q _ h => hFc q h) hFc (fun r168 u t H1 locs ht hvm hw168 hB hz1 hk1 hS => ?_)
      obtain ⟨hP1, hK1, hD1⟩ := hB
      rw [ht] at hP1
      obtain ⟨hP, hD⟩ := va_join (wr := [(pta, .inl (cJ, 64, .inr (.inl pt)))]) (w1 := [(pl, .inr (2, [.ref pna, .ref pta, .int rails, .int limit, .int retry, .int behind]))]) hP hD [0] [1] rfl rfl (by decide) (by decide) hk1 hFc hP1 hD1
      generalize H1 = H at hP hS ⊢
      have hP : va_P D vwCl [(pta, .inl (cJ, 64, .inr (.inl pt))), (pl, .inr (2, [.ref pna, .ref pta, .int rails, .int limit, .int retry, .int behind]))] H := hP
      have hD : va_D A [(pta, .inl (cJ, 64, .inr (.inl pt))), (pl, .inr (2, [.ref pna, .ref pta, .int rails, .int limit, .int retry, .int behind]))] := hD
      have hw168 : 0 ≤ r168.toInt ∧ r168.toInt ≤ 255 := hw168
      refine lv_icmp_gt (tgt := 86) hx hb dX1_fewestThatCut_11 (by decide) (fun c_169 => ?_) (fun c_169 => ?_)
      · skip
        have i_169 : r168.toInt < x165.toInt := (ilt rfl rfl).mp c_169
        refine lv_iload_n hx hb dX1_fewestThatCut_86 rfl (lv_at hl 1 rfl) ?_
        refine W.widen (k := 0) (n := 0) (by decide) (by decide) ?_
        have hP9 := hP.sub (ws' := [(pl, .inr (2, [.ref pna, .ref pta, .int rails, .int limit, .int retry, .int behind])), (pta, .inl (cJ, 64, .inr (.inl pt)))]) [1, 0] rfl
        have hD9 := hD.sub (ws' := [(pl, .inr (2, [.ref pna, .ref pta, .int rails, .int limit, .int retry, .int behind])), (pta, .inl (cJ, 64, .inr (.inl pt)))]) [1, 0] (by decide) rfl
        exact W.iret (v := x166) hx hb hr (fun t ht hW => ⟨⟨x166, (), rfl, (xrng rfl (by omega) (by omega)), xB_of ht hW hP9 hK hD9⟩, hS.F ht⟩) hS.2.2 dX1_fewestThatCut_87
      · skip
        have i_169 : ¬ (r168.toInt < x165.toInt) := fun h9 => c_169 ((ilt rfl rfl).mpr h9)
        refine lv_iload hx hb dX1_fewestThatCut_14 (lv_at hl 0 rfl) ?_
        refine lv_iload_n hx hb dX1_fewestThatCut_16 rfl (lv_at hl 4 rfl) ?_
        refine lv_ishr hx hb dX1_fewestThatCut_17 ?_
        refine lv_topi (fun v170 ev170 => ?_)
        refine lv_iconst (v := 1) hx hb dX1_fewestThatCut_18 (by decide) ?_
        refine lv_iand hx hb dX1_fewestThatCut_19 ?_
        refine lv_topi (fun v171 ev171 => ?_)
        have rv171 : 0 ≤ v171.toInt ∧ v171.toInt ≤ 1 := xandL ev171 (show (1 : Int32).toInt = 1 from (by decide)) (by omega)
        refine lv_if_ne (tgt := 27) hx hb dX1_fewestThatCut_20 (by decide) (fun c_172 => ?_) (fun c_172 => ?_)
        · skip
          have i_172 : ¬ (v171.toInt = 0) := fun h9 => c_172 ((ieq rfl (by decide)).mpr h9)
          refine lv_iconst (v := 0) hx hb dX1_fewestThatCut_27 (by decide) ?_
          refine lv_istore (lv' := [(5, .int 0), (4, .int x165), (3, .int x166), (0, .ref pl), (1, .int s0), (2, .int r0)]) hx hb dX1_fewestThatCut_28 hl (by decide) rfl (fun ls hl => ?_)
          refine lv_iload_n hx hb dX1_fewestThatCut_30 rfl (lv_at hl 2 rfl) ?_
          refine lv_if_eq (tgt := 46) hx hb dX1_fewestThatCut_31 (by decide) (fun c_173 => ?_) (fun c_173 => ?_)
          · skip
            have i_173 : x166.toInt = 0 := (ieq rfl (by decide)).mp c_173
            refine lv_iconst (v := 1) hx hb dX1_fewestThatCut_46 (by decide) ?_
            refine lv_goto (tgt := 51) hx hb dX1_fewestThatCut_47 (by decide) ?_
            refine lv_istore (lv' := [(6, .int 1), (5, .int 0), (4, .int x165), (3, .int x166), (0, .ref pl), (1, .int s0), (2, .int r0)]) hx hb dX1_fewestThatCut_51 hl (by decide) rfl (fun ls hl => ?_)
            refine lv_iload hx hb dX1_fewestThatCut_53 (lv_at hl 1 rfl) ?_
            refine lv_if_eq (tgt := 80) hx hb dX1_fewestThatCut_55 (by decide) (fun _ => ?_) (fun c9 => absurd c9 (by decide))
            obtain ⟨x174, ex174⟩ : ∃ y : Int32, y = x165 + 1 := ⟨_, rfl⟩
            have tx174 : x174.toInt = (x165.toInt + 1) := (congrArg Int32.toInt ex174).trans (xadd rfl (by decide) (by omega) (by omega))
            refine lv_iinc (v := x174) (lv' := [(4, .int x174), (6, .int 1), (5, .int 0), (3, .int x166), (0, .ref pl), (1, .int s0), (2, .int r0)]) hx hb dX1_fewestThatCut_80 hl (k := 2) rfl (by rw [ex174]; rfl) (by decide) rfl (fun ls hl => ?_)
            refine lv_goto (tgt := 5) hx hb dX1_fewestThatCut_83 (by decide) ?_
            have hP := hP.sub (ws' := [(pl, .inr (2, [.ref pna, .ref pta, .int rails, .int limit, .int retry, .int behind])), (pta, .inl (cJ, 64, .inr (.inl pt)))]) [1, 0] rfl
            have hD := hD.sub (ws' := [(pl, .inr (2, [.ref pna, .ref pta, .int rails, .int limit, .int retry, .int behind])), (pta, .inl (cJ, 64, .inr (.inl pt)))]) [1, 0] (by decide) rfl
            exact ihhl167 x174 x166 (by omega) (xrng tx174 (by omega) (by omega)) (xrng rfl (by omega) (by omega)) _ _ hP hD hS ls (lv_sub hl [0, 3, 4, 5, 6] rfl)
          · skip
            have i_173 : ¬ (x166.toInt = 0) := fun h9 => c_173 ((ieq rfl (by decide)).mpr h9)
            refine lv_iload hx hb dX1_fewestThatCut_34 (lv_at hl 1 rfl) ?_
            have hPc := hP.sub (ws' := []) [] rfl
            have hDc := hD.sub (ws' := []) [] (by decide) rfl
            have hFc := va_free (wc := []) hD hS hA [] rfl
            refine va_calli (va_runS (As := [.int x165]) (rest := []) ⟨hx, hb, hml, hown, hts⟩ (c_bitCount l D cI cJ cZ cG cH H.size x165) (va_cwS 1 hts (xGS tbC wd1054 wd1055 wd1056 wd1057) rfl rfl rfl (by decide +kernel) ⟨Nat.le_of_ble_eq_true rfl, Nat.le_of_ble_eq_true rfl⟩) ⟨xPc_blind, xPc_pre hPc hK hDc⟩ rfl rfl hl.1 rfl (lv_room (Nat.le_of_ble_eq_true rfl)) dX1_fewestThatCut_36 ⟨Nat.le_of_ble_eq_true rfl, Nat.le_of_ble_eq_true rfl⟩) hS (fun q _ h => hFc q h) hFc (fun r175 u t H1 locs ht hvm hw175 hB hz1 hk1 hS => ?_)
            obtain ⟨hP1, hK1, hD1⟩ := hB
            rw [ht] at hP1
            obtain ⟨hP, hD⟩ := va_join (wr := [(pta, .inl (cJ, 64, .inr (.inl pt))), (pl, .inr (2, [.ref pna, .ref pta, .int rails, .int limit, .int retry, .int behind]))]) (w1 := []) hP hD [] [0, 1] rfl rfl (by decide) (by decide) hk1 hFc hP1 hD1
            generalize H1 = H at hP hS ⊢
            have hP : va_P D vwCl [(pta, .inl (cJ, 64, .inr (.inl pt))), (pl, .inr (2, [.ref pna, .ref pta, .int rails, .int limit, .int retry, .int behind]))] H := hP
            have hD : va_D A [(pta, .inl (cJ, 64, .inr (.inl pt))), (pl, .inr (2, [.ref pna, .ref pta, .int rails, .int limit, .int retry, .int behind]))] := hD
            have hw175 : 0 ≤ r175.toInt ∧ r175.toInt ≤ 63 := hw175
            refine lv_iload_n hx hb dX1_fewestThatCut_39 rfl (lv_at hl 2 rfl) ?_
            have hPc := hP.sub (ws' := []) [] rfl
            have hDc := hD.sub (ws' := []) [] (by decide) rfl
            have hFc := va_free (wc := []) hD hS hA [] rfl
            refine va_calli (va_runS (As := [.int x166]) (rest := [.int r175]) ⟨hx, hb, hml, hown, hts⟩ (c_bitCount l D cI cJ cZ cG cH H.size x166) (va_cwS 1 hts (xGS tbC wd1054 wd1055 wd1056 wd1057) rfl rfl rfl (by decide +kernel) ⟨Nat.le_of_ble_eq_true rfl, Nat.le_of_ble_eq_true rfl⟩) ⟨xPc_blind, xPc_pre hPc hK hDc⟩ rfl rfl hl.1 rfl (lv_room (Nat.le_of_ble_eq_true rfl)) dX1_fewestThatCut_40 ⟨Nat.le_of_ble_eq_true rfl, Nat.le_of_ble_eq_true rfl⟩) hS (fun q _ h => hFc q h) hFc (fun r176 u t H1 locs ht hvm hw176 hB hz1 hk1 hS => ?_)
            obtain ⟨hP1, hK1, hD1⟩ := hB
            rw [ht] at hP1
            obtain ⟨hP, hD⟩ := va_join (wr := [(pta, .inl (cJ, 64, .inr (.inl pt))), (pl, .inr (2, [.ref pna, .ref pta, .int rails, .int limit, .int retry, .int behind]))]) (w1 := []) hP hD [] [0, 1] rfl rfl (by decide) (by decide) hk1 hFc hP1 hD1
            generalize H1 = H at hP hS ⊢
            have hP : va_P D vwCl [(pta, .inl (cJ, 64, .inr (.inl pt))), (pl, .inr (2, [.ref pna, .ref pta, .int rails, .int limit, .int retry, .int behind]))] H := hP
            have hD : va_D A [(pta, .inl (cJ, 64, .inr (.inl pt))), (pl, .inr (2, [.ref pna, .ref pta, .int rails, .int limit, .int retry, .int behind]))] := hD
            have hw176 : 0 ≤ r176.toInt ∧ r176.toInt ≤ 63 := hw176
            refine lv_icmp_ge (tgt := 50) hx hb dX1_fewestThatCut_43 (by decide) (fun c_177 => ?_) (fun c_177 => ?_)
            · skip
              have i_177 : r176.toInt ≤ r175.toInt := (ile rfl rfl).mp c_177
              refine lv_iconst (v := 0) hx hb dX1_fewestThatCut_50 (by decide) ?_
              refine lv_istore (lv' := [(6, .int 0), (5, .int 0), (4, .int x165), (3, .int x166), (0, .ref pl), (1, .int s0), (2, .int r0)]) hx hb dX1_fewestThatCut_51 hl (by decide) rfl (fun ls hl => ?_)
              refine lv_iload hx hb dX1_fewestThatCut_53 (lv_at hl 1 rfl) ?_
              refine lv_if_eq (tgt := 80) hx hb dX1_fewestThatCut_55 (by decide) (fun _ => ?_) (fun c9 => absurd c9 (by decide))
              obtain ⟨x178, ex178⟩ : ∃ y : Int32, y = x165 + 1 := ⟨_, rfl⟩
              have tx178 : x178.toInt = (x165.toInt + 1) := (congrArg Int32.toInt ex178).trans (xadd rfl (by decide) (by omega) (by omega))
              refine lv_iinc (v := x178) (lv' := [(4, .int x178), (6, .int 0), (5, .int 0), (3, .int x166), (0, .ref pl), (1, .int s0), (2, .int r0)]) hx hb dX1_fewestThatCut_80 hl (k := 2) rfl (by rw [ex178]; rfl) (by decide) rfl (fun ls hl => ?_)
              refine lv_goto (tgt := 5) hx hb dX1_fewestThatCut_83 (by decide) ?_
              have hP := hP.sub (ws' := [(pl, .inr (2, [.ref pna, .ref pta, .int rails, .int limit, .int retry, .int behind])), (pta, .inl (cJ, 64, .inr (.inl pt)))]) [1, 0] rfl
              have hD := hD.sub (ws' := [(pl, .inr (2, [.ref pna, .ref pta, .int rails, .int limit, .int retry, .int behind])), (pta, .inl (cJ, 64, .inr (.inl pt)))]) [1, 0] (by decide) rfl
              exact ihhl167 x178 x166 (by omega) (xrng tx178 (by omega) (by omega)) (xrng rfl (by omega) (by omega)) _ _ hP hD hS ls (lv_sub hl [0, 3, 4, 5, 6] rfl)
            · skip
              have i_177 : ¬ (r176.toInt ≤ r175.toInt) := fun h9 => c_177 ((ile rfl rfl).mpr h9)
              refine lv_iconst (v := 1) hx hb dX1_fewestThatCut_46 (by decide) ?_
              refine lv_goto (tgt := 51) hx hb dX1_fewestThatCut_47 (by decide) ?_
              refine lv_istore (lv' := [(6, .int 1), (5, .int 0), (4, .int x165), (3, .int x166), (0, .ref pl), (1, .int s0), (2, .int r0)]) hx hb dX1_fewestThatCut_51 hl (by decide) rfl (fun ls hl => ?_)
              refine lv_iload hx hb dX1_fewestThatCut_53 (lv_at hl 1 rfl) ?_
              refine lv_if_eq (tgt := 80) hx hb dX1_fewestThatCut_55 (by decide) (fun _ => ?_) (fun c9 => absurd c9 (by decide))
              obtain ⟨x179, ex179⟩ : ∃ y : Int32, y = x165 + 1 := ⟨_, rfl⟩
              have tx179 : x179.toInt = (x165.toInt + 1) := (congrArg Int32.toInt ex179).trans (xadd rfl (by decide) (by omega) (by omega))
              refine lv_iinc (v := x179) (lv' := [(4, .int x179), (6, .int 1), (5, .int 0), (3, .int x166), (0, .ref pl), (1, .int s0), (2, .int r0)]) hx hb dX1_fewestThatCut_80 hl (k := 2) rfl (by rw [ex179]; rfl) (by decide) rfl (fun ls hl => ?_)
              refine lv_goto (tgt := 5) hx hb dX1_fewestThatCut_83 (by decide) ?_
              have hP := hP.sub (ws' := [(pl, .inr (2, [.ref pna, .ref pta, .int rails, .int limit, .int retry, .int behind])), (pta, .inl (cJ, 64, .inr (.inl pt)))]) [1, 0] rfl
              have hD := hD.sub (ws' := [(pl, .inr (2, [.ref pna, .ref pta, .int rails, .int limit, .int retry, .int behind])), (pta, .inl (cJ, 64, .inr (.inl pt)))]) [1, 0] (by decide) rfl
              exact ihhl167 x179 x166 (by omega) (xrng tx179 (by omega) (by omega)) (xrng rfl (by omega) (by omega)) _ _ hP hD hS ls (lv_sub hl [0, 3, 4, 5, 6] rfl)
        · skip
          have i_172 : v171.toInt = 0 := (ieq rfl (by decide)).mp c_172
          refine lv_iconst (v := 1) hx hb dX1_fewestThatCut_23 (by decide) ?_
          refine lv_goto (tgt := 28) hx hb dX1_fewestThatCut_24 (by decide) ?_
          refine lv_istore (lv' := [(5, .int 1), (4, .int x165), (3, .int x166), (0, .ref pl), (1, .int s0), (2, .int r0)]) hx hb dX1_fewestThatCut_28 hl (by decide) rfl (fun ls hl => ?_)
          refine lv_iload_n hx hb dX1_fewestThatCut_30 rfl (lv_at hl 2 rfl) ?_
          refine lv_if_eq (tgt := 46) hx hb dX1_fewestThatCut_31 (by decide) (fun c_180 => ?_) (fun c_180 => ?_)
          · skip
            have i_180 : x166.toInt = 0 := (ieq rfl (by decide)).mp c_180
            refine lv_iconst (v := 1) hx hb dX1_fewestThatCut_46 (by decide) ?_
            refine lv_goto (tgt := 51) hx hb dX1_fewestThatCut_47 (by decide) ?_
            refine lv_istore (lv' := [(6, .int 1), (5, .int 1), (4, .int x165), (3, .int x166), (0, .ref pl), (1, .int s0), (2, .int r0)]) hx hb dX1_fewestThatCut_51 hl (by decide) rfl (fun ls hl => ?_)
            refine lv_iload hx hb dX1_fewestThatCut_53 (lv_at hl 1 rfl) ?_
            refine lv_if_eq (tgt := 80) hx hb dX1_fewestThatCut_55 (by decide) (fun c9 => absurd c9 (by decide)) (fun _ => ?_)
            refine lv_iload hx hb dX1_fewestThatCut_58 (lv_at hl 0 rfl) ?_
            refine lv_if_eq (tgt := 80) hx hb dX1_fewestThatCut_60 (by decide) (fun c9 => absurd c9 (by decide)) (fun _ => ?_)
            refine lv_aload_n hx hb dX1_fewestThatCut_63 rfl (lv_at hl 4 rfl) ?_
            refine lv_iload_n hx hb dX1_fewestThatCut_64 rfl (lv_at hl 5 rfl) ?_
            refine lv_iload hx hb dX1_fewestThatCut_65 (lv_at hl 2 rfl) ?_
            refine lv_iconst (v := (-1)) hx hb dX1_fewestThatCut_67 (by decide) ?_
            refine lv_ixor hx hb dX1_fewestThatCut_68 ?_
            refine lv_topi (fun v181 ev181 => ?_)
            refine lv_iand hx hb dX1_fewestThatCut_69 ?_
            refine lv_topi (fun v182 ev182 => ?_)
            refine lv_iload_n hx hb dX1_fewestThatCut_70 rfl (lv_at hl 6 rfl) ?_
            have hPc := hP.sub (ws' := [(pl, .inr (2, [.ref pna, .ref pta, .int rails, .int limit, .int retry, .int behind])), (pta, .inl (cJ, 64, .inr (.inl pt)))]) [1, 0] rfl
            have hDc := hD.sub (ws' := [(pl, .inr (2, [.ref pna, .ref pta, .int rails, .int limit, .int retry, .int behind])), (pta, .inl (cJ, 64, .inr (.inl pt)))]) [1, 0] (by decide) rfl
            have hFc := va_free (wc := [(pl, .inr (2, [.ref pna, .ref pta, .int rails, .int limit, .int retry, .int behind])), (pta, .inl (cJ, 64, .inr (.inl pt)))]) hD hS hA [1, 0] rfl
            refine va_calli (va_runS (As := [.ref pl, .int v182, .int r0]) (rest := []) ⟨hx, hb, hml, hown, hts⟩ (c_dIsUp l D cI cJ cZ cG cH H.size pl v182 r0 pna pta rails limit retry behind pt (xrng rfl (by omega) (by omega))) (va_cwS 3 hts (xGS tbC wd1061 wd1062 wd1051 wd1063) rfl rfl rfl (by decide +kernel) ⟨Nat.le_of_ble_eq_true rfl, Nat.le_of_ble_eq_true rfl⟩) ⟨xPc_blind, xPc_pre hPc hK hDc⟩ rfl rfl hl.1 rfl (lv_room (Nat.le_of_ble_eq_true rfl)) dX1_fewestThatCut_71 ⟨Nat.le_of_ble_eq_true rfl, Nat.le_of_ble_eq_true rfl⟩) hS (fun q _ h => hFc q h) hFc (fun r183 u t H1 locs ht hvm hw183 hB hz1 hk1 hS => ?_)
            obtain ⟨hP1, hK1, hD1⟩ := hB
            rw [ht] at hP1
            obtain ⟨hP, hD⟩ := va_join (wr := []) (w1 := [(pl, .inr (2, [.ref pna, .ref pta, .int rails, .int limit, .int retry, .int behind])), (pta, .inl (cJ, 64, .inr (.inl pt)))]) hP hD [1, 0] [] rfl rfl (by decide) (by decide) hk1 hFc hP1 hD1
            generalize H1 = H at hP hS ⊢
            have hP : va_P D vwCl [(pl, .inr (2, [.ref pna, .ref pta, .int rails, .int limit, .int retry, .int behind])), (pta, .inl (cJ, 64, .inr (.inl pt)))] H := hP
            have hD : va_D A [(pl, .inr (2, [.ref pna, .ref pta, .int rails, .int limit, .int retry, .int behind])), (pta, .inl (cJ, 64, .inr (.inl pt)))] := hD
            have hw183 : 0 ≤ r183.toInt ∧ r183.toInt ≤ 1 := hw183
            refine lv_if_ne (tgt := 80) hx hb dX1_fewestThatCut_74 (by decide) (fun c_184 => ?_) (fun c_184 => ?_)
            · skip
              have i_184 : ¬ (r183.toInt = 0) := fun h9 => c_184 ((ieq rfl (by decide)).mpr h9)
              obtain ⟨x185, ex185⟩ : ∃ y : Int32, y = x165 + 1 := ⟨_, rfl⟩
              have tx185 : x185.toInt = (x165.toInt + 1) := (congrArg Int32.toInt ex185).trans (xadd rfl (by decide) (by omega) (by omega))
              refine lv_iinc (v := x185) (lv' := [(4, .int x185), (6, .int 1), (5, .int 1), (3, .int x166), (0, .ref pl), (1, .int s0), (2, .int r0)]) hx hb dX1_fewestThatCut_80 hl (k := 2) rfl (by rw [ex185]; rfl) (by decide) rfl (fun ls hl => ?_)
              refine lv_goto (tgt := 5) hx hb dX1_fewestThatCut_83 (by decide) ?_
              exact ihhl167 x185 x166 (by omega) (xrng tx185 (by omega) (by omega)) (xrng rfl (by omega) (by omega)) _ _ hP hD hS ls (lv_sub hl [0, 3, 4, 5, 6] rfl)
            · skip
              have i_184 : r183.toInt = 0 := (ieq rfl (by decide)).mp c_184
              refine lv_iload hx hb dX1_fewestThatCut_77 (lv_at hl 2 rfl) ?_
              refine lv_istore_n (lv' := [(3, .int x165), (6, .int 1), (5, .int 1), (4, .int x165), (0, .ref pl), (1, .int s0), (2, .int r0)]) hx hb dX1_fewestThatCut_79 rfl hl (by decide) rfl (fun ls hl => ?_)
              obtain ⟨x186, ex186⟩ : ∃ y : Int32, y = x165 + 1 := ⟨_, rfl⟩
              have tx186 : x186.toInt = (x165.toInt + 1) := (congrArg Int32.toInt ex186).trans (xadd rfl (by decide) (by omega) (by omega))
              refine lv_iinc (v := x186) (lv' := [(4, .int x186), (3, .int x165), (6, .int 1), (5, .int 1), (0, .ref pl), (1, .int s0), (2, .int r0)]) hx hb dX1_fewestThatCut_80 hl (k := 3) rfl (by rw [ex186]; rfl) (by decide) rfl (fun ls hl => ?_)
              refine lv_goto (tgt := 5) hx hb dX1_fewestThatCut_83 (by decide) ?_
              exact ihhl167 x186 x165 (by omega) (xrng tx186 (by omega) (by omega)) (xrng rfl (by omega) (by omega)) _ _ hP hD hS ls (lv_sub hl [0, 1, 4, 5, 6] rfl)
          · skip
            have i_180 : ¬ (x166.toInt = 0) := fun h9 => c_180 ((ieq rfl (by decide)).mpr h9)
            refine lv_iload hx hb dX1_fewestThatCut_34 (lv_at hl 1 rfl) ?_
            have hPc := hP.sub (ws' := []) [] rfl
            have hDc := hD.sub (ws' := []) [] (by decide) rfl
            have hFc := va_free (wc := []) hD hS hA [] rfl
            refine va_calli (va_runS (As := [.int x165]) (rest := []) ⟨hx, hb, hml, hown, hts⟩ (c_bitCount l D cI cJ cZ cG cH H.size x165) (va_cwS 1 hts (xGS tbC wd1054 wd1055 wd1056 wd1057) rfl rfl rfl (by decide +kernel) ⟨Nat.le_of_ble_eq_true rfl, Nat.le_of_ble_eq_true rfl⟩) ⟨xPc_blind, xPc_pre hPc hK hDc⟩ rfl rfl hl.1 rfl (lv_room (Nat.le_of_ble_eq_true rfl)) dX1_fewestThatCut_36 ⟨Nat.le_of_ble_eq_true rfl, Nat.le_of_ble_eq_true rfl⟩) hS (fun q _ h => hFc q h) hFc (fun r187 u t H1 locs ht hvm hw187 hB hz1 hk1 hS => ?_)
            obtain ⟨hP1, hK1, hD1⟩ := hB
            rw [ht] at hP1
            obtain ⟨hP, hD⟩ := va_join (wr := [(pta, .inl (cJ, 64, .inr (.inl pt))), (pl, .inr (2, [.ref pna, .ref pta, .int rails, .int limit, .int retry, .int behind]))]) (w1 := []) hP hD [] [0, 1] rfl rfl (by decide) (by decide) hk1 hFc hP1 hD1
            generalize H1 = H at hP hS ⊢
            have hP : va_P D vwCl [(pta, .inl (cJ, 64, .inr (.inl pt))), (pl, .inr (2, [.ref pna, .ref pta, .int rails, .int limit, .int retry, .int behind]))] H := hP
            have hD : va_D A [(pta, .inl (cJ, 64, .inr (.inl pt))), (pl, .inr (2, [.ref pna, .ref pta, .int rails, .int limit, .int retry, .int behind]))] := hD
            have hw187 : 0 ≤ r187.toInt ∧ r187.toInt ≤ 63 := hw187
            refine lv_iload_n hx hb dX1_fewestThatCut_39 rfl (lv_at hl 2 rfl) ?_
            have hPc := hP.sub (ws' := []) [] rfl
            have hDc := hD.sub (ws' := []) [] (by decide) rfl
            have hFc := va_free (wc := []) hD hS hA [] rfl
            refine va_calli (va_runS (As := [.int x166]) (rest := [.int r187]) ⟨hx, hb, hml, hown, hts⟩ (c_bitCount l D cI cJ cZ cG cH H.size x166) (va_cwS 1 hts (xGS tbC wd1054 wd1055 wd1056 wd1057) rfl rfl rfl (by decide +kernel) ⟨Nat.le_of_ble_eq_true rfl, Nat.le_of_ble_eq_true rfl⟩) ⟨xPc_blind, xPc_pre hPc hK hDc⟩ rfl rfl hl.1 rfl (lv_room (Nat.le_of_ble_eq_true rfl)) dX1_fewestThatCut_40 ⟨Nat.le_of_ble_eq_true rfl, Nat.le_of_ble_eq_true rfl⟩) hS (fun q _ h => hFc q h) hFc (fun r188 u t H1 locs ht hvm hw188 hB hz1 hk1 hS => ?_)
            obtain ⟨hP1, hK1, hD1⟩ := hB
            rw [ht] at hP1
            obtain ⟨hP, hD⟩ := va_join (wr := [(pta, .inl (cJ, 64, .inr (.inl pt))), (pl, .inr (2, [.ref pna, .ref pta, .int rails, .int limit, .int retry, .int behind]))]) (w1 := []) hP hD [] [0, 1] rfl rfl (by decide) (by decide) hk1 hFc hP1 hD1
            generalize H1 = H at hP hS ⊢
            have hP : va_P D vwCl [(pta, .inl (cJ, 64, .inr (.inl pt))), (pl, .inr (2, [.ref pna, .ref pta, .int rails, .int limit, .int retry, .int behind]))] H := hP
            have hD : va_D A [(pta, .inl (cJ, 64, .inr (.inl pt))), (pl, .inr (2, [.ref pna, .ref pta, .int rails, .int limit, .int retry, .int behind]))] := hD
            have hw188 : 0 ≤ r188.toInt ∧ r188.toInt ≤ 63 := hw188
            refine lv_icmp_ge (tgt := 50) hx hb dX1_fewestThatCut_43 (by decide) (fun c_189 => ?_) (fun c_189 => ?_)
            · skip
              have i_189 : r188.toInt ≤ r187.toInt := (ile rfl rfl).mp c_189
              refine lv_iconst (v := 0) hx hb dX1_fewestThatCut_50 (by decide) ?_
              refine lv_istore (lv' := [(6, .int 0), (5, .int 1), (4, .int x165), (3, .int x166), (0, .ref pl), (1, .int s0), (2, .int r0)]) hx hb dX1_fewestThatCut_51 hl (by decide) rfl (fun ls hl => ?_)
              refine lv_iload hx hb dX1_fewestThatCut_53 (lv_at hl 1 rfl) ?_
              refine lv_if_eq (tgt := 80) hx hb dX1_fewestThatCut_55 (by decide) (fun c9 => absurd c9 (by decide)) (fun _ => ?_)
              refine lv_iload hx hb dX1_fewestThatCut_58 (lv_at hl 0 rfl) ?_
              refine lv_if_eq (tgt := 80) hx hb dX1_fewestThatCut_60 (by decide) (fun _ => ?_) (fun c9 => absurd c9 (by decide))
              obtain ⟨x190, ex190⟩ : ∃ y : Int32, y = x165 + 1 := ⟨_, rfl⟩
              have tx190 : x190.toInt = (x165.toInt + 1) := (congrArg Int32.toInt ex190).trans (xadd rfl (by decide) (by omega) (by omega))
              refine lv_iinc (v := x190) (lv' := [(4, .int x190), (6, .int 0), (5, .int 1), (3, .int x166), (0, .ref pl), (1, .int s0), (2, .int r0)]) hx hb dX1_fewestThatCut_80 hl (k := 2) rfl (by rw [ex190]; rfl) (by decide) rfl (fun ls hl => ?_)
              refine lv_goto (tgt := 5) hx hb dX1_fewestThatCut_83 (by decide) ?_
              have hP := hP.sub (ws' := [(pl, .inr (2, [.ref pna, .ref pta, .int rails, .int limit, .int retry, .int behind])), (pta, .inl (cJ, 64, .inr (.inl pt)))]) [1, 0] rfl
              have hD := hD.sub (ws' := [(pl, .inr (2, [.ref pna, .ref pta, .int rails, .int limit, .int retry, .int behind])), (pta, .inl (cJ, 64, .inr (.inl pt)))]) [1, 0] (by decide) rfl
              exact ihhl167 x190 x166 (by omega) (xrng tx190 (by omega) (by omega)) (xrng rfl (by omega) (by omega)) _ _ hP hD hS ls (lv_sub hl [0, 3, 4, 5, 6] rfl)
            · skip
              have i_189 : ¬ (r188.toInt ≤ r187.toInt) := fun h9 => c_189 ((ile rfl rfl).mpr h9)
              refine lv_iconst (v := 1) hx hb dX1_fewestThatCut_46 (by decide) ?_
              refine lv_goto (tgt := 51) hx hb dX1_fewestThatCut_47 (by decide) ?_
              refine lv_istore (lv' := [(6, .int 1), (5, .int 1), (4, .int x165), (3, .int x166), (0, .ref pl), (1, .int s0), (2, .int r0)]) hx hb dX1_fewestThatCut_51 hl (by decide) rfl (fun ls hl => ?_)
              refine lv_iload hx hb dX1_fewestThatCut_53 (lv_at hl 1 rfl) ?_
              refine lv_if_eq (tgt := 80) hx hb dX1_fewestThatCut_55 (by decide) (fun c9 => absurd c9 (by decide)) (fun _ => ?_)
              refine lv_iload hx hb dX1_fewestThatCut_58 (lv_at hl 0 rfl) ?_
              refine lv_if_eq (tgt := 80) hx hb dX1_fewestThatCut_60 (by decide) (fun c9 => absurd c9 (by decide)) (fun _ => ?_)
              refine lv_aload_n hx hb dX1_fewestThatCut_63 rfl (lv_at hl 4 rfl) ?_
              refine lv_iload_n hx hb dX1_fewestThatCut_64 rfl (lv_at hl 5 rfl) ?_
              refine lv_iload hx hb dX1_fewestThatCut_65 (lv_at hl 2 rfl) ?_
              refine lv_iconst (v := (-1)) hx hb dX1_fewestThatCut_67 (by decide) ?_
              refine lv_ixor hx hb dX1_fewestThatCut_68 ?_
              refine lv_topi (fun v191 ev191 => ?_)
              refine lv_iand hx hb dX1_fewestThatCut_69 ?_
              refine lv_topi (fun v192 ev192 => ?_)
              refine lv_iload_n hx hb dX1_fewestThatCut_70 rfl (lv_at hl 6 rfl) ?_
              have hPc := hP.sub (ws' := [(pl, .inr (2, [.ref pna, .ref pta, .int rails, .int limit, .int retry, .int behind])), (pta, .inl (cJ, 64, .inr (.inl pt)))]) [1, 0] rfl
              have hDc := hD.sub (ws' := [(pl, .inr (2, [.ref pna, .ref pta, .int rails, .int limit, .int retry, .int behind])), (pta, .inl (cJ, 64, .inr (.inl pt)))]) [1, 0] (by decide) rfl
              have hFc := va_free (wc := [(pl, .inr (2, [.ref pna, .ref pta, .int rails, .int limit, .int retry, .int behind])), (pta, .inl (cJ, 64, .inr (.inl pt)))]) hD hS hA [1, 0] rfl
              refine va_calli (va_runS (As := [.ref pl, .int v192, .int r0]) (rest := []) ⟨hx, hb, hml, hown, hts⟩ (c_dIsUp l D cI cJ cZ cG cH H.size pl v192 r0 pna pta rails limit retry behind pt (xrng rfl (by omega) (by omega))) (va_cwS 3 hts (xGS tbC wd1061 wd1062 wd1051 wd1063) rfl rfl rfl (by decide +kernel) ⟨Nat.le_of_ble_eq_true rfl, Nat.le_of_ble_eq_true rfl⟩) ⟨xPc_blind, xPc_pre hPc hK hDc⟩ rfl rfl hl.1 rfl (lv_room (Nat.le_of_ble_eq_true rfl)) dX1_fewestThatCut_71 ⟨Nat.le_of_ble_eq_true rfl, Nat.le_of_ble_eq_true rfl⟩) hS (fun q _ h => hFc q h) hFc (fun r193 u t H1 locs ht hvm hw193 hB hz1 hk1 hS => ?_)
              obtain ⟨hP1, hK1, hD1⟩ := hB
              rw [ht] at hP1
              obtain ⟨hP, hD⟩ := va_join (wr := []) (w1 := [(pl, .inr (2, [.ref pna, .ref pta, .int rails, .int limit, .int retry, .int behind])), (pta, .inl (cJ, 64, .inr (.inl pt)))]) hP hD [1, 0] [] rfl rfl (by decide) (by decide) hk1 hFc hP1 hD1
              generalize H1 = H at hP hS ⊢
              have hP : va_P D vwCl [(pl, .inr (2, [.ref pna, .ref pta, .int rails, .int limit, .int retry, .int behind])), (pta, .inl (cJ, 64, .inr (.inl pt)))] H := hP
              have hD : va_D A [(pl, .inr (2, [.ref pna, .ref pta, .int rails, .int limit, .int retry, .int behind])), (pta, .inl (cJ, 64, .inr (.inl pt)))] := hD
              have hw193 : 0 ≤ r193.toInt ∧ r193.toInt ≤ 1 := hw193
              refine lv_if_ne (tgt := 80) hx hb dX1_fewestThatCut_74 (by decide) (fun c_194 => ?_) (fun c_194 => ?_)
              · skip
                have i_194 : ¬ (r193.toInt = 0) := fun h9 => c_194 ((ieq rfl (by decide)).mpr h9)
                obtain ⟨x195, ex195⟩ : ∃ y : Int32, y = x165 + 1 := ⟨_, rfl⟩
                have tx195 : x195.toInt = (x165.toInt + 1) := (congrArg Int32.toInt ex195).trans (xadd rfl (by decide) (by omega) (by omega))
                refine lv_iinc (v := x195) (lv' := [(4, .int x195), (6, .int 1), (5, .int 1), (3, .int x166), (0, .ref pl), (1, .int s0), (2, .int r0)]) hx hb dX1_fewestThatCut_80 hl (k := 2) rfl (by rw [ex195]; rfl) (by decide) rfl (fun ls hl => ?_)
                refine lv_goto (tgt := 5) hx hb dX1_fewestThatCut_83 (by decide) ?_
                exact ihhl167 x195 x166 (by omega) (xrng tx195 (by omega) (by omega)) (xrng rfl (by omega) (by omega)) _ _ hP hD hS ls (lv_sub hl [0, 3, 4, 5, 6] rfl)
              · skip
                have i_194 : r193.toInt = 0 := (ieq rfl (by decide)).mp c_194
                refine lv_iload hx hb dX1_fewestThatCut_77 (lv_at hl 2 rfl) ?_
                refine lv_istore_n (lv' := [(3, .int x165), (6, .int 1), (5, .int 1), (4, .int x165), (0, .ref pl), (1, .int s0), (2, .int r0)]) hx hb dX1_fewestThatCut_79 rfl hl (by decide) rfl (fun ls hl => ?_)
                obtain ⟨x196, ex196⟩ : ∃ y : Int32, y = x165 + 1 := ⟨_, rfl⟩
                have tx196 : x196.toInt = (x165.toInt + 1) := (congrArg Int32.toInt ex196).trans (xadd rfl (by decide) (by omega) (by omega))
                refine lv_iinc (v := x196) (lv' := [(4, .int x196), (3, .int x165), (6, .int 1), (5, .int 1), (0, .ref pl), (1, .int s0), (2, .int r0)]) hx hb dX1_fewestThatCut_80 hl (k := 3) rfl (by rw [ex196]; rfl) (by decide) rfl (fun ls hl => ?_)
                refine lv_goto (tgt := 5) hx hb dX1_fewestThatCut_83 (by decide) ?_
                exact ihhl167 x196 x165 (by omega) (xrng tx196 (by omega) (by omega)) (xrng rfl (by omega) (by omega)) _ _ hP hD hS ls (lv_sub hl [0, 1, 4, 5, 6] rfl)
  exact hl167 _ 1 0 (Nat.lt_succ_self _) ⟨by decide, by decide⟩ ⟨by decide, by decide⟩ _ _ hP hD hS ls (lv_sub hl [0, 1, 2, 3, 4] rfl)
abbrev W_fewestDo (cI cJ cZ cG cH : ClassId) (pl : Nat) (s0 : Int32) (r0 : Int32) (pna : Nat) (pta : Nat) (rails : Int32) (limit : Int32) (retry : Int32) (behind : Int32) (pt : Nat → Int64) : va_W := [(pl, .inr (2, [.ref pna, .ref pta, .int rails, .int limit, .int retry, .int behind])), (pta, .inl (cJ, 64, .inr (.inl pt)))]
abbrev Q_fewestDo (D : va_G) (cI cJ cZ cG cH : ClassId) (pl : Nat) (s0 : Int32) (r0 : Int32) (pna : Nat) (pta : Nat) (rails : Int32) (limit : Int32) (retry : Int32) (behind : Int32) (pt : Nat → Int64) (A : Nat → Prop) : Array Value → State → Outcome → State → Prop := va_Qi (fun (r : Int32) (_ : Unit) => 0 ≤ r.toInt ∧ r.toInt ≤ 255) (fun _ t => xB D (tyL cI cJ cZ cG cH) [(pl, .inr (2, [.ref pna, .ref pta, .int rails, .int limit, .int retry, .int behind])), (pta, .inl (cJ, 64, .inr (.inl pt)))] A t) A
abbrev rm_fewestDo : Room := { frames := 3, cells := 0, slots := 0, locals := 69 }
set_option maxRecDepth 100000 in
set_option maxHeartbeats 4000000 in
theorem c_fewestDo (l : Launch) (D : va_G) (cI cJ cZ cG cH : ClassId) (sz : Nat) (pl : Nat) (s0 : Int32) (r0 : Int32) (pna : Nat) (pta : Nat) (rails : Int32) (limit : Int32) (retry : Int32) (behind : Int32) (pt : Nat → Int64) (h_rails : 0 ≤ rails.toInt ∧ rails.toInt ≤ 8) : Met l yX1_fewestThatDo (wt yX1_fewestThatDo cX1_fewestThatDo 6 (some .int)) rm_fewestDo (xPc [.ref pl, .int s0, .int r0] D (tyL cI cJ cZ cG cH) (W_fewestDo cI cJ cZ cG cH pl s0 r0 pna pta rails limit retry behind pt) sz) (Q_fewestDo D cI cJ cZ cG cH pl s0 r0 pna pta rails limit retry behind pt (va_A (W_fewestDo cI cJ cZ cG cH pl s0 r0 pna pta rails limit retry behind pt) sz)) 0 0 (va_A (W_fewestDo cI cJ cZ cG cH pl s0 r0 pna pta rails limit retry behind pt) sz) := by
  refine xMet (cc := cX1_fewestThatDo) (maxL := 6) (ret := (some .int)) (Qf := Q_fewestDo D cI cJ cZ cG cH pl s0 r0 pna pta rails limit retry behind pt) (by decide) rfl (Nat.le_of_ble_eq_true rfl) ?_
  intro p e s m below meth c ls A hx hb hr hml hts hown hlocks hnm hsz hP hK hD hA hS hl
  have hown : s.vm.findClass RX1 = some m.cls := hown
  have hP : va_P D vwCl [(pl, .inr (2, [.ref pna, .ref pta, .int rails, .int limit, .int retry, .int behind])), (pta, .inl (cJ, 64, .inr (.inl pt)))] s.heap := hP
  have hD : va_D A [(pl, .inr (2, [.ref pna, .ref pta, .int rails, .int limit, .int retry, .int behind])), (pta, .inl (cJ, 64, .inr (.inl pt)))] := hD
  have hl : lv_has ls 6 [(0, .ref pl), (1, .int s0), (2, .int r0)] := hl
  refine lv_aload_n hx hb dX1_fewestThatDo_0 rfl (lv_at hl 0 rfl) ?_
  have hPc := hP.sub (ws' := [(pl, .inr (2, [.ref pna, .ref pta, .int rails, .int limit, .int retry, .int behind]))]) [0] rfl
  have hDc := hD.sub (ws' := [(pl, .inr (2, [.ref pna, .ref pta, .int rails, .int limit, .int retry, .int behind]))]) [0] (by decide) rfl
  have hFc := va_free (wc := [(pl, .inr (2, [.ref pna, .ref pta, .int rails, .int limit, .int retry, .int behind]))]) hD hS hA [0] rfl
  refine va_calli (va_runV (As := []) (rest := []) ⟨hx, hb, hml, hown, hts⟩ (c_allRails l D cI cJ cZ cG cH s.heap.size pl pna pta rails limit retry behind (xrng rfl (by omega) (by omega))) (cwV 0 hts (xGV tbC wd1053 wd576 wd577 wd39 wd578) rfl rfl rfl (by decide +kernel) ⟨Nat.le_of_ble_eq_true rfl, Nat.le_of_ble_eq_true rfl⟩) ⟨xPc_blind, va_recv hK hPc (ci := 2) (q0 := 0) rfl rfl, xPc_pre hPc hK hDc⟩ rfl rfl hl.1 rfl (lv_room (Nat.le_of_ble_eq_true rfl)) dX1_fewestThatDo_1 ⟨Nat.le_of_ble_eq_true rfl, Nat.le_of_ble_eq_true rfl⟩) hS (fun q _ h => hFc q h) hFc (fun r1 u t H1 locs ht hvm hw1 hB hz1 hk1 hS => ?_)
  obtain ⟨hP1, hK1, hD1⟩ := hB
  rw [ht] at hP1
  obtain ⟨hP, hD⟩ := va_join (wr := [(pta, .inl (cJ, 64, .inr (.inl pt)))]) (w1 := [(pl, .inr (2, [.ref pna, .ref pta, .int rails, .int limit, .int retry, .int behind]))]) hP hD [0] [1] rfl rfl (by decide) (by decide) hk1 hFc hP1 hD1
  generalize H1 = H at hP hS ⊢
  have hP : va_P D vwCl [(pta, .inl (cJ, 64, .inr (.inl pt))), (pl, .inr (2, [.ref pna, .ref pta, .int rails, .int limit, .int retry, .int behind]))] H := hP
  have hD : va_D A [(pta, .inl (cJ, 64, .inr (.inl pt))), (pl, .inr (2, [.ref pna, .ref pta, .int rails, .int limit, .int retry, .int behind]))] := hD
  have hw1 : 0 ≤ r1.toInt ∧ r1.toInt ≤ 255 := hw1
  refine lv_istore_n (lv' := [(3, .int r1), (0, .ref pl), (1, .int s0), (2, .int r0)]) hx hb dX1_fewestThatDo_4 rfl hl (by decide) rfl (fun ls hl => ?_)
  refine lv_iconst (v := 1) hx hb dX1_fewestThatDo_5 (by decide) ?_
  refine lv_istore (lv' := [(4, .int 1), (3, .int r1), (0, .ref pl), (1, .int s0), (2, .int r0)]) hx hb dX1_fewestThatDo_6 hl (by decide) rfl (fun ls hl => ?_)
  have hl77 : ∀ (nhl77 : Nat) (x75 : Int32) (x76 : Int32), ((256 - x75.toInt).toNat < nhl77) → (hx75 : 1 ≤ x75.toInt ∧ x75.toInt ≤ 256) → (hx76 : 0 ≤ x76.toInt ∧ x76.toInt ≤ 255) → ∀ (H : Heap) (locs : List Loc), va_P D vwCl [(pta, .inl (cJ, 64, .inr (.inl pt))), (pl, .inr (2, [.ref pna, .ref pta, .int rails, .int limit, .int retry, .int behind]))] H → va_D A [(pta, .inl (cJ, 64, .inr (.inl pt))), (pl, .inr (2, [.ref pna, .ref pta, .int rails, .int limit, .int retry, .int behind]))] → va_S A s.heap H locs → ∀ (ls : Array Slot), lv_has ls 6 [(4, .int x75), (3, .int x76), (0, .ref pl), (1, .int s0), (2, .int r0)] → W p l e rm_fewestDo s m [Value.ref pl, Value.int s0, Value.int r0].toArray below meth c H locs 0 0 (MQ below ((Q_fewestDo D cI cJ cZ cG cH pl s0 r0 pna pta rails limit retry behind pt) A) [Value.ref pl, Value.int s0, Value.int r0].toArray s 0 0 A) (F0 m 8 ls []) := by
    intro nhl77
    induction nhl77 with
    | zero =>
      intro x75 x76 hmhl77
      exact absurd hmhl77 (Nat.not_lt_zero _)
    | succ nhl77 ihhl77 =>
      intro x75 x76 hmhl77 hx75 hx76 H locs hP hD hS ls hl
      refine lv_iload hx hb dX1_fewestThatDo_8 (lv_at hl 0 rfl) ?_
      refine lv_aload_n hx hb dX1_fewestThatDo_10 rfl (lv_at hl 2 rfl) ?_
      have hPc := hP.sub (ws' := [(pl, .inr (2, [.ref pna, .ref pta, .int rails, .int limit, .int retry, .int behind]))]) [1] rfl
      have hDc := hD.sub (ws' := [(pl, .inr (2, [.ref pna, .ref pta, .int rails, .int limit, .int retry, .int behind]))]) [1] (by decide) rfl
      have hFc := va_free (wc := [(pl, .inr (2, [.ref pna, .ref pta, .int rails, .int limit, .int retry, .int behind]))]) hD hS hA [1] rfl
      refine va_calli (va_runV (As := []) (rest := [.int x75]) ⟨hx, hb, hml, hown, hts⟩ (c_allRails l D cI cJ cZ cG cH H.size pl pna pta rails limit retry behind (xrng rfl (by omega) (by omega))) (cwV 0 hts (xGV tbC wd1053 wd576 wd577 wd39 wd578) rfl rfl rfl (by decide +kernel) ⟨Nat.le_of_ble_eq_true rfl, Nat.le_of_ble_eq_true rfl⟩) ⟨xPc_blind, va_recv hK hPc (ci := 2) (q0 := 0) rfl rfl, xPc_pre hPc hK hDc⟩ rfl rfl hl.1 rfl (lv_room (Nat.le_of_ble_eq_true rfl)) dX1_fewestThatDo_11 ⟨Nat.le_of_ble_eq_true rfl, Nat.le_of_ble_eq_true rfl⟩) hS (fun q _ h => hFc q h) hFc (fun r78 u t H1 locs ht hvm hw78 hB hz1 hk1 hS => ?_)
      obtain ⟨hP1, hK1, hD1⟩ := hB
      rw [ht] at hP1
      obtain ⟨hP, hD⟩ := va_join (wr := [(pta, .inl (cJ, 64, .inr (.inl pt)))]) (w1 := [(pl, .inr (2, [.ref pna, .ref pta, .int rails, .int limit, .int retry, .int behind]))]) hP hD [1] [0] rfl rfl (by decide) (by decide) hk1 hFc hP1 hD1
      generalize H1 = H at hP hS ⊢
      have hP : va_P D vwCl [(pta, .inl (cJ, 64, .inr (.inl pt))), (pl, .inr (2, [.ref pna, .ref pta, .int rails, .int limit, .int retry, .int behind]))] H := hP
      have hD : va_D A [(pta, .inl (cJ, 64, .inr (.inl pt))), (pl, .inr (2, [.ref pna, .ref pta, .int rails, .int limit, .int retry, .int behind]))] := hD
      have hw78 : 0 ≤ r78.toInt ∧ r78.toInt ≤ 255 := hw78
      refine lv_icmp_gt (tgt := 62) hx hb dX1_fewestThatDo_14 (by decide) (fun c_79 => ?_) (fun c_79 => ?_)
      · skip
        have i_79 : r78.toInt < x75.toInt := (ilt rfl rfl).mp c_79
        refine lv_iload_n hx hb dX1_fewestThatDo_62 rfl (lv_at hl 1 rfl) ?_
        refine W.widen (k := 0) (n := 0) (by decide) (by decide) ?_
        have hP9 := hP.sub (ws' := [(pl, .inr (2, [.ref pna, .ref pta, .int rails, .int limit, .int retry, .int behind])), (pta, .inl (cJ, 64, .inr (.inl pt)))]) [1, 0] rfl
        have hD9 := hD.sub (ws' := [(pl, .inr (2, [.ref pna, .ref pta, .int rails, .int limit, .int retry, .int behind])), (pta, .inl (cJ, 64, .inr (.inl pt)))]) [1, 0] (by decide) rfl
        exact W.iret (v := x76) hx hb hr (fun t ht hW => ⟨⟨x76, (), rfl, (xrng rfl (by omega) (by omega)), xB_of ht hW hP9 hK hD9⟩, hS.F ht⟩) hS.2.2 dX1_fewestThatDo_63
      · skip
        have i_79 : ¬ (r78.toInt < x75.toInt) := fun h9 => c_79 ((ilt rfl rfl).mpr h9)
        refine lv_iload hx hb dX1_fewestThatDo_17 (lv_at hl 0 rfl) ?_
        have hPc := hP.sub (ws' := []) [] rfl
        have hDc := hD.sub (ws' := []) [] (by decide) rfl
        have hFc := va_free (wc := []) hD hS hA [] rfl
        refine va_calli (va_runS (As := [.int x75]) (rest := []) ⟨hx, hb, hml, hown, hts⟩ (c_bitCount l D cI cJ cZ cG cH H.size x75) (va_cwS 1 hts (xGS tbC wd1054 wd1055 wd1056 wd1057) rfl rfl rfl (by decide +kernel) ⟨Nat.le_of_ble_eq_true rfl, Nat.le_of_ble_eq_true rfl⟩) ⟨xPc_blind, xPc_pre hPc hK hDc⟩ rfl rfl hl.1 rfl (lv_room (Nat.le_of_ble_eq_true rfl)) dX1_fewestThatDo_19 ⟨Nat.le_of_ble_eq_true rfl, Nat.le_of_ble_eq_true rfl⟩) hS (fun q _ h => hFc q h) hFc (fun r80 u t H1 locs ht hvm hw80 hB hz1 hk1 hS => ?_)
        obtain ⟨hP1, hK1, hD1⟩ := hB
        rw [ht] at hP1
        obtain ⟨hP, hD⟩ := va_join (wr := [(pta, .inl (cJ, 64, .inr (.inl pt))), (pl, .inr (2, [.ref pna, .ref pta, .int rails, .int limit, .int retry, .int behind]))]) (w1 := []) hP hD [] [0, 1] rfl rfl (by decide) (by decide) hk1 hFc hP1 hD1
        generalize H1 = H at hP hS ⊢
        have hP : va_P D vwCl [(pta, .inl (cJ, 64, .inr (.inl pt))), (pl, .inr (2, [.ref pna, .ref pta, .int rails, .int limit, .int retry, .int behind]))] H := hP
        have hD : va_D A [(pta, .inl (cJ, 64, .inr (.inl pt))), (pl, .inr (2, [.ref pna, .ref pta, .int rails, .int limit, .int retry, .int behind]))] := hD
        have hw80 : 0 ≤ r80.toInt ∧ r80.toInt ≤ 63 := hw80
        refine lv_iload_n hx hb dX1_fewestThatDo_22 rfl (lv_at hl 1 rfl) ?_
        have hPc := hP.sub (ws' := []) [] rfl
        have hDc := hD.sub (ws' := []) [] (by decide) rfl
        have hFc := va_free (wc := []) hD hS hA [] rfl
        refine va_calli (va_runS (As := [.int x76]) (rest := [.int r80]) ⟨hx, hb, hml, hown, hts⟩ (c_bitCount l D cI cJ cZ cG cH H.size x76) (va_cwS 1 hts (xGS tbC wd1054 wd1055 wd1056 wd1057) rfl rfl rfl (by decide +kernel) ⟨Nat.le_of_ble_eq_true rfl, Nat.le_of_ble_eq_true rfl⟩) ⟨xPc_blind, xPc_pre hPc hK hDc⟩ rfl rfl hl.1 rfl (lv_room (Nat.le_of_ble_eq_true rfl)) dX1_fewestThatDo_23 ⟨Nat.le_of_ble_eq_true rfl, Nat.le_of_ble_eq_true rfl⟩) hS (fun q _ h => hFc q h) hFc (fun r81 u t H1 locs ht hvm hw81 hB hz1 hk1 hS => ?_)
        obtain ⟨hP1, hK1, hD1⟩ := hB
        rw [ht] at hP1
        obtain ⟨hP, hD⟩ := va_join (wr := [(pta, .inl (cJ, 64, .inr (.inl pt))), (pl, .inr (2, [.ref pna, .ref pta, .int rails, .int limit, .int retry, .int behind]))]) (w1 := []) hP hD [] [0, 1] rfl rfl (by decide) (by decide) hk1 hFc hP1 hD1
        generalize H1 = H at hP hS ⊢
        have hP : va_P D vwCl [(pta, .inl (cJ, 64, .inr (.inl pt))), (pl, .inr (2, [.ref pna, .ref pta, .int rails, .int limit, .int retry, .int behind]))] H := hP
        have hD : va_D A [(pta, .inl (cJ, 64, .inr (.inl pt))), (pl, .inr (2, [.ref pna, .ref pta, .int rails, .int limit, .int retry, .int behind]))] := hD
        have hw81 : 0 ≤ r81.toInt ∧ r81.toInt ≤ 63 := hw81
        refine lv_icmp_ge (tgt := 33) hx hb dX1_fewestThatDo_26 (by decide) (fun c_82 => ?_) (fun c_82 => ?_)
        · skip
          have i_82 : r81.toInt ≤ r80.toInt := (ile rfl rfl).mp c_82
          refine lv_iconst (v := 0) hx hb dX1_fewestThatDo_33 (by decide) ?_
          refine lv_istore (lv' := [(5, .int 0), (4, .int x75), (3, .int x76), (0, .ref pl), (1, .int s0), (2, .int r0)]) hx hb dX1_fewestThatDo_34 hl (by decide) rfl (fun ls hl => ?_)
          refine lv_iload hx hb dX1_fewestThatDo_36 (lv_at hl 0 rfl) ?_
          refine lv_if_eq (tgt := 56) hx hb dX1_fewestThatDo_38 (by decide) (fun _ => ?_) (fun c9 => absurd c9 (by decide))
          obtain ⟨x83, ex83⟩ : ∃ y : Int32, y = x75 + 1 := ⟨_, rfl⟩
          have tx83 : x83.toInt = (x75.toInt + 1) := (congrArg Int32.toInt ex83).trans (xadd rfl (by decide) (by omega) (by omega))
          refine lv_iinc (v := x83) (lv' := [(4, .int x83), (5, .int 0), (3, .int x76), (0, .ref pl), (1, .int s0), (2, .int r0)]) hx hb dX1_fewestThatDo_56 hl (k := 1) rfl (by rw [ex83]; rfl) (by decide) rfl (fun ls hl => ?_)
          refine lv_goto (tgt := 8) hx hb dX1_fewestThatDo_59 (by decide) ?_
          exact ihhl77 x83 x76 (by omega) (xrng tx83 (by omega) (by omega)) (xrng rfl (by omega) (by omega)) _ _ hP hD hS ls (lv_sub hl [0, 2, 3, 4, 5] rfl)
        · skip
          have i_82 : ¬ (r81.toInt ≤ r80.toInt) := fun h9 => c_82 ((ile rfl rfl).mpr h9)
          refine lv_iconst (v := 1) hx hb dX1_fewestThatDo_29 (by decide) ?_
          refine lv_goto (tgt := 34) hx hb dX1_fewestThatDo_30 (by decide) ?_
          refine lv_istore (lv' := [(5, .int 1), (4, .int x75), (3, .int x76), (0, .ref pl), (1, .int s0), (2, .int r0)]) hx hb dX1_fewestThatDo_34 hl (by decide) rfl (fun ls hl => ?_)
          refine lv_iload hx hb dX1_fewestThatDo_36 (lv_at hl 0 rfl) ?_
          refine lv_if_eq (tgt := 56) hx hb dX1_fewestThatDo_38 (by decide) (fun c9 => absurd c9 (by decide)) (fun _ => ?_)
          refine lv_aload_n hx hb dX1_fewestThatDo_41 rfl (lv_at hl 3 rfl) ?_
          refine lv_iload_n hx hb dX1_fewestThatDo_42 rfl (lv_at hl 4 rfl) ?_
          refine lv_iload hx hb dX1_fewestThatDo_43 (lv_at hl 1 rfl) ?_
          refine lv_iand hx hb dX1_fewestThatDo_45 ?_
          refine lv_topi (fun v84 ev84 => ?_)
          have rv84 : 0 ≤ v84.toInt ∧ v84.toInt ≤ x75.toInt := xandL ev84 (show (x75 : Int32).toInt = x75.toInt from rfl) (by omega)
          refine lv_iload_n hx hb dX1_fewestThatDo_46 rfl (lv_at hl 5 rfl) ?_
          have hPc := hP.sub (ws' := [(pl, .inr (2, [.ref pna, .ref pta, .int rails, .int limit, .int retry, .int behind])), (pta, .inl (cJ, 64, .inr (.inl pt)))]) [1, 0] rfl
          have hDc := hD.sub (ws' := [(pl, .inr (2, [.ref pna, .ref pta, .int rails, .int limit, .int retry, .int behind])), (pta, .inl (cJ, 64, .inr (.inl pt)))]) [1, 0] (by decide) rfl
          have hFc := va_free (wc := [(pl, .inr (2, [.ref pna, .ref pta, .int rails, .int limit, .int retry, .int behind])), (pta, .inl (cJ, 64, .inr (.inl pt)))]) hD hS hA [1, 0] rfl
          refine va_calli (va_runS (As := [.ref pl, .int v84, .int r0]) (rest := []) ⟨hx, hb, hml, hown, hts⟩ (c_dIsUp l D cI cJ cZ cG cH H.size pl v84 r0 pna pta rails limit retry behind pt (xrng rfl (by omega) (by omega))) (va_cwS 3 hts (xGS tbC wd1061 wd1062 wd1051 wd1063) rfl rfl rfl (by decide +kernel) ⟨Nat.le_of_ble_eq_true rfl, Nat.le_of_ble_eq_true rfl⟩) ⟨xPc_blind, xPc_pre hPc hK hDc⟩ rfl rfl hl.1 rfl (lv_room (Nat.le_of_ble_eq_true rfl)) dX1_fewestThatDo_47 ⟨Nat.le_of_ble_eq_true rfl, Nat.le_of_ble_eq_true rfl⟩) hS (fun q _ h => hFc q h) hFc (fun r85 u t H1 locs ht hvm hw85 hB hz1 hk1 hS => ?_)
          obtain ⟨hP1, hK1, hD1⟩ := hB
          rw [ht] at hP1
          obtain ⟨hP, hD⟩ := va_join (wr := []) (w1 := [(pl, .inr (2, [.ref pna, .ref pta, .int rails, .int limit, .int retry, .int behind])), (pta, .inl (cJ, 64, .inr (.inl pt)))]) hP hD [1, 0] [] rfl rfl (by decide) (by decide) hk1 hFc hP1 hD1
          generalize H1 = H at hP hS ⊢
          have hP : va_P D vwCl [(pl, .inr (2, [.ref pna, .ref pta, .int rails, .int limit, .int retry, .int behind])), (pta, .inl (cJ, 64, .inr (.inl pt)))] H := hP
          have hD : va_D A [(pl, .inr (2, [.ref pna, .ref pta, .int rails, .int limit, .int retry, .int behind])), (pta, .inl (cJ, 64, .inr (.inl pt)))] := hD
          have hw85 : 0 ≤ r85.toInt ∧ r85.toInt ≤ 1 := hw85
          refine lv_if_eq (tgt := 56) hx hb dX1_fewestThatDo_50 (by decide) (fun c_86 => ?_) (fun c_86 => ?_)
          · skip
            have i_86 : r85.toInt = 0 := (ieq rfl (by decide)).mp c_86
            obtain ⟨x87, ex87⟩ : ∃ y : Int32, y = x75 + 1 := ⟨_, rfl⟩
            have tx87 : x87.toInt = (x75.toInt + 1) := (congrArg Int32.toInt ex87).trans (xadd rfl (by decide) (by omega) (by omega))
            refine lv_iinc (v := x87) (lv' := [(4, .int x87), (5, .int 1), (3, .int x76), (0, .ref pl), (1, .int s0), (2, .int r0)]) hx hb dX1_fewestThatDo_56 hl (k := 1) rfl (by rw [ex87]; rfl) (by decide) rfl (fun ls hl => ?_)
            refine lv_goto (tgt := 8) hx hb dX1_fewestThatDo_59 (by decide) ?_
            have hP := hP.sub (ws' := [(pta, .inl (cJ, 64, .inr (.inl pt))), (pl, .inr (2, [.ref pna, .ref pta, .int rails, .int limit, .int retry, .int behind]))]) [1, 0] rfl
            have hD := hD.sub (ws' := [(pta, .inl (cJ, 64, .inr (.inl pt))), (pl, .inr (2, [.ref pna, .ref pta, .int rails, .int limit, .int retry, .int behind]))]) [1, 0] (by decide) rfl
            exact ihhl77 x87 x76 (by omega) (xrng tx87 (by omega) (by omega)) (xrng rfl (by omega) (by omega)) _ _ hP hD hS ls (lv_sub hl [0, 2, 3, 4, 5] rfl)
          · skip
            have i_86 : ¬ (r85.toInt = 0) := fun h9 => c_86 ((ieq rfl (by decide)).mpr h9)
            refine lv_iload hx hb dX1_fewestThatDo_53 (lv_at hl 1 rfl) ?_
            refine lv_istore_n (lv' := [(3, .int x75), (5, .int 1), (4, .int x75), (0, .ref pl), (1, .int s0), (2, .int r0)]) hx hb dX1_fewestThatDo_55 rfl hl (by decide) rfl (fun ls hl => ?_)
            obtain ⟨x88, ex88⟩ : ∃ y : Int32, y = x75 + 1 := ⟨_, rfl⟩
            have tx88 : x88.toInt = (x75.toInt + 1) := (congrArg Int32.toInt ex88).trans (xadd rfl (by decide) (by omega) (by omega))
            refine lv_iinc (v := x88) (lv' := [(4, .int x88), (3, .int x75), (5, .int 1), (0, .ref pl), (1, .int s0), (2, .int r0)]) hx hb dX1_fewestThatDo_56 hl (k := 2) rfl (by rw [ex88]; rfl) (by decide) rfl (fun ls hl => ?_)
            refine lv_goto (tgt := 8) hx hb dX1_fewestThatDo_59 (by decide) ?_
            have hP := hP.sub (ws' := [(pta, .inl (cJ, 64, .inr (.inl pt))), (pl, .inr (2, [.ref pna, .ref pta, .int rails, .int limit, .int retry, .int behind]))]) [1, 0] rfl
            have hD := hD.sub (ws' := [(pta, .inl (cJ, 64, .inr (.inl pt))), (pl, .inr (2, [.ref pna, .ref pta, .int rails, .int limit, .int retry, .int behind]))]) [1, 0] (by decide) rfl
            exact ihhl77 x88 x75 (by omega) (xrng tx88 (by omega) (by omega)) (xrng rfl (by omega) (by omega)) _ _ hP hD hS ls (lv_sub hl [0, 1, 3, 4, 5] rfl)
  exact hl77 _ 1 r1 (Nat.lt_succ_self _) ⟨by decide, by decide⟩ (xrng rfl (by omega) (by omega)) _ _ hP hD hS ls (lv_sub hl [0, 1, 2, 3, 4] rfl)
abbrev W_never (cI cJ cZ cG cH : ClassId) (pl : Nat) (s0 : Int32) (r0 : Int32) (pna : Nat) (pta : Nat) (rails : Int32) (limit : Int32) (retry : Int32) (behind : Int32) (pt : Nat → Int64) : va_W := [(pl, .inr (2, [.ref pna, .ref pta, .int rails, .int limit, .int retry, .int behind])), (pta, .inl (cJ, 64, .inr (.inl pt)))]
abbrev Q_never (D : va_G) (cI cJ cZ cG cH : ClassId) (pl : Nat) (s0 : Int32) (r0 : Int32) (pna : Nat) (pta : Nat) (rails : Int32) (limit : Int32) (retry : Int32) (behind : Int32) (pt : Nat → Int64) (A : Nat → Prop) : Array Value → State → Outcome → State → Prop := va_Qi (fun (r : Int32) (_ : Unit) => 0 ≤ r.toInt ∧ r.toInt ≤ 2147483647) (fun _ t => xB D (tyL cI cJ cZ cG cH) [(pl, .inr (2, [.ref pna, .ref pta, .int rails, .int limit, .int retry, .int behind])), (pta, .inl (cJ, 64, .inr (.inl pt)))] A t) A
abbrev rm_never : Room := { frames := 3, cells := 0, slots := 0, locals := 69 }
set_option maxRecDepth 100000 in
set_option maxHeartbeats 4000000 in
theorem c_never (l : Launch) (D : va_G) (cI cJ cZ cG cH : ClassId) (sz : Nat) (pl : Nat) (s0 : Int32) (r0 : Int32) (pna : Nat) (pta : Nat) (rails : Int32) (limit : Int32) (retry : Int32) (behind : Int32) (pt : Nat → Int64) (h_rails : 0 ≤ rails.toInt ∧ rails.toInt ≤ 8) : Met l yX1_neverWithout (wt yX1_neverWithout cX1_neverWithout 5 (some .int)) rm_never (xPc [.ref pl, .int s0, .int r0] D (tyL cI cJ cZ cG cH) (W_never cI cJ cZ cG cH pl s0 r0 pna pta rails limit retry behind pt) sz) (Q_never D cI cJ cZ cG cH pl s0 r0 pna pta rails limit retry behind pt (va_A (W_never cI cJ cZ cG cH pl s0 r0 pna pta rails limit retry behind pt) sz)) 0 0 (va_A (W_never cI cJ cZ cG cH pl s0 r0 pna pta rails limit retry behind pt) sz) := by
  refine xMet (cc := cX1_neverWithout) (maxL := 5) (ret := (some .int)) (Qf := Q_never D cI cJ cZ cG cH pl s0 r0 pna pta rails limit retry behind pt) (by decide) rfl (Nat.le_of_ble_eq_true rfl) ?_
  intro p e s m below meth c ls A hx hb hr hml hts hown hlocks hnm hsz hP hK hD hA hS hl
  have hown : s.vm.findClass RX1 = some m.cls := hown
  have hP : va_P D vwCl [(pl, .inr (2, [.ref pna, .ref pta, .int rails, .int limit, .int retry, .int behind])), (pta, .inl (cJ, 64, .inr (.inl pt)))] s.heap := hP
  have hD : va_D A [(pl, .inr (2, [.ref pna, .ref pta, .int rails, .int limit, .int retry, .int behind])), (pta, .inl (cJ, 64, .inr (.inl pt)))] := hD
  have hl : lv_has ls 5 [(0, .ref pl), (1, .int s0), (2, .int r0)] := hl
  refine lv_iconst (v := 0) hx hb dX1_neverWithout_0 (by decide) ?_
  refine lv_istore_n (lv' := [(3, .int 0), (0, .ref pl), (1, .int s0), (2, .int r0)]) hx hb dX1_neverWithout_1 rfl hl (by decide) rfl (fun ls hl => ?_)
  refine lv_iconst (v := 0) hx hb dX1_neverWithout_2 (by decide) ?_
  refine lv_istore (lv' := [(4, .int 0), (3, .int 0), (0, .ref pl), (1, .int s0), (2, .int r0)]) hx hb dX1_neverWithout_3 hl (by decide) rfl (fun ls hl => ?_)
  have hl71 : ∀ (nhl71 : Nat) (x69 : Int32) (x70 : Int32), ((8 - x69.toInt).toNat < nhl71) → (hx69 : 0 ≤ x69.toInt ∧ x69.toInt ≤ 8) → (hx70 : 0 ≤ x70.toInt ∧ x70.toInt ≤ 2147483647) → ∀ (H : Heap) (locs : List Loc), va_P D vwCl [(pl, .inr (2, [.ref pna, .ref pta, .int rails, .int limit, .int retry, .int behind])), (pta, .inl (cJ, 64, .inr (.inl pt)))] H → va_D A [(pl, .inr (2, [.ref pna, .ref pta, .int rails, .int limit, .int retry, .int behind])), (pta, .inl (cJ, 64, .inr (.inl pt)))] → va_S A s.heap H locs → ∀ (ls : Array Slot), lv_has ls 5 [(4, .int x69), (3, .int x70), (0, .ref pl), (1, .int s0), (2, .int r0)] → W p l e rm_never s m [Value.ref pl, Value.int s0, Value.int r0].toArray below meth c H locs 0 0 (MQ below ((Q_never D cI cJ cZ cG cH pl s0 r0 pna pta rails limit retry behind pt) A) [Value.ref pl, Value.int s0, Value.int r0].toArray s 0 0 A) (F0 m 5 ls []) := by
    intro nhl71
    induction nhl71 with
    | zero =>
      intro x69 x70 hmhl71
      exact absurd hmhl71 (Nat.not_lt_zero _)
    | succ nhl71 ihhl71 =>
      intro x69 x70 hmhl71 hx69 hx70 H locs hP hD hS ls hl
      refine lv_iload hx hb dX1_neverWithout_5 (lv_at hl 0 rfl) ?_
      refine lv_aload_n hx hb dX1_neverWithout_7 rfl (lv_at hl 2 rfl) ?_
      refine va_get (D := D) (ci := 2) (v := .int rails) (C := RX3) (T := TX3) (N := 6) hx hb hts (fun w h => tbC w (tbfX3 w h)) hown hK hP 0 rfl rfl 2 (by decide) (hts (.fieldLink RX1 30 "PowerRails$Plan" "rails" "I") (tbC _ wd1095)) (fun _ h9 => h9) rfl dX1_neverWithout_8 ?_
      refine lv_icmp_ge (tgt := 43) hx hb dX1_neverWithout_11 (by decide) (fun c_72 => ?_) (fun c_72 => ?_)
      · skip
        have i_72 : rails.toInt ≤ x69.toInt := (ile rfl rfl).mp c_72
        refine lv_iload_n hx hb dX1_neverWithout_43 rfl (lv_at hl 1 rfl) ?_
        refine W.widen (k := 0) (n := 0) (by decide) (by decide) ?_
        have hP9 := hP.sub (ws' := [(pl, .inr (2, [.ref pna, .ref pta, .int rails, .int limit, .int retry, .int behind])), (pta, .inl (cJ, 64, .inr (.inl pt)))]) [0, 1] rfl
        have hD9 := hD.sub (ws' := [(pl, .inr (2, [.ref pna, .ref pta, .int rails, .int limit, .int retry, .int behind])), (pta, .inl (cJ, 64, .inr (.inl pt)))]) [0, 1] (by decide) rfl
        exact W.iret (v := x70) hx hb hr (fun t ht hW => ⟨⟨x70, (), rfl, (xrng rfl (by omega) (by omega)), xB_of ht hW hP9 hK hD9⟩, hS.F ht⟩) hS.2.2 dX1_neverWithout_44
      · skip
        have i_72 : ¬ (rails.toInt ≤ x69.toInt) := fun h9 => c_72 ((ile rfl rfl).mpr h9)
        refine lv_aload_n hx hb dX1_neverWithout_14 rfl (lv_at hl 2 rfl) ?_
        refine lv_iload_n hx hb dX1_neverWithout_15 rfl (lv_at hl 3 rfl) ?_
        refine lv_iconst (v := 1) hx hb dX1_neverWithout_16 (by decide) ?_
        refine lv_iload hx hb dX1_neverWithout_17 (lv_at hl 0 rfl) ?_
        refine lv_ishl hx hb dX1_neverWithout_19 ?_
        refine lv_topi (fun v73 ev73 => ?_)
        have rv73 : 1 ≤ v73.toInt ∧ v73.toInt ≤ 128 := xshl1 7 ev73 (show (x69 : Int32).toInt = x69.toInt from rfl) (by omega) (by omega) (by decide)
        refine lv_iconst (v := (-1)) hx hb dX1_neverWithout_20 (by decide) ?_
        refine lv_ixor hx hb dX1_neverWithout_21 ?_
        refine lv_topi (fun v74 ev74 => ?_)
        refine lv_iand hx hb dX1_neverWithout_22 ?_
        refine lv_topi (fun v75 ev75 => ?_)
        refine lv_iload_n hx hb dX1_neverWithout_23 rfl (lv_at hl 4 rfl) ?_
        have hPc := hP.sub (ws' := [(pl, .inr (2, [.ref pna, .ref pta, .int rails, .int limit, .int retry, .int behind])), (pta, .inl (cJ, 64, .inr (.inl pt)))]) [0, 1] rfl
        have hDc := hD.sub (ws' := [(pl, .inr (2, [.ref pna, .ref pta, .int rails, .int limit, .int retry, .int behind])), (pta, .inl (cJ, 64, .inr (.inl pt)))]) [0, 1] (by decide) rfl
        have hFc := va_free (wc := [(pl, .inr (2, [.ref pna, .ref pta, .int rails, .int limit, .int retry, .int behind])), (pta, .inl (cJ, 64, .inr (.inl pt)))]) hD hS hA [0, 1] rfl
        refine va_calli (va_runS (As := [.ref pl, .int v75, .int r0]) (rest := []) ⟨hx, hb, hml, hown, hts⟩ (c_dIsUp l D cI cJ cZ cG cH H.size pl v75 r0 pna pta rails limit retry behind pt (xrng rfl (by omega) (by omega))) (va_cwS 3 hts (xGS tbC wd1061 wd1062 wd1051 wd1063) rfl rfl rfl (by decide +kernel) ⟨Nat.le_of_ble_eq_true rfl, Nat.le_of_ble_eq_true rfl⟩) ⟨xPc_blind, xPc_pre hPc hK hDc⟩ rfl rfl hl.1 rfl (lv_room (Nat.le_of_ble_eq_true rfl)) dX1_neverWithout_24 ⟨Nat.le_of_ble_eq_true rfl, Nat.le_of_ble_eq_true rfl⟩) hS (fun q _ h => hFc q h) hFc (fun r76 u t H1 locs ht hvm hw76 hB hz1 hk1 hS => ?_)
        obtain ⟨hP1, hK1, hD1⟩ := hB
        rw [ht] at hP1
        obtain ⟨hP, hD⟩ := va_join (wr := []) (w1 := [(pl, .inr (2, [.ref pna, .ref pta, .int rails, .int limit, .int retry, .int behind])), (pta, .inl (cJ, 64, .inr (.inl pt)))]) hP hD [0, 1] [] rfl rfl (by decide) (by decide) hk1 hFc hP1 hD1
        generalize H1 = H at hP hS ⊢
        have hP : va_P D vwCl [(pl, .inr (2, [.ref pna, .ref pta, .int rails, .int limit, .int retry, .int behind])), (pta, .inl (cJ, 64, .inr (.inl pt)))] H := hP
        have hD : va_D A [(pl, .inr (2, [.ref pna, .ref pta, .int rails, .int limit, .int retry, .int behind])), (pta, .inl (cJ, 64, .inr (.inl pt)))] := hD
        have hw76 : 0 ≤ r76.toInt ∧ r76.toInt ≤ 1 := hw76
        refine lv_if_ne (tgt := 37) hx hb dX1_neverWithout_27 (by decide) (fun c_77 => ?_) (fun c_77 => ?_)
        · skip
          have i_77 : ¬ (r76.toInt = 0) := fun h9 => c_77 ((ieq rfl (by decide)).mpr h9)
          obtain ⟨x78, ex78⟩ : ∃ y : Int32, y = x69 + 1 := ⟨_, rfl⟩
          have tx78 : x78.toInt = (x69.toInt + 1) := (congrArg Int32.toInt ex78).trans (xadd rfl (by decide) (by omega) (by omega))
          refine lv_iinc (v := x78) (lv' := [(4, .int x78), (3, .int x70), (0, .ref pl), (1, .int s0), (2, .int r0)]) hx hb dX1_neverWithout_37 hl (k := 0) rfl (by rw [ex78]; rfl) (by decide) rfl (fun ls hl => ?_)
          refine lv_goto (tgt := 5) hx hb dX1_neverWithout_40 (by decide) ?_
          exact ihhl71 x78 x70 (by omega) (xrng tx78 (by omega) (by omega)) (xrng rfl (by omega) (by omega)) _ _ hP hD hS ls (lv_sub hl [0, 1, 2, 3, 4] rfl)
        · skip
          have i_77 : r76.toInt = 0 := (ieq rfl (by decide)).mp c_77
          refine lv_iload_n hx hb dX1_neverWithout_30 rfl (lv_at hl 1 rfl) ?_
          refine lv_iconst (v := 1) hx hb dX1_neverWithout_31 (by decide) ?_
          refine lv_iload hx hb dX1_neverWithout_32 (lv_at hl 0 rfl) ?_
          refine lv_ishl hx hb dX1_neverWithout_34 ?_
          refine lv_topi (fun v79 ev79 => ?_)
          have rv79 : 1 ≤ v79.toInt ∧ v79.toInt ≤ 128 := xshl1 7 ev79 (show (x69 : Int32).toInt = x69.toInt from rfl) (by omega) (by omega) (by decide)
          refine lv_ior hx hb dX1_neverWithout_35 ?_
          refine lv_topi (fun v80 ev80 => ?_)
          have rv80 : 0 ≤ v80.toInt ∧ v80.toInt ≤ 2147483647 := xorL 31 ev80 (show (x70 : Int32).toInt = x70.toInt from rfl) (show (v79 : Int32).toInt = v79.toInt from rfl) (by decide) (by decide) (by omega) (by omega) (by omega) (by omega)
          refine lv_istore_n (lv' := [(3, .int v80), (4, .int x69), (0, .ref pl), (1, .int s0), (2, .int r0)]) hx hb dX1_neverWithout_36 rfl hl (by decide) rfl (fun ls hl => ?_)
          obtain ⟨x81, ex81⟩ : ∃ y : Int32, y = x69 + 1 := ⟨_, rfl⟩
          have tx81 : x81.toInt = (x69.toInt + 1) := (congrArg Int32.toInt ex81).trans (xadd rfl (by decide) (by omega) (by omega))
          refine lv_iinc (v := x81) (lv' := [(4, .int x81), (3, .int v80), (0, .ref pl), (1, .int s0), (2, .int r0)]) hx hb dX1_neverWithout_37 hl (k := 1) rfl (by rw [ex81]; rfl) (by decide) rfl (fun ls hl => ?_)
          refine lv_goto (tgt := 5) hx hb dX1_neverWithout_40 (by decide) ?_
          exact ihhl71 x81 v80 (by omega) (xrng tx81 (by omega) (by omega)) (xrng rfl (by omega) (by omega)) _ _ hP hD hS ls (lv_sub hl [0, 1, 2, 3, 4] rfl)
  exact hl71 _ 0 0 (Nat.lt_succ_self _) ⟨by decide, by decide⟩ ⟨by decide, by decide⟩ _ _ hP hD hS ls (lv_sub hl [0, 1, 2, 3, 4] rfl)
abbrev W_explain (cI cJ cZ cG cH : ClassId) (pl : Nat) (s0 : Int32) (pna : Nat) (pta : Nat) (rails : Int32) (limit : Int32) (retry : Int32) (behind : Int32) (pt : Nat → Int64) : va_W := [(pl, .inr (2, [.ref pna, .ref pta, .int rails, .int limit, .int retry, .int behind])), (pta, .inl (cJ, 64, .inr (.inl pt)))]
abbrev Q_explain (D : va_G) (cI cJ cZ cG cH : ClassId) (pl : Nat) (s0 : Int32) (pna : Nat) (pta : Nat) (rails : Int32) (limit : Int32) (retry : Int32) (behind : Int32) (pt : Nat → Int64) (A : Nat → Prop) : Array Value → State → Outcome → State → Prop := va_Qi (fun (r : Int32) (_ : Unit) => 0 ≤ r.toInt ∧ r.toInt ≤ 2147483647) (fun _ t => xB D (tyL cI cJ cZ cG cH) [(pl, .inr (2, [.ref pna, .ref pta, .int rails, .int limit, .int retry, .int behind])), (pta, .inl (cJ, 64, .inr (.inl pt)))] A t) A
abbrev rm_explain : Room := { frames := 2, cells := 0, slots := 0, locals := 47 }
set_option maxRecDepth 100000 in
set_option maxHeartbeats 4000000 in
theorem c_explain (l : Launch) (D : va_G) (cI cJ cZ cG cH : ClassId) (sz : Nat) (pl : Nat) (s0 : Int32) (pna : Nat) (pta : Nat) (rails : Int32) (limit : Int32) (retry : Int32) (behind : Int32) (pt : Nat → Int64) (h_rails : 0 ≤ rails.toInt ∧ rails.toInt ≤ 8) : Met l yX1_thatExplain (wt yX1_thatExplain cX1_thatExplain 5 (some .int)) rm_explain (xPc [.ref pl, .int s0] D (tyL cI cJ cZ cG cH) (W_explain cI cJ cZ cG cH pl s0 pna pta rails limit retry behind pt) sz) (Q_explain D cI cJ cZ cG cH pl s0 pna pta rails limit retry behind pt (va_A (W_explain cI cJ cZ cG cH pl s0 pna pta rails limit retry behind pt) sz)) 0 0 (va_A (W_explain cI cJ cZ cG cH pl s0 pna pta rails limit retry behind pt) sz) := by
  refine xMet (cc := cX1_thatExplain) (maxL := 5) (ret := (some .int)) (Qf := Q_explain D cI cJ cZ cG cH pl s0 pna pta rails limit retry behind pt) (by decide) rfl (Nat.le_of_ble_eq_true rfl) ?_
  intro p e s m below meth c ls A hx hb hr hml hts hown hlocks hnm hsz hP hK hD hA hS hl
  have hown : s.vm.findClass RX1 = some m.cls := hown
  have hP : va_P D vwCl [(pl, .inr (2, [.ref pna, .ref pta, .int rails, .int limit, .int retry, .int behind])), (pta, .inl (cJ, 64, .inr (.inl pt)))] s.heap := hP
  have hD : va_D A [(pl, .inr (2, [.ref pna, .ref pta, .int rails, .int limit, .int retry, .int behind])), (pta, .inl (cJ, 64, .inr (.inl pt)))] := hD
  have hl : lv_has ls 5 [(0, .ref pl), (1, .int s0)] := hl
  refine lv_aload_n hx hb dX1_thatExplain_0 rfl (lv_at hl 0 rfl) ?_
  have hPc := hP.sub (ws' := [(pl, .inr (2, [.ref pna, .ref pta, .int rails, .int limit, .int retry, .int behind]))]) [0] rfl
  have hDc := hD.sub (ws' := [(pl, .inr (2, [.ref pna, .ref pta, .int rails, .int limit, .int retry, .int behind]))]) [0] (by decide) rfl
  have hFc := va_free (wc := [(pl, .inr (2, [.ref pna, .ref pta, .int rails, .int limit, .int retry, .int behind]))]) hD hS hA [0] rfl
  refine va_calli (va_runV (As := []) (rest := []) ⟨hx, hb, hml, hown, hts⟩ (c_allRails l D cI cJ cZ cG cH s.heap.size pl pna pta rails limit retry behind (xrng rfl (by omega) (by omega))) (cwV 0 hts (xGV tbC wd1053 wd576 wd577 wd39 wd578) rfl rfl rfl (by decide +kernel) ⟨Nat.le_of_ble_eq_true rfl, Nat.le_of_ble_eq_true rfl⟩) ⟨xPc_blind, va_recv hK hPc (ci := 2) (q0 := 0) rfl rfl, xPc_pre hPc hK hDc⟩ rfl rfl hl.1 rfl (lv_room (Nat.le_of_ble_eq_true rfl)) dX1_thatExplain_1 ⟨Nat.le_of_ble_eq_true rfl, Nat.le_of_ble_eq_true rfl⟩) hS (fun q _ h => hFc q h) hFc (fun r1 u t H1 locs ht hvm hw1 hB hz1 hk1 hS => ?_)
  obtain ⟨hP1, hK1, hD1⟩ := hB
  rw [ht] at hP1
  obtain ⟨hP, hD⟩ := va_join (wr := [(pta, .inl (cJ, 64, .inr (.inl pt)))]) (w1 := [(pl, .inr (2, [.ref pna, .ref pta, .int rails, .int limit, .int retry, .int behind]))]) hP hD [0] [1] rfl rfl (by decide) (by decide) hk1 hFc hP1 hD1
  generalize H1 = H at hP hS ⊢
  have hP : va_P D vwCl [(pta, .inl (cJ, 64, .inr (.inl pt))), (pl, .inr (2, [.ref pna, .ref pta, .int rails, .int limit, .int retry, .int behind]))] H := hP
  have hD : va_D A [(pta, .inl (cJ, 64, .inr (.inl pt))), (pl, .inr (2, [.ref pna, .ref pta, .int rails, .int limit, .int retry, .int behind]))] := hD
  have hw1 : 0 ≤ r1.toInt ∧ r1.toInt ≤ 255 := hw1
  refine lv_istore_n (lv' := [(2, .int r1), (0, .ref pl), (1, .int s0)]) hx hb dX1_thatExplain_4 rfl hl (by decide) rfl (fun ls hl => ?_)
  refine lv_aload_n hx hb dX1_thatExplain_5 rfl (lv_at hl 1 rfl) ?_
  refine lv_iload_n hx hb dX1_thatExplain_6 rfl (lv_at hl 0 rfl) ?_
  have hPc := hP.sub (ws' := [(pl, .inr (2, [.ref pna, .ref pta, .int rails, .int limit, .int retry, .int behind])), (pta, .inl (cJ, 64, .inr (.inl pt)))]) [1, 0] rfl
  have hDc := hD.sub (ws' := [(pl, .inr (2, [.ref pna, .ref pta, .int rails, .int limit, .int retry, .int behind])), (pta, .inl (cJ, 64, .inr (.inl pt)))]) [1, 0] (by decide) rfl
  have hFc := va_free (wc := [(pl, .inr (2, [.ref pna, .ref pta, .int rails, .int limit, .int retry, .int behind])), (pta, .inl (cJ, 64, .inr (.inl pt)))]) hD hS hA [1, 0] rfl
  refine va_calli (va_runV (As := [.int r1]) (rest := []) ⟨hx, hb, hml, hown, hts⟩ (c_upAmong l D cI cJ cZ cG cH H.size pl r1 pna pta rails limit retry behind pt (xrng rfl (by omega) (by omega))) (cwV 1 hts (xGV tbC wd1064 wd796 wd797 wd39 wd798) rfl rfl rfl (by decide +kernel) ⟨Nat.le_of_ble_eq_true rfl, Nat.le_of_ble_eq_true rfl⟩) ⟨xPc_blind, va_recv hK hPc (ci := 2) (q0 := 0) rfl rfl, xPc_pre hPc hK hDc⟩ rfl rfl hl.1 rfl (lv_room (Nat.le_of_ble_eq_true rfl)) dX1_thatExplain_7 ⟨Nat.le_of_ble_eq_true rfl, Nat.le_of_ble_eq_true rfl⟩) hS (fun q _ h => hFc q h) hFc (fun r2 u t H1 locs ht hvm hw2 hB hz1 hk1 hS => ?_)
  obtain ⟨hP1, hK1, hD1⟩ := hB
  rw [ht] at hP1
  obtain ⟨hP, hD⟩ := va_join (wr := []) (w1 := [(pl, .inr (2, [.ref pna, .ref pta, .int rails, .int limit, .int retry, .int behind])), (pta, .inl (cJ, 64, .inr (.inl pt)))]) hP hD [1, 0] [] rfl rfl (by decide) (by decide) hk1 hFc hP1 hD1
  generalize H1 = H at hP hS ⊢
  have hP : va_P D vwCl [(pl, .inr (2, [.ref pna, .ref pta, .int rails, .int limit, .int retry, .int behind])), (pta, .inl (cJ, 64, .inr (.inl pt)))] H := hP
  have hD : va_D A [(pl, .inr (2, [.ref pna, .ref pta, .int rails, .int limit, .int retry, .int behind])), (pta, .inl (cJ, 64, .inr (.inl pt)))] := hD
  have hw2 : 0 ≤ r2.toInt ∧ r2.toInt ≤ 2147483647 := hw2
  refine lv_iload_n hx hb dX1_thatExplain_10 rfl (lv_at hl 2 rfl) ?_
  refine lv_icmp_ne (tgt := 20) hx hb dX1_thatExplain_11 (by decide) (fun c_3 => ?_) (fun c_3 => ?_)
  · skip
    have i_3 : ¬ (r2.toInt = s0.toInt) := fun h9 => c_3 ((ieq rfl rfl).mpr h9)
    refine lv_iconst (v := 0) hx hb dX1_thatExplain_20 (by decide) ?_
    refine lv_istore_n (lv' := [(3, .int 0), (2, .int r1), (0, .ref pl), (1, .int s0)]) hx hb dX1_thatExplain_21 rfl hl (by decide) rfl (fun ls hl => ?_)
    refine lv_iconst (v := 0) hx hb dX1_thatExplain_22 (by decide) ?_
    refine lv_istore (lv' := [(4, .int 0), (3, .int 0), (2, .int r1), (0, .ref pl), (1, .int s0)]) hx hb dX1_thatExplain_23 hl (by decide) rfl (fun ls hl => ?_)
    have hl74 : ∀ (nhl74 : Nat) (x72 : Int32) (x73 : Int32), ((8 - x72.toInt).toNat < nhl74) → (hx72 : 0 ≤ x72.toInt ∧ x72.toInt ≤ 8) → (hx73 : 0 ≤ x73.toInt ∧ x73.toInt ≤ 2147483647) → ∀ (H : Heap) (locs : List Loc), va_P D vwCl [(pl, .inr (2, [.ref pna, .ref pta, .int rails, .int limit, .int retry, .int behind])), (pta, .inl (cJ, 64, .inr (.inl pt)))] H → va_D A [(pl, .inr (2, [.ref pna, .ref pta, .int rails, .int limit, .int retry, .int behind])), (pta, .inl (cJ, 64, .inr (.inl pt)))] → va_S A s.heap H locs → ∀ (ls : Array Slot), lv_has ls 5 [(4, .int x72), (3, .int x73), (2, .int r1), (0, .ref pl), (1, .int s0)] → W p l e rm_explain s m [Value.ref pl, Value.int s0].toArray below meth c H locs 0 0 (MQ below ((Q_explain D cI cJ cZ cG cH pl s0 pna pta rails limit retry behind pt) A) [Value.ref pl, Value.int s0].toArray s 0 0 A) (F0 m 25 ls []) := by
      intro nhl74
      induction nhl74 with
      | zero =>
        intro x72 x73 hmhl74
        exact absurd hmhl74 (Nat.not_lt_zero _)
      | succ nhl74 ihhl74 =>
        intro x72 x73 hmhl74 hx72 hx73 H locs hP hD hS ls hl
        refine lv_iload hx hb dX1_thatExplain_25 (lv_at hl 0 rfl) ?_
        refine lv_aload_n hx hb dX1_thatExplain_27 rfl (lv_at hl 3 rfl) ?_
        refine va_get (D := D) (ci := 2) (v := .int rails) (C := RX3) (T := TX3) (N := 6) hx hb hts (fun w h => tbC w (tbfX3 w h)) hown hK hP 0 rfl rfl 2 (by decide) (hts (.fieldLink RX1 30 "PowerRails$Plan" "rails" "I") (tbC _ wd1095)) (fun _ h9 => h9) rfl dX1_thatExplain_28 ?_
        refine lv_icmp_ge (tgt := 63) hx hb dX1_thatExplain_31 (by decide) (fun c_75 => ?_) (fun c_75 => ?_)
        · skip
          have i_75 : rails.toInt ≤ x72.toInt := (ile rfl rfl).mp c_75
          refine lv_iload_n hx hb dX1_thatExplain_63 rfl (lv_at hl 1 rfl) ?_
          refine W.widen (k := 0) (n := 0) (by decide) (by decide) ?_
          have hP9 := hP.sub (ws' := [(pl, .inr (2, [.ref pna, .ref pta, .int rails, .int limit, .int retry, .int behind])), (pta, .inl (cJ, 64, .inr (.inl pt)))]) [0, 1] rfl
          have hD9 := hD.sub (ws' := [(pl, .inr (2, [.ref pna, .ref pta, .int rails, .int limit, .int retry, .int behind])), (pta, .inl (cJ, 64, .inr (.inl pt)))]) [0, 1] (by decide) rfl
          exact W.iret (v := x73) hx hb hr (fun t ht hW => ⟨⟨x73, (), rfl, (xrng rfl (by omega) (by omega)), xB_of ht hW hP9 hK hD9⟩, hS.F ht⟩) hS.2.2 dX1_thatExplain_64
        · skip
          have i_75 : ¬ (rails.toInt ≤ x72.toInt) := fun h9 => c_75 ((ile rfl rfl).mpr h9)
          refine lv_aload_n hx hb dX1_thatExplain_34 rfl (lv_at hl 3 rfl) ?_
          refine lv_iload_n hx hb dX1_thatExplain_35 rfl (lv_at hl 2 rfl) ?_
          refine lv_iconst (v := 1) hx hb dX1_thatExplain_36 (by decide) ?_
          refine lv_iload hx hb dX1_thatExplain_37 (lv_at hl 0 rfl) ?_
          refine lv_ishl hx hb dX1_thatExplain_39 ?_
          refine lv_topi (fun v76 ev76 => ?_)
          have rv76 : 1 ≤ v76.toInt ∧ v76.toInt ≤ 128 := xshl1 7 ev76 (show (x72 : Int32).toInt = x72.toInt from rfl) (by omega) (by omega) (by decide)
          refine lv_iconst (v := (-1)) hx hb dX1_thatExplain_40 (by decide) ?_
          refine lv_ixor hx hb dX1_thatExplain_41 ?_
          refine lv_topi (fun v77 ev77 => ?_)
          refine lv_iand hx hb dX1_thatExplain_42 ?_
          refine lv_topi (fun v78 ev78 => ?_)
          have rv78 : 0 ≤ v78.toInt ∧ v78.toInt ≤ r1.toInt := xandL' ev78 (show (r1 : Int32).toInt = r1.toInt from rfl) (by omega)
          have hPc := hP.sub (ws' := [(pl, .inr (2, [.ref pna, .ref pta, .int rails, .int limit, .int retry, .int behind])), (pta, .inl (cJ, 64, .inr (.inl pt)))]) [0, 1] rfl
          have hDc := hD.sub (ws' := [(pl, .inr (2, [.ref pna, .ref pta, .int rails, .int limit, .int retry, .int behind])), (pta, .inl (cJ, 64, .inr (.inl pt)))]) [0, 1] (by decide) rfl
          have hFc := va_free (wc := [(pl, .inr (2, [.ref pna, .ref pta, .int rails, .int limit, .int retry, .int behind])), (pta, .inl (cJ, 64, .inr (.inl pt)))]) hD hS hA [0, 1] rfl
          refine va_calli (va_runV (As := [.int v78]) (rest := []) ⟨hx, hb, hml, hown, hts⟩ (c_upAmong l D cI cJ cZ cG cH H.size pl v78 pna pta rails limit retry behind pt (xrng rfl (by omega) (by omega))) (cwV 1 hts (xGV tbC wd1064 wd796 wd797 wd39 wd798) rfl rfl rfl (by decide +kernel) ⟨Nat.le_of_ble_eq_true rfl, Nat.le_of_ble_eq_true rfl⟩) ⟨xPc_blind, va_recv hK hPc (ci := 2) (q0 := 0) rfl rfl, xPc_pre hPc hK hDc⟩ rfl rfl hl.1 rfl (lv_room (Nat.le_of_ble_eq_true rfl)) dX1_thatExplain_43 ⟨Nat.le_of_ble_eq_true rfl, Nat.le_of_ble_eq_true rfl⟩) hS (fun q _ h => hFc q h) hFc (fun r79 u t H1 locs ht hvm hw79 hB hz1 hk1 hS => ?_)
          obtain ⟨hP1, hK1, hD1⟩ := hB
          rw [ht] at hP1
          obtain ⟨hP, hD⟩ := va_join (wr := []) (w1 := [(pl, .inr (2, [.ref pna, .ref pta, .int rails, .int limit, .int retry, .int behind])), (pta, .inl (cJ, 64, .inr (.inl pt)))]) hP hD [0, 1] [] rfl rfl (by decide) (by decide) hk1 hFc hP1 hD1
          generalize H1 = H at hP hS ⊢
          have hP : va_P D vwCl [(pl, .inr (2, [.ref pna, .ref pta, .int rails, .int limit, .int retry, .int behind])), (pta, .inl (cJ, 64, .inr (.inl pt)))] H := hP
          have hD : va_D A [(pl, .inr (2, [.ref pna, .ref pta, .int rails, .int limit, .int retry, .int behind])), (pta, .inl (cJ, 64, .inr (.inl pt)))] := hD
          have hw79 : 0 ≤ r79.toInt ∧ r79.toInt ≤ 2147483647 := hw79
          refine lv_iload_n hx hb dX1_thatExplain_46 rfl (lv_at hl 4 rfl) ?_
          refine lv_icmp_ne (tgt := 57) hx hb dX1_thatExplain_47 (by decide) (fun c_80 => ?_) (fun c_80 => ?_)
          · skip
            have i_80 : ¬ (r79.toInt = s0.toInt) := fun h9 => c_80 ((ieq rfl rfl).mpr h9)
            obtain ⟨x81, ex81⟩ : ∃ y : Int32, y = x72 + 1 := ⟨_, rfl⟩
            have tx81 : x81.toInt = (x72.toInt + 1) := (congrArg Int32.toInt ex81).trans (xadd rfl (by decide) (by omega) (by omega))
            refine lv_iinc (v := x81) (lv' := [(4, .int x81), (3, .int x73), (2, .int r1), (0, .ref pl), (1, .int s0)]) hx hb dX1_thatExplain_57 hl (k := 0) rfl (by rw [ex81]; rfl) (by decide) rfl (fun ls hl => ?_)
            refine lv_goto (tgt := 25) hx hb dX1_thatExplain_60 (by decide) ?_
            exact ihhl74 x81 x73 (by omega) (xrng tx81 (by omega) (by omega)) (xrng rfl (by omega) (by omega)) _ _ hP hD hS ls (lv_sub hl [0, 1, 2, 3, 4] rfl)
          · skip
            have i_80 : r79.toInt = s0.toInt := (ieq rfl rfl).mp c_80
            refine lv_iload_n hx hb dX1_thatExplain_50 rfl (lv_at hl 1 rfl) ?_
            refine lv_iconst (v := 1) hx hb dX1_thatExplain_51 (by decide) ?_
            refine lv_iload hx hb dX1_thatExplain_52 (lv_at hl 0 rfl) ?_
            refine lv_ishl hx hb dX1_thatExplain_54 ?_
            refine lv_topi (fun v82 ev82 => ?_)
            have rv82 : 1 ≤ v82.toInt ∧ v82.toInt ≤ 128 := xshl1 7 ev82 (show (x72 : Int32).toInt = x72.toInt from rfl) (by omega) (by omega) (by decide)
            refine lv_ior hx hb dX1_thatExplain_55 ?_
            refine lv_topi (fun v83 ev83 => ?_)
            have rv83 : 0 ≤ v83.toInt ∧ v83.toInt ≤ 2147483647 := xorL 31 ev83 (show (x73 : Int32).toInt = x73.toInt from rfl) (show (v82 : Int32).toInt = v82.toInt from rfl) (by decide) (by decide) (by omega) (by omega) (by omega) (by omega)
            refine lv_istore_n (lv' := [(3, .int v83), (4, .int x72), (2, .int r1), (0, .ref pl), (1, .int s0)]) hx hb dX1_thatExplain_56 rfl hl (by decide) rfl (fun ls hl => ?_)
            obtain ⟨x84, ex84⟩ : ∃ y : Int32, y = x72 + 1 := ⟨_, rfl⟩
            have tx84 : x84.toInt = (x72.toInt + 1) := (congrArg Int32.toInt ex84).trans (xadd rfl (by decide) (by omega) (by omega))
            refine lv_iinc (v := x84) (lv' := [(4, .int x84), (3, .int v83), (2, .int r1), (0, .ref pl), (1, .int s0)]) hx hb dX1_thatExplain_57 hl (k := 1) rfl (by rw [ex84]; rfl) (by decide) rfl (fun ls hl => ?_)
            refine lv_goto (tgt := 25) hx hb dX1_thatExplain_60 (by decide) ?_
            exact ihhl74 x84 v83 (by omega) (xrng tx84 (by omega) (by omega)) (xrng rfl (by omega) (by omega)) _ _ hP hD hS ls (lv_sub hl [0, 1, 2, 3, 4] rfl)
    exact hl74 _ 0 0 (Nat.lt_succ_self _) ⟨by decide, by decide⟩ ⟨by decide, by decide⟩ _ _ hP hD hS ls (lv_sub hl [0, 1, 2, 3, 4] rfl)
  · skip
    have i_3 : r2.toInt = s0.toInt := (ieq rfl rfl).mp c_3
    refine lv_sipush (v := 256) hx hb dX1_thatExplain_14 (by decide) ?_
    refine lv_goto (tgt := 21) hx hb dX1_thatExplain_17 (by decide) ?_
    refine lv_istore_n (lv' := [(3, .int 256), (2, .int r1), (0, .ref pl), (1, .int s0)]) hx hb dX1_thatExplain_21 rfl hl (by decide) rfl (fun ls hl => ?_)
    refine lv_iconst (v := 0) hx hb dX1_thatExplain_22 (by decide) ?_
    refine lv_istore (lv' := [(4, .int 0), (3, .int 256), (2, .int r1), (0, .ref pl), (1, .int s0)]) hx hb dX1_thatExplain_23 hl (by decide) rfl (fun ls hl => ?_)
    have hl155 : ∀ (nhl155 : Nat) (x153 : Int32) (x154 : Int32), ((8 - x153.toInt).toNat < nhl155) → (hx153 : 0 ≤ x153.toInt ∧ x153.toInt ≤ 8) → (hx154 : 0 ≤ x154.toInt ∧ x154.toInt ≤ 511) → ∀ (H : Heap) (locs : List Loc), va_P D vwCl [(pl, .inr (2, [.ref pna, .ref pta, .int rails, .int limit, .int retry, .int behind])), (pta, .inl (cJ, 64, .inr (.inl pt)))] H → va_D A [(pl, .inr (2, [.ref pna, .ref pta, .int rails, .int limit, .int retry, .int behind])), (pta, .inl (cJ, 64, .inr (.inl pt)))] → va_S A s.heap H locs → ∀ (ls : Array Slot), lv_has ls 5 [(4, .int x153), (3, .int x154), (2, .int r1), (0, .ref pl), (1, .int s0)] → W p l e rm_explain s m [Value.ref pl, Value.int s0].toArray below meth c H locs 0 0 (MQ below ((Q_explain D cI cJ cZ cG cH pl s0 pna pta rails limit retry behind pt) A) [Value.ref pl, Value.int s0].toArray s 0 0 A) (F0 m 25 ls []) := by
      intro nhl155
      induction nhl155 with
      | zero =>
        intro x153 x154 hmhl155
        exact absurd hmhl155 (Nat.not_lt_zero _)
      | succ nhl155 ihhl155 =>
        intro x153 x154 hmhl155 hx153 hx154 H locs hP hD hS ls hl
        refine lv_iload hx hb dX1_thatExplain_25 (lv_at hl 0 rfl) ?_
        refine lv_aload_n hx hb dX1_thatExplain_27 rfl (lv_at hl 3 rfl) ?_
        refine va_get (D := D) (ci := 2) (v := .int rails) (C := RX3) (T := TX3) (N := 6) hx hb hts (fun w h => tbC w (tbfX3 w h)) hown hK hP 0 rfl rfl 2 (by decide) (hts (.fieldLink RX1 30 "PowerRails$Plan" "rails" "I") (tbC _ wd1095)) (fun _ h9 => h9) rfl dX1_thatExplain_28 ?_
        refine lv_icmp_ge (tgt := 63) hx hb dX1_thatExplain_31 (by decide) (fun c_156 => ?_) (fun c_156 => ?_)
        · skip
          have i_156 : rails.toInt ≤ x153.toInt := (ile rfl rfl).mp c_156
          refine lv_iload_n hx hb dX1_thatExplain_63 rfl (lv_at hl 1 rfl) ?_
          refine W.widen (k := 0) (n := 0) (by decide) (by decide) ?_
          have hP9 := hP.sub (ws' := [(pl, .inr (2, [.ref pna, .ref pta, .int rails, .int limit, .int retry, .int behind])), (pta, .inl (cJ, 64, .inr (.inl pt)))]) [0, 1] rfl
          have hD9 := hD.sub (ws' := [(pl, .inr (2, [.ref pna, .ref pta, .int rails, .int limit, .int retry, .int behind])), (pta, .inl (cJ, 64, .inr (.inl pt)))]) [0, 1] (by decide) rfl
          exact W.iret (v := x154) hx hb hr (fun t ht hW => ⟨⟨x154, (), rfl, (xrng rfl (by omega) (by omega)), xB_of ht hW hP9 hK hD9⟩, hS.F ht⟩) hS.2.2 dX1_thatExplain_64
        · skip
          have i_156 : ¬ (rails.toInt ≤ x153.toInt) := fun h9 => c_156 ((ile rfl rfl).mpr h9)
          refine lv_aload_n hx hb dX1_thatExplain_34 rfl (lv_at hl 3 rfl) ?_
          refine lv_iload_n hx hb dX1_thatExplain_35 rfl (lv_at hl 2 rfl) ?_
          refine lv_iconst (v := 1) hx hb dX1_thatExplain_36 (by decide) ?_
          refine lv_iload hx hb dX1_thatExplain_37 (lv_at hl 0 rfl) ?_
          refine lv_ishl hx hb dX1_thatExplain_39 ?_
          refine lv_topi (fun v157 ev157 => ?_)
          have rv157 : 1 ≤ v157.toInt ∧ v157.toInt ≤ 128 := xshl1 7 ev157 (show (x153 : Int32).toInt = x153.toInt from rfl) (by omega) (by omega) (by decide)
          refine lv_iconst (v := (-1)) hx hb dX1_thatExplain_40 (by decide) ?_
          refine lv_ixor hx hb dX1_thatExplain_41 ?_
          refine lv_topi (fun v158 ev158 => ?_)
          refine lv_iand hx hb dX1_thatExplain_42 ?_
          refine lv_topi (fun v159 ev159 => ?_)
          have rv159 : 0 ≤ v159.toInt ∧ v159.toInt ≤ r1.toInt := xandL' ev159 (show (r1 : Int32).toInt = r1.toInt from rfl) (by omega)
          have hPc := hP.sub (ws' := [(pl, .inr (2, [.ref pna, .ref pta, .int rails, .int limit, .int retry, .int behind])), (pta, .inl (cJ, 64, .inr (.inl pt)))]) [0, 1] rfl
          have hDc := hD.sub (ws' := [(pl, .inr (2, [.ref pna, .ref pta, .int rails, .int limit, .int retry, .int behind])), (pta, .inl (cJ, 64, .inr (.inl pt)))]) [0, 1] (by decide) rfl
          have hFc := va_free (wc := [(pl, .inr (2, [.ref pna, .ref pta, .int rails, .int limit, .int retry, .int behind])), (pta, .inl (cJ, 64, .inr (.inl pt)))]) hD hS hA [0, 1] rfl
          refine va_calli (va_runV (As := [.int v159]) (rest := []) ⟨hx, hb, hml, hown, hts⟩ (c_upAmong l D cI cJ cZ cG cH H.size pl v159 pna pta rails limit retry behind pt (xrng rfl (by omega) (by omega))) (cwV 1 hts (xGV tbC wd1064 wd796 wd797 wd39 wd798) rfl rfl rfl (by decide +kernel) ⟨Nat.le_of_ble_eq_true rfl, Nat.le_of_ble_eq_true rfl⟩) ⟨xPc_blind, va_recv hK hPc (ci := 2) (q0 := 0) rfl rfl, xPc_pre hPc hK hDc⟩ rfl rfl hl.1 rfl (lv_room (Nat.le_of_ble_eq_true rfl)) dX1_thatExplain_43 ⟨Nat.le_of_ble_eq_true rfl, Nat.le_of_ble_eq_true rfl⟩) hS (fun q _ h => hFc q h) hFc (fun r160 u t H1 locs ht hvm hw160 hB hz1 hk1 hS => ?_)
          obtain ⟨hP1, hK1, hD1⟩ := hB
          rw [ht] at hP1
          obtain ⟨hP, hD⟩ := va_join (wr := []) (w1 := [(pl, .inr (2, [.ref pna, .ref pta, .int rails, .int limit, .int retry, .int behind])), (pta, .inl (cJ, 64, .inr (.inl pt)))]) hP hD [0, 1] [] rfl rfl (by decide) (by decide) hk1 hFc hP1 hD1
          generalize H1 = H at hP hS ⊢
          have hP : va_P D vwCl [(pl, .inr (2, [.ref pna, .ref pta, .int rails, .int limit, .int retry, .int behind])), (pta, .inl (cJ, 64, .inr (.inl pt)))] H := hP
          have hD : va_D A [(pl, .inr (2, [.ref pna, .ref pta, .int rails, .int limit, .int retry, .int behind])), (pta, .inl (cJ, 64, .inr (.inl pt)))] := hD
          have hw160 : 0 ≤ r160.toInt ∧ r160.toInt ≤ 2147483647 := hw160
          refine lv_iload_n hx hb dX1_thatExplain_46 rfl (lv_at hl 4 rfl) ?_
          refine lv_icmp_ne (tgt := 57) hx hb dX1_thatExplain_47 (by decide) (fun c_161 => ?_) (fun c_161 => ?_)
          · skip
            have i_161 : ¬ (r160.toInt = s0.toInt) := fun h9 => c_161 ((ieq rfl rfl).mpr h9)
            obtain ⟨x162, ex162⟩ : ∃ y : Int32, y = x153 + 1 := ⟨_, rfl⟩
            have tx162 : x162.toInt = (x153.toInt + 1) := (congrArg Int32.toInt ex162).trans (xadd rfl (by decide) (by omega) (by omega))
            refine lv_iinc (v := x162) (lv' := [(4, .int x162), (3, .int x154), (2, .int r1), (0, .ref pl), (1, .int s0)]) hx hb dX1_thatExplain_57 hl (k := 0) rfl (by rw [ex162]; rfl) (by decide) rfl (fun ls hl => ?_)
            refine lv_goto (tgt := 25) hx hb dX1_thatExplain_60 (by decide) ?_
            exact ihhl155 x162 x154 (by omega) (xrng tx162 (by omega) (by omega)) (xrng rfl (by omega) (by omega)) _ _ hP hD hS ls (lv_sub hl [0, 1, 2, 3, 4] rfl)
          · skip
            have i_161 : r160.toInt = s0.toInt := (ieq rfl rfl).mp c_161
            refine lv_iload_n hx hb dX1_thatExplain_50 rfl (lv_at hl 1 rfl) ?_
            refine lv_iconst (v := 1) hx hb dX1_thatExplain_51 (by decide) ?_
            refine lv_iload hx hb dX1_thatExplain_52 (lv_at hl 0 rfl) ?_
            refine lv_ishl hx hb dX1_thatExplain_54 ?_
            refine lv_topi (fun v163 ev163 => ?_)
            have rv163 : 1 ≤ v163.toInt ∧ v163.toInt ≤ 128 := xshl1 7 ev163 (show (x153 : Int32).toInt = x153.toInt from rfl) (by omega) (by omega) (by decide)
            refine lv_ior hx hb dX1_thatExplain_55 ?_
            refine lv_topi (fun v164 ev164 => ?_)
            have rv164 : 0 ≤ v164.toInt ∧ v164.toInt ≤ 511 := xorL 9 ev164 (show (x154 : Int32).toInt = x154.toInt from rfl) (show (v163 : Int32).toInt = v163.toInt from rfl) (by decide) (by decide) (by omega) (by omega) (by omega) (by omega)
            refine lv_istore_n (lv' := [(3, .int v164), (4, .int x153), (2, .int r1), (0, .ref pl), (1, .int s0)]) hx hb dX1_thatExplain_56 rfl hl (by decide) rfl (fun ls hl => ?_)
            obtain ⟨x165, ex165⟩ : ∃ y : Int32, y = x153 + 1 := ⟨_, rfl⟩
            have tx165 : x165.toInt = (x153.toInt + 1) := (congrArg Int32.toInt ex165).trans (xadd rfl (by decide) (by omega) (by omega))
            refine lv_iinc (v := x165) (lv' := [(4, .int x165), (3, .int v164), (2, .int r1), (0, .ref pl), (1, .int s0)]) hx hb dX1_thatExplain_57 hl (k := 1) rfl (by rw [ex165]; rfl) (by decide) rfl (fun ls hl => ?_)
            refine lv_goto (tgt := 25) hx hb dX1_thatExplain_60 (by decide) ?_
            exact ihhl155 x165 v164 (by omega) (xrng tx165 (by omega) (by omega)) (xrng rfl (by omega) (by omega)) _ _ hP hD hS ls (lv_sub hl [0, 1, 2, 3, 4] rfl)
    exact hl155 _ 0 256 (Nat.lt_succ_self _) ⟨by decide, by decide⟩ ⟨by decide, by decide⟩ _ _ hP hD hS ls (lv_sub hl [0, 1, 2, 3, 4] rfl)
