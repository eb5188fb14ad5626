def K_dIsUp_4  : (Int32) := ((1 : Int32))
def K_dIsUp_3  : (Int32) := ((0 : Int32))
def K_dIsUp_2 (r1 : Int32) (r0 : Int32) : (Int32) := (if ((r1 >>> (r0 &&& 31)) &&& (1 : Int32)).toInt = 1 then (K_dIsUp_4) else (K_dIsUp_3))
def K_dIsUp_1 (r0 : Int32) (rails : Int32) (s0 : Int32) (pt : Nat → Int64) : (Int32) := ((fun t9 => (K_dIsUp_2 t9 r0)) (M_upAmong rails s0 pt))
def M_dIsUp (r0 : Int32) (rails : Int32) (s0 : Int32) (pt : Nat → Int64) : (Int32) := (K_dIsUp_1 r0 rails s0 pt)
abbrev W_dIsUp (cI cJ cZ cG cH : ClassId) (pl : Nat) (s0 : Int32) (r0 : Int32) (pna : Nat) (pta : Nat) (rails : Int32) (limit : Int32) (retry : Int32) (behind : Int32) (pt : Nat → Int64) : va_W := [oX3 pl pna pta rails limit retry behind, oAJ pta cJ 64 pt]
abbrev Q_dIsUp (D : va_G) (cI cJ cZ cG cH : ClassId) (pl : Nat) (s0 : Int32) (r0 : Int32) (pna : Nat) (pta : Nat) (rails : Int32) (limit : Int32) (retry : Int32) (behind : Int32) (pt : Nat → Int64) (A : Nat → Prop) : Array Value → State → Outcome → State → Prop := va_Qi (fun (r : Int32) (u9 : Int32) => r = u9 ∧ (0 ≤ r.toInt ∧ r.toInt ≤ 1)) (fun u9 t => (M_dIsUp r0 rails s0 pt = (u9)) ∧ xB D (tyL cI cJ cZ cG cH) [oX3 pl pna pta rails limit retry behind, oAJ pta cJ 64 pt] A t) A
abbrev rm_dIsUp : Room := { frames := 2, cells := 0, slots := 0, locals := 47 }
set_option maxRecDepth 100000 in
set_option maxHeartbeats 40000000 in
theorem c_dIsUp (l : Launch) (D : va_G) (cI cJ cZ cG cH : ClassId) (sz : Nat) (pl : Nat) (s0 : Int32) (r0 : Int32) (pna : Nat) (pta : Nat) (rails : Int32) (limit : Int32) (retry : Int32) (behind : Int32) (pt : Nat → Int64) (h_rails : 0 ≤ rails.toInt ∧ rails.toInt ≤ 8) : Met l yX1_isUpAmong (wt yX1_isUpAmong cX1_isUpAmong 3 (some .boolean)) rm_dIsUp (xPc [.ref pl, .int s0, .int r0] D (tyL cI cJ cZ cG cH) (W_dIsUp cI cJ cZ cG cH pl s0 r0 pna pta rails limit retry behind pt) sz) (Q_dIsUp D cI cJ cZ cG cH pl s0 r0 pna pta rails limit retry behind pt (va_A (W_dIsUp cI cJ cZ cG cH pl s0 r0 pna pta rails limit retry behind pt) sz)) 0 0 (va_A (W_dIsUp cI cJ cZ cG cH pl s0 r0 pna pta rails limit retry behind pt) sz) := by
  refine xMet (cc := cX1_isUpAmong) (maxL := 3) (ret := (some .boolean)) (Qf := Q_dIsUp D cI cJ cZ cG cH pl s0 r0 pna pta rails limit retry behind pt) (by decide) rfl (Nat.le_of_ble_eq_true rfl) ?_
  intro p e s m below meth c ls A hx hb hr hml hts hown hlocks hnm hsz hP hK hD hA hS hl
  have hown : s.vm.findClass RX1 = some m.cls := hown
  have hP : va_P D vwCl [oX3 pl pna pta rails limit retry behind, oAJ pta cJ 64 pt] s.heap := hP
  have hD : va_D A [oX3 pl pna pta rails limit retry behind, oAJ pta cJ 64 pt] := hD
  have hl : lv_has ls 3 [(0, .ref pl), (1, .int s0), (2, .int r0)] := hl
  have hM : M_dIsUp r0 rails s0 pt = (K_dIsUp_1 r0 rails s0 pt) := rfl
  refine lv_aload_n hx hb dX1_isUpAmong_0 rfl (lv_at hl 0 rfl) ?_
  refine lv_iload_n hx hb dX1_isUpAmong_1 rfl (lv_at hl 1 rfl) ?_
  obtain ⟨hPc, hDc, hFc, hC9⟩ := xpk (wc := W_upAmong cI cJ cZ cG cH pl s0 pna pta rails limit retry behind pt) hP hD hS hA [0, 1] (by decide +kernel) rfl
  refine va_calli (va_runV (As := [.int s0]) (rest := []) ⟨hx, hb, hml, hown, hts⟩ (c_upAmong l D cI cJ cZ cG cH s.heap.size pl s0 pna pta rails limit retry behind pt (xrng rfl (by omega) (by omega))) (cwV 1 hts (xGV tbC wd627 wd508 wd509 wd59 wd1041) rfl rfl rfl (by decide +kernel) ⟨Nat.le_of_ble_eq_true rfl, Nat.le_of_ble_eq_true rfl⟩) ⟨xPc_blind, va_recv hK hPc (ci := 2) (q0 := 0) rfl rfl, xPc_pre hPc hK hDc⟩ rfl rfl hl.1 rfl (lv_room (Nat.le_of_ble_eq_true rfl)) dX1_isUpAmong_2 ⟨Nat.le_of_ble_eq_true rfl, Nat.le_of_ble_eq_true rfl⟩) hS (fun q _ h => hFc q h) hFc (fun r1 u t H1 locs ht hvm hw1 hB hz1 hk1 hS => ?_)
  obtain ⟨hru9, hw1⟩ := hw1
  subst hru9
  obtain ⟨hf1_0, hP1, hK1, hD1⟩ := hB
  rw [ht] at hP1
  obtain ⟨hP, hD⟩ : xPD D A [oX3 pl pna pta rails limit retry behind, oAJ pta cJ 64 pt] H1 := xjn 0 hP hD [0, 1] [] hC9 rfl (by decide +kernel) (by decide +kernel) hk1 hFc hP1 hD1
  generalize H1 = H at hP hS ⊢
  have hf1_0 : M_upAmong rails s0 pt = (r1) := hf1_0
  have hw1 : 0 ≤ r1.toInt ∧ r1.toInt ≤ 255 := hw1
  have h9M := congrArg (fun t9 => (K_dIsUp_2 t9 r0)) hf1_0
  have hM : M_dIsUp r0 rails s0 pt = (K_dIsUp_2 r1 r0) := (show M_dIsUp r0 rails s0 pt = ((fun t9 => (K_dIsUp_2 t9 r0)) (M_upAmong rails s0 pt)) from hM).trans h9M
  refine lv_iload_n hx hb dX1_isUpAmong_5 rfl (lv_at hl 2 rfl) ?_
  refine lv_ishr hx hb dX1_isUpAmong_6 ?_
  refine lv_topi (fun v2 ev2 => ?_)
  refine lv_iconst (v := 1) hx hb dX1_isUpAmong_7 (by decide) ?_
  refine lv_iand hx hb dX1_isUpAmong_8 ?_
  refine lv_topi (fun v3 ev3 => ?_)
  have rv3 : 0 ≤ v3.toInt ∧ v3.toInt ≤ 1 := xandL ev3 (show (1 : Int32).toInt = 1 from (by decide)) (by omega)
  refine lv_iconst (v := 1) hx hb dX1_isUpAmong_9 (by decide) ?_
  refine lv_icmp_ne (tgt := 17) hx hb dX1_isUpAmong_10 (by decide) (fun c_4 => ?_) (fun c_4 => ?_)
  · skip
    have i_4 : ¬ (v3.toInt = 1) := fun h9 => c_4 ((ieq rfl (by decide)).mpr h9)
    have hM : M_dIsUp r0 rails s0 pt = (K_dIsUp_3) := (show M_dIsUp r0 rails s0 pt = (if v3.toInt = 1 then (K_dIsUp_4) else (K_dIsUp_3)) from (by rw [ev3, ev2]; exact hM)).trans (if_neg i_4)
    refine lv_iconst (v := 0) hx hb dX1_isUpAmong_17 (by decide) ?_
    refine W.widen (k := 0) (n := 0) (by decide) (by decide) ?_
    exact W.zret (v := 0) hx hb hr (by decide) (fun t ht hW => ⟨⟨0, 0, rfl, ⟨rfl, ⟨by decide, by decide⟩⟩, ⟨hM, xB_of9 ht hW hP hK hD [0, 1] (by decide +kernel) rfl⟩⟩, hS.F ht⟩) hS.2.2 dX1_isUpAmong_18
  · skip
    have i_4 : v3.toInt = 1 := (ieq rfl (by decide)).mp c_4
    have hM : M_dIsUp r0 rails s0 pt = (K_dIsUp_4) := (show M_dIsUp r0 rails s0 pt = (if v3.toInt = 1 then (K_dIsUp_4) else (K_dIsUp_3)) from (by rw [ev3, ev2]; exact hM)).trans (if_pos i_4)
    refine lv_iconst (v := 1) hx hb dX1_isUpAmong_13 (by decide) ?_
    refine lv_goto (tgt := 18) hx hb dX1_isUpAmong_14 (by decide) ?_
    refine W.widen (k := 0) (n := 0) (by decide) (by decide) ?_
    exact W.zret (v := 1) hx hb hr (by decide) (fun t ht hW => ⟨⟨1, 1, rfl, ⟨rfl, ⟨by decide, by decide⟩⟩, ⟨hM, xB_of9 ht hW hP hK hD [0, 1] (by decide +kernel) rfl⟩⟩, hS.F ht⟩) hS.2.2 dX1_isUpAmong_18
def K_fewestCut_4 (x104 : Int32) : (Int32) := (x104)
def K_fewestCut_18 (rec_2 : (Int32) → (Int32) → ((Int32))) (x103 : Int32) : (Int32) := (rec_2 (x103 + 1) x103)
def K_fewestCut_17 (rec_2 : (Int32) → (Int32) → ((Int32))) (x103 : Int32) (x104 : Int32) : (Int32) := (rec_2 (x103 + 1) x104)
def K_fewestCut_16 (r121 : Int32) (rec_2 : (Int32) → (Int32) → ((Int32))) (x103 : Int32) (x104 : Int32) : (Int32) := (if r121.toInt = 0 then (K_fewestCut_18 rec_2 x103) else (K_fewestCut_17 rec_2 x103 x104))
def K_fewestCut_14 (rec_2 : (Int32) → (Int32) → ((Int32))) (x103 : Int32) (x104 : Int32) (r0 : Int32) (rails : Int32) (s0 : Int32) (pt : Nat → Int64) : (Int32) := ((fun t9 => (K_fewestCut_16 t9 rec_2 x103 x104)) (M_dIsUp r0 rails (s0 &&& (x103 ^^^ (-1 : Int32))) pt))
def K_fewestCut_21 (rec_2 : (Int32) → (Int32) → ((Int32))) (x103 : Int32) (x104 : Int32) : (Int32) := (rec_2 (x103 + 1) x104)
def K_fewestCut_25 (rec_2 : (Int32) → (Int32) → ((Int32))) (x103 : Int32) : (Int32) := (rec_2 (x103 + 1) x103)
def K_fewestCut_24 (rec_2 : (Int32) → (Int32) → ((Int32))) (x103 : Int32) (x104 : Int32) : (Int32) := (rec_2 (x103 + 1) x104)
def K_fewestCut_23 (r131 : Int32) (rec_2 : (Int32) → (Int32) → ((Int32))) (x103 : Int32) (x104 : Int32) : (Int32) := (if r131.toInt = 0 then (K_fewestCut_25 rec_2 x103) else (K_fewestCut_24 rec_2 x103 x104))
def K_fewestCut_22 (rec_2 : (Int32) → (Int32) → ((Int32))) (x103 : Int32) (x104 : Int32) (r0 : Int32) (rails : Int32) (s0 : Int32) (pt : Nat → Int64) : (Int32) := ((fun t9 => (K_fewestCut_23 t9 rec_2 x103 x104)) (M_dIsUp r0 rails (s0 &&& (x103 ^^^ (-1 : Int32))) pt))
def K_fewestCut_20 (r126 : Int32) (r125 : Int32) (rec_2 : (Int32) → (Int32) → ((Int32))) (x103 : Int32) (x104 : Int32) (r0 : Int32) (rails : Int32) (s0 : Int32) (pt : Nat → Int64) : (Int32) := (if r126.toInt ≤ r125.toInt then (K_fewestCut_21 rec_2 x103 x104) else (K_fewestCut_22 rec_2 x103 x104 r0 rails s0 pt))
def K_fewestCut_19 (r125 : Int32) (rec_2 : (Int32) → (Int32) → ((Int32))) (x103 : Int32) (x104 : Int32) (r0 : Int32) (rails : Int32) (s0 : Int32) (pt : Nat → Int64) : (Int32) := ((fun t9 => (K_fewestCut_20 t9 r125 rec_2 x103 x104 r0 rails s0 pt)) (M_bitCount x104))
def K_fewestCut_15 (rec_2 : (Int32) → (Int32) → ((Int32))) (x103 : Int32) (x104 : Int32) (r0 : Int32) (rails : Int32) (s0 : Int32) (pt : Nat → Int64) : (Int32) := ((fun t9 => (K_fewestCut_19 t9 rec_2 x103 x104 r0 rails s0 pt)) (M_bitCount x103))
def K_fewestCut_7 (x104 : Int32) (rec_2 : (Int32) → (Int32) → ((Int32))) (x103 : Int32) (r0 : Int32) (rails : Int32) (s0 : Int32) (pt : Nat → Int64) : (Int32) := (if x104.toInt = 0 then (K_fewestCut_14 rec_2 x103 x104 r0 rails s0 pt) else (K_fewestCut_15 rec_2 x103 x104 r0 rails s0 pt))
def K_fewestCut_8 (rec_2 : (Int32) → (Int32) → ((Int32))) (x103 : Int32) (x104 : Int32) : (Int32) := (rec_2 (x103 + 1) x104)
def K_fewestCut_12 (rec_2 : (Int32) → (Int32) → ((Int32))) (x103 : Int32) (x104 : Int32) : (Int32) := (rec_2 (x103 + 1) x104)
def K_fewestCut_13 (rec_2 : (Int32) → (Int32) → ((Int32))) (x103 : Int32) (x104 : Int32) : (Int32) := (rec_2 (x103 + 1) x104)
def K_fewestCut_11 (r114 : Int32) (r113 : Int32) (rec_2 : (Int32) → (Int32) → ((Int32))) (x103 : Int32) (x104 : Int32) : (Int32) := (if r114.toInt ≤ r113.toInt then (K_fewestCut_12 rec_2 x103 x104) else (K_fewestCut_13 rec_2 x103 x104))
def K_fewestCut_10 (r113 : Int32) (rec_2 : (Int32) → (Int32) → ((Int32))) (x103 : Int32) (x104 : Int32) : (Int32) := ((fun t9 => (K_fewestCut_11 t9 r113 rec_2 x103 x104)) (M_bitCount x104))
def K_fewestCut_9 (rec_2 : (Int32) → (Int32) → ((Int32))) (x103 : Int32) (x104 : Int32) : (Int32) := ((fun t9 => (K_fewestCut_10 t9 rec_2 x103 x104)) (M_bitCount x103))
def K_fewestCut_6 (x104 : Int32) (rec_2 : (Int32) → (Int32) → ((Int32))) (x103 : Int32) : (Int32) := (if x104.toInt = 0 then (K_fewestCut_8 rec_2 x103 x104) else (K_fewestCut_9 rec_2 x103 x104))
def K_fewestCut_5 (x103 : Int32) (r0 : Int32) (x104 : Int32) (rec_2 : (Int32) → (Int32) → ((Int32))) (rails : Int32) (s0 : Int32) (pt : Nat → Int64) : (Int32) := (if ((x103 >>> (r0 &&& 31)) &&& (1 : Int32)).toInt = 0 then (K_fewestCut_7 x104 rec_2 x103 r0 rails s0 pt) else (K_fewestCut_6 x104 rec_2 x103))
def K_fewestCut_3 (r106 : Int32) (x103 : Int32) (x104 : Int32) (r0 : Int32) (rec_2 : (Int32) → (Int32) → ((Int32))) (rails : Int32) (s0 : Int32) (pt : Nat → Int64) : (Int32) := (if r106.toInt < x103.toInt then (K_fewestCut_4 x104) else (K_fewestCut_5 x103 r0 x104 rec_2 rails s0 pt))
def K_fewestCut_2 (x103 : Int32) (x104 : Int32) (r0 : Int32) (rec_2 : (Int32) → (Int32) → ((Int32))) (rails : Int32) (s0 : Int32) (pt : Nat → Int64) : (Int32) := ((fun t9 => (K_fewestCut_3 t9 x103 x104 r0 rec_2 rails s0 pt)) (M_allRails rails))
def K_fewestCut_L2 (r0 : Int32) (rails : Int32) (s0 : Int32) (pt : Nat → Int64) : Nat → (Int32) → (Int32) → (Int32)
  | 0, _, _ => (0)
  | n9 + 1, x103, x104 => (K_fewestCut_2 x103 x104 r0 (K_fewestCut_L2 r0 rails s0 pt n9) rails s0 pt)
def K_fewestCut_1 (r0 : Int32) (rails : Int32) (s0 : Int32) (pt : Nat → Int64) : (Int32) := (K_fewestCut_L2 r0 rails s0 pt 100000 (1 : Int32) (0 : Int32))
def M_fewestCut (r0 : Int32) (rails : Int32) (s0 : Int32) (pt : Nat → Int64) : (Int32) := (K_fewestCut_1 r0 rails s0 pt)
abbrev W_fewestCut (cI cJ cZ cG cH : ClassId) (pl : Nat) (s0 : Int32) (r0 : Int32) (pna : Nat) (pta : Nat) (rails : Int32) (limit : Int32) (retry : Int32) (behind : Int32) (pt : Nat → Int64) : va_W := [oX3 pl pna pta rails limit retry behind, oAJ pta cJ 64 pt]
abbrev Q_fewestCut (D : va_G) (cI cJ cZ cG cH : ClassId) (pl : Nat) (s0 : Int32) (r0 : Int32) (pna : Nat) (pta : Nat) (rails : Int32) (limit : Int32) (retry : Int32) (behind : Int32) (pt : Nat → Int64) (A : Nat → Prop) : Array Value → State → Outcome → State → Prop := va_Qi (fun (r : Int32) (u9 : Int32) => r = u9 ∧ (0 ≤ r.toInt ∧ r.toInt ≤ 255)) (fun u9 t => (M_fewestCut r0 rails s0 pt = (u9)) ∧ xB D (tyL cI cJ cZ cG cH) [oX3 pl pna pta rails limit retry behind, oAJ pta cJ 64 pt] A t) A
abbrev rm_fewestCut : Room := { frames := 3, cells := 0, slots := 0, locals := 69 }
set_option maxRecDepth 100000 in
set_option maxHeartbeats 40000000 in
theorem c_fewestCut (l : Launch) (D : va_G) (cI cJ cZ cG cH : ClassId) (sz : Nat) (pl : Nat) (s0 : Int32) (r0 : Int32) (pna : Nat) (pta : Nat) (rails : Int32) (limit : Int32) (retry : Int32) (behind : Int32) (pt : Nat → Int64) (h_rails : 0 ≤ rails.toInt ∧ rails.toInt ≤ 8) : Met l yX1_fewestThatCut (wt yX1_fewestThatCut cX1_fewestThatCut 7 (some .int)) rm_fewestCut (xPc [.ref pl, .int s0, .int r0] D (tyL cI cJ cZ cG cH) (W_fewestCut cI cJ cZ cG cH pl s0 r0 pna pta rails limit retry behind pt) sz) (Q_fewestCut D cI cJ cZ cG cH pl s0 r0 pna pta rails limit retry behind pt (va_A (W_fewestCut cI cJ cZ cG cH pl s0 r0 pna pta rails limit retry behind pt) sz)) 0 0 (va_A (W_fewestCut cI cJ cZ cG cH pl s0 r0 pna pta rails limit retry behind pt) sz) := by
  refine xMet (cc := cX1_fewestThatCut) (maxL := 7) (ret := (some .int)) (Qf := Q_fewestCut D cI cJ cZ cG cH pl s0 r0 pna pta rails limit retry behind pt) (by decide) rfl (Nat.le_of_ble_eq_true rfl) ?_
  intro p e s m below meth c ls A hx hb hr hml hts hown hlocks hnm hsz hP hK hD hA hS hl
  have hown : s.vm.findClass RX1 = some m.cls := hown
  have hP : va_P D vwCl [oX3 pl pna pta rails limit retry behind, oAJ pta cJ 64 pt] s.heap := hP
  have hD : va_D A [oX3 pl pna pta rails limit retry behind, oAJ pta cJ 64 pt] := hD
  have hl : lv_has ls 7 [(0, .ref pl), (1, .int s0), (2, .int r0)] := hl
  have hM : M_fewestCut r0 rails s0 pt = (K_fewestCut_1 r0 rails s0 pt) := rfl
  refine lv_iconst (v := 0) hx hb dX1_fewestThatCut_0 (by decide) ?_
  refine lv_istore_n (lv' := [(3, .int 0), (0, .ref pl), (1, .int s0), (2, .int r0)]) hx hb dX1_fewestThatCut_1 rfl hl (by decide) rfl (fun ls hl => ?_)
  refine lv_iconst (v := 1) hx hb dX1_fewestThatCut_2 (by decide) ?_
  refine lv_istore (lv' := [(4, .int 1), (3, .int 0), (0, .ref pl), (1, .int s0), (2, .int r0)]) hx hb dX1_fewestThatCut_3 hl (by decide) rfl (fun ls hl => ?_)
  have hl105 : ∀ (nhl105 : Nat) (x103 : Int32) (x104 : Int32), ((256 - x103.toInt).toNat < nhl105) → (hx103 : 1 ≤ x103.toInt ∧ x103.toInt ≤ 256) → (hx104 : 0 ≤ x104.toInt ∧ x104.toInt ≤ 255) → (hM : M_fewestCut r0 rails s0 pt = (K_fewestCut_L2 r0 rails s0 pt nhl105 x103 x104)) → ∀ (H : Heap) (locs : List Loc), va_P D vwCl [oX3 pl pna pta rails limit retry behind, oAJ pta cJ 64 pt] H → va_D A [oX3 pl pna pta rails limit retry behind, oAJ pta cJ 64 pt] → va_S A s.heap H locs → ∀ (ls : Array Slot), lv_has ls 7 [(4, .int x103), (3, .int x104), (0, .ref pl), (1, .int s0), (2, .int r0)] → W p l e rm_fewestCut s m [Value.ref pl, Value.int s0, Value.int r0].toArray below meth c H locs 0 0 (MQ below ((Q_fewestCut D cI cJ cZ cG cH pl s0 r0 pna pta rails limit retry behind pt) A) [Value.ref pl, Value.int s0, Value.int r0].toArray s 0 0 A) (F0 m 5 ls []) := by
    intro nhl105
    induction nhl105 with
    | zero =>
      intro x103 x104 hmhl105
      exact absurd hmhl105 (Nat.not_lt_zero _)
    | succ nhl105 ihhl105 =>
      intro x103 x104 hmhl105 hx103 hx104 hM H locs hP hD hS ls hl
      have hM : M_fewestCut r0 rails s0 pt = (K_fewestCut_2 x103 x104 r0 (K_fewestCut_L2 r0 rails s0 pt nhl105) rails s0 pt) := hM
      refine lv_iload hx hb dX1_fewestThatCut_5 (lv_at hl 0 rfl) ?_
      refine lv_aload_n hx hb dX1_fewestThatCut_7 rfl (lv_at hl 2 rfl) ?_
      obtain ⟨hPc, hDc, hFc, hC9⟩ := xpk (wc := W_allRails cI cJ cZ cG cH pl pna pta rails limit retry behind) hP hD hS hA [0] (by decide +kernel) rfl
      refine va_calli (va_runV (As := []) (rest := [.int x103]) ⟨hx, hb, hml, hown, hts⟩ (c_allRails l D cI cJ cZ cG cH H.size pl pna pta rails limit retry behind (xrng rfl (by omega) (by omega))) (cwV 0 hts (xGV tbC wd619 wd420 wd421 wd59 wd1012) rfl rfl rfl (by decide +kernel) ⟨Nat.le_of_ble_eq_true rfl, Nat.le_of_ble_eq_true rfl⟩) ⟨xPc_blind, va_recv hK hPc (ci := 2) (q0 := 0) rfl rfl, xPc_pre hPc hK hDc⟩ rfl rfl hl.1 rfl (lv_room (Nat.le_of_ble_eq_true rfl)) dX1_fewestThatCut_8 ⟨Nat.le_of_ble_eq_true rfl, Nat.le_of_ble_eq_true rfl⟩) hS (fun q _ h => hFc q h) hFc (fun r106 u t H1 locs ht hvm hw106 hB hz1 hk1 hS => ?_)
      obtain ⟨hru9, hw106⟩ := hw106
      subst hru9
      obtain ⟨hf106_0, hP1, hK1, hD1⟩ := hB
      rw [ht] at hP1
      obtain ⟨hP, hD⟩ : xPD D A [oAJ pta cJ 64 pt, oX3 pl pna pta rails limit retry behind] H1 := xjn 1 hP hD [0] [1] hC9 rfl (by decide +kernel) (by decide +kernel) hk1 hFc hP1 hD1
      generalize H1 = H at hP hS ⊢
      have hf106_0 : M_allRails rails = (r106) := hf106_0
      have hw106 : 0 ≤ r106.toInt ∧ r106.toInt ≤ 255 := hw106
      have h9M := congrArg (fun t9 => (K_fewestCut_3 t9 x103 x104 r0 (K_fewestCut_L2 r0 rails s0 pt nhl105) rails s0 pt)) hf106_0
      have hM : M_fewestCut r0 rails s0 pt = (K_fewestCut_3 r106 x103 x104 r0 (K_fewestCut_L2 r0 rails s0 pt nhl105) rails s0 pt) := (show M_fewestCut r0 rails s0 pt = ((fun t9 => (K_fewestCut_3 t9 x103 x104 r0 (K_fewestCut_L2 r0 rails s0 pt nhl105) rails s0 pt)) (M_allRails rails)) from hM).trans h9M
      refine lv_icmp_gt (tgt := 86) hx hb dX1_fewestThatCut_11 (by decide) (fun c_107 => ?_) (fun c_107 => ?_)
      · skip
        have i_107 : r106.toInt < x103.toInt := (ilt rfl rfl).mp c_107
        have hM : M_fewestCut r0 rails s0 pt = (K_fewestCut_4 x104) := (show M_fewestCut r0 rails s0 pt = (if r106.toInt < x103.toInt then (K_fewestCut_4 x104) else (K_fewestCut_5 x103 r0 x104 (K_fewestCut_L2 r0 rails s0 pt nhl105) rails s0 pt)) from hM).trans (if_pos i_107)
        refine lv_iload_n hx hb dX1_fewestThatCut_86 rfl (lv_at hl 1 rfl) ?_
        refine W.widen (k := 0) (n := 0) (by decide) (by decide) ?_
        exact W.iret (v := x104) hx hb hr (fun t ht hW => ⟨⟨x104, x104, rfl, ⟨rfl, (xrng rfl (by omega) (by omega))⟩, ⟨hM, xB_of9 ht hW hP hK hD [1, 0] (by decide +kernel) rfl⟩⟩, hS.F ht⟩) hS.2.2 dX1_fewestThatCut_87
      · skip
        have i_107 : ¬ (r106.toInt < x103.toInt) := fun h9 => c_107 ((ilt rfl rfl).mpr h9)
        have hM : M_fewestCut r0 rails s0 pt = (K_fewestCut_5 x103 r0 x104 (K_fewestCut_L2 r0 rails s0 pt nhl105) rails s0 pt) := (show M_fewestCut r0 rails s0 pt = (if r106.toInt < x103.toInt then (K_fewestCut_4 x104) else (K_fewestCut_5 x103 r0 x104 (K_fewestCut_L2 r0 rails s0 pt nhl105) rails s0 pt)) from hM).trans (if_neg i_107)
        refine lv_iload hx hb dX1_fewestThatCut_14 (lv_at hl 0 rfl) ?_
        refine lv_iload_n hx hb dX1_fewestThatCut_16 rfl (lv_at hl 4 rfl) ?_
        refine lv_ishr hx hb dX1_fewestThatCut_17 ?_
        refine lv_topi (fun v108 ev108 => ?_)
        refine lv_iconst (v := 1) hx hb dX1_fewestThatCut_18 (by decide) ?_
        refine lv_iand hx hb dX1_fewestThatCut_19 ?_
        refine lv_topi (fun v109 ev109 => ?_)
        have rv109 : 0 ≤ v109.toInt ∧ v109.toInt ≤ 1 := xandL ev109 (show (1 : Int32).toInt = 1 from (by decide)) (by omega)
        refine lv_if_ne (tgt := 27) hx hb dX1_fewestThatCut_20 (by decide) (fun c_110 => ?_) (fun c_110 => ?_)
        · skip
          have i_110 : ¬ (v109.toInt = 0) := fun h9 => c_110 ((ieq rfl (by decide)).mpr h9)
          have hM : M_fewestCut r0 rails s0 pt = (K_fewestCut_6 x104 (K_fewestCut_L2 r0 rails s0 pt nhl105) x103) := (show M_fewestCut r0 rails s0 pt = (if v109.toInt = 0 then (K_fewestCut_7 x104 (K_fewestCut_L2 r0 rails s0 pt nhl105) x103 r0 rails s0 pt) else (K_fewestCut_6 x104 (K_fewestCut_L2 r0 rails s0 pt nhl105) x103)) from (by rw [ev109, ev108]; exact hM)).trans (if_neg i_110)
          refine lv_iconst (v := 0) hx hb dX1_fewestThatCut_27 (by decide) ?_
          refine lv_istore (lv' := [(5, .int 0), (4, .int x103), (3, .int x104), (0, .ref pl), (1, .int s0), (2, .int r0)]) hx hb dX1_fewestThatCut_28 hl (by decide) rfl (fun ls hl => ?_)
          refine lv_iload_n hx hb dX1_fewestThatCut_30 rfl (lv_at hl 2 rfl) ?_
          refine lv_if_eq (tgt := 46) hx hb dX1_fewestThatCut_31 (by decide) (fun c_111 => ?_) (fun c_111 => ?_)
          · skip
            have i_111 : x104.toInt = 0 := (ieq rfl (by decide)).mp c_111
            have hM : M_fewestCut r0 rails s0 pt = (K_fewestCut_8 (K_fewestCut_L2 r0 rails s0 pt nhl105) x103 x104) := (show M_fewestCut r0 rails s0 pt = (if x104.toInt = 0 then (K_fewestCut_8 (K_fewestCut_L2 r0 rails s0 pt nhl105) x103 x104) else (K_fewestCut_9 (K_fewestCut_L2 r0 rails s0 pt nhl105) x103 x104)) from hM).trans (if_pos i_111)
            refine lv_iconst (v := 1) hx hb dX1_fewestThatCut_46 (by decide) ?_
            refine lv_goto (tgt := 51) hx hb dX1_fewestThatCut_47 (by decide) ?_
            refine lv_istore (lv' := [(6, .int 1), (5, .int 0), (4, .int x103), (3, .int x104), (0, .ref pl), (1, .int s0), (2, .int r0)]) hx hb dX1_fewestThatCut_51 hl (by decide) rfl (fun ls hl => ?_)
            refine lv_iload hx hb dX1_fewestThatCut_53 (lv_at hl 1 rfl) ?_
            refine lv_if_eq (tgt := 80) hx hb dX1_fewestThatCut_55 (by decide) (fun _ => ?_) (fun c9 => absurd c9 (by decide))
            obtain ⟨x112, ex112⟩ : ∃ y : Int32, y = x103 + 1 := ⟨_, rfl⟩
            have tx112 : x112.toInt = (x103.toInt + 1) := (congrArg Int32.toInt ex112).trans (xadd rfl (by decide) (by omega) (by omega))
            refine lv_iinc (v := x112) (lv' := [(4, .int x112), (6, .int 1), (5, .int 0), (3, .int x104), (0, .ref pl), (1, .int s0), (2, .int r0)]) hx hb dX1_fewestThatCut_80 hl (k := 2) rfl (by rw [ex112]; rfl) (by decide) rfl (fun ls hl => ?_)
            refine lv_goto (tgt := 5) hx hb dX1_fewestThatCut_83 (by decide) ?_
            obtain ⟨hP, hD⟩ := xsb (ws' := [oX3 pl pna pta rails limit retry behind, oAJ pta cJ 64 pt]) hP hD [1, 0] (by decide +kernel) rfl
            exact ihhl105 x112 x104 (by omega) (xrng tx112 (by omega) (by omega)) (xrng rfl (by omega) (by omega)) (by rw [ex112]; exact hM) _ _ hP hD hS ls (lv_sub hl [0, 3, 4, 5, 6] rfl)
          · skip
            have i_111 : ¬ (x104.toInt = 0) := fun h9 => c_111 ((ieq rfl (by decide)).mpr h9)
            have hM : M_fewestCut r0 rails s0 pt = (K_fewestCut_9 (K_fewestCut_L2 r0 rails s0 pt nhl105) x103 x104) := (show M_fewestCut r0 rails s0 pt = (if x104.toInt = 0 then (K_fewestCut_8 (K_fewestCut_L2 r0 rails s0 pt nhl105) x103 x104) else (K_fewestCut_9 (K_fewestCut_L2 r0 rails s0 pt nhl105) x103 x104)) from hM).trans (if_neg i_111)
            refine lv_iload hx hb dX1_fewestThatCut_34 (lv_at hl 1 rfl) ?_
            obtain ⟨hPc, hDc, hFc, hC9⟩ := xpk (wc := W_bitCount cI cJ cZ cG cH x103) hP hD hS hA [] (by decide +kernel) rfl
            refine va_calli (va_runS (As := [.int x103]) (rest := []) ⟨hx, hb, hml, hown, hts⟩ (c_bitCount l D cI cJ cZ cG cH H.size x103) (va_cwS 1 hts (xGS tbC wd620 wd621 wd69 wd1073) rfl rfl rfl (by decide +kernel) ⟨Nat.le_of_ble_eq_true rfl, Nat.le_of_ble_eq_true rfl⟩) ⟨xPc_blind, xPc_pre hPc hK hDc⟩ rfl rfl hl.1 rfl (lv_room (Nat.le_of_ble_eq_true rfl)) dX1_fewestThatCut_36 ⟨Nat.le_of_ble_eq_true rfl, Nat.le_of_ble_eq_true rfl⟩) hS (fun q _ h => hFc q h) hFc (fun r113 u t H1 locs ht hvm hw113 hB hz1 hk1 hS => ?_)
            obtain ⟨hru9, hw113⟩ := hw113
            subst hru9
            obtain ⟨hf113_0, hP1, hK1, hD1⟩ := hB
            rw [ht] at hP1
            obtain ⟨hP, hD⟩ : xPD D A [oAJ pta cJ 64 pt, oX3 pl pna pta rails limit retry behind] H1 := xjn 2 hP hD [] [0, 1] hC9 rfl (by decide +kernel) (by decide +kernel) hk1 hFc hP1 hD1
            generalize H1 = H at hP hS ⊢
            have hf113_0 : M_bitCount x103 = (r113) := hf113_0
            have hw113 : 0 ≤ r113.toInt ∧ r113.toInt ≤ 63 := hw113
            have h9M := congrArg (fun t9 => (K_fewestCut_10 t9 (K_fewestCut_L2 r0 rails s0 pt nhl105) x103 x104)) hf113_0
            have hM : M_fewestCut r0 rails s0 pt = (K_fewestCut_10 r113 (K_fewestCut_L2 r0 rails s0 pt nhl105) x103 x104) := (show M_fewestCut r0 rails s0 pt = ((fun t9 => (K_fewestCut_10 t9 (K_fewestCut_L2 r0 rails s0 pt nhl105) x103 x104)) (M_bitCount x103)) from hM).trans h9M
            refine lv_iload_n hx hb dX1_fewestThatCut_39 rfl (lv_at hl 2 rfl) ?_
            obtain ⟨hPc, hDc, hFc, hC9⟩ := xpk (wc := W_bitCount cI cJ cZ cG cH x104) hP hD hS hA [] (by decide +kernel) rfl
            refine va_calli (va_runS (As := [.int x104]) (rest := [.int r113]) ⟨hx, hb, hml, hown, hts⟩ (c_bitCount l D cI cJ cZ cG cH H.size x104) (va_cwS 1 hts (xGS tbC wd620 wd621 wd69 wd1073) rfl rfl rfl (by decide +kernel) ⟨Nat.le_of_ble_eq_true rfl, Nat.le_of_ble_eq_true rfl⟩) ⟨xPc_blind, xPc_pre hPc hK hDc⟩ rfl rfl hl.1 rfl (lv_room (Nat.le_of_ble_eq_true rfl)) dX1_fewestThatCut_40 ⟨Nat.le_of_ble_eq_true rfl, Nat.le_of_ble_eq_true rfl⟩) hS (fun q _ h => hFc q h) hFc (fun r114 u t H1 locs ht hvm hw114 hB hz1 hk1 hS => ?_)
            obtain ⟨hru9, hw114⟩ := hw114
            subst hru9
            obtain ⟨hf114_0, hP1, hK1, hD1⟩ := hB
            rw [ht] at hP1
            obtain ⟨hP, hD⟩ : xPD D A [oAJ pta cJ 64 pt, oX3 pl pna pta rails limit retry behind] H1 := xjn 2 hP hD [] [0, 1] hC9 rfl (by decide +kernel) (by decide +kernel) hk1 hFc hP1 hD1
            generalize H1 = H at hP hS ⊢
            have hf114_0 : M_bitCount x104 = (r114) := hf114_0
            have hw114 : 0 ≤ r114.toInt ∧ r114.toInt ≤ 63 := hw114
            have h9M := congrArg (fun t9 => (K_fewestCut_11 t9 r113 (K_fewestCut_L2 r0 rails s0 pt nhl105) x103 x104)) hf114_0
            have hM : M_fewestCut r0 rails s0 pt = (K_fewestCut_11 r114 r113 (K_fewestCut_L2 r0 rails s0 pt nhl105) x103 x104) := (show M_fewestCut r0 rails s0 pt = ((fun t9 => (K_fewestCut_11 t9 r113 (K_fewestCut_L2 r0 rails s0 pt nhl105) x103 x104)) (M_bitCount x104)) from hM).trans h9M
            refine lv_icmp_ge (tgt := 50) hx hb dX1_fewestThatCut_43 (by decide) (fun c_115 => ?_) (fun c_115 => ?_)
            · skip
              have i_115 : r114.toInt ≤ r113.toInt := (ile rfl rfl).mp c_115
              have hM : M_fewestCut r0 rails s0 pt = (K_fewestCut_12 (K_fewestCut_L2 r0 rails s0 pt nhl105) x103 x104) := (show M_fewestCut r0 rails s0 pt = (if r114.toInt ≤ r113.toInt then (K_fewestCut_12 (K_fewestCut_L2 r0 rails s0 pt nhl105) x103 x104) else (K_fewestCut_13 (K_fewestCut_L2 r0 rails s0 pt nhl105) x103 x104)) from hM).trans (if_pos i_115)
              refine lv_iconst (v := 0) hx hb dX1_fewestThatCut_50 (by decide) ?_
              refine lv_istore (lv' := [(6, .int 0), (5, .int 0), (4, .int x103), (3, .int x104), (0, .ref pl), (1, .int s0), (2, .int r0)]) hx hb dX1_fewestThatCut_51 hl (by decide) rfl (fun ls hl => ?_)
              refine lv_iload hx hb dX1_fewestThatCut_53 (lv_at hl 1 rfl) ?_
              refine lv_if_eq (tgt := 80) hx hb dX1_fewestThatCut_55 (by decide) (fun _ => ?_) (fun c9 => absurd c9 (by decide))
              obtain ⟨x116, ex116⟩ : ∃ y : Int32, y = x103 + 1 := ⟨_, rfl⟩
              have tx116 : x116.toInt = (x103.toInt + 1) := (congrArg Int32.toInt ex116).trans (xadd rfl (by decide) (by omega) (by omega))
              refine lv_iinc (v := x116) (lv' := [(4, .int x116), (6, .int 0), (5, .int 0), (3, .int x104), (0, .ref pl), (1, .int s0), (2, .int r0)]) hx hb dX1_fewestThatCut_80 hl (k := 2) rfl (by rw [ex116]; rfl) (by decide) rfl (fun ls hl => ?_)
              refine lv_goto (tgt := 5) hx hb dX1_fewestThatCut_83 (by decide) ?_
              obtain ⟨hP, hD⟩ := xsb (ws' := [oX3 pl pna pta rails limit retry behind, oAJ pta cJ 64 pt]) hP hD [1, 0] (by decide +kernel) rfl
              exact ihhl105 x116 x104 (by omega) (xrng tx116 (by omega) (by omega)) (xrng rfl (by omega) (by omega)) (by rw [ex116]; exact hM) _ _ hP hD hS ls (lv_sub hl [0, 3, 4, 5, 6] rfl)
            · skip
              have i_115 : ¬ (r114.toInt ≤ r113.toInt) := fun h9 => c_115 ((ile rfl rfl).mpr h9)
              have hM : M_fewestCut r0 rails s0 pt = (K_fewestCut_13 (K_fewestCut_L2 r0 rails s0 pt nhl105) x103 x104) := (show M_fewestCut r0 rails s0 pt = (if r114.toInt ≤ r113.toInt then (K_fewestCut_12 (K_fewestCut_L2 r0 rails s0 pt nhl105) x103 x104) else (K_fewestCut_13 (K_fewestCut_L2 r0 rails s0 pt nhl105) x103 x104)) from hM).trans (if_neg i_115)
              refine lv_iconst (v := 1) hx hb dX1_fewestThatCut_46 (by decide) ?_
              refine lv_goto (tgt := 51) hx hb dX1_fewestThatCut_47 (by decide) ?_
              refine lv_istore (lv' := [(6, .int 1), (5, .int 0), (4, .int x103), (3, .int x104), (0, .ref pl), (1, .int s0), (2, .int r0)]) hx hb dX1_fewestThatCut_51 hl (by decide) rfl (fun ls hl => ?_)
              refine lv_iload hx hb dX1_fewestThatCut_53 (lv_at hl 1 rfl) ?_
              refine lv_if_eq (tgt := 80) hx hb dX1_fewestThatCut_55 (by decide) (fun _ => ?_) (fun c9 => absurd c9 (by decide))
              obtain ⟨x117, ex117⟩ : ∃ y : Int32, y = x103 + 1 := ⟨_, rfl⟩
              have tx117 : x117.toInt = (x103.toInt + 1) := (congrArg Int32.toInt ex117).trans (xadd rfl (by decide) (by omega) (by omega))
              refine lv_iinc (v := x117) (lv' := [(4, .int x117), (6, .int 1), (5, .int 0), (3, .int x104), (0, .ref pl), (1, .int s0), (2, .int r0)]) hx hb dX1_fewestThatCut_80 hl (k := 2) rfl (by rw [ex117]; rfl) (by decide) rfl (fun ls hl => ?_)
              refine lv_goto (tgt := 5) hx hb dX1_fewestThatCut_83 (by decide) ?_
              obtain ⟨hP, hD⟩ := xsb (ws' := [oX3 pl pna pta rails limit retry behind, oAJ pta cJ 64 pt]) hP hD [1, 0] (by decide +kernel) rfl
              exact ihhl105 x117 x104 (by omega) (xrng tx117 (by omega) (by omega)) (xrng rfl (by omega) (by omega)) (by rw [ex117]; exact hM) _ _ hP hD hS ls (lv_sub hl [0, 3, 4, 5, 6] rfl)
        · skip
          have i_110 : v109.toInt = 0 := (ieq rfl (by decide)).mp c_110
          have hM : M_fewestCut r0 rails s0 pt = (K_fewestCut_7 x104 (K_fewestCut_L2 r0 rails s0 pt nhl105) x103 r0 rails s0 pt) := (show M_fewestCut r0 rails s0 pt = (if v109.toInt = 0 then (K_fewestCut_7 x104 (K_fewestCut_L2 r0 rails s0 pt nhl105) x103 r0 rails s0 pt) else (K_fewestCut_6 x104 (K_fewestCut_L2 r0 rails s0 pt nhl105) x103)) from (by rw [ev109, ev108]; exact hM)).trans (if_pos i_110)
          refine lv_iconst (v := 1) hx hb dX1_fewestThatCut_23 (by decide) ?_
          refine lv_goto (tgt := 28) hx hb dX1_fewestThatCut_24 (by decide) ?_
          refine lv_istore (lv' := [(5, .int 1), (4, .int x103), (3, .int x104), (0, .ref pl), (1, .int s0), (2, .int r0)]) hx hb dX1_fewestThatCut_28 hl (by decide) rfl (fun ls hl => ?_)
          refine lv_iload_n hx hb dX1_fewestThatCut_30 rfl (lv_at hl 2 rfl) ?_
          refine lv_if_eq (tgt := 46) hx hb dX1_fewestThatCut_31 (by decide) (fun c_118 => ?_) (fun c_118 => ?_)
          · skip
            have i_118 : x104.toInt = 0 := (ieq rfl (by decide)).mp c_118
            have hM : M_fewestCut r0 rails s0 pt = (K_fewestCut_14 (K_fewestCut_L2 r0 rails s0 pt nhl105) x103 x104 r0 rails s0 pt) := (show M_fewestCut r0 rails s0 pt = (if x104.toInt = 0 then (K_fewestCut_14 (K_fewestCut_L2 r0 rails s0 pt nhl105) x103 x104 r0 rails s0 pt) else (K_fewestCut_15 (K_fewestCut_L2 r0 rails s0 pt nhl105) x103 x104 r0 rails s0 pt)) from hM).trans (if_pos i_118)
            refine lv_iconst (v := 1) hx hb dX1_fewestThatCut_46 (by decide) ?_
            refine lv_goto (tgt := 51) hx hb dX1_fewestThatCut_47 (by decide) ?_
            refine lv_istore (lv' := [(6, .int 1), (5, .int 1), (4, .int x103), (3, .int x104), (0, .ref pl), (1, .int s0), (2, .int r0)]) hx hb dX1_fewestThatCut_51 hl (by decide) rfl (fun ls hl => ?_)
            refine lv_iload hx hb dX1_fewestThatCut_53 (lv_at hl 1 rfl) ?_
            refine lv_if_eq (tgt := 80) hx hb dX1_fewestThatCut_55 (by decide) (fun c9 => absurd c9 (by decide)) (fun _ => ?_)
            refine lv_iload hx hb dX1_fewestThatCut_58 (lv_at hl 0 rfl) ?_
            refine lv_if_eq (tgt := 80) hx hb dX1_fewestThatCut_60 (by decide) (fun c9 => absurd c9 (by decide)) (fun _ => ?_)
            refine lv_aload_n hx hb dX1_fewestThatCut_63 rfl (lv_at hl 4 rfl) ?_
            refine lv_iload_n hx hb dX1_fewestThatCut_64 rfl (lv_at hl 5 rfl) ?_
            refine lv_iload hx hb dX1_fewestThatCut_65 (lv_at hl 2 rfl) ?_
            refine lv_iconst (v := (-1)) hx hb dX1_fewestThatCut_67 (by decide) ?_
            refine lv_ixor hx hb dX1_fewestThatCut_68 ?_
            refine lv_topi (fun v119 ev119 => ?_)
            refine lv_iand hx hb dX1_fewestThatCut_69 ?_
            refine lv_topi (fun v120 ev120 => ?_)
            refine lv_iload_n hx hb dX1_fewestThatCut_70 rfl (lv_at hl 6 rfl) ?_
            obtain ⟨hPc, hDc, hFc, hC9⟩ := xpk (wc := W_dIsUp cI cJ cZ cG cH pl v120 r0 pna pta rails limit retry behind pt) hP hD hS hA [1, 0] (by decide +kernel) rfl
            refine va_calli (va_runS (As := [.ref pl, .int v120, .int r0]) (rest := []) ⟨hx, hb, hml, hown, hts⟩ (c_dIsUp l D cI cJ cZ cG cH H.size pl v120 r0 pna pta rails limit retry behind pt (xrng rfl (by omega) (by omega))) (va_cwS 3 hts (xGS tbC wd625 wd626 wd68 wd1074) rfl rfl rfl (by decide +kernel) ⟨Nat.le_of_ble_eq_true rfl, Nat.le_of_ble_eq_true rfl⟩) ⟨xPc_blind, xPc_pre hPc hK hDc⟩ rfl rfl hl.1 rfl (lv_room (Nat.le_of_ble_eq_true rfl)) dX1_fewestThatCut_71 ⟨Nat.le_of_ble_eq_true rfl, Nat.le_of_ble_eq_true rfl⟩) hS (fun q _ h => hFc q h) hFc (fun r121 u t H1 locs ht hvm hw121 hB hz1 hk1 hS => ?_)
            obtain ⟨hru9, hw121⟩ := hw121
            subst hru9
            obtain ⟨hf121_0, hP1, hK1, hD1⟩ := hB
            rw [ht] at hP1
            obtain ⟨hP, hD⟩ : xPD D A [oX3 pl pna pta rails limit retry behind, oAJ pta cJ 64 pt] H1 := xjn 0 hP hD [1, 0] [] hC9 rfl (by decide +kernel) (by decide +kernel) hk1 hFc hP1 hD1
            generalize H1 = H at hP hS ⊢
            have hf121_0 : M_dIsUp r0 rails v120 pt = (r121) := hf121_0
            have hw121 : 0 ≤ r121.toInt ∧ r121.toInt ≤ 1 := hw121
            have h9M := congrArg (fun t9 => (K_fewestCut_16 t9 (K_fewestCut_L2 r0 rails s0 pt nhl105) x103 x104)) hf121_0
            have hM : M_fewestCut r0 rails s0 pt = (K_fewestCut_16 r121 (K_fewestCut_L2 r0 rails s0 pt nhl105) x103 x104) := (show M_fewestCut r0 rails s0 pt = ((fun t9 => (K_fewestCut_16 t9 (K_fewestCut_L2 r0 rails s0 pt nhl105) x103 x104)) (M_dIsUp r0 rails v120 pt)) from (by rw [ev120, ev119]; exact hM)).trans h9M
            refine lv_if_ne (tgt := 80) hx hb dX1_fewestThatCut_74 (by decide) (fun c_122 => ?_) (fun c_122 => ?_)
            · skip
              have i_122 : ¬ (r121.toInt = 0) := fun h9 => c_122 ((ieq rfl (by decide)).mpr h9)
              have hM : M_fewestCut r0 rails s0 pt = (K_fewestCut_17 (K_fewestCut_L2 r0 rails s0 pt nhl105) x103 x104) := (show M_fewestCut r0 rails s0 pt = (if r121.toInt = 0 then (K_fewestCut_18 (K_fewestCut_L2 r0 rails s0 pt nhl105) x103) else (K_fewestCut_17 (K_fewestCut_L2 r0 rails s0 pt nhl105) x103 x104)) from hM).trans (if_neg i_122)
              obtain ⟨x123, ex123⟩ : ∃ y : Int32, y = x103 + 1 := ⟨_, rfl⟩
              have tx123 : x123.toInt = (x103.toInt + 1) := (congrArg Int32.toInt ex123).trans (xadd rfl (by decide) (by omega) (by omega))
              refine lv_iinc (v := x123) (lv' := [(4, .int x123), (6, .int 1), (5, .int 1), (3, .int x104), (0, .ref pl), (1, .int s0), (2, .int r0)]) hx hb dX1_fewestThatCut_80 hl (k := 2) rfl (by rw [ex123]; rfl) (by decide) rfl (fun ls hl => ?_)
              refine lv_goto (tgt := 5) hx hb dX1_fewestThatCut_83 (by decide) ?_
              exact ihhl105 x123 x104 (by omega) (xrng tx123 (by omega) (by omega)) (xrng rfl (by omega) (by omega)) (by rw [ex123]; exact hM) _ _ hP hD hS ls (lv_sub hl [0, 3, 4, 5, 6] rfl)
            · skip
              have i_122 : r121.toInt = 0 := (ieq rfl (by decide)).mp c_122
              have hM : M_fewestCut r0 rails s0 pt = (K_fewestCut_18 (K_fewestCut_L2 r0 rails s0 pt nhl105) x103) := (show M_fewestCut r0 rails s0 pt = (if r121.toInt = 0 then (K_fewestCut_18 (K_fewestCut_L2 r0 rails s0 pt nhl105) x103) else (K_fewestCut_17 (K_fewestCut_L2 r0 rails s0 pt nhl105) x103 x104)) from hM).trans (if_pos i_122)
              refine lv_iload hx hb dX1_fewestThatCut_77 (lv_at hl 2 rfl) ?_
              refine lv_istore_n (lv' := [(3, .int x103), (6, .int 1), (5, .int 1), (4, .int x103), (0, .ref pl), (1, .int s0), (2, .int r0)]) hx hb dX1_fewestThatCut_79 rfl hl (by decide) rfl (fun ls hl => ?_)
              obtain ⟨x124, ex124⟩ : ∃ y : Int32, y = x103 + 1 := ⟨_, rfl⟩
              have tx124 : x124.toInt = (x103.toInt + 1) := (congrArg Int32.toInt ex124).trans (xadd rfl (by decide) (by omega) (by omega))
              refine lv_iinc (v := x124) (lv' := [(4, .int x124), (3, .int x103), (6, .int 1), (5, .int 1), (0, .ref pl), (1, .int s0), (2, .int r0)]) hx hb dX1_fewestThatCut_80 hl (k := 3) rfl (by rw [ex124]; rfl) (by decide) rfl (fun ls hl => ?_)
              refine lv_goto (tgt := 5) hx hb dX1_fewestThatCut_83 (by decide) ?_
              exact ihhl105 x124 x103 (by omega) (xrng tx124 (by omega) (by omega)) (xrng rfl (by omega) (by omega)) (by rw [ex124]; exact hM) _ _ hP hD hS ls (lv_sub hl [0, 1, 4, 5, 6] rfl)
          · skip
            have i_118 : ¬ (x104.toInt = 0) := fun h9 => c_118 ((ieq rfl (by decide)).mpr h9)
            have hM : M_fewestCut r0 rails s0 pt = (K_fewestCut_15 (K_fewestCut_L2 r0 rails s0 pt nhl105) x103 x104 r0 rails s0 pt) := (show M_fewestCut r0 rails s0 pt = (if x104.toInt = 0 then (K_fewestCut_14 (K_fewestCut_L2 r0 rails s0 pt nhl105) x103 x104 r0 rails s0 pt) else (K_fewestCut_15 (K_fewestCut_L2 r0 rails s0 pt nhl105) x103 x104 r0 rails s0 pt)) from hM).trans (if_neg i_118)
            refine lv_iload hx hb dX1_fewestThatCut_34 (lv_at hl 1 rfl) ?_
            obtain ⟨hPc, hDc, hFc, hC9⟩ := xpk (wc := W_bitCount cI cJ cZ cG cH x103) hP hD hS hA [] (by decide +kernel) rfl
            refine va_calli (va_runS (As := [.int x103]) (rest := []) ⟨hx, hb, hml, hown, hts⟩ (c_bitCount l D cI cJ cZ cG cH H.size x103) (va_cwS 1 hts (xGS tbC wd620 wd621 wd69 wd1073) rfl rfl rfl (by decide +kernel) ⟨Nat.le_of_ble_eq_true rfl, Nat.le_of_ble_eq_true rfl⟩) ⟨xPc_blind, xPc_pre hPc hK hDc⟩ rfl rfl hl.1 rfl (lv_room (Nat.le_of_ble_eq_true rfl)) dX1_fewestThatCut_36 ⟨Nat.le_of_ble_eq_true rfl, Nat.le_of_ble_eq_true rfl⟩) hS (fun q _ h => hFc q h) hFc (fun r125 u t H1 locs ht hvm hw125 hB hz1 hk1 hS => ?_)
            obtain ⟨hru9, hw125⟩ := hw125
            subst hru9
            obtain ⟨hf125_0, hP1, hK1, hD1⟩ := hB
            rw [ht] at hP1
            obtain ⟨hP, hD⟩ : xPD D A [oAJ pta cJ 64 pt, oX3 pl pna pta rails limit retry behind] H1 := xjn 2 hP hD [] [0, 1] hC9 rfl (by decide +kernel) (by decide +kernel) hk1 hFc hP1 hD1
            generalize H1 = H at hP hS ⊢
            have hf125_0 : M_bitCount x103 = (r125) := hf125_0
            have hw125 : 0 ≤ r125.toInt ∧ r125.toInt ≤ 63 := hw125
            have h9M := congrArg (fun t9 => (K_fewestCut_19 t9 (K_fewestCut_L2 r0 rails s0 pt nhl105) x103 x104 r0 rails s0 pt)) hf125_0
            have hM : M_fewestCut r0 rails s0 pt = (K_fewestCut_19 r125 (K_fewestCut_L2 r0 rails s0 pt nhl105) x103 x104 r0 rails s0 pt) := (show M_fewestCut r0 rails s0 pt = ((fun t9 => (K_fewestCut_19 t9 (K_fewestCut_L2 r0 rails s0 pt nhl105) x103 x104 r0 rails s0 pt)) (M_bitCount x103)) from hM).trans h9M
            refine lv_iload_n hx hb dX1_fewestThatCut_39 rfl (lv_at hl 2 rfl) ?_
            obtain ⟨hPc, hDc, hFc, hC9⟩ := xpk (wc := W_bitCount cI cJ cZ cG cH x104) hP hD hS hA [] (by decide +kernel) rfl
            refine va_calli (va_runS (As := [.int x104]) (rest := [.int r125]) ⟨hx, hb, hml, hown, hts⟩ (c_bitCount l D cI cJ cZ cG cH H.size x104) (va_cwS 1 hts (xGS tbC wd620 wd621 wd69 wd1073) rfl rfl rfl (by decide +kernel) ⟨Nat.le_of_ble_eq_true rfl, Nat.le_of_ble_eq_true rfl⟩) ⟨xPc_blind, xPc_pre hPc hK hDc⟩ rfl rfl hl.1 rfl (lv_room (Nat.le_of_ble_eq_true rfl)) dX1_fewestThatCut_40 ⟨Nat.le_of_ble_eq_true rfl, Nat.le_of_ble_eq_true rfl⟩) hS (fun q _ h => hFc q h) hFc (fun r126 u t H1 locs ht hvm hw126 hB hz1 hk1 hS => ?_)
            obtain ⟨hru9, hw126⟩ := hw126
            subst hru9
            obtain ⟨hf126_0, hP1, hK1, hD1⟩ := hB
            rw [ht] at hP1
            obtain ⟨hP, hD⟩ : xPD D A [oAJ pta cJ 64 pt, oX3 pl pna pta rails limit retry behind] H1 := xjn 2 hP hD [] [0, 1] hC9 rfl (by decide +kernel) (by decide +kernel) hk1 hFc hP1 hD1
            generalize H1 = H at hP hS ⊢
            have hf126_0 : M_bitCount x104 = (r126) := hf126_0
            have hw126 : 0 ≤ r126.toInt ∧ r126.toInt ≤ 63 := hw126
            have h9M := congrArg (fun t9 => (K_fewestCut_20 t9 r125 (K_fewestCut_L2 r0 rails s0 pt nhl105) x103 x104 r0 rails s0 pt)) hf126_0
            have hM : M_fewestCut r0 rails s0 pt = (K_fewestCut_20 r126 r125 (K_fewestCut_L2 r0 rails s0 pt nhl105) x103 x104 r0 rails s0 pt) := (show M_fewestCut r0 rails s0 pt = ((fun t9 => (K_fewestCut_20 t9 r125 (K_fewestCut_L2 r0 rails s0 pt nhl105) x103 x104 r0 rails s0 pt)) (M_bitCount x104)) from hM).trans h9M
            refine lv_icmp_ge (tgt := 50) hx hb dX1_fewestThatCut_43 (by decide) (fun c_127 => ?_) (fun c_127 => ?_)
            · skip
              have i_127 : r126.toInt ≤ r125.toInt := (ile rfl rfl).mp c_127
              have hM : M_fewestCut r0 rails s0 pt = (K_fewestCut_21 (K_fewestCut_L2 r0 rails s0 pt nhl105) x103 x104) := (show M_fewestCut r0 rails s0 pt = (if r126.toInt ≤ r125.toInt then (K_fewestCut_21 (K_fewestCut_L2 r0 rails s0 pt nhl105) x103 x104) else (K_fewestCut_22 (K_fewestCut_L2 r0 rails s0 pt nhl105) x103 x104 r0 rails s0 pt)) from hM).trans (if_pos i_127)
              refine lv_iconst (v := 0) hx hb dX1_fewestThatCut_50 (by decide) ?_
              refine lv_istore (lv' := [(6, .int 0), (5, .int 1), (4, .int x103), (3, .int x104), (0, .ref pl), (1, .int s0), (2, .int r0)]) hx hb dX1_fewestThatCut_51 hl (by decide) rfl (fun ls hl => ?_)
              refine lv_iload hx hb dX1_fewestThatCut_53 (lv_at hl 1 rfl) ?_
              refine lv_if_eq (tgt := 80) hx hb dX1_fewestThatCut_55 (by decide) (fun c9 => absurd c9 (by decide)) (fun _ => ?_)
              refine lv_iload hx hb dX1_fewestThatCut_58 (lv_at hl 0 rfl) ?_
              refine lv_if_eq (tgt := 80) hx hb dX1_fewestThatCut_60 (by decide) (fun _ => ?_) (fun c9 => absurd c9 (by decide))
              obtain ⟨x128, ex128⟩ : ∃ y : Int32, y = x103 + 1 := ⟨_, rfl⟩
              have tx128 : x128.toInt = (x103.toInt + 1) := (congrArg Int32.toInt ex128).trans (xadd rfl (by decide) (by omega) (by omega))
              refine lv_iinc (v := x128) (lv' := [(4, .int x128), (6, .int 0), (5, .int 1), (3, .int x104), (0, .ref pl), (1, .int s0), (2, .int r0)]) hx hb dX1_fewestThatCut_80 hl (k := 2) rfl (by rw [ex128]; rfl) (by decide) rfl (fun ls hl => ?_)
              refine lv_goto (tgt := 5) hx hb dX1_fewestThatCut_83 (by decide) ?_
              obtain ⟨hP, hD⟩ := xsb (ws' := [oX3 pl pna pta rails limit retry behind, oAJ pta cJ 64 pt]) hP hD [1, 0] (by decide +kernel) rfl
              exact ihhl105 x128 x104 (by omega) (xrng tx128 (by omega) (by omega)) (xrng rfl (by omega) (by omega)) (by rw [ex128]; exact hM) _ _ hP hD hS ls (lv_sub hl [0, 3, 4, 5, 6] rfl)
            · skip
              have i_127 : ¬ (r126.toInt ≤ r125.toInt) := fun h9 => c_127 ((ile rfl rfl).mpr h9)
              have hM : M_fewestCut r0 rails s0 pt = (K_fewestCut_22 (K_fewestCut_L2 r0 rails s0 pt nhl105) x103 x104 r0 rails s0 pt) := (show M_fewestCut r0 rails s0 pt = (if r126.toInt ≤ r125.toInt then (K_fewestCut_21 (K_fewestCut_L2 r0 rails s0 pt nhl105) x103 x104) else (K_fewestCut_22 (K_fewestCut_L2 r0 rails s0 pt nhl105) x103 x104 r0 rails s0 pt)) from hM).trans (if_neg i_127)
              refine lv_iconst (v := 1) hx hb dX1_fewestThatCut_46 (by decide) ?_
              refine lv_goto (tgt := 51) hx hb dX1_fewestThatCut_47 (by decide) ?_
              refine lv_istore (lv' := [(6, .int 1), (5, .int 1), (4, .int x103), (3, .int x104), (0, .ref pl), (1, .int s0), (2, .int r0)]) hx hb dX1_fewestThatCut_51 hl (by decide) rfl (fun ls hl => ?_)
              refine lv_iload hx hb dX1_fewestThatCut_53 (lv_at hl 1 rfl) ?_
              refine lv_if_eq (tgt := 80) hx hb dX1_fewestThatCut_55 (by decide) (fun c9 => absurd c9 (by decide)) (fun _ => ?_)
              refine lv_iload hx hb dX1_fewestThatCut_58 (lv_at hl 0 rfl) ?_
              refine lv_if_eq (tgt := 80) hx hb dX1_fewestThatCut_60 (by decide) (fun c9 => absurd c9 (by decide)) (fun _ => ?_)
              refine lv_aload_n hx hb dX1_fewestThatCut_63 rfl (lv_at hl 4 rfl) ?_
              refine lv_iload_n hx hb dX1_fewestThatCut_64 rfl (lv_at hl 5 rfl) ?_
              refine lv_iload hx hb dX1_fewestThatCut_65 (lv_at hl 2 rfl) ?_
              refine lv_iconst (v := (-1)) hx hb dX1_fewestThatCut_67 (by decide) ?_
              refine lv_ixor hx hb dX1_fewestThatCut_68 ?_
              refine lv_topi (fun v129 ev129 => ?_)
              refine lv_iand hx hb dX1_fewestThatCut_69 ?_
              refine lv_topi (fun v130 ev130 => ?_)
              refine lv_iload_n hx hb dX1_fewestThatCut_70 rfl (lv_at hl 6 rfl) ?_
              obtain ⟨hPc, hDc, hFc, hC9⟩ := xpk (wc := W_dIsUp cI cJ cZ cG cH pl v130 r0 pna pta rails limit retry behind pt) hP hD hS hA [1, 0] (by decide +kernel) rfl
              refine va_calli (va_runS (As := [.ref pl, .int v130, .int r0]) (rest := []) ⟨hx, hb, hml, hown, hts⟩ (c_dIsUp l D cI cJ cZ cG cH H.size pl v130 r0 pna pta rails limit retry behind pt (xrng rfl (by omega) (by omega))) (va_cwS 3 hts (xGS tbC wd625 wd626 wd68 wd1074) rfl rfl rfl (by decide +kernel) ⟨Nat.le_of_ble_eq_true rfl, Nat.le_of_ble_eq_true rfl⟩) ⟨xPc_blind, xPc_pre hPc hK hDc⟩ rfl rfl hl.1 rfl (lv_room (Nat.le_of_ble_eq_true rfl)) dX1_fewestThatCut_71 ⟨Nat.le_of_ble_eq_true rfl, Nat.le_of_ble_eq_true rfl⟩) hS (fun q _ h => hFc q h) hFc (fun r131 u t H1 locs ht hvm hw131 hB hz1 hk1 hS => ?_)
              obtain ⟨hru9, hw131⟩ := hw131
              subst hru9
              obtain ⟨hf131_0, hP1, hK1, hD1⟩ := hB
              rw [ht] at hP1
              obtain ⟨hP, hD⟩ : xPD D A [oX3 pl pna pta rails limit retry behind, oAJ pta cJ 64 pt] H1 := xjn 0 hP hD [1, 0] [] hC9 rfl (by decide +kernel) (by decide +kernel) hk1 hFc hP1 hD1
              generalize H1 = H at hP hS ⊢
              have hf131_0 : M_dIsUp r0 rails v130 pt = (r131) := hf131_0
              have hw131 : 0 ≤ r131.toInt ∧ r131.toInt ≤ 1 := hw131
              have h9M := congrArg (fun t9 => (K_fewestCut_23 t9 (K_fewestCut_L2 r0 rails s0 pt nhl105) x103 x104)) hf131_0
              have hM : M_fewestCut r0 rails s0 pt = (K_fewestCut_23 r131 (K_fewestCut_L2 r0 rails s0 pt nhl105) x103 x104) := (show M_fewestCut r0 rails s0 pt = ((fun t9 => (K_fewestCut_23 t9 (K_fewestCut_L2 r0 rails s0 pt nhl105) x103 x104)) (M_dIsUp r0 rails v130 pt)) from (by rw [ev130, ev129]; exact hM)).trans h9M
              refine lv_if_ne (tgt := 80) hx hb dX1_fewestThatCut_74 (by decide) (fun c_132 => ?_) (fun c_132 => ?_)
              · skip
                have i_132 : ¬ (r131.toInt = 0) := fun h9 => c_132 ((ieq rfl (by decide)).mpr h9)
                have hM : M_fewestCut r0 rails s0 pt = (K_fewestCut_24 (K_fewestCut_L2 r0 rails s0 pt nhl105) x103 x104) := (show M_fewestCut r0 rails s0 pt = (if r131.toInt = 0 then (K_fewestCut_25 (K_fewestCut_L2 r0 rails s0 pt nhl105) x103) else (K_fewestCut_24 (K_fewestCut_L2 r0 rails s0 pt nhl105) x103 x104)) from hM).trans (if_neg i_132)
                obtain ⟨x133, ex133⟩ : ∃ y : Int32, y = x103 + 1 := ⟨_, rfl⟩
                have tx133 : x133.toInt = (x103.toInt + 1) := (congrArg Int32.toInt ex133).trans (xadd rfl (by decide) (by omega) (by omega))
                refine lv_iinc (v := x133) (lv' := [(4, .int x133), (6, .int 1), (5, .int 1), (3, .int x104), (0, .ref pl), (1, .int s0), (2, .int r0)]) hx hb dX1_fewestThatCut_80 hl (k := 2) rfl (by rw [ex133]; rfl) (by decide) rfl (fun ls hl => ?_)
                refine lv_goto (tgt := 5) hx hb dX1_fewestThatCut_83 (by decide) ?_
                exact ihhl105 x133 x104 (by omega) (xrng tx133 (by omega) (by omega)) (xrng rfl (by omega) (by omega)) (by rw [ex133]; exact hM) _ _ hP hD hS ls (lv_sub hl [0, 3, 4, 5, 6] rfl)
              · skip
                have i_132 : r131.toInt = 0 := (ieq rfl (by decide)).mp c_132
                have hM : M_fewestCut r0 rails s0 pt = (K_fewestCut_25 (K_fewestCut_L2 r0 rails s0 pt nhl105) x103) := (show M_fewestCut r0 rails s0 pt = (if r131.toInt = 0 then (K_fewestCut_25 (K_fewestCut_L2 r0 rails s0 pt nhl105) x103) else (K_fewestCut_24 (K_fewestCut_L2 r0 rails s0 pt nhl105) x103 x104)) from hM).trans (if_pos i_132)
                refine lv_iload hx hb dX1_fewestThatCut_77 (lv_at hl 2 rfl) ?_
                refine lv_istore_n (lv' := [(3, .int x103), (6, .int 1), (5, .int 1), (4, .int x103), (0, .ref pl), (1, .int s0), (2, .int r0)]) hx hb dX1_fewestThatCut_79 rfl hl (by decide) rfl (fun ls hl => ?_)
                obtain ⟨x134, ex134⟩ : ∃ y : Int32, y = x103 + 1 := ⟨_, rfl⟩
                have tx134 : x134.toInt = (x103.toInt + 1) := (congrArg Int32.toInt ex134).trans (xadd rfl (by decide) (by omega) (by omega))
                refine lv_iinc (v := x134) (lv' := [(4, .int x134), (3, .int x103), (6, .int 1), (5, .int 1), (0, .ref pl), (1, .int s0), (2, .int r0)]) hx hb dX1_fewestThatCut_80 hl (k := 3) rfl (by rw [ex134]; rfl) (by decide) rfl (fun ls hl => ?_)
                refine lv_goto (tgt := 5) hx hb dX1_fewestThatCut_83 (by decide) ?_
                exact ihhl105 x134 x103 (by omega) (xrng tx134 (by omega) (by omega)) (xrng rfl (by omega) (by omega)) (by rw [ex134]; exact hM) _ _ hP hD hS ls (lv_sub hl [0, 1, 4, 5, 6] rfl)
  exact hl105 100000 1 0 (by have z9_0 : (1 : Int32).toInt = 1 := (by decide); have z9_1 : (0 : Int32).toInt = 0 := (by decide); omega) ⟨by decide, by decide⟩ ⟨by decide, by decide⟩ hM _ _ hP hD hS ls (lv_sub hl [0, 1, 2, 3, 4] rfl)
def K_fewestDo_5 (x50 : Int32) : (Int32) := (x50)
def K_fewestDo_9 (rec_3 : (Int32) → (Int32) → ((Int32))) (x49 : Int32) (x50 : Int32) : (Int32) := (rec_3 (x49 + 1) x50)
def K_fewestDo_12 (rec_3 : (Int32) → (Int32) → ((Int32))) (x49 : Int32) (x50 : Int32) : (Int32) := (rec_3 (x49 + 1) x50)
def K_fewestDo_13 (rec_3 : (Int32) → (Int32) → ((Int32))) (x49 : Int32) : (Int32) := (rec_3 (x49 + 1) x49)
def K_fewestDo_11 (r59 : Int32) (rec_3 : (Int32) → (Int32) → ((Int32))) (x49 : Int32) (x50 : Int32) : (Int32) := (if r59.toInt = 0 then (K_fewestDo_12 rec_3 x49 x50) else (K_fewestDo_13 rec_3 x49))
def K_fewestDo_10 (rec_3 : (Int32) → (Int32) → ((Int32))) (x49 : Int32) (x50 : Int32) (r0 : Int32) (rails : Int32) (s0 : Int32) (pt : Nat → Int64) : (Int32) := ((fun t9 => (K_fewestDo_11 t9 rec_3 x49 x50)) (M_dIsUp r0 rails (s0 &&& x49) pt))
def K_fewestDo_8 (r55 : Int32) (r54 : Int32) (rec_3 : (Int32) → (Int32) → ((Int32))) (x49 : Int32) (x50 : Int32) (r0 : Int32) (rails : Int32) (s0 : Int32) (pt : Nat → Int64) : (Int32) := (if r55.toInt ≤ r54.toInt then (K_fewestDo_9 rec_3 x49 x50) else (K_fewestDo_10 rec_3 x49 x50 r0 rails s0 pt))
def K_fewestDo_7 (r54 : Int32) (rec_3 : (Int32) → (Int32) → ((Int32))) (x49 : Int32) (x50 : Int32) (r0 : Int32) (rails : Int32) (s0 : Int32) (pt : Nat → Int64) : (Int32) := ((fun t9 => (K_fewestDo_8 t9 r54 rec_3 x49 x50 r0 rails s0 pt)) (M_bitCount x50))
def K_fewestDo_6 (rec_3 : (Int32) → (Int32) → ((Int32))) (x49 : Int32) (x50 : Int32) (r0 : Int32) (rails : Int32) (s0 : Int32) (pt : Nat → Int64) : (Int32) := ((fun t9 => (K_fewestDo_7 t9 rec_3 x49 x50 r0 rails s0 pt)) (M_bitCount x49))
def K_fewestDo_4 (r52 : Int32) (x49 : Int32) (x50 : Int32) (rec_3 : (Int32) → (Int32) → ((Int32))) (r0 : Int32) (rails : Int32) (s0 : Int32) (pt : Nat → Int64) : (Int32) := (if r52.toInt < x49.toInt then (K_fewestDo_5 x50) else (K_fewestDo_6 rec_3 x49 x50 r0 rails s0 pt))
def K_fewestDo_3 (x49 : Int32) (x50 : Int32) (rec_3 : (Int32) → (Int32) → ((Int32))) (r0 : Int32) (rails : Int32) (s0 : Int32) (pt : Nat → Int64) : (Int32) := ((fun t9 => (K_fewestDo_4 t9 x49 x50 rec_3 r0 rails s0 pt)) (M_allRails rails))
def K_fewestDo_L3 (r0 : Int32) (rails : Int32) (s0 : Int32) (pt : Nat → Int64) : Nat → (Int32) → (Int32) → (Int32)
  | 0, _, _ => (0)
  | n9 + 1, x49, x50 => (K_fewestDo_3 x49 x50 (K_fewestDo_L3 r0 rails s0 pt n9) r0 rails s0 pt)
def K_fewestDo_2 (r0 : Int32) (rails : Int32) (s0 : Int32) (pt : Nat → Int64) (r1 : Int32) : (Int32) := (K_fewestDo_L3 r0 rails s0 pt 100000 (1 : Int32) r1)
def K_fewestDo_1 (r0 : Int32) (rails : Int32) (s0 : Int32) (pt : Nat → Int64) : (Int32) := ((fun t9 => (K_fewestDo_2 r0 rails s0 pt t9)) (M_allRails rails))
def M_fewestDo (r0 : Int32) (rails : Int32) (s0 : Int32) (pt : Nat → Int64) : (Int32) := (K_fewestDo_1 r0 rails s0 pt)
abbrev W_fewestDo (cI cJ cZ cG cH : ClassId) (pl : Nat) (s0 : Int32) (r0 : Int32) (pna : Nat) (pta : Nat) (rails : Int32) (limit : Int32) (retry : Int32) (behind : Int32) (pt : Nat → Int64) : va_W := [oX3 pl pna pta rails limit retry behind, oAJ pta cJ 64 pt]
abbrev Q_fewestDo (D : va_G) (cI cJ cZ cG cH : ClassId) (pl : Nat) (s0 : Int32) (r0 : Int32) (pna : Nat) (pta : Nat) (rails : Int32) (limit : Int32) (retry : Int32) (behind : Int32) (pt : Nat → Int64) (A : Nat → Prop) : Array Value → State → Outcome → State → Prop := va_Qi (fun (r : Int32) (u9 : Int32) => r = u9 ∧ (0 ≤ r.toInt ∧ r.toInt ≤ 255)) (fun u9 t => (M_fewestDo r0 rails s0 pt = (u9)) ∧ xB D (tyL cI cJ cZ cG cH) [oX3 pl pna pta rails limit retry behind, oAJ pta cJ 64 pt] A t) A
abbrev rm_fewestDo : Room := { frames := 3, cells := 0, slots := 0, locals := 69 }
set_option maxRecDepth 100000 in
set_option maxHeartbeats 40000000 in
theorem c_fewestDo (l : Launch) (D : va_G) (cI cJ cZ cG cH : ClassId) (sz : Nat) (pl : Nat) (s0 : Int32) (r0 : Int32) (pna : Nat) (pta : Nat) (rails : Int32) (limit : Int32) (retry : Int32) (behind : Int32) (pt : Nat → Int64) (h_rails : 0 ≤ rails.toInt ∧ rails.toInt ≤ 8) : Met l yX1_fewestThatDo (wt yX1_fewestThatDo cX1_fewestThatDo 6 (some .int)) rm_fewestDo (xPc [.ref pl, .int s0, .int r0] D (tyL cI cJ cZ cG cH) (W_fewestDo cI cJ cZ cG cH pl s0 r0 pna pta rails limit retry behind pt) sz) (Q_fewestDo D cI cJ cZ cG cH pl s0 r0 pna pta rails limit retry behind pt (va_A (W_fewestDo cI cJ cZ cG cH pl s0 r0 pna pta rails limit retry behind pt) sz)) 0 0 (va_A (W_fewestDo cI cJ cZ cG cH pl s0 r0 pna pta rails limit retry behind pt) sz) := by
  refine xMet (cc := cX1_fewestThatDo) (maxL := 6) (ret := (some .int)) (Qf := Q_fewestDo D cI cJ cZ cG cH pl s0 r0 pna pta rails limit retry behind pt) (by decide) rfl (Nat.le_of_ble_eq_true rfl) ?_
  intro p e s m below meth c ls A hx hb hr hml hts hown hlocks hnm hsz hP hK hD hA hS hl
  have hown : s.vm.findClass RX1 = some m.cls := hown
  have hP : va_P D vwCl [oX3 pl pna pta rails limit retry behind, oAJ pta cJ 64 pt] s.heap := hP
  have hD : va_D A [oX3 pl pna pta rails limit retry behind, oAJ pta cJ 64 pt] := hD
  have hl : lv_has ls 6 [(0, .ref pl), (1, .int s0), (2, .int r0)] := hl
  have hM : M_fewestDo r0 rails s0 pt = (K_fewestDo_1 r0 rails s0 pt) := rfl
  refine lv_aload_n hx hb dX1_fewestThatDo_0 rfl (lv_at hl 0 rfl) ?_
  obtain ⟨hPc, hDc, hFc, hC9⟩ := xpk (wc := W_allRails cI cJ cZ cG cH pl pna pta rails limit retry behind) hP hD hS hA [0] (by decide +kernel) rfl
  refine va_calli (va_runV (As := []) (rest := []) ⟨hx, hb, hml, hown, hts⟩ (c_allRails l D cI cJ cZ cG cH s.heap.size pl pna pta rails limit retry behind (xrng rfl (by omega) (by omega))) (cwV 0 hts (xGV tbC wd619 wd420 wd421 wd59 wd1012) rfl rfl rfl (by decide +kernel) ⟨Nat.le_of_ble_eq_true rfl, Nat.le_of_ble_eq_true rfl⟩) ⟨xPc_blind, va_recv hK hPc (ci := 2) (q0 := 0) rfl rfl, xPc_pre hPc hK hDc⟩ rfl rfl hl.1 rfl (lv_room (Nat.le_of_ble_eq_true rfl)) dX1_fewestThatDo_1 ⟨Nat.le_of_ble_eq_true rfl, Nat.le_of_ble_eq_true rfl⟩) hS (fun q _ h => hFc q h) hFc (fun r1 u t H1 locs ht hvm hw1 hB hz1 hk1 hS => ?_)
  obtain ⟨hru9, hw1⟩ := hw1
  subst hru9
  obtain ⟨hf1_0, hP1, hK1, hD1⟩ := hB
  rw [ht] at hP1
  obtain ⟨hP, hD⟩ : xPD D A [oAJ pta cJ 64 pt, oX3 pl pna pta rails limit retry behind] H1 := xjn 1 hP hD [0] [1] hC9 rfl (by decide +kernel) (by decide +kernel) hk1 hFc hP1 hD1
  generalize H1 = H at hP hS ⊢
  have hf1_0 : M_allRails rails = (r1) := hf1_0
  have hw1 : 0 ≤ r1.toInt ∧ r1.toInt ≤ 255 := hw1
  have h9M := congrArg (fun t9 => (K_fewestDo_2 r0 rails s0 pt t9)) hf1_0
  have hM : M_fewestDo r0 rails s0 pt = (K_fewestDo_2 r0 rails s0 pt r1) := (show M_fewestDo r0 rails s0 pt = ((fun t9 => (K_fewestDo_2 r0 rails s0 pt t9)) (M_allRails rails)) from hM).trans h9M
  refine lv_istore_n (lv' := [(3, .int r1), (0, .ref pl), (1, .int s0), (2, .int r0)]) hx hb dX1_fewestThatDo_4 rfl hl (by decide) rfl (fun ls hl => ?_)
  refine lv_iconst (v := 1) hx hb dX1_fewestThatDo_5 (by decide) ?_
  refine lv_istore (lv' := [(4, .int 1), (3, .int r1), (0, .ref pl), (1, .int s0), (2, .int r0)]) hx hb dX1_fewestThatDo_6 hl (by decide) rfl (fun ls hl => ?_)
  have hl51 : ∀ (nhl51 : Nat) (x49 : Int32) (x50 : Int32), ((256 - x49.toInt).toNat < nhl51) → (hx49 : 1 ≤ x49.toInt ∧ x49.toInt ≤ 256) → (hx50 : 0 ≤ x50.toInt ∧ x50.toInt ≤ 255) → (hM : M_fewestDo r0 rails s0 pt = (K_fewestDo_L3 r0 rails s0 pt nhl51 x49 x50)) → ∀ (H : Heap) (locs : List Loc), va_P D vwCl [oAJ pta cJ 64 pt, oX3 pl pna pta rails limit retry behind] H → va_D A [oAJ pta cJ 64 pt, oX3 pl pna pta rails limit retry behind] → va_S A s.heap H locs → ∀ (ls : Array Slot), lv_has ls 6 [(4, .int x49), (3, .int x50), (0, .ref pl), (1, .int s0), (2, .int r0)] → W p l e rm_fewestDo s m [Value.ref pl, Value.int s0, Value.int r0].toArray below meth c H locs 0 0 (MQ below ((Q_fewestDo D cI cJ cZ cG cH pl s0 r0 pna pta rails limit retry behind pt) A) [Value.ref pl, Value.int s0, Value.int r0].toArray s 0 0 A) (F0 m 8 ls []) := by
    intro nhl51
    induction nhl51 with
    | zero =>
      intro x49 x50 hmhl51
      exact absurd hmhl51 (Nat.not_lt_zero _)
    | succ nhl51 ihhl51 =>
      intro x49 x50 hmhl51 hx49 hx50 hM H locs hP hD hS ls hl
      have hM : M_fewestDo r0 rails s0 pt = (K_fewestDo_3 x49 x50 (K_fewestDo_L3 r0 rails s0 pt nhl51) r0 rails s0 pt) := hM
      refine lv_iload hx hb dX1_fewestThatDo_8 (lv_at hl 0 rfl) ?_
      refine lv_aload_n hx hb dX1_fewestThatDo_10 rfl (lv_at hl 2 rfl) ?_
      obtain ⟨hPc, hDc, hFc, hC9⟩ := xpk (wc := W_allRails cI cJ cZ cG cH pl pna pta rails limit retry behind) hP hD hS hA [1] (by decide +kernel) rfl
      refine va_calli (va_runV (As := []) (rest := [.int x49]) ⟨hx, hb, hml, hown, hts⟩ (c_allRails l D cI cJ cZ cG cH H.size pl pna pta rails limit retry behind (xrng rfl (by omega) (by omega))) (cwV 0 hts (xGV tbC wd619 wd420 wd421 wd59 wd1012) rfl rfl rfl (by decide +kernel) ⟨Nat.le_of_ble_eq_true rfl, Nat.le_of_ble_eq_true rfl⟩) ⟨xPc_blind, va_recv hK hPc (ci := 2) (q0 := 0) rfl rfl, xPc_pre hPc hK hDc⟩ rfl rfl hl.1 rfl (lv_room (Nat.le_of_ble_eq_true rfl)) dX1_fewestThatDo_11 ⟨Nat.le_of_ble_eq_true rfl, Nat.le_of_ble_eq_true rfl⟩) hS (fun q _ h => hFc q h) hFc (fun r52 u t H1 locs ht hvm hw52 hB hz1 hk1 hS => ?_)
      obtain ⟨hru9, hw52⟩ := hw52
      subst hru9
      obtain ⟨hf52_0, hP1, hK1, hD1⟩ := hB
      rw [ht] at hP1
      obtain ⟨hP, hD⟩ : xPD D A [oAJ pta cJ 64 pt, oX3 pl pna pta rails limit retry behind] H1 := xjn 1 hP hD [1] [0] hC9 rfl (by decide +kernel) (by decide +kernel) hk1 hFc hP1 hD1
      generalize H1 = H at hP hS ⊢
      have hf52_0 : M_allRails rails = (r52) := hf52_0
      have hw52 : 0 ≤ r52.toInt ∧ r52.toInt ≤ 255 := hw52
      have h9M := congrArg (fun t9 => (K_fewestDo_4 t9 x49 x50 (K_fewestDo_L3 r0 rails s0 pt nhl51) r0 rails s0 pt)) hf52_0
      have hM : M_fewestDo r0 rails s0 pt = (K_fewestDo_4 r52 x49 x50 (K_fewestDo_L3 r0 rails s0 pt nhl51) r0 rails s0 pt) := (show M_fewestDo r0 rails s0 pt = ((fun t9 => (K_fewestDo_4 t9 x49 x50 (K_fewestDo_L3 r0 rails s0 pt nhl51) r0 rails s0 pt)) (M_allRails rails)) from hM).trans h9M
      refine lv_icmp_gt (tgt := 62) hx hb dX1_fewestThatDo_14 (by decide) (fun c_53 => ?_) (fun c_53 => ?_)
      · skip
        have i_53 : r52.toInt < x49.toInt := (ilt rfl rfl).mp c_53
        have hM : M_fewestDo r0 rails s0 pt = (K_fewestDo_5 x50) := (show M_fewestDo r0 rails s0 pt = (if r52.toInt < x49.toInt then (K_fewestDo_5 x50) else (K_fewestDo_6 (K_fewestDo_L3 r0 rails s0 pt nhl51) x49 x50 r0 rails s0 pt)) from hM).trans (if_pos i_53)
        refine lv_iload_n hx hb dX1_fewestThatDo_62 rfl (lv_at hl 1 rfl) ?_
        refine W.widen (k := 0) (n := 0) (by decide) (by decide) ?_
        exact W.iret (v := x50) hx hb hr (fun t ht hW => ⟨⟨x50, x50, rfl, ⟨rfl, (xrng rfl (by omega) (by omega))⟩, ⟨hM, xB_of9 ht hW hP hK hD [1, 0] (by decide +kernel) rfl⟩⟩, hS.F ht⟩) hS.2.2 dX1_fewestThatDo_63
      · skip
        have i_53 : ¬ (r52.toInt < x49.toInt) := fun h9 => c_53 ((ilt rfl rfl).mpr h9)
        have hM : M_fewestDo r0 rails s0 pt = (K_fewestDo_6 (K_fewestDo_L3 r0 rails s0 pt nhl51) x49 x50 r0 rails s0 pt) := (show M_fewestDo r0 rails s0 pt = (if r52.toInt < x49.toInt then (K_fewestDo_5 x50) else (K_fewestDo_6 (K_fewestDo_L3 r0 rails s0 pt nhl51) x49 x50 r0 rails s0 pt)) from hM).trans (if_neg i_53)
        refine lv_iload hx hb dX1_fewestThatDo_17 (lv_at hl 0 rfl) ?_
        obtain ⟨hPc, hDc, hFc, hC9⟩ := xpk (wc := W_bitCount cI cJ cZ cG cH x49) hP hD hS hA [] (by decide +kernel) rfl
        refine va_calli (va_runS (As := [.int x49]) (rest := []) ⟨hx, hb, hml, hown, hts⟩ (c_bitCount l D cI cJ cZ cG cH H.size x49) (va_cwS 1 hts (xGS tbC wd620 wd621 wd69 wd1073) rfl rfl rfl (by decide +kernel) ⟨Nat.le_of_ble_eq_true rfl, Nat.le_of_ble_eq_true rfl⟩) ⟨xPc_blind, xPc_pre hPc hK hDc⟩ rfl rfl hl.1 rfl (lv_room (Nat.le_of_ble_eq_true rfl)) dX1_fewestThatDo_19 ⟨Nat.le_of_ble_eq_true rfl, Nat.le_of_ble_eq_true rfl⟩) hS (fun q _ h => hFc q h) hFc (fun r54 u t H1 locs ht hvm hw54 hB hz1 hk1 hS => ?_)
        obtain ⟨hru9, hw54⟩ := hw54
        subst hru9
        obtain ⟨hf54_0, hP1, hK1, hD1⟩ := hB
        rw [ht] at hP1
        obtain ⟨hP, hD⟩ : xPD D A [oAJ pta cJ 64 pt, oX3 pl pna pta rails limit retry behind] H1 := xjn 2 hP hD [] [0, 1] hC9 rfl (by decide +kernel) (by decide +kernel) hk1 hFc hP1 hD1
        generalize H1 = H at hP hS ⊢
        have hf54_0 : M_bitCount x49 = (r54) := hf54_0
        have hw54 : 0 ≤ r54.toInt ∧ r54.toInt ≤ 63 := hw54
        have h9M := congrArg (fun t9 => (K_fewestDo_7 t9 (K_fewestDo_L3 r0 rails s0 pt nhl51) x49 x50 r0 rails s0 pt)) hf54_0
        have hM : M_fewestDo r0 rails s0 pt = (K_fewestDo_7 r54 (K_fewestDo_L3 r0 rails s0 pt nhl51) x49 x50 r0 rails s0 pt) := (show M_fewestDo r0 rails s0 pt = ((fun t9 => (K_fewestDo_7 t9 (K_fewestDo_L3 r0 rails s0 pt nhl51) x49 x50 r0 rails s0 pt)) (M_bitCount x49)) from hM).trans h9M
        refine lv_iload_n hx hb dX1_fewestThatDo_22 rfl (lv_at hl 1 rfl) ?_
        obtain ⟨hPc, hDc, hFc, hC9⟩ := xpk (wc := W_bitCount cI cJ cZ cG cH x50) hP hD hS hA [] (by decide +kernel) rfl
        refine va_calli (va_runS (As := [.int x50]) (rest := [.int r54]) ⟨hx, hb, hml, hown, hts⟩ (c_bitCount l D cI cJ cZ cG cH H.size x50) (va_cwS 1 hts (xGS tbC wd620 wd621 wd69 wd1073) rfl rfl rfl (by decide +kernel) ⟨Nat.le_of_ble_eq_true rfl, Nat.le_of_ble_eq_true rfl⟩) ⟨xPc_blind, xPc_pre hPc hK hDc⟩ rfl rfl hl.1 rfl (lv_room (Nat.le_of_ble_eq_true rfl)) dX1_fewestThatDo_23 ⟨Nat.le_of_ble_eq_true rfl, Nat.le_of_ble_eq_true rfl⟩) hS (fun q _ h => hFc q h) hFc (fun r55 u t H1 locs ht hvm hw55 hB hz1 hk1 hS => ?_)
        obtain ⟨hru9, hw55⟩ := hw55
        subst hru9
        obtain ⟨hf55_0, hP1, hK1, hD1⟩ := hB
        rw [ht] at hP1
        obtain ⟨hP, hD⟩ : xPD D A [oAJ pta cJ 64 pt, oX3 pl pna pta rails limit retry behind] H1 := xjn 2 hP hD [] [0, 1] hC9 rfl (by decide +kernel) (by decide +kernel) hk1 hFc hP1 hD1
        generalize H1 = H at hP hS ⊢
        have hf55_0 : M_bitCount x50 = (r55) := hf55_0
        have hw55 : 0 ≤ r55.toInt ∧ r55.toInt ≤ 63 := hw55
        have h9M := congrArg (fun t9 => (K_fewestDo_8 t9 r54 (K_fewestDo_L3 r0 rails s0 pt nhl51) x49 x50 r0 rails s0 pt)) hf55_0
        have hM : M_fewestDo r0 rails s0 pt = (K_fewestDo_8 r55 r54 (K_fewestDo_L3 r0 rails s0 pt nhl51) x49 x50 r0 rails s0 pt) := (show M_fewestDo r0 rails s0 pt = ((fun t9 => (K_fewestDo_8 t9 r54 (K_fewestDo_L3 r0 rails s0 pt nhl51) x49 x50 r0 rails s0 pt)) (M_bitCount x50)) from hM).trans h9M
        refine lv_icmp_ge (tgt := 33) hx hb dX1_fewestThatDo_26 (by decide) (fun c_56 => ?_) (fun c_56 => ?_)
        · skip
          have i_56 : r55.toInt ≤ r54.toInt := (ile rfl rfl).mp c_56
          have hM : M_fewestDo r0 rails s0 pt = (K_fewestDo_9 (K_fewestDo_L3 r0 rails s0 pt nhl51) x49 x50) := (show M_fewestDo r0 rails s0 pt = (if r55.toInt ≤ r54.toInt then (K_fewestDo_9 (K_fewestDo_L3 r0 rails s0 pt nhl51) x49 x50) else (K_fewestDo_10 (K_fewestDo_L3 r0 rails s0 pt nhl51) x49 x50 r0 rails s0 pt)) from hM).trans (if_pos i_56)
          refine lv_iconst (v := 0) hx hb dX1_fewestThatDo_33 (by decide) ?_
          refine lv_istore (lv' := [(5, .int 0), (4, .int x49), (3, .int x50), (0, .ref pl), (1, .int s0), (2, .int r0)]) hx hb dX1_fewestThatDo_34 hl (by decide) rfl (fun ls hl => ?_)
          refine lv_iload hx hb dX1_fewestThatDo_36 (lv_at hl 0 rfl) ?_
          refine lv_if_eq (tgt := 56) hx hb dX1_fewestThatDo_38 (by decide) (fun _ => ?_) (fun c9 => absurd c9 (by decide))
          obtain ⟨x57, ex57⟩ : ∃ y : Int32, y = x49 + 1 := ⟨_, rfl⟩
          have tx57 : x57.toInt = (x49.toInt + 1) := (congrArg Int32.toInt ex57).trans (xadd rfl (by decide) (by omega) (by omega))
          refine lv_iinc (v := x57) (lv' := [(4, .int x57), (5, .int 0), (3, .int x50), (0, .ref pl), (1, .int s0), (2, .int r0)]) hx hb dX1_fewestThatDo_56 hl (k := 1) rfl (by rw [ex57]; rfl) (by decide) rfl (fun ls hl => ?_)
          refine lv_goto (tgt := 8) hx hb dX1_fewestThatDo_59 (by decide) ?_
          exact ihhl51 x57 x50 (by omega) (xrng tx57 (by omega) (by omega)) (xrng rfl (by omega) (by omega)) (by rw [ex57]; exact hM) _ _ hP hD hS ls (lv_sub hl [0, 2, 3, 4, 5] rfl)
        · skip
          have i_56 : ¬ (r55.toInt ≤ r54.toInt) := fun h9 => c_56 ((ile rfl rfl).mpr h9)
          have hM : M_fewestDo r0 rails s0 pt = (K_fewestDo_10 (K_fewestDo_L3 r0 rails s0 pt nhl51) x49 x50 r0 rails s0 pt) := (show M_fewestDo r0 rails s0 pt = (if r55.toInt ≤ r54.toInt then (K_fewestDo_9 (K_fewestDo_L3 r0 rails s0 pt nhl51) x49 x50) else (K_fewestDo_10 (K_fewestDo_L3 r0 rails s0 pt nhl51) x49 x50 r0 rails s0 pt)) from hM).trans (if_neg i_56)
          refine lv_iconst (v := 1) hx hb dX1_fewestThatDo_29 (by decide) ?_
          refine lv_goto (tgt := 34) hx hb dX1_fewestThatDo_30 (by decide) ?_
          refine lv_istore (lv' := [(5, .int 1), (4, .int x49), (3, .int x50), (0, .ref pl), (1, .int s0), (2, .int r0)]) hx hb dX1_fewestThatDo_34 hl (by decide) rfl (fun ls hl => ?_)
          refine lv_iload hx hb dX1_fewestThatDo_36 (lv_at hl 0 rfl) ?_
          refine lv_if_eq (tgt := 56) hx hb dX1_fewestThatDo_38 (by decide) (fun c9 => absurd c9 (by decide)) (fun _ => ?_)
          refine lv_aload_n hx hb dX1_fewestThatDo_41 rfl (lv_at hl 3 rfl) ?_
          refine lv_iload_n hx hb dX1_fewestThatDo_42 rfl (lv_at hl 4 rfl) ?_
          refine lv_iload hx hb dX1_fewestThatDo_43 (lv_at hl 1 rfl) ?_
          refine lv_iand hx hb dX1_fewestThatDo_45 ?_
          refine lv_topi (fun v58 ev58 => ?_)
          have rv58 : 0 ≤ v58.toInt ∧ v58.toInt ≤ x49.toInt := xandL ev58 (show (x49 : Int32).toInt = x49.toInt from rfl) (by omega)
          refine lv_iload_n hx hb dX1_fewestThatDo_46 rfl (lv_at hl 5 rfl) ?_
          obtain ⟨hPc, hDc, hFc, hC9⟩ := xpk (wc := W_dIsUp cI cJ cZ cG cH pl v58 r0 pna pta rails limit retry behind pt) hP hD hS hA [1, 0] (by decide +kernel) rfl
          refine va_calli (va_runS (As := [.ref pl, .int v58, .int r0]) (rest := []) ⟨hx, hb, hml, hown, hts⟩ (c_dIsUp l D cI cJ cZ cG cH H.size pl v58 r0 pna pta rails limit retry behind pt (xrng rfl (by omega) (by omega))) (va_cwS 3 hts (xGS tbC wd625 wd626 wd68 wd1074) rfl rfl rfl (by decide +kernel) ⟨Nat.le_of_ble_eq_true rfl, Nat.le_of_ble_eq_true rfl⟩) ⟨xPc_blind, xPc_pre hPc hK hDc⟩ rfl rfl hl.1 rfl (lv_room (Nat.le_of_ble_eq_true rfl)) dX1_fewestThatDo_47 ⟨Nat.le_of_ble_eq_true rfl, Nat.le_of_ble_eq_true rfl⟩) hS (fun q _ h => hFc q h) hFc (fun r59 u t H1 locs ht hvm hw59 hB hz1 hk1 hS => ?_)
          obtain ⟨hru9, hw59⟩ := hw59
          subst hru9
          obtain ⟨hf59_0, hP1, hK1, hD1⟩ := hB
          rw [ht] at hP1
          obtain ⟨hP, hD⟩ : xPD D A [oX3 pl pna pta rails limit retry behind, oAJ pta cJ 64 pt] H1 := xjn 0 hP hD [1, 0] [] hC9 rfl (by decide +kernel) (by decide +kernel) hk1 hFc hP1 hD1
          generalize H1 = H at hP hS ⊢
          have hf59_0 : M_dIsUp r0 rails v58 pt = (r59) := hf59_0
          have hw59 : 0 ≤ r59.toInt ∧ r59.toInt ≤ 1 := hw59
          have h9M := congrArg (fun t9 => (K_fewestDo_11 t9 (K_fewestDo_L3 r0 rails s0 pt nhl51) x49 x50)) hf59_0
          have hM : M_fewestDo r0 rails s0 pt = (K_fewestDo_11 r59 (K_fewestDo_L3 r0 rails s0 pt nhl51) x49 x50) := (show M_fewestDo r0 rails s0 pt = ((fun t9 => (K_fewestDo_11 t9 (K_fewestDo_L3 r0 rails s0 pt nhl51) x49 x50)) (M_dIsUp r0 rails v58 pt)) from (by rw [ev58]; exact hM)).trans h9M
          refine lv_if_eq (tgt := 56) hx hb dX1_fewestThatDo_50 (by decide) (fun c_60 => ?_) (fun c_60 => ?_)
          · skip
            have i_60 : r59.toInt = 0 := (ieq rfl (by decide)).mp c_60
            have hM : M_fewestDo r0 rails s0 pt = (K_fewestDo_12 (K_fewestDo_L3 r0 rails s0 pt nhl51) x49 x50) := (show M_fewestDo r0 rails s0 pt = (if r59.toInt = 0 then (K_fewestDo_12 (K_fewestDo_L3 r0 rails s0 pt nhl51) x49 x50) else (K_fewestDo_13 (K_fewestDo_L3 r0 rails s0 pt nhl51) x49)) from hM).trans (if_pos i_60)
            obtain ⟨x61, ex61⟩ : ∃ y : Int32, y = x49 + 1 := ⟨_, rfl⟩
            have tx61 : x61.toInt = (x49.toInt + 1) := (congrArg Int32.toInt ex61).trans (xadd rfl (by decide) (by omega) (by omega))
            refine lv_iinc (v := x61) (lv' := [(4, .int x61), (5, .int 1), (3, .int x50), (0, .ref pl), (1, .int s0), (2, .int r0)]) hx hb dX1_fewestThatDo_56 hl (k := 1) rfl (by rw [ex61]; rfl) (by decide) rfl (fun ls hl => ?_)
            refine lv_goto (tgt := 8) hx hb dX1_fewestThatDo_59 (by decide) ?_
            obtain ⟨hP, hD⟩ := xsb (ws' := [oAJ pta cJ 64 pt, oX3 pl pna pta rails limit retry behind]) hP hD [1, 0] (by decide +kernel) rfl
            exact ihhl51 x61 x50 (by omega) (xrng tx61 (by omega) (by omega)) (xrng rfl (by omega) (by omega)) (by rw [ex61]; exact hM) _ _ hP hD hS ls (lv_sub hl [0, 2, 3, 4, 5] rfl)
          · skip
            have i_60 : ¬ (r59.toInt = 0) := fun h9 => c_60 ((ieq rfl (by decide)).mpr h9)
            have hM : M_fewestDo r0 rails s0 pt = (K_fewestDo_13 (K_fewestDo_L3 r0 rails s0 pt nhl51) x49) := (show M_fewestDo r0 rails s0 pt = (if r59.toInt = 0 then (K_fewestDo_12 (K_fewestDo_L3 r0 rails s0 pt nhl51) x49 x50) else (K_fewestDo_13 (K_fewestDo_L3 r0 rails s0 pt nhl51) x49)) from hM).trans (if_neg i_60)
            refine lv_iload hx hb dX1_fewestThatDo_53 (lv_at hl 1 rfl) ?_
            refine lv_istore_n (lv' := [(3, .int x49), (5, .int 1), (4, .int x49), (0, .ref pl), (1, .int s0), (2, .int r0)]) hx hb dX1_fewestThatDo_55 rfl hl (by decide) rfl (fun ls hl => ?_)
            obtain ⟨x62, ex62⟩ : ∃ y : Int32, y = x49 + 1 := ⟨_, rfl⟩
            have tx62 : x62.toInt = (x49.toInt + 1) := (congrArg Int32.toInt ex62).trans (xadd rfl (by decide) (by omega) (by omega))
            refine lv_iinc (v := x62) (lv' := [(4, .int x62), (3, .int x49), (5, .int 1), (0, .ref pl), (1, .int s0), (2, .int r0)]) hx hb dX1_fewestThatDo_56 hl (k := 2) rfl (by rw [ex62]; rfl) (by decide) rfl (fun ls hl => ?_)
            refine lv_goto (tgt := 8) hx hb dX1_fewestThatDo_59 (by decide) ?_
            obtain ⟨hP, hD⟩ := xsb (ws' := [oAJ pta cJ 64 pt, oX3 pl pna pta rails limit retry behind]) hP hD [1, 0] (by decide +kernel) rfl
            exact ihhl51 x62 x49 (by omega) (xrng tx62 (by omega) (by omega)) (xrng rfl (by omega) (by omega)) (by rw [ex62]; exact hM) _ _ hP hD hS ls (lv_sub hl [0, 1, 3, 4, 5] rfl)
  exact hl51 100000 1 r1 (by have z9_0 : (1 : Int32).toInt = 1 := (by decide); omega) ⟨by decide, by decide⟩ (xrng rfl (by omega) (by omega)) hM _ _ hP hD hS ls (lv_sub hl [0, 1, 2, 3, 4] rfl)
def K_never_3 (x34 : Int32) : (Int32) := (x34)
def K_never_7 (rec_2 : (Int32) → (Int32) → ((Int32))) (x33 : Int32) (x34 : Int32) : (Int32) := (rec_2 (x33 + 1) (x34 ||| ((1 : Int32) <<< (x33 &&& 31))))
def K_never_6 (rec_2 : (Int32) → (Int32) → ((Int32))) (x33 : Int32) (x34 : Int32) : (Int32) := (rec_2 (x33 + 1) x34)
def K_never_5 (r40 : Int32) (rec_2 : (Int32) → (Int32) → ((Int32))) (x33 : Int32) (x34 : Int32) : (Int32) := (if r40.toInt = 0 then (K_never_7 rec_2 x33 x34) else (K_never_6 rec_2 x33 x34))
def K_never_4 (rec_2 : (Int32) → (Int32) → ((Int32))) (x33 : Int32) (x34 : Int32) (r0 : Int32) (rails : Int32) (s0 : Int32) (pt : Nat → Int64) : (Int32) := ((fun t9 => (K_never_5 t9 rec_2 x33 x34)) (M_dIsUp r0 rails (s0 &&& (((1 : Int32) <<< (x33 &&& 31)) ^^^ (-1 : Int32))) pt))
def K_never_2 (rails : Int32) (x33 : Int32) (x34 : Int32) (rec_2 : (Int32) → (Int32) → ((Int32))) (r0 : Int32) (s0 : Int32) (pt : Nat → Int64) : (Int32) := (if rails.toInt ≤ x33.toInt then (K_never_3 x34) else (K_never_4 rec_2 x33 x34 r0 rails s0 pt))
def K_never_L2 (rails : Int32) (r0 : Int32) (s0 : Int32) (pt : Nat → Int64) : Nat → (Int32) → (Int32) → (Int32)
  | 0, _, _ => (0)
  | n9 + 1, x33, x34 => (K_never_2 rails x33 x34 (K_never_L2 rails r0 s0 pt n9) r0 s0 pt)
def K_never_1 (rails : Int32) (r0 : Int32) (s0 : Int32) (pt : Nat → Int64) : (Int32) := (K_never_L2 rails r0 s0 pt 100000 (0 : Int32) (0 : Int32))
def M_never (rails : Int32) (r0 : Int32) (s0 : Int32) (pt : Nat → Int64) : (Int32) := (K_never_1 rails r0 s0 pt)
abbrev W_never (cI cJ cZ cG cH : ClassId) (pl : Nat) (s0 : Int32) (r0 : Int32) (pna : Nat) (pta : Nat) (rails : Int32) (limit : Int32) (retry : Int32) (behind : Int32) (pt : Nat → Int64) : va_W := [oX3 pl pna pta rails limit retry behind, oAJ pta cJ 64 pt]
abbrev Q_never (D : va_G) (cI cJ cZ cG cH : ClassId) (pl : Nat) (s0 : Int32) (r0 : Int32) (pna : Nat) (pta : Nat) (rails : Int32) (limit : Int32) (retry : Int32) (behind : Int32) (pt : Nat → Int64) (A : Nat → Prop) : Array Value → State → Outcome → State → Prop := va_Qi (fun (r : Int32) (u9 : Int32) => r = u9 ∧ (0 ≤ r.toInt ∧ r.toInt ≤ 255)) (fun u9 t => (M_never rails r0 s0 pt = (u9)) ∧ xB D (tyL cI cJ cZ cG cH) [oX3 pl pna pta rails limit retry behind, oAJ pta cJ 64 pt] A t) A
abbrev rm_never : Room := { frames := 3, cells := 0, slots := 0, locals := 69 }
set_option maxRecDepth 100000 in
set_option maxHeartbeats 40000000 in
theorem c_never (l : Launch) (D : va_G) (cI cJ cZ cG cH : ClassId) (sz : Nat) (pl : Nat) (s0 : Int32) (r0 : Int32) (pna : Nat) (pta : Nat) (rails : Int32) (limit : Int32) (retry : Int32) (behind : Int32) (pt : Nat → Int64) (h_rails : 0 ≤ rails.toInt ∧ rails.toInt ≤ 8) : Met l yX1_neverWithout (wt yX1_neverWithout cX1_neverWithout 5 (some .int)) rm_never (xPc [.ref pl, .int s0, .int r0] D (tyL cI cJ cZ cG cH) (W_never cI cJ cZ cG cH pl s0 r0 pna pta rails limit retry behind pt) sz) (Q_never D cI cJ cZ cG cH pl s0 r0 pna pta rails limit retry behind pt (va_A (W_never cI cJ cZ cG cH pl s0 r0 pna pta rails limit retry behind pt) sz)) 0 0 (va_A (W_never cI cJ cZ cG cH pl s0 r0 pna pta rails limit retry behind pt) sz) := by
  refine xMet (cc := cX1_neverWithout) (maxL := 5) (ret := (some .int)) (Qf := Q_never D cI cJ cZ cG cH pl s0 r0 pna pta rails limit retry behind pt) (by decide) rfl (Nat.le_of_ble_eq_true rfl) ?_
  intro p e s m below meth c ls A hx hb hr hml hts hown hlocks hnm hsz hP hK hD hA hS hl
  have hown : s.vm.findClass RX1 = some m.cls := hown
  have hP : va_P D vwCl [oX3 pl pna pta rails limit retry behind, oAJ pta cJ 64 pt] s.heap := hP
  have hD : va_D A [oX3 pl pna pta rails limit retry behind, oAJ pta cJ 64 pt] := hD
  have hl : lv_has ls 5 [(0, .ref pl), (1, .int s0), (2, .int r0)] := hl
  have hM : M_never rails r0 s0 pt = (K_never_1 rails r0 s0 pt) := rfl
  refine lv_iconst (v := 0) hx hb dX1_neverWithout_0 (by decide) ?_
  refine lv_istore_n (lv' := [(3, .int 0), (0, .ref pl), (1, .int s0), (2, .int r0)]) hx hb dX1_neverWithout_1 rfl hl (by decide) rfl (fun ls hl => ?_)
  refine lv_iconst (v := 0) hx hb dX1_neverWithout_2 (by decide) ?_
  refine lv_istore (lv' := [(4, .int 0), (3, .int 0), (0, .ref pl), (1, .int s0), (2, .int r0)]) hx hb dX1_neverWithout_3 hl (by decide) rfl (fun ls hl => ?_)
  have hl35 : ∀ (nhl35 : Nat) (x33 : Int32) (x34 : Int32), ((8 - x33.toInt).toNat < nhl35) → (hx33 : 0 ≤ x33.toInt ∧ x33.toInt ≤ 8) → (hx34 : 0 ≤ x34.toInt ∧ x34.toInt ≤ 255) → (hM : M_never rails r0 s0 pt = (K_never_L2 rails r0 s0 pt nhl35 x33 x34)) → ∀ (H : Heap) (locs : List Loc), va_P D vwCl [oX3 pl pna pta rails limit retry behind, oAJ pta cJ 64 pt] H → va_D A [oX3 pl pna pta rails limit retry behind, oAJ pta cJ 64 pt] → va_S A s.heap H locs → ∀ (ls : Array Slot), lv_has ls 5 [(4, .int x33), (3, .int x34), (0, .ref pl), (1, .int s0), (2, .int r0)] → W p l e rm_never s m [Value.ref pl, Value.int s0, Value.int r0].toArray below meth c H locs 0 0 (MQ below ((Q_never D cI cJ cZ cG cH pl s0 r0 pna pta rails limit retry behind pt) A) [Value.ref pl, Value.int s0, Value.int r0].toArray s 0 0 A) (F0 m 5 ls []) := by
    intro nhl35
    induction nhl35 with
    | zero =>
      intro x33 x34 hmhl35
      exact absurd hmhl35 (Nat.not_lt_zero _)
    | succ nhl35 ihhl35 =>
      intro x33 x34 hmhl35 hx33 hx34 hM H locs hP hD hS ls hl
      have hM : M_never rails r0 s0 pt = (K_never_2 rails x33 x34 (K_never_L2 rails r0 s0 pt nhl35) r0 s0 pt) := hM
      refine lv_iload hx hb dX1_neverWithout_5 (lv_at hl 0 rfl) ?_
      refine lv_aload_n hx hb dX1_neverWithout_7 rfl (lv_at hl 2 rfl) ?_
      refine va_get (D := D) (ci := 2) (v := .int rails) (C := RX3) (T := TX3) (N := 6) hx hb hts (fun w h => tbC w (tbfX3 w h)) hown hK hP 0 rfl rfl 2 (by decide) (hts (.fieldLink RX1 30 "PowerRails$Plan" "rails" "I") (tbC _ wd207)) (fun _ h9 => h9) rfl dX1_neverWithout_8 ?_
      refine lv_icmp_ge (tgt := 43) hx hb dX1_neverWithout_11 (by decide) (fun c_36 => ?_) (fun c_36 => ?_)
      · skip
        have i_36 : rails.toInt ≤ x33.toInt := (ile rfl rfl).mp c_36
        have hM : M_never rails r0 s0 pt = (K_never_3 x34) := (show M_never rails r0 s0 pt = (if rails.toInt ≤ x33.toInt then (K_never_3 x34) else (K_never_4 (K_never_L2 rails r0 s0 pt nhl35) x33 x34 r0 rails s0 pt)) from hM).trans (if_pos i_36)
        refine lv_iload_n hx hb dX1_neverWithout_43 rfl (lv_at hl 1 rfl) ?_
        refine W.widen (k := 0) (n := 0) (by decide) (by decide) ?_
        exact W.iret (v := x34) hx hb hr (fun t ht hW => ⟨⟨x34, x34, rfl, ⟨rfl, (xrng rfl (by omega) (by omega))⟩, ⟨hM, xB_of9 ht hW hP hK hD [0, 1] (by decide +kernel) rfl⟩⟩, hS.F ht⟩) hS.2.2 dX1_neverWithout_44
      · skip
        have i_36 : ¬ (rails.toInt ≤ x33.toInt) := fun h9 => c_36 ((ile rfl rfl).mpr h9)
        have hM : M_never rails r0 s0 pt = (K_never_4 (K_never_L2 rails r0 s0 pt nhl35) x33 x34 r0 rails s0 pt) := (show M_never rails r0 s0 pt = (if rails.toInt ≤ x33.toInt then (K_never_3 x34) else (K_never_4 (K_never_L2 rails r0 s0 pt nhl35) x33 x34 r0 rails s0 pt)) from hM).trans (if_neg i_36)
        refine lv_aload_n hx hb dX1_neverWithout_14 rfl (lv_at hl 2 rfl) ?_
        refine lv_iload_n hx hb dX1_neverWithout_15 rfl (lv_at hl 3 rfl) ?_
        refine lv_iconst (v := 1) hx hb dX1_neverWithout_16 (by decide) ?_
        refine lv_iload hx hb dX1_neverWithout_17 (lv_at hl 0 rfl) ?_
        refine lv_ishl hx hb dX1_neverWithout_19 ?_
        refine lv_topi (fun v37 ev37 => ?_)
        have rv37 : 1 ≤ v37.toInt ∧ v37.toInt ≤ 128 := xshl1 7 ev37 (show (x33 : Int32).toInt = x33.toInt from rfl) (by omega) (by omega) (by decide)
        refine lv_iconst (v := (-1)) hx hb dX1_neverWithout_20 (by decide) ?_
        refine lv_ixor hx hb dX1_neverWithout_21 ?_
        refine lv_topi (fun v38 ev38 => ?_)
        refine lv_iand hx hb dX1_neverWithout_22 ?_
        refine lv_topi (fun v39 ev39 => ?_)
        refine lv_iload_n hx hb dX1_neverWithout_23 rfl (lv_at hl 4 rfl) ?_
        obtain ⟨hPc, hDc, hFc, hC9⟩ := xpk (wc := W_dIsUp cI cJ cZ cG cH pl v39 r0 pna pta rails limit retry behind pt) hP hD hS hA [0, 1] (by decide +kernel) rfl
        refine va_calli (va_runS (As := [.ref pl, .int v39, .int r0]) (rest := []) ⟨hx, hb, hml, hown, hts⟩ (c_dIsUp l D cI cJ cZ cG cH H.size pl v39 r0 pna pta rails limit retry behind pt (xrng rfl (by omega) (by omega))) (va_cwS 3 hts (xGS tbC wd625 wd626 wd68 wd1074) rfl rfl rfl (by decide +kernel) ⟨Nat.le_of_ble_eq_true rfl, Nat.le_of_ble_eq_true rfl⟩) ⟨xPc_blind, xPc_pre hPc hK hDc⟩ rfl rfl hl.1 rfl (lv_room (Nat.le_of_ble_eq_true rfl)) dX1_neverWithout_24 ⟨Nat.le_of_ble_eq_true rfl, Nat.le_of_ble_eq_true rfl⟩) hS (fun q _ h => hFc q h) hFc (fun r40 u t H1 locs ht hvm hw40 hB hz1 hk1 hS => ?_)
        obtain ⟨hru9, hw40⟩ := hw40
        subst hru9
        obtain ⟨hf40_0, hP1, hK1, hD1⟩ := hB
        rw [ht] at hP1
        obtain ⟨hP, hD⟩ : xPD D A [oX3 pl pna pta rails limit retry behind, oAJ pta cJ 64 pt] H1 := xjn 0 hP hD [0, 1] [] hC9 rfl (by decide +kernel) (by decide +kernel) hk1 hFc hP1 hD1
        generalize H1 = H at hP hS ⊢
        have hf40_0 : M_dIsUp r0 rails v39 pt = (r40) := hf40_0
        have hw40 : 0 ≤ r40.toInt ∧ r40.toInt ≤ 1 := hw40
        have h9M := congrArg (fun t9 => (K_never_5 t9 (K_never_L2 rails r0 s0 pt nhl35) x33 x34)) hf40_0
        have hM : M_never rails r0 s0 pt = (K_never_5 r40 (K_never_L2 rails r0 s0 pt nhl35) x33 x34) := (show M_never rails r0 s0 pt = ((fun t9 => (K_never_5 t9 (K_never_L2 rails r0 s0 pt nhl35) x33 x34)) (M_dIsUp r0 rails v39 pt)) from (by rw [ev39, ev38, ev37]; exact hM)).trans h9M
        refine lv_if_ne (tgt := 37) hx hb dX1_neverWithout_27 (by decide) (fun c_41 => ?_) (fun c_41 => ?_)
        · skip
          have i_41 : ¬ (r40.toInt = 0) := fun h9 => c_41 ((ieq rfl (by decide)).mpr h9)
          have hM : M_never rails r0 s0 pt = (K_never_6 (K_never_L2 rails r0 s0 pt nhl35) x33 x34) := (show M_never rails r0 s0 pt = (if r40.toInt = 0 then (K_never_7 (K_never_L2 rails r0 s0 pt nhl35) x33 x34) else (K_never_6 (K_never_L2 rails r0 s0 pt nhl35) x33 x34)) from hM).trans (if_neg i_41)
          obtain ⟨x42, ex42⟩ : ∃ y : Int32, y = x33 + 1 := ⟨_, rfl⟩
          have tx42 : x42.toInt = (x33.toInt + 1) := (congrArg Int32.toInt ex42).trans (xadd rfl (by decide) (by omega) (by omega))
          refine lv_iinc (v := x42) (lv' := [(4, .int x42), (3, .int x34), (0, .ref pl), (1, .int s0), (2, .int r0)]) hx hb dX1_neverWithout_37 hl (k := 0) rfl (by rw [ex42]; rfl) (by decide) rfl (fun ls hl => ?_)
          refine lv_goto (tgt := 5) hx hb dX1_neverWithout_40 (by decide) ?_
          exact ihhl35 x42 x34 (by omega) (xrng tx42 (by omega) (by omega)) (xrng rfl (by omega) (by omega)) (by rw [ex42]; exact hM) _ _ hP hD hS ls (lv_sub hl [0, 1, 2, 3, 4] rfl)
        · skip
          have i_41 : r40.toInt = 0 := (ieq rfl (by decide)).mp c_41
          have hM : M_never rails r0 s0 pt = (K_never_7 (K_never_L2 rails r0 s0 pt nhl35) x33 x34) := (show M_never rails r0 s0 pt = (if r40.toInt = 0 then (K_never_7 (K_never_L2 rails r0 s0 pt nhl35) x33 x34) else (K_never_6 (K_never_L2 rails r0 s0 pt nhl35) x33 x34)) from hM).trans (if_pos i_41)
          refine lv_iload_n hx hb dX1_neverWithout_30 rfl (lv_at hl 1 rfl) ?_
          refine lv_iconst (v := 1) hx hb dX1_neverWithout_31 (by decide) ?_
          refine lv_iload hx hb dX1_neverWithout_32 (lv_at hl 0 rfl) ?_
          refine lv_ishl hx hb dX1_neverWithout_34 ?_
          refine lv_topi (fun v43 ev43 => ?_)
          have rv43 : 1 ≤ v43.toInt ∧ v43.toInt ≤ 128 := xshl1 7 ev43 (show (x33 : Int32).toInt = x33.toInt from rfl) (by omega) (by omega) (by decide)
          refine lv_ior hx hb dX1_neverWithout_35 ?_
          refine lv_topi (fun v44 ev44 => ?_)
          have rv44 : 0 ≤ v44.toInt ∧ v44.toInt ≤ 255 := xorL 8 ev44 (show (x34 : Int32).toInt = x34.toInt from rfl) (show (v43 : Int32).toInt = v43.toInt from rfl) (by decide) (by decide) (by omega) (by omega) (by omega) (by omega)
          refine lv_istore_n (lv' := [(3, .int v44), (4, .int x33), (0, .ref pl), (1, .int s0), (2, .int r0)]) hx hb dX1_neverWithout_36 rfl hl (by decide) rfl (fun ls hl => ?_)
          obtain ⟨x45, ex45⟩ : ∃ y : Int32, y = x33 + 1 := ⟨_, rfl⟩
          have tx45 : x45.toInt = (x33.toInt + 1) := (congrArg Int32.toInt ex45).trans (xadd rfl (by decide) (by omega) (by omega))
          refine lv_iinc (v := x45) (lv' := [(4, .int x45), (3, .int v44), (0, .ref pl), (1, .int s0), (2, .int r0)]) hx hb dX1_neverWithout_37 hl (k := 1) rfl (by rw [ex45]; rfl) (by decide) rfl (fun ls hl => ?_)
          refine lv_goto (tgt := 5) hx hb dX1_neverWithout_40 (by decide) ?_
          exact ihhl35 x45 v44 (by omega) (xrng tx45 (by omega) (by omega)) (xrng rfl (by omega) (by omega)) (by rw [ex45, ev44, ev43]; exact hM) _ _ hP hD hS ls (lv_sub hl [0, 1, 2, 3, 4] rfl)
  exact hl35 100000 0 0 (by have z9_0 : (0 : Int32).toInt = 0 := (by decide); omega) ⟨by decide, by decide⟩ ⟨by decide, by decide⟩ hM _ _ hP hD hS ls (lv_sub hl [0, 1, 2, 3, 4] rfl)
def K_explain_13 (x82 : Int32) : (Int32) := (x82)
def K_explain_17 (rec_12 : (Int32) → (Int32) → ((Int32))) (x81 : Int32) (x82 : Int32) : (Int32) := (rec_12 (x81 + 1) (x82 ||| ((1 : Int32) <<< (x81 &&& 31))))
def K_explain_16 (rec_12 : (Int32) → (Int32) → ((Int32))) (x81 : Int32) (x82 : Int32) : (Int32) := (rec_12 (x81 + 1) x82)
def K_explain_15 (r88 : Int32) (s0 : Int32) (rec_12 : (Int32) → (Int32) → ((Int32))) (x81 : Int32) (x82 : Int32) : (Int32) := (if r88.toInt = s0.toInt then (K_explain_17 rec_12 x81 x82) else (K_explain_16 rec_12 x81 x82))
def K_explain_14 (s0 : Int32) (rec_12 : (Int32) → (Int32) → ((Int32))) (x81 : Int32) (x82 : Int32) (rails : Int32) (r1 : Int32) (pt : Nat → Int64) : (Int32) := ((fun t9 => (K_explain_15 t9 s0 rec_12 x81 x82)) (M_upAmong rails (r1 &&& (((1 : Int32) <<< (x81 &&& 31)) ^^^ (-1 : Int32))) pt))
def K_explain_12 (rails : Int32) (x81 : Int32) (x82 : Int32) (s0 : Int32) (rec_12 : (Int32) → (Int32) → ((Int32))) (r1 : Int32) (pt : Nat → Int64) : (Int32) := (if rails.toInt ≤ x81.toInt then (K_explain_13 x82) else (K_explain_14 s0 rec_12 x81 x82 rails r1 pt))
def K_explain_L12 (rails : Int32) (s0 : Int32) (r1 : Int32) (pt : Nat → Int64) : Nat → (Int32) → (Int32) → (Int32)
  | 0, _, _ => (0)
  | n9 + 1, x81, x82 => (K_explain_12 rails x81 x82 s0 (K_explain_L12 rails s0 r1 pt n9) r1 pt)
def K_explain_5 (rails : Int32) (s0 : Int32) (r1 : Int32) (pt : Nat → Int64) : (Int32) := (K_explain_L12 rails s0 r1 pt 100000 (0 : Int32) (256 : Int32))
def K_explain_7 (x37 : Int32) : (Int32) := (x37)
def K_explain_11 (rec_6 : (Int32) → (Int32) → ((Int32))) (x36 : Int32) (x37 : Int32) : (Int32) := (rec_6 (x36 + 1) (x37 ||| ((1 : Int32) <<< (x36 &&& 31))))
def K_explain_10 (rec_6 : (Int32) → (Int32) → ((Int32))) (x36 : Int32) (x37 : Int32) : (Int32) := (rec_6 (x36 + 1) x37)
def K_explain_9 (r43 : Int32) (s0 : Int32) (rec_6 : (Int32) → (Int32) → ((Int32))) (x36 : Int32) (x37 : Int32) : (Int32) := (if r43.toInt = s0.toInt then (K_explain_11 rec_6 x36 x37) else (K_explain_10 rec_6 x36 x37))
def K_explain_8 (s0 : Int32) (rec_6 : (Int32) → (Int32) → ((Int32))) (x36 : Int32) (x37 : Int32) (rails : Int32) (r1 : Int32) (pt : Nat → Int64) : (Int32) := ((fun t9 => (K_explain_9 t9 s0 rec_6 x36 x37)) (M_upAmong rails (r1 &&& (((1 : Int32) <<< (x36 &&& 31)) ^^^ (-1 : Int32))) pt))
def K_explain_6 (rails : Int32) (x36 : Int32) (x37 : Int32) (s0 : Int32) (rec_6 : (Int32) → (Int32) → ((Int32))) (r1 : Int32) (pt : Nat → Int64) : (Int32) := (if rails.toInt ≤ x36.toInt then (K_explain_7 x37) else (K_explain_8 s0 rec_6 x36 x37 rails r1 pt))
def K_explain_L6 (rails : Int32) (s0 : Int32) (r1 : Int32) (pt : Nat → Int64) : Nat → (Int32) → (Int32) → (Int32)
  | 0, _, _ => (0)
  | n9 + 1, x36, x37 => (K_explain_6 rails x36 x37 s0 (K_explain_L6 rails s0 r1 pt n9) r1 pt)
def K_explain_4 (rails : Int32) (s0 : Int32) (r1 : Int32) (pt : Nat → Int64) : (Int32) := (K_explain_L6 rails s0 r1 pt 100000 (0 : Int32) (0 : Int32))
def K_explain_3 (r2 : Int32) (s0 : Int32) (rails : Int32) (r1 : Int32) (pt : Nat → Int64) : (Int32) := (if r2.toInt = s0.toInt then (K_explain_5 rails s0 r1 pt) else (K_explain_4 rails s0 r1 pt))
def K_explain_2 (s0 : Int32) (rails : Int32) (r1 : Int32) (pt : Nat → Int64) : (Int32) := ((fun t9 => (K_explain_3 t9 s0 rails r1 pt)) (M_upAmong rails r1 pt))
def K_explain_1 (s0 : Int32) (rails : Int32) (pt : Nat → Int64) : (Int32) := ((fun t9 => (K_explain_2 s0 rails t9 pt)) (M_allRails rails))
def M_explain (s0 : Int32) (rails : Int32) (pt : Nat → Int64) : (Int32) := (K_explain_1 s0 rails pt)
abbrev W_explain (cI cJ cZ cG cH : ClassId) (pl : Nat) (s0 : Int32) (pna : Nat) (pta : Nat) (rails : Int32) (limit : Int32) (retry : Int32) (behind : Int32) (pt : Nat → Int64) : va_W := [oX3 pl pna pta rails limit retry behind, oAJ pta cJ 64 pt]
abbrev Q_explain (D : va_G) (cI cJ cZ cG cH : ClassId) (pl : Nat) (s0 : Int32) (pna : Nat) (pta : Nat) (rails : Int32) (limit : Int32) (retry : Int32) (behind : Int32) (pt : Nat → Int64) (A : Nat → Prop) : Array Value → State → Outcome → State → Prop := va_Qi (fun (r : Int32) (u9 : Int32) => r = u9 ∧ (0 ≤ r.toInt ∧ r.toInt ≤ 511)) (fun u9 t => (M_explain s0 rails pt = (u9)) ∧ xB D (tyL cI cJ cZ cG cH) [oX3 pl pna pta rails limit retry behind, oAJ pta cJ 64 pt] A t) A
abbrev rm_explain : Room := { frames := 2, cells := 0, slots := 0, locals := 47 }
set_option maxRecDepth 100000 in
set_option maxHeartbeats 40000000 in
theorem c_explain (l : Launch) (D : va_G) (cI cJ cZ cG cH : ClassId) (sz : Nat) (pl : Nat) (s0 : Int32) (pna : Nat) (pta : Nat) (rails : Int32) (limit : Int32) (retry : Int32) (behind : Int32) (pt : Nat → Int64) (h_rails : 0 ≤ rails.toInt ∧ rails.toInt ≤ 8) : Met l yX1_thatExplain (wt yX1_thatExplain cX1_thatExplain 5 (some .int)) rm_explain (xPc [.ref pl, .int s0] D (tyL cI cJ cZ cG cH) (W_explain cI cJ cZ cG cH pl s0 pna pta rails limit retry behind pt) sz) (Q_explain D cI cJ cZ cG cH pl s0 pna pta rails limit retry behind pt (va_A (W_explain cI cJ cZ cG cH pl s0 pna pta rails limit retry behind pt) sz)) 0 0 (va_A (W_explain cI cJ cZ cG cH pl s0 pna pta rails limit retry behind pt) sz) := by
  refine xMet (cc := cX1_thatExplain) (maxL := 5) (ret := (some .int)) (Qf := Q_explain D cI cJ cZ cG cH pl s0 pna pta rails limit retry behind pt) (by decide) rfl (Nat.le_of_ble_eq_true rfl) ?_
  intro p e s m below meth c ls A hx hb hr hml hts hown hlocks hnm hsz hP hK hD hA hS hl
  have hown : s.vm.findClass RX1 = some m.cls := hown
  have hP : va_P D vwCl [oX3 pl pna pta rails limit retry behind, oAJ pta cJ 64 pt] s.heap := hP
  have hD : va_D A [oX3 pl pna pta rails limit retry behind, oAJ pta cJ 64 pt] := hD
  have hl : lv_has ls 5 [(0, .ref pl), (1, .int s0)] := hl
  have hM : M_explain s0 rails pt = (K_explain_1 s0 rails pt) := rfl
  refine lv_aload_n hx hb dX1_thatExplain_0 rfl (lv_at hl 0 rfl) ?_
  obtain ⟨hPc, hDc, hFc, hC9⟩ := xpk (wc := W_allRails cI cJ cZ cG cH pl pna pta rails limit retry behind) hP hD hS hA [0] (by decide +kernel) rfl
  refine va_calli (va_runV (As := []) (rest := []) ⟨hx, hb, hml, hown, hts⟩ (c_allRails l D cI cJ cZ cG cH s.heap.size pl pna pta rails limit retry behind (xrng rfl (by omega) (by omega))) (cwV 0 hts (xGV tbC wd619 wd420 wd421 wd59 wd1012) rfl rfl rfl (by decide +kernel) ⟨Nat.le_of_ble_eq_true rfl, Nat.le_of_ble_eq_true rfl⟩) ⟨xPc_blind, va_recv hK hPc (ci := 2) (q0 := 0) rfl rfl, xPc_pre hPc hK hDc⟩ rfl rfl hl.1 rfl (lv_room (Nat.le_of_ble_eq_true rfl)) dX1_thatExplain_1 ⟨Nat.le_of_ble_eq_true rfl, Nat.le_of_ble_eq_true rfl⟩) hS (fun q _ h => hFc q h) hFc (fun r1 u t H1 locs ht hvm hw1 hB hz1 hk1 hS => ?_)
  obtain ⟨hru9, hw1⟩ := hw1
  subst hru9
  obtain ⟨hf1_0, hP1, hK1, hD1⟩ := hB
  rw [ht] at hP1
  obtain ⟨hP, hD⟩ : xPD D A [oAJ pta cJ 64 pt, oX3 pl pna pta rails limit retry behind] H1 := xjn 1 hP hD [0] [1] hC9 rfl (by decide +kernel) (by decide +kernel) hk1 hFc hP1 hD1
  generalize H1 = H at hP hS ⊢
  have hf1_0 : M_allRails rails = (r1) := hf1_0
  have hw1 : 0 ≤ r1.toInt ∧ r1.toInt ≤ 255 := hw1
  have h9M := congrArg (fun t9 => (K_explain_2 s0 rails t9 pt)) hf1_0
  have hM : M_explain s0 rails pt = (K_explain_2 s0 rails r1 pt) := (show M_explain s0 rails pt = ((fun t9 => (K_explain_2 s0 rails t9 pt)) (M_allRails rails)) from hM).trans h9M
  refine lv_istore_n (lv' := [(2, .int r1), (0, .ref pl), (1, .int s0)]) hx hb dX1_thatExplain_4 rfl hl (by decide) rfl (fun ls hl => ?_)
  refine lv_aload_n hx hb dX1_thatExplain_5 rfl (lv_at hl 1 rfl) ?_
  refine lv_iload_n hx hb dX1_thatExplain_6 rfl (lv_at hl 0 rfl) ?_
  obtain ⟨hPc, hDc, hFc, hC9⟩ := xpk (wc := W_upAmong cI cJ cZ cG cH pl r1 pna pta rails limit retry behind pt) hP hD hS hA [1, 0] (by decide +kernel) rfl
  refine va_calli (va_runV (As := [.int r1]) (rest := []) ⟨hx, hb, hml, hown, hts⟩ (c_upAmong l D cI cJ cZ cG cH H.size pl r1 pna pta rails limit retry behind pt (xrng rfl (by omega) (by omega))) (cwV 1 hts (xGV tbC wd627 wd508 wd509 wd59 wd1041) rfl rfl rfl (by decide +kernel) ⟨Nat.le_of_ble_eq_true rfl, Nat.le_of_ble_eq_true rfl⟩) ⟨xPc_blind, va_recv hK hPc (ci := 2) (q0 := 0) rfl rfl, xPc_pre hPc hK hDc⟩ rfl rfl hl.1 rfl (lv_room (Nat.le_of_ble_eq_true rfl)) dX1_thatExplain_7 ⟨Nat.le_of_ble_eq_true rfl, Nat.le_of_ble_eq_true rfl⟩) hS (fun q _ h => hFc q h) hFc (fun r2 u t H1 locs ht hvm hw2 hB hz1 hk1 hS => ?_)
  obtain ⟨hru9, hw2⟩ := hw2
  subst hru9
  obtain ⟨hf2_0, hP1, hK1, hD1⟩ := hB
  rw [ht] at hP1
  obtain ⟨hP, hD⟩ : xPD D A [oX3 pl pna pta rails limit retry behind, oAJ pta cJ 64 pt] H1 := xjn 0 hP hD [1, 0] [] hC9 rfl (by decide +kernel) (by decide +kernel) hk1 hFc hP1 hD1
  generalize H1 = H at hP hS ⊢
  have hf2_0 : M_upAmong rails r1 pt = (r2) := hf2_0
  have hw2 : 0 ≤ r2.toInt ∧ r2.toInt ≤ 255 := hw2
  have h9M := congrArg (fun t9 => (K_explain_3 t9 s0 rails r1 pt)) hf2_0
  have hM : M_explain s0 rails pt = (K_explain_3 r2 s0 rails r1 pt) := (show M_explain s0 rails pt = ((fun t9 => (K_explain_3 t9 s0 rails r1 pt)) (M_upAmong rails r1 pt)) from hM).trans h9M
  refine lv_iload_n hx hb dX1_thatExplain_10 rfl (lv_at hl 2 rfl) ?_
  refine lv_icmp_ne (tgt := 20) hx hb dX1_thatExplain_11 (by decide) (fun c_3 => ?_) (fun c_3 => ?_)
  · skip
    have i_3 : ¬ (r2.toInt = s0.toInt) := fun h9 => c_3 ((ieq rfl rfl).mpr h9)
    have hM : M_explain s0 rails pt = (K_explain_4 rails s0 r1 pt) := (show M_explain s0 rails pt = (if r2.toInt = s0.toInt then (K_explain_5 rails s0 r1 pt) else (K_explain_4 rails s0 r1 pt)) from hM).trans (if_neg i_3)
    refine lv_iconst (v := 0) hx hb dX1_thatExplain_20 (by decide) ?_
    refine lv_istore_n (lv' := [(3, .int 0), (2, .int r1), (0, .ref pl), (1, .int s0)]) hx hb dX1_thatExplain_21 rfl hl (by decide) rfl (fun ls hl => ?_)
    refine lv_iconst (v := 0) hx hb dX1_thatExplain_22 (by decide) ?_
    refine lv_istore (lv' := [(4, .int 0), (3, .int 0), (2, .int r1), (0, .ref pl), (1, .int s0)]) hx hb dX1_thatExplain_23 hl (by decide) rfl (fun ls hl => ?_)
    have hl38 : ∀ (nhl38 : Nat) (x36 : Int32) (x37 : Int32), ((8 - x36.toInt).toNat < nhl38) → (hx36 : 0 ≤ x36.toInt ∧ x36.toInt ≤ 8) → (hx37 : 0 ≤ x37.toInt ∧ x37.toInt ≤ 255) → (hM : M_explain s0 rails pt = (K_explain_L6 rails s0 r1 pt nhl38 x36 x37)) → ∀ (H : Heap) (locs : List Loc), va_P D vwCl [oX3 pl pna pta rails limit retry behind, oAJ pta cJ 64 pt] H → va_D A [oX3 pl pna pta rails limit retry behind, oAJ pta cJ 64 pt] → va_S A s.heap H locs → ∀ (ls : Array Slot), lv_has ls 5 [(4, .int x36), (3, .int x37), (2, .int r1), (0, .ref pl), (1, .int s0)] → W p l e rm_explain s m [Value.ref pl, Value.int s0].toArray below meth c H locs 0 0 (MQ below ((Q_explain D cI cJ cZ cG cH pl s0 pna pta rails limit retry behind pt) A) [Value.ref pl, Value.int s0].toArray s 0 0 A) (F0 m 25 ls []) := by
      intro nhl38
      induction nhl38 with
      | zero =>
        intro x36 x37 hmhl38
        exact absurd hmhl38 (Nat.not_lt_zero _)
      | succ nhl38 ihhl38 =>
        intro x36 x37 hmhl38 hx36 hx37 hM H locs hP hD hS ls hl
        have hM : M_explain s0 rails pt = (K_explain_6 rails x36 x37 s0 (K_explain_L6 rails s0 r1 pt nhl38) r1 pt) := hM
        refine lv_iload hx hb dX1_thatExplain_25 (lv_at hl 0 rfl) ?_
        refine lv_aload_n hx hb dX1_thatExplain_27 rfl (lv_at hl 3 rfl) ?_
        refine va_get (D := D) (ci := 2) (v := .int rails) (C := RX3) (T := TX3) (N := 6) hx hb hts (fun w h => tbC w (tbfX3 w h)) hown hK hP 0 rfl rfl 2 (by decide) (hts (.fieldLink RX1 30 "PowerRails$Plan" "rails" "I") (tbC _ wd207)) (fun _ h9 => h9) rfl dX1_thatExplain_28 ?_
        refine lv_icmp_ge (tgt := 63) hx hb dX1_thatExplain_31 (by decide) (fun c_39 => ?_) (fun c_39 => ?_)
        · skip
          have i_39 : rails.toInt ≤ x36.toInt := (ile rfl rfl).mp c_39
          have hM : M_explain s0 rails pt = (K_explain_7 x37) := (show M_explain s0 rails pt = (if rails.toInt ≤ x36.toInt then (K_explain_7 x37) else (K_explain_8 s0 (K_explain_L6 rails s0 r1 pt nhl38) x36 x37 rails r1 pt)) from hM).trans (if_pos i_39)
          refine lv_iload_n hx hb dX1_thatExplain_63 rfl (lv_at hl 1 rfl) ?_
          refine W.widen (k := 0) (n := 0) (by decide) (by decide) ?_
          exact W.iret (v := x37) hx hb hr (fun t ht hW => ⟨⟨x37, x37, rfl, ⟨rfl, (xrng rfl (by omega) (by omega))⟩, ⟨hM, xB_of9 ht hW hP hK hD [0, 1] (by decide +kernel) rfl⟩⟩, hS.F ht⟩) hS.2.2 dX1_thatExplain_64
        · skip
          have i_39 : ¬ (rails.toInt ≤ x36.toInt) := fun h9 => c_39 ((ile rfl rfl).mpr h9)
          have hM : M_explain s0 rails pt = (K_explain_8 s0 (K_explain_L6 rails s0 r1 pt nhl38) x36 x37 rails r1 pt) := (show M_explain s0 rails pt = (if rails.toInt ≤ x36.toInt then (K_explain_7 x37) else (K_explain_8 s0 (K_explain_L6 rails s0 r1 pt nhl38) x36 x37 rails r1 pt)) from hM).trans (if_neg i_39)
          refine lv_aload_n hx hb dX1_thatExplain_34 rfl (lv_at hl 3 rfl) ?_
          refine lv_iload_n hx hb dX1_thatExplain_35 rfl (lv_at hl 2 rfl) ?_
          refine lv_iconst (v := 1) hx hb dX1_thatExplain_36 (by decide) ?_
          refine lv_iload hx hb dX1_thatExplain_37 (lv_at hl 0 rfl) ?_
          refine lv_ishl hx hb dX1_thatExplain_39 ?_
          refine lv_topi (fun v40 ev40 => ?_)
          have rv40 : 1 ≤ v40.toInt ∧ v40.toInt ≤ 128 := xshl1 7 ev40 (show (x36 : Int32).toInt = x36.toInt from rfl) (by omega) (by omega) (by decide)
          refine lv_iconst (v := (-1)) hx hb dX1_thatExplain_40 (by decide) ?_
          refine lv_ixor hx hb dX1_thatExplain_41 ?_
          refine lv_topi (fun v41 ev41 => ?_)
          refine lv_iand hx hb dX1_thatExplain_42 ?_
          refine lv_topi (fun v42 ev42 => ?_)
          have rv42 : 0 ≤ v42.toInt ∧ v42.toInt ≤ r1.toInt := xandL' ev42 (show (r1 : Int32).toInt = r1.toInt from rfl) (by omega)
          obtain ⟨hPc, hDc, hFc, hC9⟩ := xpk (wc := W_upAmong cI cJ cZ cG cH pl v42 pna pta rails limit retry behind pt) hP hD hS hA [0, 1] (by decide +kernel) rfl
          refine va_calli (va_runV (As := [.int v42]) (rest := []) ⟨hx, hb, hml, hown, hts⟩ (c_upAmong l D cI cJ cZ cG cH H.size pl v42 pna pta rails limit retry behind pt (xrng rfl (by omega) (by omega))) (cwV 1 hts (xGV tbC wd627 wd508 wd509 wd59 wd1041) rfl rfl rfl (by decide +kernel) ⟨Nat.le_of_ble_eq_true rfl, Nat.le_of_ble_eq_true rfl⟩) ⟨xPc_blind, va_recv hK hPc (ci := 2) (q0 := 0) rfl rfl, xPc_pre hPc hK hDc⟩ rfl rfl hl.1 rfl (lv_room (Nat.le_of_ble_eq_true rfl)) dX1_thatExplain_43 ⟨Nat.le_of_ble_eq_true rfl, Nat.le_of_ble_eq_true rfl⟩) hS (fun q _ h => hFc q h) hFc (fun r43 u t H1 locs ht hvm hw43 hB hz1 hk1 hS => ?_)
          obtain ⟨hru9, hw43⟩ := hw43
          subst hru9
          obtain ⟨hf43_0, hP1, hK1, hD1⟩ := hB
          rw [ht] at hP1
          obtain ⟨hP, hD⟩ : xPD D A [oX3 pl pna pta rails limit retry behind, oAJ pta cJ 64 pt] H1 := xjn 0 hP hD [0, 1] [] hC9 rfl (by decide +kernel) (by decide +kernel) hk1 hFc hP1 hD1
          generalize H1 = H at hP hS ⊢
          have hf43_0 : M_upAmong rails v42 pt = (r43) := hf43_0
          have hw43 : 0 ≤ r43.toInt ∧ r43.toInt ≤ 255 := hw43
          have h9M := congrArg (fun t9 => (K_explain_9 t9 s0 (K_explain_L6 rails s0 r1 pt nhl38) x36 x37)) hf43_0
          have hM : M_explain s0 rails pt = (K_explain_9 r43 s0 (K_explain_L6 rails s0 r1 pt nhl38) x36 x37) := (show M_explain s0 rails pt = ((fun t9 => (K_explain_9 t9 s0 (K_explain_L6 rails s0 r1 pt nhl38) x36 x37)) (M_upAmong rails v42 pt)) from (by rw [ev42, ev41, ev40]; exact hM)).trans h9M
          refine lv_iload_n hx hb dX1_thatExplain_46 rfl (lv_at hl 4 rfl) ?_
          refine lv_icmp_ne (tgt := 57) hx hb dX1_thatExplain_47 (by decide) (fun c_44 => ?_) (fun c_44 => ?_)
          · skip
            have i_44 : ¬ (r43.toInt = s0.toInt) := fun h9 => c_44 ((ieq rfl rfl).mpr h9)
            have hM : M_explain s0 rails pt = (K_explain_10 (K_explain_L6 rails s0 r1 pt nhl38) x36 x37) := (show M_explain s0 rails pt = (if r43.toInt = s0.toInt then (K_explain_11 (K_explain_L6 rails s0 r1 pt nhl38) x36 x37) else (K_explain_10 (K_explain_L6 rails s0 r1 pt nhl38) x36 x37)) from hM).trans (if_neg i_44)
            obtain ⟨x45, ex45⟩ : ∃ y : Int32, y = x36 + 1 := ⟨_, rfl⟩
            have tx45 : x45.toInt = (x36.toInt + 1) := (congrArg Int32.toInt ex45).trans (xadd rfl (by decide) (by omega) (by omega))
            refine lv_iinc (v := x45) (lv' := [(4, .int x45), (3, .int x37), (2, .int r1), (0, .ref pl), (1, .int s0)]) hx hb dX1_thatExplain_57 hl (k := 0) rfl (by rw [ex45]; rfl) (by decide) rfl (fun ls hl => ?_)
            refine lv_goto (tgt := 25) hx hb dX1_thatExplain_60 (by decide) ?_
            exact ihhl38 x45 x37 (by omega) (xrng tx45 (by omega) (by omega)) (xrng rfl (by omega) (by omega)) (by rw [ex45]; exact hM) _ _ hP hD hS ls (lv_sub hl [0, 1, 2, 3, 4] rfl)
          · skip
            have i_44 : r43.toInt = s0.toInt := (ieq rfl rfl).mp c_44
            have hM : M_explain s0 rails pt = (K_explain_11 (K_explain_L6 rails s0 r1 pt nhl38) x36 x37) := (show M_explain s0 rails pt = (if r43.toInt = s0.toInt then (K_explain_11 (K_explain_L6 rails s0 r1 pt nhl38) x36 x37) else (K_explain_10 (K_explain_L6 rails s0 r1 pt nhl38) x36 x37)) from hM).trans (if_pos i_44)
            refine lv_iload_n hx hb dX1_thatExplain_50 rfl (lv_at hl 1 rfl) ?_
            refine lv_iconst (v := 1) hx hb dX1_thatExplain_51 (by decide) ?_
            refine lv_iload hx hb dX1_thatExplain_52 (lv_at hl 0 rfl) ?_
            refine lv_ishl hx hb dX1_thatExplain_54 ?_
            refine lv_topi (fun v46 ev46 => ?_)
            have rv46 : 1 ≤ v46.toInt ∧ v46.toInt ≤ 128 := xshl1 7 ev46 (show (x36 : Int32).toInt = x36.toInt from rfl) (by omega) (by omega) (by decide)
            refine lv_ior hx hb dX1_thatExplain_55 ?_
            refine lv_topi (fun v47 ev47 => ?_)
            have rv47 : 0 ≤ v47.toInt ∧ v47.toInt ≤ 255 := xorL 8 ev47 (show (x37 : Int32).toInt = x37.toInt from rfl) (show (v46 : Int32).toInt = v46.toInt from rfl) (by decide) (by decide) (by omega) (by omega) (by omega) (by omega)
            refine lv_istore_n (lv' := [(3, .int v47), (4, .int x36), (2, .int r1), (0, .ref pl), (1, .int s0)]) hx hb dX1_thatExplain_56 rfl hl (by decide) rfl (fun ls hl => ?_)
            obtain ⟨x48, ex48⟩ : ∃ y : Int32, y = x36 + 1 := ⟨_, rfl⟩
            have tx48 : x48.toInt = (x36.toInt + 1) := (congrArg Int32.toInt ex48).trans (xadd rfl (by decide) (by omega) (by omega))
            refine lv_iinc (v := x48) (lv' := [(4, .int x48), (3, .int v47), (2, .int r1), (0, .ref pl), (1, .int s0)]) hx hb dX1_thatExplain_57 hl (k := 1) rfl (by rw [ex48]; rfl) (by decide) rfl (fun ls hl => ?_)
            refine lv_goto (tgt := 25) hx hb dX1_thatExplain_60 (by decide) ?_
            exact ihhl38 x48 v47 (by omega) (xrng tx48 (by omega) (by omega)) (xrng rfl (by omega) (by omega)) (by rw [ex48, ev47, ev46]; exact hM) _ _ hP hD hS ls (lv_sub hl [0, 1, 2, 3, 4] rfl)
    exact hl38 100000 0 0 (by have z9_0 : (0 : Int32).toInt = 0 := (by decide); omega) ⟨by decide, by decide⟩ ⟨by decide, by decide⟩ hM _ _ hP hD hS ls (lv_sub hl [0, 1, 2, 3, 4] rfl)
  · skip
    have i_3 : r2.toInt = s0.toInt := (ieq rfl rfl).mp c_3
    have hM : M_explain s0 rails pt = (K_explain_5 rails s0 r1 pt) := (show M_explain s0 rails pt = (if r2.toInt = s0.toInt then (K_explain_5 rails s0 r1 pt) else (K_explain_4 rails s0 r1 pt)) from hM).trans (if_pos i_3)
    refine lv_sipush (v := 256) hx hb dX1_thatExplain_14 (by decide) ?_
    refine lv_goto (tgt := 21) hx hb dX1_thatExplain_17 (by decide) ?_
    refine lv_istore_n (lv' := [(3, .int 256), (2, .int r1), (0, .ref pl), (1, .int s0)]) hx hb dX1_thatExplain_21 rfl hl (by decide) rfl (fun ls hl => ?_)
    refine lv_iconst (v := 0) hx hb dX1_thatExplain_22 (by decide) ?_
    refine lv_istore (lv' := [(4, .int 0), (3, .int 256), (2, .int r1), (0, .ref pl), (1, .int s0)]) hx hb dX1_thatExplain_23 hl (by decide) rfl (fun ls hl => ?_)
    have hl83 : ∀ (nhl83 : Nat) (x81 : Int32) (x82 : Int32), ((8 - x81.toInt).toNat < nhl83) → (hx81 : 0 ≤ x81.toInt ∧ x81.toInt ≤ 8) → (hx82 : 0 ≤ x82.toInt ∧ x82.toInt ≤ 511) → (hM : M_explain s0 rails pt = (K_explain_L12 rails s0 r1 pt nhl83 x81 x82)) → ∀ (H : Heap) (locs : List Loc), va_P D vwCl [oX3 pl pna pta rails limit retry behind, oAJ pta cJ 64 pt] H → va_D A [oX3 pl pna pta rails limit retry behind, oAJ pta cJ 64 pt] → va_S A s.heap H locs → ∀ (ls : Array Slot), lv_has ls 5 [(4, .int x81), (3, .int x82), (2, .int r1), (0, .ref pl), (1, .int s0)] → W p l e rm_explain s m [Value.ref pl, Value.int s0].toArray below meth c H locs 0 0 (MQ below ((Q_explain D cI cJ cZ cG cH pl s0 pna pta rails limit retry behind pt) A) [Value.ref pl, Value.int s0].toArray s 0 0 A) (F0 m 25 ls []) := by
      intro nhl83
      induction nhl83 with
      | zero =>
        intro x81 x82 hmhl83
        exact absurd hmhl83 (Nat.not_lt_zero _)
      | succ nhl83 ihhl83 =>
        intro x81 x82 hmhl83 hx81 hx82 hM H locs hP hD hS ls hl
        have hM : M_explain s0 rails pt = (K_explain_12 rails x81 x82 s0 (K_explain_L12 rails s0 r1 pt nhl83) r1 pt) := hM
        refine lv_iload hx hb dX1_thatExplain_25 (lv_at hl 0 rfl) ?_
        refine lv_aload_n hx hb dX1_thatExplain_27 rfl (lv_at hl 3 rfl) ?_
        refine va_get (D := D) (ci := 2) (v := .int rails) (C := RX3) (T := TX3) (N := 6) hx hb hts (fun w h => tbC w (tbfX3 w h)) hown hK hP 0 rfl rfl 2 (by decide) (hts (.fieldLink RX1 30 "PowerRails$Plan" "rails" "I") (tbC _ wd207)) (fun _ h9 => h9) rfl dX1_thatExplain_28 ?_
        refine lv_icmp_ge (tgt := 63) hx hb dX1_thatExplain_31 (by decide) (fun c_84 => ?_) (fun c_84 => ?_)
        · skip
          have i_84 : rails.toInt ≤ x81.toInt := (ile rfl rfl).mp c_84
          have hM : M_explain s0 rails pt = (K_explain_13 x82) := (show M_explain s0 rails pt = (if rails.toInt ≤ x81.toInt then (K_explain_13 x82) else (K_explain_14 s0 (K_explain_L12 rails s0 r1 pt nhl83) x81 x82 rails r1 pt)) from hM).trans (if_pos i_84)
          refine lv_iload_n hx hb dX1_thatExplain_63 rfl (lv_at hl 1 rfl) ?_
          refine W.widen (k := 0) (n := 0) (by decide) (by decide) ?_
          exact W.iret (v := x82) hx hb hr (fun t ht hW => ⟨⟨x82, x82, rfl, ⟨rfl, (xrng rfl (by omega) (by omega))⟩, ⟨hM, xB_of9 ht hW hP hK hD [0, 1] (by decide +kernel) rfl⟩⟩, hS.F ht⟩) hS.2.2 dX1_thatExplain_64
        · skip
          have i_84 : ¬ (rails.toInt ≤ x81.toInt) := fun h9 => c_84 ((ile rfl rfl).mpr h9)
          have hM : M_explain s0 rails pt = (K_explain_14 s0 (K_explain_L12 rails s0 r1 pt nhl83) x81 x82 rails r1 pt) := (show M_explain s0 rails pt = (if rails.toInt ≤ x81.toInt then (K_explain_13 x82) else (K_explain_14 s0 (K_explain_L12 rails s0 r1 pt nhl83) x81 x82 rails r1 pt)) from hM).trans (if_neg i_84)
          refine lv_aload_n hx hb dX1_thatExplain_34 rfl (lv_at hl 3 rfl) ?_
          refine lv_iload_n hx hb dX1_thatExplain_35 rfl (lv_at hl 2 rfl) ?_
          refine lv_iconst (v := 1) hx hb dX1_thatExplain_36 (by decide) ?_
          refine lv_iload hx hb dX1_thatExplain_37 (lv_at hl 0 rfl) ?_
          refine lv_ishl hx hb dX1_thatExplain_39 ?_
          refine lv_topi (fun v85 ev85 => ?_)
          have rv85 : 1 ≤ v85.toInt ∧ v85.toInt ≤ 128 := xshl1 7 ev85 (show (x81 : Int32).toInt = x81.toInt from rfl) (by omega) (by omega) (by decide)
          refine lv_iconst (v := (-1)) hx hb dX1_thatExplain_40 (by decide) ?_
          refine lv_ixor hx hb dX1_thatExplain_41 ?_
          refine lv_topi (fun v86 ev86 => ?_)
          refine lv_iand hx hb dX1_thatExplain_42 ?_
          refine lv_topi (fun v87 ev87 => ?_)
          have rv87 : 0 ≤ v87.toInt ∧ v87.toInt ≤ r1.toInt := xandL' ev87 (show (r1 : Int32).toInt = r1.toInt from rfl) (by omega)
          obtain ⟨hPc, hDc, hFc, hC9⟩ := xpk (wc := W_upAmong cI cJ cZ cG cH pl v87 pna pta rails limit retry behind pt) hP hD hS hA [0, 1] (by decide +kernel) rfl
          refine va_calli (va_runV (As := [.int v87]) (rest := []) ⟨hx, hb, hml, hown, hts⟩ (c_upAmong l D cI cJ cZ cG cH H.size pl v87 pna pta rails limit retry behind pt (xrng rfl (by omega) (by omega))) (cwV 1 hts (xGV tbC wd627 wd508 wd509 wd59 wd1041) rfl rfl rfl (by decide +kernel) ⟨Nat.le_of_ble_eq_true rfl, Nat.le_of_ble_eq_true rfl⟩) ⟨xPc_blind, va_recv hK hPc (ci := 2) (q0 := 0) rfl rfl, xPc_pre hPc hK hDc⟩ rfl rfl hl.1 rfl (lv_room (Nat.le_of_ble_eq_true rfl)) dX1_thatExplain_43 ⟨Nat.le_of_ble_eq_true rfl, Nat.le_of_ble_eq_true rfl⟩) hS (fun q _ h => hFc q h) hFc (fun r88 u t H1 locs ht hvm hw88 hB hz1 hk1 hS => ?_)
          obtain ⟨hru9, hw88⟩ := hw88
          subst hru9
          obtain ⟨hf88_0, hP1, hK1, hD1⟩ := hB
          rw [ht] at hP1
          obtain ⟨hP, hD⟩ : xPD D A [oX3 pl pna pta rails limit retry behind, oAJ pta cJ 64 pt] H1 := xjn 0 hP hD [0, 1] [] hC9 rfl (by decide +kernel) (by decide +kernel) hk1 hFc hP1 hD1
          generalize H1 = H at hP hS ⊢
          have hf88_0 : M_upAmong rails v87 pt = (r88) := hf88_0
          have hw88 : 0 ≤ r88.toInt ∧ r88.toInt ≤ 255 := hw88
          have h9M := congrArg (fun t9 => (K_explain_15 t9 s0 (K_explain_L12 rails s0 r1 pt nhl83) x81 x82)) hf88_0
          have hM : M_explain s0 rails pt = (K_explain_15 r88 s0 (K_explain_L12 rails s0 r1 pt nhl83) x81 x82) := (show M_explain s0 rails pt = ((fun t9 => (K_explain_15 t9 s0 (K_explain_L12 rails s0 r1 pt nhl83) x81 x82)) (M_upAmong rails v87 pt)) from (by rw [ev87, ev86, ev85]; exact hM)).trans h9M
          refine lv_iload_n hx hb dX1_thatExplain_46 rfl (lv_at hl 4 rfl) ?_
          refine lv_icmp_ne (tgt := 57) hx hb dX1_thatExplain_47 (by decide) (fun c_89 => ?_) (fun c_89 => ?_)
          · skip
            have i_89 : ¬ (r88.toInt = s0.toInt) := fun h9 => c_89 ((ieq rfl rfl).mpr h9)
            have hM : M_explain s0 rails pt = (K_explain_16 (K_explain_L12 rails s0 r1 pt nhl83) x81 x82) := (show M_explain s0 rails pt = (if r88.toInt = s0.toInt then (K_explain_17 (K_explain_L12 rails s0 r1 pt nhl83) x81 x82) else (K_explain_16 (K_explain_L12 rails s0 r1 pt nhl83) x81 x82)) from hM).trans (if_neg i_89)
            obtain ⟨x90, ex90⟩ : ∃ y : Int32, y = x81 + 1 := ⟨_, rfl⟩
            have tx90 : x90.toInt = (x81.toInt + 1) := (congrArg Int32.toInt ex90).trans (xadd rfl (by decide) (by omega) (by omega))
            refine lv_iinc (v := x90) (lv' := [(4, .int x90), (3, .int x82), (2, .int r1), (0, .ref pl), (1, .int s0)]) hx hb dX1_thatExplain_57 hl (k := 0) rfl (by rw [ex90]; rfl) (by decide) rfl (fun ls hl => ?_)
            refine lv_goto (tgt := 25) hx hb dX1_thatExplain_60 (by decide) ?_
            exact ihhl83 x90 x82 (by omega) (xrng tx90 (by omega) (by omega)) (xrng rfl (by omega) (by omega)) (by rw [ex90]; exact hM) _ _ hP hD hS ls (lv_sub hl [0, 1, 2, 3, 4] rfl)
          · skip
            have i_89 : r88.toInt = s0.toInt := (ieq rfl rfl).mp c_89
            have hM : M_explain s0 rails pt = (K_explain_17 (K_explain_L12 rails s0 r1 pt nhl83) x81 x82) := (show M_explain s0 rails pt = (if r88.toInt = s0.toInt then (K_explain_17 (K_explain_L12 rails s0 r1 pt nhl83) x81 x82) else (K_explain_16 (K_explain_L12 rails s0 r1 pt nhl83) x81 x82)) from hM).trans (if_pos i_89)
            refine lv_iload_n hx hb dX1_thatExplain_50 rfl (lv_at hl 1 rfl) ?_
            refine lv_iconst (v := 1) hx hb dX1_thatExplain_51 (by decide) ?_
            refine lv_iload hx hb dX1_thatExplain_52 (lv_at hl 0 rfl) ?_
            refine lv_ishl hx hb dX1_thatExplain_54 ?_
            refine lv_topi (fun v91 ev91 => ?_)
            have rv91 : 1 ≤ v91.toInt ∧ v91.toInt ≤ 128 := xshl1 7 ev91 (show (x81 : Int32).toInt = x81.toInt from rfl) (by omega) (by omega) (by decide)
            refine lv_ior hx hb dX1_thatExplain_55 ?_
            refine lv_topi (fun v92 ev92 => ?_)
            have rv92 : 0 ≤ v92.toInt ∧ v92.toInt ≤ 511 := xorL 9 ev92 (show (x82 : Int32).toInt = x82.toInt from rfl) (show (v91 : Int32).toInt = v91.toInt from rfl) (by decide) (by decide) (by omega) (by omega) (by omega) (by omega)
            refine lv_istore_n (lv' := [(3, .int v92), (4, .int x81), (2, .int r1), (0, .ref pl), (1, .int s0)]) hx hb dX1_thatExplain_56 rfl hl (by decide) rfl (fun ls hl => ?_)
            obtain ⟨x93, ex93⟩ : ∃ y : Int32, y = x81 + 1 := ⟨_, rfl⟩
            have tx93 : x93.toInt = (x81.toInt + 1) := (congrArg Int32.toInt ex93).trans (xadd rfl (by decide) (by omega) (by omega))
            refine lv_iinc (v := x93) (lv' := [(4, .int x93), (3, .int v92), (2, .int r1), (0, .ref pl), (1, .int s0)]) hx hb dX1_thatExplain_57 hl (k := 1) rfl (by rw [ex93]; rfl) (by decide) rfl (fun ls hl => ?_)
            refine lv_goto (tgt := 25) hx hb dX1_thatExplain_60 (by decide) ?_
            exact ihhl83 x93 v92 (by omega) (xrng tx93 (by omega) (by omega)) (xrng rfl (by omega) (by omega)) (by rw [ex93, ev92, ev91]; exact hM) _ _ hP hD hS ls (lv_sub hl [0, 1, 2, 3, 4] rfl)
    exact hl83 100000 0 256 (by have z9_0 : (0 : Int32).toInt = 0 := (by decide); have z9_1 : (256 : Int32).toInt = 256 := (by decide); omega) ⟨by decide, by decide⟩ ⟨by decide, by decide⟩ hM _ _ hP hD hS ls (lv_sub hl [0, 1, 2, 3, 4] rfl)
