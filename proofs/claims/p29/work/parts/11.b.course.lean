abbrev W_cSetWaits (cI cJ cZ cG cH : ClassId) (co : Nat) (pl : Nat) (fwa : Nat) (fta : Nat) (fra : Nat) (fga : Nat) (cxa : Nat) (cup : Int32) (clast : Int32) (cpeak : Int32) (cptick : Int32) (fw : Nat → Int32) (pna : Nat) (pta : Nat) (rails : Int32) (limit : Int32) (retry : Int32) (behind : Int32) (pn : Nat → Int32) : va_W := [(co, .inr (0, [.ref fwa, .ref fta, .ref fra, .ref fga, .ref cxa, .int cup, .int clast, .int cpeak, .int cptick])), (fwa, .inl (cI, 8, .inl fw)), (pl, .inr (2, [.ref pna, .ref pta, .int rails, .int limit, .int retry, .int behind])), (pna, .inl (cI, 64, .inl pn))]
abbrev Q_cSetWaits (D : va_G) (cI cJ cZ cG cH : ClassId) (co : Nat) (pl : Nat) (fwa : Nat) (fta : Nat) (fra : Nat) (fga : Nat) (cxa : Nat) (cup : Int32) (clast : Int32) (cpeak : Int32) (cptick : Int32) (fw : Nat → Int32) (pna : Nat) (pta : Nat) (rails : Int32) (limit : Int32) (retry : Int32) (behind : Int32) (pn : Nat → Int32) (A : Nat → Prop) : Array Value → State → Outcome → State → Prop := va_Qv (fun (_ : Unit) => True) (fun _ t => ∃ (fw9 : Nat → Int32), (∀ j, j < 8 → 0 ≤ (fw9 j).toInt ∧ (fw9 j).toInt ≤ 511) ∧ xB D (tyL cI cJ cZ cG cH) [(co, .inr (0, [.ref fwa, .ref fta, .ref fra, .ref fga, .ref cxa, .int cup, .int clast, .int cpeak, .int cptick])), (fwa, .inl (cI, 8, .inl fw9)), (pl, .inr (2, [.ref pna, .ref pta, .int rails, .int limit, .int retry, .int behind])), (pna, .inl (cI, 64, .inl pn))] A t) A
abbrev rm_cSetWaits : Room := { frames := 1, cells := 0, slots := 0, locals := 22 }
set_option maxRecDepth 100000 in
set_option maxHeartbeats 4000000 in
theorem c_cSetWaits (l : Launch) (D : va_G) (cI cJ cZ cG cH : ClassId) (sz : Nat) (co : Nat) (pl : Nat) (fwa : Nat) (fta : Nat) (fra : Nat) (fga : Nat) (cxa : Nat) (cup : Int32) (clast : Int32) (cpeak : Int32) (cptick : Int32) (fw : Nat → Int32) (pna : Nat) (pta : Nat) (rails : Int32) (limit : Int32) (retry : Int32) (behind : Int32) (pn : Nat → Int32) (h_clast : 0 ≤ clast.toInt ∧ clast.toInt ≤ 144) (h_fw : ∀ j, j < 8 → 0 ≤ (fw j).toInt ∧ (fw j).toInt ≤ 511) (h_rails : 0 ≤ rails.toInt ∧ rails.toInt ≤ 8) (h_pn : ∀ j, j < 64 → 0 ≤ (pn j).toInt ∧ (pn j).toInt ≤ 511) : Met l yX0_setWaits (wt yX0_setWaits cX0_setWaits 3 none) rm_cSetWaits (xPc [.ref co, .ref pl] D (tyL cI cJ cZ cG cH) (W_cSetWaits cI cJ cZ cG cH co pl fwa fta fra fga cxa cup clast cpeak cptick fw pna pta rails limit retry behind pn) sz) (Q_cSetWaits D cI cJ cZ cG cH co pl fwa fta fra fga cxa cup clast cpeak cptick fw pna pta rails limit retry behind pn (va_A (W_cSetWaits cI cJ cZ cG cH co pl fwa fta fra fga cxa cup clast cpeak cptick fw pna pta rails limit retry behind pn) sz)) 0 0 (va_A (W_cSetWaits cI cJ cZ cG cH co pl fwa fta fra fga cxa cup clast cpeak cptick fw pna pta rails limit retry behind pn) sz) := by
  refine xMet (cc := cX0_setWaits) (maxL := 3) (ret := none) (Qf := Q_cSetWaits D cI cJ cZ cG cH co pl fwa fta fra fga cxa cup clast cpeak cptick fw pna pta rails limit retry behind pn) (by decide) rfl (Nat.le_of_ble_eq_true rfl) ?_
  intro p e s m below meth c ls A hx hb hr hml hts hown hlocks hnm hsz hP hK hD hA hS hl
  have hown : s.vm.findClass RX0 = some m.cls := hown
  have hP : va_P D vwCl [(co, .inr (0, [.ref fwa, .ref fta, .ref fra, .ref fga, .ref cxa, .int cup, .int clast, .int cpeak, .int cptick])), (fwa, .inl (cI, 8, .inl fw)), (pl, .inr (2, [.ref pna, .ref pta, .int rails, .int limit, .int retry, .int behind])), (pna, .inl (cI, 64, .inl pn))] s.heap := hP
  have hD : va_D A [(co, .inr (0, [.ref fwa, .ref fta, .ref fra, .ref fga, .ref cxa, .int cup, .int clast, .int cpeak, .int cptick])), (fwa, .inl (cI, 8, .inl fw)), (pl, .inr (2, [.ref pna, .ref pta, .int rails, .int limit, .int retry, .int behind])), (pna, .inl (cI, 64, .inl pn))] := hD
  have hl : lv_has ls 3 [(0, .ref co), (1, .ref pl)] := hl
  refine lv_iconst (v := 0) hx hb dX0_setWaits_0 (by decide) ?_
  refine lv_istore_n (lv' := [(2, .int 0), (0, .ref co), (1, .ref pl)]) hx hb dX0_setWaits_1 rfl hl (by decide) rfl (fun ls hl => ?_)
  have hl36 : ∀ (nhl36 : Nat) (x34 : Int32) (f35 : Nat → Int32), ((8 - x34.toInt).toNat < nhl36) → (hx34 : 0 ≤ x34.toInt ∧ x34.toInt ≤ 8) → (hf35 : ∀ j, j < 8 → 0 ≤ (f35 j).toInt ∧ (f35 j).toInt ≤ 511) → ∀ (H : Heap) (locs : List Loc), va_P D vwCl [(co, .inr (0, [.ref fwa, .ref fta, .ref fra, .ref fga, .ref cxa, .int cup, .int clast, .int cpeak, .int cptick])), (fwa, .inl (cI, 8, .inl f35)), (pl, .inr (2, [.ref pna, .ref pta, .int rails, .int limit, .int retry, .int behind])), (pna, .inl (cI, 64, .inl pn))] H → va_D A [(co, .inr (0, [.ref fwa, .ref fta, .ref fra, .ref fga, .ref cxa, .int cup, .int clast, .int cpeak, .int cptick])), (fwa, .inl (cI, 8, .inl f35)), (pl, .inr (2, [.ref pna, .ref pta, .int rails, .int limit, .int retry, .int behind])), (pna, .inl (cI, 64, .inl pn))] → va_S A s.heap H locs → ∀ (ls : Array Slot), lv_has ls 3 [(2, .int x34), (0, .ref co), (1, .ref pl)] → W p l e rm_cSetWaits s m [Value.ref co, Value.ref pl].toArray below meth c H locs 0 0 (MQ below ((Q_cSetWaits D cI cJ cZ cG cH co pl fwa fta fra fga cxa cup clast cpeak cptick fw pna pta rails limit retry behind pn) A) [Value.ref co, Value.ref pl].toArray s 0 0 A) (F0 m 2 ls []) := by
    intro nhl36
    induction nhl36 with
    | zero =>
      intro x34 f35 hmhl36
      exact absurd hmhl36 (Nat.not_lt_zero _)
    | succ nhl36 ihhl36 =>
      intro x34 f35 hmhl36 hx34 hf35 H locs hP hD hS ls hl
      refine lv_iload_n hx hb dX0_setWaits_2 rfl (lv_at hl 0 rfl) ?_
      refine lv_aload_n hx hb dX0_setWaits_3 rfl (lv_at hl 2 rfl) ?_
      refine va_get (D := D) (ci := 2) (v := .int rails) (C := RX3) (T := TX3) (N := 6) hx hb hts (fun w h => tbC w (tbfX3 w h)) hown hK hP 2 rfl rfl 2 (by decide) (hts (.fieldLink RX0 27 "PowerRails$Plan" "rails" "I") (tbC _ wd824)) (fun _ h9 => h9) rfl dX0_setWaits_4 ?_
      refine lv_icmp_ge (tgt := 28) hx hb dX0_setWaits_7 (by decide) (fun c_37 => ?_) (fun c_37 => ?_)
      · skip
        have i_37 : rails.toInt ≤ x34.toInt := (ile rfl rfl).mp c_37
        refine W.widen (k := 0) (n := 0) (by decide) (by decide) ?_
        have hP9 := hP.sub (ws' := [(co, .inr (0, [.ref fwa, .ref fta, .ref fra, .ref fga, .ref cxa, .int cup, .int clast, .int cpeak, .int cptick])), (fwa, .inl (cI, 8, .inl f35)), (pl, .inr (2, [.ref pna, .ref pta, .int rails, .int limit, .int retry, .int behind])), (pna, .inl (cI, 64, .inl pn))]) [0, 1, 2, 3] rfl
        have hD9 := hD.sub (ws' := [(co, .inr (0, [.ref fwa, .ref fta, .ref fra, .ref fga, .ref cxa, .int cup, .int clast, .int cpeak, .int cptick])), (fwa, .inl (cI, 8, .inl f35)), (pl, .inr (2, [.ref pna, .ref pta, .int rails, .int limit, .int retry, .int behind])), (pna, .inl (cI, 64, .inl pn))]) [0, 1, 2, 3] (by decide) rfl
        exact W.vret hx hb hr (fun t ht hW => ⟨⟨(), rfl, trivial, ⟨f35, (xwk_rng hf35 (by decide) (by decide)), xB_of ht hW hP9 hK hD9⟩⟩, hS.F ht⟩) hS.2.2 dX0_setWaits_28
      · skip
        have i_37 : ¬ (rails.toInt ≤ x34.toInt) := fun h9 => c_37 ((ile rfl rfl).mpr h9)
        refine lv_aload_n hx hb dX0_setWaits_10 rfl (lv_at hl 1 rfl) ?_
        refine va_get (D := D) (ci := 0) (v := .ref fwa) (C := RX0) (T := TX0) (N := 9) hx hb hts (fun w h => tbC w (tbfX0 w h)) hown hK hP 0 rfl rfl 0 (by decide) (hts (.fieldLink RX0 9 "PowerRails$Course" "waits" "[I") (tbC _ wd81)) (fun _ h9 => h9) rfl dX0_setWaits_11 ?_
        refine lv_iload_n hx hb dX0_setWaits_14 rfl (lv_at hl 0 rfl) ?_
        refine lv_aload_n hx hb dX0_setWaits_15 rfl (lv_at hl 2 rfl) ?_
        refine lv_iload_n hx hb dX0_setWaits_16 rfl (lv_at hl 0 rfl) ?_
        refine lv_iconst (v := 5) hx hb dX0_setWaits_17 (by decide) ?_
        have hPc := hP.sub (ws' := [(pl, .inr (2, [.ref pna, .ref pta, .int rails, .int limit, .int retry, .int behind])), (pna, .inl (cI, 64, .inl pn))]) [2, 3] rfl
        have hDc := hD.sub (ws' := [(pl, .inr (2, [.ref pna, .ref pta, .int rails, .int limit, .int retry, .int behind])), (pna, .inl (cI, 64, .inl pn))]) [2, 3] (by decide) rfl
        have hFc := va_free (wc := [(pl, .inr (2, [.ref pna, .ref pta, .int rails, .int limit, .int retry, .int behind])), (pna, .inl (cI, 64, .inl pn))]) hD hS hA [2, 3] rfl
        refine va_calli (va_runV (As := [.int x34, .int 5]) (rest := [.int x34, .ref fwa]) ⟨hx, hb, hml, hown, hts⟩ (c_number l D cI cJ cZ cG cH H.size pl x34 (5 : Int32) pna pta rails limit retry behind pn (xrng rfl (by omega) (by omega)) ⟨by decide, by decide⟩ (xrng rfl (by omega) (by omega)) (xwk_rng h_pn (by decide) (by decide))) (cwV 2 hts (xGV tbC wd825 wd388 wd389 wd39 wd390) rfl rfl rfl (by decide +kernel) ⟨Nat.le_of_ble_eq_true rfl, Nat.le_of_ble_eq_true rfl⟩) ⟨xPc_blind, va_recv hK hPc (ci := 2) (q0 := 0) rfl rfl, xPc_pre hPc hK hDc⟩ rfl rfl hl.1 rfl (lv_room (Nat.le_of_ble_eq_true rfl)) dX0_setWaits_18 ⟨Nat.le_of_ble_eq_true rfl, Nat.le_of_ble_eq_true rfl⟩) hS (fun q _ h => hFc q h) hFc (fun r38 u t H1 locs ht hvm hw38 hB hz1 hk1 hS => ?_)
        obtain ⟨hP1, hK1, hD1⟩ := hB
        rw [ht] at hP1
        obtain ⟨hP, hD⟩ := va_join (wr := [(co, .inr (0, [.ref fwa, .ref fta, .ref fra, .ref fga, .ref cxa, .int cup, .int clast, .int cpeak, .int cptick])), (fwa, .inl (cI, 8, .inl f35))]) (w1 := [(pl, .inr (2, [.ref pna, .ref pta, .int rails, .int limit, .int retry, .int behind])), (pna, .inl (cI, 64, .inl pn))]) hP hD [2, 3] [0, 1] rfl rfl (by decide) (by decide) hk1 hFc hP1 hD1
        generalize H1 = H at hP hS ⊢
        have hP : va_P D vwCl [(co, .inr (0, [.ref fwa, .ref fta, .ref fra, .ref fga, .ref cxa, .int cup, .int clast, .int cpeak, .int cptick])), (fwa, .inl (cI, 8, .inl f35)), (pl, .inr (2, [.ref pna, .ref pta, .int rails, .int limit, .int retry, .int behind])), (pna, .inl (cI, 64, .inl pn))] H := hP
        have hD : va_D A [(co, .inr (0, [.ref fwa, .ref fta, .ref fra, .ref fga, .ref cxa, .int cup, .int clast, .int cpeak, .int cptick])), (fwa, .inl (cI, 8, .inl f35)), (pl, .inr (2, [.ref pna, .ref pta, .int rails, .int limit, .int retry, .int behind])), (pna, .inl (cI, 64, .inl pn))] := hD
        have hw38 : 0 ≤ r38.toInt ∧ r38.toInt ≤ 511 := hw38
        refine va_iast hx hb hK hP hD hS 1 0 rfl rfl (vp_in_iff.mpr ⟨by omega, by omega⟩) dX0_setWaits_21 (fun H locs hP hD hS => ?_)
        obtain ⟨f39, ef39⟩ : ∃ fz9 : Nat → Int32, fz9 = upd f35 (x34 : Int32).toNatClampNeg r38 := ⟨_, rfl⟩
        have hP : va_P D vwCl [(co, .inr (0, [.ref fwa, .ref fta, .ref fra, .ref fga, .ref cxa, .int cup, .int clast, .int cpeak, .int cptick])), (fwa, .inl (cI, 8, .inl f39)), (pl, .inr (2, [.ref pna, .ref pta, .int rails, .int limit, .int retry, .int behind])), (pna, .inl (cI, 64, .inl pn))] H := by rw [ef39]; exact hP
        have hD : va_D A [(co, .inr (0, [.ref fwa, .ref fta, .ref fra, .ref fga, .ref cxa, .int cup, .int clast, .int cpeak, .int cptick])), (fwa, .inl (cI, 8, .inl f39)), (pl, .inr (2, [.ref pna, .ref pta, .int rails, .int limit, .int retry, .int behind])), (pna, .inl (cI, 64, .inl pn))] := by rw [ef39]; exact hD
        have rf39 : ∀ j, j < 8 → 0 ≤ (f39 j).toInt ∧ (f39 j).toInt ≤ 511 := by rw [ef39]; exact xup_rng (xwk_rng hf35 (by decide) (by decide)) (xrng rfl (by omega) (by omega))
        obtain ⟨x40, ex40⟩ : ∃ y : Int32, y = x34 + 1 := ⟨_, rfl⟩
        have tx40 : x40.toInt = (x34.toInt + 1) := (congrArg Int32.toInt ex40).trans (xadd rfl (by decide) (by omega) (by omega))
        refine lv_iinc (v := x40) (lv' := [(2, .int x40), (0, .ref co), (1, .ref pl)]) hx hb dX0_setWaits_22 hl (k := 0) rfl (by rw [ex40]; rfl) (by decide) rfl (fun ls hl => ?_)
        refine lv_goto (tgt := 2) hx hb dX0_setWaits_25 (by decide) ?_
        exact ihhl36 x40 f39 (by omega) (xrng tx40 (by omega) (by omega)) (xwk_rng rf39 (by decide) (by decide)) _ _ hP hD hS ls (lv_sub hl [0, 1, 2] rfl)
  exact hl36 _ 0 fw (Nat.lt_succ_self _) ⟨by decide, by decide⟩ (xwk_rng h_fw (by decide) (by decide)) _ _ hP hD hS ls (lv_sub hl [0, 1, 2] rfl)
abbrev W_cSetTakes (cI cJ cZ cG cH : ClassId) (co : Nat) (pl : Nat) (w0 : Int32) (fwa : Nat) (fta : Nat) (fra : Nat) (fga : Nat) (cxa : Nat) (cup : Int32) (clast : Int32) (cpeak : Int32) (cptick : Int32) (ft : Nat → Int32) (pna : Nat) (pta : Nat) (rails : Int32) (limit : Int32) (retry : Int32) (behind : Int32) (pn : Nat → Int32) : va_W := [(co, .inr (0, [.ref fwa, .ref fta, .ref fra, .ref fga, .ref cxa, .int cup, .int clast, .int cpeak, .int cptick])), (fta, .inl (cI, 8, .inl ft)), (pl, .inr (2, [.ref pna, .ref pta, .int rails, .int limit, .int retry, .int behind])), (pna, .inl (cI, 64, .inl pn))]
abbrev Q_cSetTakes (D : va_G) (cI cJ cZ cG cH : ClassId) (co : Nat) (pl : Nat) (w0 : Int32) (fwa : Nat) (fta : Nat) (fra : Nat) (fga : Nat) (cxa : Nat) (cup : Int32) (clast : Int32) (cpeak : Int32) (cptick : Int32) (ft : Nat → Int32) (pna : Nat) (pta : Nat) (rails : Int32) (limit : Int32) (retry : Int32) (behind : Int32) (pn : Nat → Int32) (A : Nat → Prop) : Array Value → State → Outcome → State → Prop := va_Qv (fun (_ : Unit) => True) (fun _ t => ∃ (ft9 : Nat → Int32), (∀ j, j < 8 → 0 ≤ (ft9 j).toInt ∧ (ft9 j).toInt ≤ 511) ∧ xB D (tyL cI cJ cZ cG cH) [(co, .inr (0, [.ref fwa, .ref fta, .ref fra, .ref fga, .ref cxa, .int cup, .int clast, .int cpeak, .int cptick])), (fta, .inl (cI, 8, .inl ft9)), (pl, .inr (2, [.ref pna, .ref pta, .int rails, .int limit, .int retry, .int behind])), (pna, .inl (cI, 64, .inl pn))] A t) A
abbrev rm_cSetTakes : Room := { frames := 1, cells := 0, slots := 0, locals := 22 }
set_option maxRecDepth 100000 in
set_option maxHeartbeats 4000000 in
theorem c_cSetTakes (l : Launch) (D : va_G) (cI cJ cZ cG cH : ClassId) (sz : Nat) (co : Nat) (pl : Nat) (w0 : Int32) (fwa : Nat) (fta : Nat) (fra : Nat) (fga : Nat) (cxa : Nat) (cup : Int32) (clast : Int32) (cpeak : Int32) (cptick : Int32) (ft : Nat → Int32) (pna : Nat) (pta : Nat) (rails : Int32) (limit : Int32) (retry : Int32) (behind : Int32) (pn : Nat → Int32) (h_w0 : 0 ≤ w0.toInt ∧ w0.toInt ≤ 7) (h_clast : 0 ≤ clast.toInt ∧ clast.toInt ≤ 144) (h_ft : ∀ j, j < 8 → 0 ≤ (ft j).toInt ∧ (ft j).toInt ≤ 511) (h_rails : 0 ≤ rails.toInt ∧ rails.toInt ≤ 8) (h_pn : ∀ j, j < 64 → 0 ≤ (pn j).toInt ∧ (pn j).toInt ≤ 511) : Met l yX0_setTakes (wt yX0_setTakes cX0_setTakes 4 none) rm_cSetTakes (xPc [.ref co, .ref pl, .int w0] D (tyL cI cJ cZ cG cH) (W_cSetTakes cI cJ cZ cG cH co pl w0 fwa fta fra fga cxa cup clast cpeak cptick ft pna pta rails limit retry behind pn) sz) (Q_cSetTakes D cI cJ cZ cG cH co pl w0 fwa fta fra fga cxa cup clast cpeak cptick ft pna pta rails limit retry behind pn (va_A (W_cSetTakes cI cJ cZ cG cH co pl w0 fwa fta fra fga cxa cup clast cpeak cptick ft pna pta rails limit retry behind pn) sz)) 0 0 (va_A (W_cSetTakes cI cJ cZ cG cH co pl w0 fwa fta fra fga cxa cup clast cpeak cptick ft pna pta rails limit retry behind pn) sz) := by
  refine xMet (cc := cX0_setTakes) (maxL := 4) (ret := none) (Qf := Q_cSetTakes D cI cJ cZ cG cH co pl w0 fwa fta fra fga cxa cup clast cpeak cptick ft pna pta rails limit retry behind pn) (by decide) rfl (Nat.le_of_ble_eq_true rfl) ?_
  intro p e s m below meth c ls A hx hb hr hml hts hown hlocks hnm hsz hP hK hD hA hS hl
  have hown : s.vm.findClass RX0 = some m.cls := hown
  have hP : va_P D vwCl [(co, .inr (0, [.ref fwa, .ref fta, .ref fra, .ref fga, .ref cxa, .int cup, .int clast, .int cpeak, .int cptick])), (fta, .inl (cI, 8, .inl ft)), (pl, .inr (2, [.ref pna, .ref pta, .int rails, .int limit, .int retry, .int behind])), (pna, .inl (cI, 64, .inl pn))] s.heap := hP
  have hD : va_D A [(co, .inr (0, [.ref fwa, .ref fta, .ref fra, .ref fga, .ref cxa, .int cup, .int clast, .int cpeak, .int cptick])), (fta, .inl (cI, 8, .inl ft)), (pl, .inr (2, [.ref pna, .ref pta, .int rails, .int limit, .int retry, .int behind])), (pna, .inl (cI, 64, .inl pn))] := hD
  have hl : lv_has ls 4 [(0, .ref co), (1, .ref pl), (2, .int w0)] := hl
  refine lv_iconst (v := 0) hx hb dX0_setTakes_0 (by decide) ?_
  refine lv_istore_n (lv' := [(3, .int 0), (0, .ref co), (1, .ref pl), (2, .int w0)]) hx hb dX0_setTakes_1 rfl hl (by decide) rfl (fun ls hl => ?_)
  have hl36 : ∀ (nhl36 : Nat) (x34 : Int32) (f35 : Nat → Int32), ((8 - x34.toInt).toNat < nhl36) → (hx34 : 0 ≤ x34.toInt ∧ x34.toInt ≤ 8) → (hf35 : ∀ j, j < 8 → 0 ≤ (f35 j).toInt ∧ (f35 j).toInt ≤ 511) → ∀ (H : Heap) (locs : List Loc), va_P D vwCl [(co, .inr (0, [.ref fwa, .ref fta, .ref fra, .ref fga, .ref cxa, .int cup, .int clast, .int cpeak, .int cptick])), (fta, .inl (cI, 8, .inl f35)), (pl, .inr (2, [.ref pna, .ref pta, .int rails, .int limit, .int retry, .int behind])), (pna, .inl (cI, 64, .inl pn))] H → va_D A [(co, .inr (0, [.ref fwa, .ref fta, .ref fra, .ref fga, .ref cxa, .int cup, .int clast, .int cpeak, .int cptick])), (fta, .inl (cI, 8, .inl f35)), (pl, .inr (2, [.ref pna, .ref pta, .int rails, .int limit, .int retry, .int behind])), (pna, .inl (cI, 64, .inl pn))] → va_S A s.heap H locs → ∀ (ls : Array Slot), lv_has ls 4 [(3, .int x34), (0, .ref co), (1, .ref pl), (2, .int w0)] → W p l e rm_cSetTakes s m [Value.ref co, Value.ref pl, Value.int w0].toArray below meth c H locs 0 0 (MQ below ((Q_cSetTakes D cI cJ cZ cG cH co pl w0 fwa fta fra fga cxa cup clast cpeak cptick ft pna pta rails limit retry behind pn) A) [Value.ref co, Value.ref pl, Value.int w0].toArray s 0 0 A) (F0 m 2 ls []) := by
    intro nhl36
    induction nhl36 with
    | zero =>
      intro x34 f35 hmhl36
      exact absurd hmhl36 (Nat.not_lt_zero _)
    | succ nhl36 ihhl36 =>
      intro x34 f35 hmhl36 hx34 hf35 H locs hP hD hS ls hl
      refine lv_iload_n hx hb dX0_setTakes_2 rfl (lv_at hl 0 rfl) ?_
      refine lv_aload_n hx hb dX0_setTakes_3 rfl (lv_at hl 2 rfl) ?_
      refine va_get (D := D) (ci := 2) (v := .int rails) (C := RX3) (T := TX3) (N := 6) hx hb hts (fun w h => tbC w (tbfX3 w h)) hown hK hP 2 rfl rfl 2 (by decide) (hts (.fieldLink RX0 27 "PowerRails$Plan" "rails" "I") (tbC _ wd824)) (fun _ h9 => h9) rfl dX0_setTakes_4 ?_
      refine lv_icmp_ge (tgt := 28) hx hb dX0_setTakes_7 (by decide) (fun c_37 => ?_) (fun c_37 => ?_)
      · skip
        have i_37 : rails.toInt ≤ x34.toInt := (ile rfl rfl).mp c_37
        refine W.widen (k := 0) (n := 0) (by decide) (by decide) ?_
        have hP9 := hP.sub (ws' := [(co, .inr (0, [.ref fwa, .ref fta, .ref fra, .ref fga, .ref cxa, .int cup, .int clast, .int cpeak, .int cptick])), (fta, .inl (cI, 8, .inl f35)), (pl, .inr (2, [.ref pna, .ref pta, .int rails, .int limit, .int retry, .int behind])), (pna, .inl (cI, 64, .inl pn))]) [0, 1, 2, 3] rfl
        have hD9 := hD.sub (ws' := [(co, .inr (0, [.ref fwa, .ref fta, .ref fra, .ref fga, .ref cxa, .int cup, .int clast, .int cpeak, .int cptick])), (fta, .inl (cI, 8, .inl f35)), (pl, .inr (2, [.ref pna, .ref pta, .int rails, .int limit, .int retry, .int behind])), (pna, .inl (cI, 64, .inl pn))]) [0, 1, 2, 3] (by decide) rfl
        exact W.vret hx hb hr (fun t ht hW => ⟨⟨(), rfl, trivial, ⟨f35, (xwk_rng hf35 (by decide) (by decide)), xB_of ht hW hP9 hK hD9⟩⟩, hS.F ht⟩) hS.2.2 dX0_setTakes_28
      · skip
        have i_37 : ¬ (rails.toInt ≤ x34.toInt) := fun h9 => c_37 ((ile rfl rfl).mpr h9)
        refine lv_aload_n hx hb dX0_setTakes_10 rfl (lv_at hl 1 rfl) ?_
        refine va_get (D := D) (ci := 0) (v := .ref fta) (C := RX0) (T := TX0) (N := 9) hx hb hts (fun w h => tbC w (tbfX0 w h)) hown hK hP 0 rfl rfl 1 (by decide) (hts (.fieldLink RX0 15 "PowerRails$Course" "takes" "[I") (tbC _ wd82)) (fun _ h9 => h9) rfl dX0_setTakes_11 ?_
        refine lv_iload_n hx hb dX0_setTakes_14 rfl (lv_at hl 0 rfl) ?_
        refine lv_aload_n hx hb dX0_setTakes_15 rfl (lv_at hl 2 rfl) ?_
        refine lv_iload_n hx hb dX0_setTakes_16 rfl (lv_at hl 0 rfl) ?_
        refine lv_iload_n hx hb dX0_setTakes_17 rfl (lv_at hl 3 rfl) ?_
        have hPc := hP.sub (ws' := [(pl, .inr (2, [.ref pna, .ref pta, .int rails, .int limit, .int retry, .int behind])), (pna, .inl (cI, 64, .inl pn))]) [2, 3] rfl
        have hDc := hD.sub (ws' := [(pl, .inr (2, [.ref pna, .ref pta, .int rails, .int limit, .int retry, .int behind])), (pna, .inl (cI, 64, .inl pn))]) [2, 3] (by decide) rfl
        have hFc := va_free (wc := [(pl, .inr (2, [.ref pna, .ref pta, .int rails, .int limit, .int retry, .int behind])), (pna, .inl (cI, 64, .inl pn))]) hD hS hA [2, 3] rfl
        refine va_calli (va_runV (As := [.int x34, .int w0]) (rest := [.int x34, .ref fta]) ⟨hx, hb, hml, hown, hts⟩ (c_number l D cI cJ cZ cG cH H.size pl x34 w0 pna pta rails limit retry behind pn (xrng rfl (by omega) (by omega)) (xrng rfl (by omega) (by omega)) (xrng rfl (by omega) (by omega)) (xwk_rng h_pn (by decide) (by decide))) (cwV 2 hts (xGV tbC wd825 wd388 wd389 wd39 wd390) rfl rfl rfl (by decide +kernel) ⟨Nat.le_of_ble_eq_true rfl, Nat.le_of_ble_eq_true rfl⟩) ⟨xPc_blind, va_recv hK hPc (ci := 2) (q0 := 0) rfl rfl, xPc_pre hPc hK hDc⟩ rfl rfl hl.1 rfl (lv_room (Nat.le_of_ble_eq_true rfl)) dX0_setTakes_18 ⟨Nat.le_of_ble_eq_true rfl, Nat.le_of_ble_eq_true rfl⟩) hS (fun q _ h => hFc q h) hFc (fun r38 u t H1 locs ht hvm hw38 hB hz1 hk1 hS => ?_)
        obtain ⟨hP1, hK1, hD1⟩ := hB
        rw [ht] at hP1
        obtain ⟨hP, hD⟩ := va_join (wr := [(co, .inr (0, [.ref fwa, .ref fta, .ref fra, .ref fga, .ref cxa, .int cup, .int clast, .int cpeak, .int cptick])), (fta, .inl (cI, 8, .inl f35))]) (w1 := [(pl, .inr (2, [.ref pna, .ref pta, .int rails, .int limit, .int retry, .int behind])), (pna, .inl (cI, 64, .inl pn))]) hP hD [2, 3] [0, 1] rfl rfl (by decide) (by decide) hk1 hFc hP1 hD1
        generalize H1 = H at hP hS ⊢
        have hP : va_P D vwCl [(co, .inr (0, [.ref fwa, .ref fta, .ref fra, .ref fga, .ref cxa, .int cup, .int clast, .int cpeak, .int cptick])), (fta, .inl (cI, 8, .inl f35)), (pl, .inr (2, [.ref pna, .ref pta, .int rails, .int limit, .int retry, .int behind])), (pna, .inl (cI, 64, .inl pn))] H := hP
        have hD : va_D A [(co, .inr (0, [.ref fwa, .ref fta, .ref fra, .ref fga, .ref cxa, .int cup, .int clast, .int cpeak, .int cptick])), (fta, .inl (cI, 8, .inl f35)), (pl, .inr (2, [.ref pna, .ref pta, .int rails, .int limit, .int retry, .int behind])), (pna, .inl (cI, 64, .inl pn))] := hD
        have hw38 : 0 ≤ r38.toInt ∧ r38.toInt ≤ 511 := hw38
        refine va_iast hx hb hK hP hD hS 1 0 rfl rfl (vp_in_iff.mpr ⟨by omega, by omega⟩) dX0_setTakes_21 (fun H locs hP hD hS => ?_)
        obtain ⟨f39, ef39⟩ : ∃ fz9 : Nat → Int32, fz9 = upd f35 (x34 : Int32).toNatClampNeg r38 := ⟨_, rfl⟩
        have hP : va_P D vwCl [(co, .inr (0, [.ref fwa, .ref fta, .ref fra, .ref fga, .ref cxa, .int cup, .int clast, .int cpeak, .int cptick])), (fta, .inl (cI, 8, .inl f39)), (pl, .inr (2, [.ref pna, .ref pta, .int rails, .int limit, .int retry, .int behind])), (pna, .inl (cI, 64, .inl pn))] H := by rw [ef39]; exact hP
        have hD : va_D A [(co, .inr (0, [.ref fwa, .ref fta, .ref fra, .ref fga, .ref cxa, .int cup, .int clast, .int cpeak, .int cptick])), (fta, .inl (cI, 8, .inl f39)), (pl, .inr (2, [.ref pna, .ref pta, .int rails, .int limit, .int retry, .int behind])), (pna, .inl (cI, 64, .inl pn))] := by rw [ef39]; exact hD
        have rf39 : ∀ j, j < 8 → 0 ≤ (f39 j).toInt ∧ (f39 j).toInt ≤ 511 := by rw [ef39]; exact xup_rng (xwk_rng hf35 (by decide) (by decide)) (xrng rfl (by omega) (by omega))
        obtain ⟨x40, ex40⟩ : ∃ y : Int32, y = x34 + 1 := ⟨_, rfl⟩
        have tx40 : x40.toInt = (x34.toInt + 1) := (congrArg Int32.toInt ex40).trans (xadd rfl (by decide) (by omega) (by omega))
        refine lv_iinc (v := x40) (lv' := [(3, .int x40), (0, .ref co), (1, .ref pl), (2, .int w0)]) hx hb dX0_setTakes_22 hl (k := 0) rfl (by rw [ex40]; rfl) (by decide) rfl (fun ls hl => ?_)
        refine lv_goto (tgt := 2) hx hb dX0_setTakes_25 (by decide) ?_
        exact ihhl36 x40 f39 (by omega) (xrng tx40 (by omega) (by omega)) (xwk_rng rf39 (by decide) (by decide)) _ _ hP hD hS ls (lv_sub hl [0, 1, 2, 3] rfl)
  exact hl36 _ 0 ft (Nat.lt_succ_self _) ⟨by decide, by decide⟩ (xwk_rng h_ft (by decide) (by decide)) _ _ hP hD hS ls (lv_sub hl [0, 1, 2, 3] rfl)
abbrev W_copyTakes (cI cJ cZ cG cH : ClassId) (co : Nat) (rta : Nat) (fwa : Nat) (fta : Nat) (fra : Nat) (fga : Nat) (cxa : Nat) (cup : Int32) (clast : Int32) (cpeak : Int32) (cptick : Int32) (ft : Nat → Int32) (rt : Nat → Int32) : va_W := [(co, .inr (0, [.ref fwa, .ref fta, .ref fra, .ref fga, .ref cxa, .int cup, .int clast, .int cpeak, .int cptick])), (fta, .inl (cI, 8, .inl ft)), (rta, .inl (cI, 8, .inl rt))]
abbrev Q_copyTakes (D : va_G) (cI cJ cZ cG cH : ClassId) (co : Nat) (rta : Nat) (fwa : Nat) (fta : Nat) (fra : Nat) (fga : Nat) (cxa : Nat) (cup : Int32) (clast : Int32) (cpeak : Int32) (cptick : Int32) (ft : Nat → Int32) (rt : Nat → Int32) (A : Nat → Prop) : Array Value → State → Outcome → State → Prop := va_Qv (fun (_ : Unit) => True) (fun _ t => ∃ (ft9 : Nat → Int32), (∀ j, j < 8 → 0 ≤ (ft9 j).toInt ∧ (ft9 j).toInt ≤ 511) ∧ xB D (tyL cI cJ cZ cG cH) [(co, .inr (0, [.ref fwa, .ref fta, .ref fra, .ref fga, .ref cxa, .int cup, .int clast, .int cpeak, .int cptick])), (fta, .inl (cI, 8, .inl ft9)), (rta, .inl (cI, 8, .inl rt))] A t) A
abbrev rm_copyTakes : Room := { frames := 1, cells := 0, slots := 0, locals := 40 }
set_option maxRecDepth 100000 in
set_option maxHeartbeats 4000000 in
theorem c_copyTakes (l : Launch) (D : va_G) (cI cJ cZ cG cH : ClassId) (sz : Nat) (co : Nat) (rta : Nat) (fwa : Nat) (fta : Nat) (fra : Nat) (fga : Nat) (cxa : Nat) (cup : Int32) (clast : Int32) (cpeak : Int32) (cptick : Int32) (ft : Nat → Int32) (rt : Nat → Int32) (h_clast : 0 ≤ clast.toInt ∧ clast.toInt ≤ 144) (h_ft : ∀ j, j < 8 → 0 ≤ (ft j).toInt ∧ (ft j).toInt ≤ 511) (h_rt : ∀ j, j < 8 → 0 ≤ (rt j).toInt ∧ (rt j).toInt ≤ 511) : Met l yX0_copyTakes (wt yX0_copyTakes cX0_copyTakes 2 none) rm_copyTakes (xPc [.ref co, .ref rta] D (tyL cI cJ cZ cG cH) (W_copyTakes cI cJ cZ cG cH co rta fwa fta fra fga cxa cup clast cpeak cptick ft rt) sz) (Q_copyTakes D cI cJ cZ cG cH co rta fwa fta fra fga cxa cup clast cpeak cptick ft rt (va_A (W_copyTakes cI cJ cZ cG cH co rta fwa fta fra fga cxa cup clast cpeak cptick ft rt) sz)) 0 0 (va_A (W_copyTakes cI cJ cZ cG cH co rta fwa fta fra fga cxa cup clast cpeak cptick ft rt) sz) := by
  refine xMet (cc := cX0_copyTakes) (maxL := 2) (ret := none) (Qf := Q_copyTakes D cI cJ cZ cG cH co rta fwa fta fra fga cxa cup clast cpeak cptick ft rt) (by decide) rfl (Nat.le_of_ble_eq_true rfl) ?_
  intro p e s m below meth c ls A hx hb hr hml hts hown hlocks hnm hsz hP hK hD hA hS hl
  have hown : s.vm.findClass RX0 = some m.cls := hown
  have hP : va_P D vwCl [(co, .inr (0, [.ref fwa, .ref fta, .ref fra, .ref fga, .ref cxa, .int cup, .int clast, .int cpeak, .int cptick])), (fta, .inl (cI, 8, .inl ft)), (rta, .inl (cI, 8, .inl rt))] s.heap := hP
  have hD : va_D A [(co, .inr (0, [.ref fwa, .ref fta, .ref fra, .ref fga, .ref cxa, .int cup, .int clast, .int cpeak, .int cptick])), (fta, .inl (cI, 8, .inl ft)), (rta, .inl (cI, 8, .inl rt))] := hD
  have hl : lv_has ls 2 [(0, .ref co), (1, .ref rta)] := hl
  refine lv_aload_n hx hb dX0_copyTakes_0 rfl (lv_at hl 1 rfl) ?_
  refine lv_iconst (v := 0) hx hb dX0_copyTakes_1 (by decide) ?_
  refine lv_aload_n hx hb dX0_copyTakes_2 rfl (lv_at hl 0 rfl) ?_
  refine va_get (D := D) (ci := 0) (v := .ref fta) (C := RX0) (T := TX0) (N := 9) hx hb hts (fun w h => tbC w (tbfX0 w h)) hown hK hP 0 rfl rfl 1 (by decide) (hts (.fieldLink RX0 15 "PowerRails$Course" "takes" "[I") (tbC _ wd82)) (fun _ h9 => h9) rfl dX0_copyTakes_3 ?_
  refine lv_iconst (v := 0) hx hb dX0_copyTakes_6 (by decide) ?_
  refine lv_bipush (v := 8) hx hb dX0_copyTakes_7 (by decide) ?_
  refine va_copyi hx hb (hml.trans hl.1.symm) hown (hts (.methodLink RX0 37 arraycopyName) (tbC _ wd830)) (hts (.native arraycopyName) (tbC _ wd363)) (hts (.static arraycopyName) (tbC _ wd364)) (hts (.initialized "java/lang/System") (tbC _ wd365)) hK hP hD hS 2 1 0 0 rfl rfl rfl rfl rfl (by decide) (by decide) (by decide) (by decide) (by decide) (fun _ _ => rfl) (Nat.le_of_ble_eq_true rfl) (Nat.le_of_ble_eq_true rfl) dX0_copyTakes_9 (fun H locs hP hD hS => ?_)
  obtain ⟨f1, ef1⟩ : ∃ fz9 : Nat → Int32, fz9 = va_cpy rt ft (0 : Int32).toNatClampNeg (0 : Int32).toNatClampNeg (8 : Int32).toNatClampNeg := ⟨_, rfl⟩
  have hP : va_P D vwCl [(co, .inr (0, [.ref fwa, .ref fta, .ref fra, .ref fga, .ref cxa, .int cup, .int clast, .int cpeak, .int cptick])), (fta, .inl (cI, 8, .inl f1)), (rta, .inl (cI, 8, .inl rt))] H := by rw [ef1]; exact hP
  have hD : va_D A [(co, .inr (0, [.ref fwa, .ref fta, .ref fra, .ref fga, .ref cxa, .int cup, .int clast, .int cpeak, .int cptick])), (fta, .inl (cI, 8, .inl f1)), (rta, .inl (cI, 8, .inl rt))] := by rw [ef1]; exact hD
  have rf1 : ∀ j, j < 8 → 0 ≤ (f1 j).toInt ∧ (f1 j).toInt ≤ 511 := by rw [ef1]; exact xcp_rng (xwk_rng h_rt (by decide) (by decide)) (xwk_rng h_ft (by decide) (by decide)) (by decide)
  refine W.widen (k := 0) (n := 0) (by decide) (by decide) ?_
  have hP9 := hP.sub (ws' := [(co, .inr (0, [.ref fwa, .ref fta, .ref fra, .ref fga, .ref cxa, .int cup, .int clast, .int cpeak, .int cptick])), (fta, .inl (cI, 8, .inl f1)), (rta, .inl (cI, 8, .inl rt))]) [0, 1, 2] rfl
  have hD9 := hD.sub (ws' := [(co, .inr (0, [.ref fwa, .ref fta, .ref fra, .ref fga, .ref cxa, .int cup, .int clast, .int cpeak, .int cptick])), (fta, .inl (cI, 8, .inl f1)), (rta, .inl (cI, 8, .inl rt))]) [0, 1, 2] (by decide) rfl
  exact W.vret hx hb hr (fun t ht hW => ⟨⟨(), rfl, trivial, ⟨f1, (xwk_rng rf1 (by decide) (by decide)), xB_of ht hW hP9 hK hD9⟩⟩, hS.F ht⟩) hS.2.2 dX0_copyTakes_12
abbrev W_isUp (cI cJ cZ cG cH : ClassId) (co : Nat) (r0 : Int32) (fwa : Nat) (fta : Nat) (fra : Nat) (fga : Nat) (cxa : Nat) (cup : Int32) (clast : Int32) (cpeak : Int32) (cptick : Int32) : va_W := [(co, .inr (0, [.ref fwa, .ref fta, .ref fra, .ref fga, .ref cxa, .int cup, .int clast, .int cpeak, .int cptick]))]
abbrev Q_isUp (D : va_G) (cI cJ cZ cG cH : ClassId) (co : Nat) (r0 : Int32) (fwa : Nat) (fta : Nat) (fra : Nat) (fga : Nat) (cxa : Nat) (cup : Int32) (clast : Int32) (cpeak : Int32) (cptick : Int32) (A : Nat → Prop) : Array Value → State → Outcome → State → Prop := va_Qi (fun (r : Int32) (_ : Unit) => 0 ≤ r.toInt ∧ r.toInt ≤ 1) (fun _ t => xB D (tyL cI cJ cZ cG cH) [(co, .inr (0, [.ref fwa, .ref fta, .ref fra, .ref fga, .ref cxa, .int cup, .int clast, .int cpeak, .int cptick]))] A t) A
abbrev rm_isUp : Room := { frames := 0, cells := 0, slots := 0, locals := 0 }
set_option maxRecDepth 100000 in
set_option maxHeartbeats 4000000 in
theorem c_isUp (l : Launch) (D : va_G) (cI cJ cZ cG cH : ClassId) (sz : Nat) (co : Nat) (r0 : Int32) (fwa : Nat) (fta : Nat) (fra : Nat) (fga : Nat) (cxa : Nat) (cup : Int32) (clast : Int32) (cpeak : Int32) (cptick : Int32) (h_clast : 0 ≤ clast.toInt ∧ clast.toInt ≤ 144) : Met l yX0_isUp (wt yX0_isUp cX0_isUp 2 (some .boolean)) rm_isUp (xPc [.ref co, .int r0] D (tyL cI cJ cZ cG cH) (W_isUp cI cJ cZ cG cH co r0 fwa fta fra fga cxa cup clast cpeak cptick) sz) (Q_isUp D cI cJ cZ cG cH co r0 fwa fta fra fga cxa cup clast cpeak cptick (va_A (W_isUp cI cJ cZ cG cH co r0 fwa fta fra fga cxa cup clast cpeak cptick) sz)) 0 0 (va_A (W_isUp cI cJ cZ cG cH co r0 fwa fta fra fga cxa cup clast cpeak cptick) sz) := by
  refine xMet (cc := cX0_isUp) (maxL := 2) (ret := (some .boolean)) (Qf := Q_isUp D cI cJ cZ cG cH co r0 fwa fta fra fga cxa cup clast cpeak cptick) (by decide) rfl (Nat.le_of_ble_eq_true rfl) ?_
  intro p e s m below meth c ls A hx hb hr hml hts hown hlocks hnm hsz hP hK hD hA hS hl
  have hown : s.vm.findClass RX0 = some m.cls := hown
  have hP : va_P D vwCl [(co, .inr (0, [.ref fwa, .ref fta, .ref fra, .ref fga, .ref cxa, .int cup, .int clast, .int cpeak, .int cptick]))] s.heap := hP
  have hD : va_D A [(co, .inr (0, [.ref fwa, .ref fta, .ref fra, .ref fga, .ref cxa, .int cup, .int clast, .int cpeak, .int cptick]))] := hD
  have hl : lv_has ls 2 [(0, .ref co), (1, .int r0)] := hl
  refine lv_aload_n hx hb dX0_isUp_0 rfl (lv_at hl 0 rfl) ?_
  refine va_get (D := D) (ci := 0) (v := .int cup) (C := RX0) (T := TX0) (N := 9) hx hb hts (fun w h => tbC w (tbfX0 w h)) hown hK hP 0 rfl rfl 5 (by decide) (hts (.fieldLink RX0 43 "PowerRails$Course" "up" "I") (tbC _ wd839)) (fun _ h9 => h9) rfl dX0_isUp_1 ?_
  refine lv_iload_n hx hb dX0_isUp_4 rfl (lv_at hl 1 rfl) ?_
  refine lv_ishr hx hb dX0_isUp_5 ?_
  refine lv_topi (fun v1 ev1 => ?_)
  refine lv_iconst (v := 1) hx hb dX0_isUp_6 (by decide) ?_
  refine lv_iand hx hb dX0_isUp_7 ?_
  refine lv_topi (fun v2 ev2 => ?_)
  have rv2 : 0 ≤ v2.toInt ∧ v2.toInt ≤ 1 := xandL ev2 (show (1 : Int32).toInt = 1 from (by decide)) (by omega)
  refine lv_iconst (v := 1) hx hb dX0_isUp_8 (by decide) ?_
  refine lv_icmp_ne (tgt := 16) hx hb dX0_isUp_9 (by decide) (fun c_3 => ?_) (fun c_3 => ?_)
  · skip
    have i_3 : ¬ (v2.toInt = 1) := fun h9 => c_3 ((ieq rfl (by decide)).mpr h9)
    refine lv_iconst (v := 0) hx hb dX0_isUp_16 (by decide) ?_
    refine W.widen (k := 0) (n := 0) (by decide) (by decide) ?_
    have hP9 := hP.sub (ws' := [(co, .inr (0, [.ref fwa, .ref fta, .ref fra, .ref fga, .ref cxa, .int cup, .int clast, .int cpeak, .int cptick]))]) [0] rfl
    have hD9 := hD.sub (ws' := [(co, .inr (0, [.ref fwa, .ref fta, .ref fra, .ref fga, .ref cxa, .int cup, .int clast, .int cpeak, .int cptick]))]) [0] (by decide) rfl
    exact W.zret (v := 0) hx hb hr (by decide) (fun t ht hW => ⟨⟨0, (), rfl, ⟨by decide, by decide⟩, xB_of ht hW hP9 hK hD9⟩, hS.F ht⟩) hS.2.2 dX0_isUp_17
  · skip
    have i_3 : v2.toInt = 1 := (ieq rfl (by decide)).mp c_3
    refine lv_iconst (v := 1) hx hb dX0_isUp_12 (by decide) ?_
    refine lv_goto (tgt := 17) hx hb dX0_isUp_13 (by decide) ?_
    refine W.widen (k := 0) (n := 0) (by decide) (by decide) ?_
    have hP9 := hP.sub (ws' := [(co, .inr (0, [.ref fwa, .ref fta, .ref fra, .ref fga, .ref cxa, .int cup, .int clast, .int cpeak, .int cptick]))]) [0] rfl
    have hD9 := hD.sub (ws' := [(co, .inr (0, [.ref fwa, .ref fta, .ref fra, .ref fga, .ref cxa, .int cup, .int clast, .int cpeak, .int cptick]))]) [0] (by decide) rfl
    exact W.zret (v := 1) hx hb hr (by decide) (fun t ht hW => ⟨⟨1, (), rfl, ⟨by decide, by decide⟩, xB_of ht hW hP9 hK hD9⟩, hS.F ht⟩) hS.2.2 dX0_isUp_17
abbrev W_soonest (cI cJ cZ cG cH : ClassId) (co : Nat) (s0 : Int32) (fwa : Nat) (fta : Nat) (fra : Nat) (fga : Nat) (cxa : Nat) (cup : Int32) (clast : Int32) (cpeak : Int32) (cptick : Int32) (fg : Nat → Int32) : va_W := [(co, .inr (0, [.ref fwa, .ref fta, .ref fra, .ref fga, .ref cxa, .int cup, .int clast, .int cpeak, .int cptick])), (fga, .inl (cI, 8, .inl fg))]
abbrev Q_soonest (D : va_G) (cI cJ cZ cG cH : ClassId) (co : Nat) (s0 : Int32) (fwa : Nat) (fta : Nat) (fra : Nat) (fga : Nat) (cxa : Nat) (cup : Int32) (clast : Int32) (cpeak : Int32) (cptick : Int32) (fg : Nat → Int32) (A : Nat → Prop) : Array Value → State → Outcome → State → Prop := va_Qi (fun (r : Int32) (_ : Unit) => 0 ≤ r.toInt ∧ r.toInt ≤ 144) (fun _ t => xB D (tyL cI cJ cZ cG cH) [(co, .inr (0, [.ref fwa, .ref fta, .ref fra, .ref fga, .ref cxa, .int cup, .int clast, .int cpeak, .int cptick])), (fga, .inl (cI, 8, .inl fg))] A t) A
abbrev rm_soonest : Room := { frames := 1, cells := 0, slots := 0, locals := 13 }
set_option maxRecDepth 100000 in
set_option maxHeartbeats 4000000 in
theorem c_soonest (l : Launch) (D : va_G) (cI cJ cZ cG cH : ClassId) (sz : Nat) (co : Nat) (s0 : Int32) (fwa : Nat) (fta : Nat) (fra : Nat) (fga : Nat) (cxa : Nat) (cup : Int32) (clast : Int32) (cpeak : Int32) (cptick : Int32) (fg : Nat → Int32) (h_clast : 0 ≤ clast.toInt ∧ clast.toInt ≤ 144) (h_fg : ∀ j, j < 8 → 0 ≤ (fg j).toInt ∧ (fg j).toInt ≤ 1166) : Met l yX0_soonest (wt yX0_soonest cX0_soonest 4 (some .int)) rm_soonest (xPc [.ref co, .int s0] D (tyL cI cJ cZ cG cH) (W_soonest cI cJ cZ cG cH co s0 fwa fta fra fga cxa cup clast cpeak cptick fg) sz) (Q_soonest D cI cJ cZ cG cH co s0 fwa fta fra fga cxa cup clast cpeak cptick fg (va_A (W_soonest cI cJ cZ cG cH co s0 fwa fta fra fga cxa cup clast cpeak cptick fg) sz)) 0 0 (va_A (W_soonest cI cJ cZ cG cH co s0 fwa fta fra fga cxa cup clast cpeak cptick fg) sz) := by
  refine xMet (cc := cX0_soonest) (maxL := 4) (ret := (some .int)) (Qf := Q_soonest D cI cJ cZ cG cH co s0 fwa fta fra fga cxa cup clast cpeak cptick fg) (by decide) rfl (Nat.le_of_ble_eq_true rfl) ?_
  intro p e s m below meth c ls A hx hb hr hml hts hown hlocks hnm hsz hP hK hD hA hS hl
  have hown : s.vm.findClass RX0 = some m.cls := hown
  have hP : va_P D vwCl [(co, .inr (0, [.ref fwa, .ref fta, .ref fra, .ref fga, .ref cxa, .int cup, .int clast, .int cpeak, .int cptick])), (fga, .inl (cI, 8, .inl fg))] s.heap := hP
  have hD : va_D A [(co, .inr (0, [.ref fwa, .ref fta, .ref fra, .ref fga, .ref cxa, .int cup, .int clast, .int cpeak, .int cptick])), (fga, .inl (cI, 8, .inl fg))] := hD
  have hl : lv_has ls 4 [(0, .ref co), (1, .int s0)] := hl
  refine lv_sipush (v := 144) hx hb dX0_soonest_0 (by decide) ?_
  refine lv_istore_n (lv' := [(2, .int 144), (0, .ref co), (1, .int s0)]) hx hb dX0_soonest_3 rfl hl (by decide) rfl (fun ls hl => ?_)
  refine lv_iconst (v := 0) hx hb dX0_soonest_4 (by decide) ?_
  refine lv_istore_n (lv' := [(3, .int 0), (2, .int 144), (0, .ref co), (1, .int s0)]) hx hb dX0_soonest_5 rfl hl (by decide) rfl (fun ls hl => ?_)
  have hl58 : ∀ (nhl58 : Nat) (x56 : Int32) (x57 : Int32), ((8 - x56.toInt).toNat < nhl58) → (hx56 : 0 ≤ x56.toInt ∧ x56.toInt ≤ 8) → (hx57 : 0 ≤ x57.toInt ∧ x57.toInt ≤ 144) → ∀ (H : Heap) (locs : List Loc), va_P D vwCl [(co, .inr (0, [.ref fwa, .ref fta, .ref fra, .ref fga, .ref cxa, .int cup, .int clast, .int cpeak, .int cptick])), (fga, .inl (cI, 8, .inl fg))] H → va_D A [(co, .inr (0, [.ref fwa, .ref fta, .ref fra, .ref fga, .ref cxa, .int cup, .int clast, .int cpeak, .int cptick])), (fga, .inl (cI, 8, .inl fg))] → va_S A s.heap H locs → ∀ (ls : Array Slot), lv_has ls 4 [(3, .int x56), (2, .int x57), (0, .ref co), (1, .int s0)] → W p l e rm_soonest s m [Value.ref co, Value.int s0].toArray below meth c H locs 0 0 (MQ below ((Q_soonest D cI cJ cZ cG cH co s0 fwa fta fra fga cxa cup clast cpeak cptick fg) A) [Value.ref co, Value.int s0].toArray s 0 0 A) (F0 m 6 ls []) := by
    intro nhl58
    induction nhl58 with
    | zero =>
      intro x56 x57 hmhl58
      exact absurd hmhl58 (Nat.not_lt_zero _)
    | succ nhl58 ihhl58 =>
      intro x56 x57 hmhl58 hx56 hx57 H locs hP hD hS ls hl
      refine lv_iload_n hx hb dX0_soonest_6 rfl (lv_at hl 0 rfl) ?_
      refine lv_bipush (v := 8) hx hb dX0_soonest_7 (by decide) ?_
      refine lv_icmp_ge (tgt := 38) hx hb dX0_soonest_9 (by decide) (fun c_59 => ?_) (fun c_59 => ?_)
      · skip
        have i_59 : 8 ≤ x56.toInt := (ile (by decide) rfl).mp c_59
        refine lv_iload_n hx hb dX0_soonest_38 rfl (lv_at hl 1 rfl) ?_
        refine W.widen (k := 0) (n := 0) (by decide) (by decide) ?_
        have hP9 := hP.sub (ws' := [(co, .inr (0, [.ref fwa, .ref fta, .ref fra, .ref fga, .ref cxa, .int cup, .int clast, .int cpeak, .int cptick])), (fga, .inl (cI, 8, .inl fg))]) [0, 1] rfl
        have hD9 := hD.sub (ws' := [(co, .inr (0, [.ref fwa, .ref fta, .ref fra, .ref fga, .ref cxa, .int cup, .int clast, .int cpeak, .int cptick])), (fga, .inl (cI, 8, .inl fg))]) [0, 1] (by decide) rfl
        exact W.iret (v := x57) hx hb hr (fun t ht hW => ⟨⟨x57, (), rfl, (xrng rfl (by omega) (by omega)), xB_of ht hW hP9 hK hD9⟩, hS.F ht⟩) hS.2.2 dX0_soonest_39
      · skip
        have i_59 : ¬ (8 ≤ x56.toInt) := fun h9 => c_59 ((ile (by decide) rfl).mpr h9)
        refine lv_iload_n hx hb dX0_soonest_12 rfl (lv_at hl 3 rfl) ?_
        refine lv_iload_n hx hb dX0_soonest_13 rfl (lv_at hl 0 rfl) ?_
        refine lv_ishr hx hb dX0_soonest_14 ?_
        refine lv_topi (fun v60 ev60 => ?_)
        refine lv_iconst (v := 1) hx hb dX0_soonest_15 (by decide) ?_
        refine lv_iand hx hb dX0_soonest_16 ?_
        refine lv_topi (fun v61 ev61 => ?_)
        have rv61 : 0 ≤ v61.toInt ∧ v61.toInt ≤ 1 := xandL ev61 (show (1 : Int32).toInt = 1 from (by decide)) (by omega)
        refine lv_iconst (v := 1) hx hb dX0_soonest_17 (by decide) ?_
        refine lv_icmp_ne (tgt := 32) hx hb dX0_soonest_18 (by decide) (fun c_62 => ?_) (fun c_62 => ?_)
        · skip
          have i_62 : ¬ (v61.toInt = 1) := fun h9 => c_62 ((ieq rfl (by decide)).mpr h9)
          obtain ⟨x63, ex63⟩ : ∃ y : Int32, y = x56 + 1 := ⟨_, rfl⟩
          have tx63 : x63.toInt = (x56.toInt + 1) := (congrArg Int32.toInt ex63).trans (xadd rfl (by decide) (by omega) (by omega))
          refine lv_iinc (v := x63) (lv' := [(3, .int x63), (2, .int x57), (0, .ref co), (1, .int s0)]) hx hb dX0_soonest_32 hl (k := 0) rfl (by rw [ex63]; rfl) (by decide) rfl (fun ls hl => ?_)
          refine lv_goto (tgt := 6) hx hb dX0_soonest_35 (by decide) ?_
          exact ihhl58 x63 x57 (by omega) (xrng tx63 (by omega) (by omega)) (xrng rfl (by omega) (by omega)) _ _ hP hD hS ls (lv_sub hl [0, 1, 2, 3] rfl)
        · skip
          have i_62 : v61.toInt = 1 := (ieq rfl (by decide)).mp c_62
          refine lv_iload_n hx hb dX0_soonest_21 rfl (lv_at hl 1 rfl) ?_
          refine lv_aload_n hx hb dX0_soonest_22 rfl (lv_at hl 2 rfl) ?_
          refine va_get (D := D) (ci := 0) (v := .ref fga) (C := RX0) (T := TX0) (N := 9) hx hb hts (fun w h => tbC w (tbfX0 w h)) hown hK hP 0 rfl rfl 3 (by decide) (hts (.fieldLink RX0 21 "PowerRails$Course" "goodAt" "[I") (tbC _ wd84)) (fun _ h9 => h9) rfl dX0_soonest_23 ?_
          refine lv_iload_n hx hb dX0_soonest_26 rfl (lv_at hl 0 rfl) ?_
          refine va_iald hx hb hK hP 1 0 rfl rfl (vp_in_iff.mpr ⟨by omega, by omega⟩) dX0_soonest_27 ?_
          refine lv_topi (fun v64 ev64 => ?_)
          have rv64 : 0 ≤ v64.toInt ∧ v64.toInt ≤ 1166 := xrd ev64 h_fg (xinK (vp_in_iff.mpr ⟨by omega, by omega⟩))
          refine va_mmin hx hb (hml.trans hl.1.symm) hown (hts (.methodLink RX0 61 Lib.Math.min.name) (tbC _ wd850)) (hts (.static Lib.Math.min.name) (tbC _ wd419)) (hts (.initialized "java/lang/Math") (tbC _ wd420)) (hts (.code Lib.Math.min.name Lib.Math.min.code 2 (some .int)) (tbC _ wd421)) (Nat.le_of_ble_eq_true rfl) (Nat.le_of_ble_eq_true rfl) (Nat.le_of_ble_eq_true rfl) (Nat.le_of_ble_eq_true rfl) dX0_soonest_28 ?_
          refine lv_topi (fun v65 ev65 => ?_)
          have rv65 : (v65.toInt = x57.toInt ∨ v65.toInt = v64.toInt) ∧ v65.toInt ≤ x57.toInt ∧ v65.toInt ≤ v64.toInt := xminL ev65 (show (x57 : Int32).toInt = x57.toInt from rfl) (show (v64 : Int32).toInt = v64.toInt from rfl)
          refine lv_istore_n (lv' := [(2, .int v65), (3, .int x56), (0, .ref co), (1, .int s0)]) hx hb dX0_soonest_31 rfl hl (by decide) rfl (fun ls hl => ?_)
          obtain ⟨x66, ex66⟩ : ∃ y : Int32, y = x56 + 1 := ⟨_, rfl⟩
          have tx66 : x66.toInt = (x56.toInt + 1) := (congrArg Int32.toInt ex66).trans (xadd rfl (by decide) (by omega) (by omega))
          refine lv_iinc (v := x66) (lv' := [(3, .int x66), (2, .int v65), (0, .ref co), (1, .int s0)]) hx hb dX0_soonest_32 hl (k := 1) rfl (by rw [ex66]; rfl) (by decide) rfl (fun ls hl => ?_)
          refine lv_goto (tgt := 6) hx hb dX0_soonest_35 (by decide) ?_
          exact ihhl58 x66 v65 (by omega) (xrng tx66 (by omega) (by omega)) (xrng rfl (by omega) (by omega)) _ _ hP hD hS ls (lv_sub hl [0, 1, 2, 3] rfl)
  exact hl58 _ 0 144 (Nat.lt_succ_self _) ⟨by decide, by decide⟩ ⟨by decide, by decide⟩ _ _ hP hD hS ls (lv_sub hl [0, 1, 2, 3] rfl)
abbrev W_begin (cI cJ cZ cG cH : ClassId) (co : Nat) (pl : Nat) (s0 : Int32) (fwa : Nat) (fta : Nat) (fra : Nat) (fga : Nat) (cxa : Nat) (cup : Int32) (clast : Int32) (cpeak : Int32) (cptick : Int32) (fw : Nat → Int32) (ft : Nat → Int32) (fr : Nat → Int32) (fg : Nat → Int32) (pna : Nat) (pta : Nat) (rails : Int32) (limit : Int32) (retry : Int32) (behind : Int32) (pt : Nat → Int64) : va_W := [(co, .inr (0, [.ref fwa, .ref fta, .ref fra, .ref fga, .ref cxa, .int cup, .int clast, .int cpeak, .int cptick])), (fwa, .inl (cI, 8, .inl fw)), (fta, .inl (cI, 8, .inl ft)), (fra, .inl (cI, 8, .inl fr)), (fga, .inl (cI, 8, .inl fg)), (pl, .inr (2, [.ref pna, .ref pta, .int rails, .int limit, .int retry, .int behind])), (pta, .inl (cJ, 64, .inr (.inl pt)))]
abbrev Q_begin (D : va_G) (cI cJ cZ cG cH : ClassId) (co : Nat) (pl : Nat) (s0 : Int32) (fwa : Nat) (fta : Nat) (fra : Nat) (fga : Nat) (cxa : Nat) (cup : Int32) (clast : Int32) (cpeak : Int32) (cptick : Int32) (fw : Nat → Int32) (ft : Nat → Int32) (fr : Nat → Int32) (fg : Nat → Int32) (pna : Nat) (pta : Nat) (rails : Int32) (limit : Int32) (retry : Int32) (behind : Int32) (pt : Nat → Int64) (A : Nat → Prop) : Array Value → State → Outcome → State → Prop := va_Qi (fun (r : Int32) (_ : Unit) => 0 ≤ r.toInt ∧ r.toInt ≤ 2147483647) (fun _ t => ∃ (fr9 : Nat → Int32) (fg9 : Nat → Int32), (∀ j, j < 8 → 0 ≤ (fr9 j).toInt ∧ (fr9 j).toInt ≤ 655) ∧ (∀ j, j < 8 → 0 ≤ (fg9 j).toInt ∧ (fg9 j).toInt ≤ 1166) ∧ (∀ j, j < 8 → (fr9 j).toInt ≤ (fg9 j).toInt) ∧ xB D (tyL cI cJ cZ cG cH) [(co, .inr (0, [.ref fwa, .ref fta, .ref fra, .ref fga, .ref cxa, .int cup, .int clast, .int cpeak, .int cptick])), (fwa, .inl (cI, 8, .inl fw)), (fta, .inl (cI, 8, .inl ft)), (fra, .inl (cI, 8, .inl fr9)), (fga, .inl (cI, 8, .inl fg9)), (pl, .inr (2, [.ref pna, .ref pta, .int rails, .int limit, .int retry, .int behind])), (pta, .inl (cJ, 64, .inr (.inl pt)))] A t) A
abbrev rm_begin : Room := { frames := 1, cells := 0, slots := 0, locals := 22 }
set_option maxRecDepth 100000 in
set_option maxHeartbeats 4000000 in
theorem c_begin (l : Launch) (D : va_G) (cI cJ cZ cG cH : ClassId) (sz : Nat) (co : Nat) (pl : Nat) (s0 : Int32) (fwa : Nat) (fta : Nat) (fra : Nat) (fga : Nat) (cxa : Nat) (cup : Int32) (clast : Int32) (cpeak : Int32) (cptick : Int32) (fw : Nat → Int32) (ft : Nat → Int32) (fr : Nat → Int32) (fg : Nat → Int32) (pna : Nat) (pta : Nat) (rails : Int32) (limit : Int32) (retry : Int32) (behind : Int32) (pt : Nat → Int64) (h_clast : 0 ≤ clast.toInt ∧ clast.toInt ≤ 144) (h_fw : ∀ j, j < 8 → 0 ≤ (fw j).toInt ∧ (fw j).toInt ≤ 511) (h_ft : ∀ j, j < 8 → 0 ≤ (ft j).toInt ∧ (ft j).toInt ≤ 511) (h_fr : ∀ j, j < 8 → 0 ≤ (fr j).toInt ∧ (fr j).toInt ≤ 655) (h_fg : ∀ j, j < 8 → 0 ≤ (fg j).toInt ∧ (fg j).toInt ≤ 1166) (h_rails : 0 ≤ rails.toInt ∧ rails.toInt ≤ 8) (h_le : ∀ j, j < 8 → (fr j).toInt ≤ (fg j).toInt) : Met l yX0_begin (wt yX0_begin cX0_begin 5 (some .int)) rm_begin (xPc [.ref co, .ref pl, .int s0] D (tyL cI cJ cZ cG cH) (W_begin cI cJ cZ cG cH co pl s0 fwa fta fra fga cxa cup clast cpeak cptick fw ft fr fg pna pta rails limit retry behind pt) sz) (Q_begin D cI cJ cZ cG cH co pl s0 fwa fta fra fga cxa cup clast cpeak cptick fw ft fr fg pna pta rails limit retry behind pt (va_A (W_begin cI cJ cZ cG cH co pl s0 fwa fta fra fga cxa cup clast cpeak cptick fw ft fr fg pna pta rails limit retry behind pt) sz)) 0 0 (va_A (W_begin cI cJ cZ cG cH co pl s0 fwa fta fra fga cxa cup clast cpeak cptick fw ft fr fg pna pta rails limit retry behind pt) sz) := by
  refine xMet (cc := cX0_begin) (maxL := 5) (ret := (some .int)) (Qf := Q_begin D cI cJ cZ cG cH co pl s0 fwa fta fra fga cxa cup clast cpeak cptick fw ft fr fg pna pta rails limit retry behind pt) (by decide) rfl (Nat.le_of_ble_eq_true rfl) ?_
  intro p e s m below meth c ls A hx hb hr hml hts hown hlocks hnm hsz hP hK hD hA hS hl
  have hown : s.vm.findClass RX0 = some m.cls := hown
  have hP : va_P D vwCl [(co, .inr (0, [.ref fwa, .ref fta, .ref fra, .ref fga, .ref cxa, .int cup, .int clast, .int cpeak, .int cptick])), (fwa, .inl (cI, 8, .inl fw)), (fta, .inl (cI, 8, .inl ft)), (fra, .inl (cI, 8, .inl fr)), (fga, .inl (cI, 8, .inl fg)), (pl, .inr (2, [.ref pna, .ref pta, .int rails, .int limit, .int retry, .int behind])), (pta, .inl (cJ, 64, .inr (.inl pt)))] s.heap := hP
  have hD : va_D A [(co, .inr (0, [.ref fwa, .ref fta, .ref fra, .ref fga, .ref cxa, .int cup, .int clast, .int cpeak, .int cptick])), (fwa, .inl (cI, 8, .inl fw)), (fta, .inl (cI, 8, .inl ft)), (fra, .inl (cI, 8, .inl fr)), (fga, .inl (cI, 8, .inl fg)), (pl, .inr (2, [.ref pna, .ref pta, .int rails, .int limit, .int retry, .int behind])), (pta, .inl (cJ, 64, .inr (.inl pt)))] := hD
  have hl : lv_has ls 5 [(0, .ref co), (1, .ref pl), (2, .int s0)] := hl
  refine lv_iconst (v := 0) hx hb dX0_begin_0 (by decide) ?_
  refine lv_istore_n (lv' := [(3, .int 0), (0, .ref co), (1, .ref pl), (2, .int s0)]) hx hb dX0_begin_1 rfl hl (by decide) rfl (fun ls hl => ?_)
  refine lv_iconst (v := 0) hx hb dX0_begin_2 (by decide) ?_
  refine lv_istore (lv' := [(4, .int 0), (3, .int 0), (0, .ref co), (1, .ref pl), (2, .int s0)]) hx hb dX0_begin_3 hl (by decide) rfl (fun ls hl => ?_)
  have hl136 : ∀ (nhl136 : Nat) (x132 : Int32) (x133 : Int32) (f134 : Nat → Int32) (f135 : Nat → Int32), ((8 - x132.toInt).toNat < nhl136) → (hx132 : 0 ≤ x132.toInt ∧ x132.toInt ≤ 8) → (hx133 : 0 ≤ x133.toInt ∧ x133.toInt ≤ 2147483647) → (hf134 : ∀ j, j < 8 → 0 ≤ (f134 j).toInt ∧ (f134 j).toInt ≤ 655) → (hf135 : ∀ j, j < 8 → 0 ≤ (f135 j).toInt ∧ (f135 j).toInt ≤ 1166) → (hle_f134_f135 : ∀ j, j < 8 → (f134 j).toInt ≤ (f135 j).toInt) → ∀ (H : Heap) (locs : List Loc), va_P D vwCl [(co, .inr (0, [.ref fwa, .ref fta, .ref fra, .ref fga, .ref cxa, .int cup, .int clast, .int cpeak, .int cptick])), (fwa, .inl (cI, 8, .inl fw)), (fta, .inl (cI, 8, .inl ft)), (fra, .inl (cI, 8, .inl f134)), (fga, .inl (cI, 8, .inl f135)), (pl, .inr (2, [.ref pna, .ref pta, .int rails, .int limit, .int retry, .int behind])), (pta, .inl (cJ, 64, .inr (.inl pt)))] H → va_D A [(co, .inr (0, [.ref fwa, .ref fta, .ref fra, .ref fga, .ref cxa, .int cup, .int clast, .int cpeak, .int cptick])), (fwa, .inl (cI, 8, .inl fw)), (fta, .inl (cI, 8, .inl ft)), (fra, .inl (cI, 8, .inl f134)), (fga, .inl (cI, 8, .inl f135)), (pl, .inr (2, [.ref pna, .ref pta, .int rails, .int limit, .int retry, .int behind])), (pta, .inl (cJ, 64, .inr (.inl pt)))] → va_S A s.heap H locs → ∀ (ls : Array Slot), lv_has ls 5 [(4, .int x132), (3, .int x133), (0, .ref co), (1, .ref pl), (2, .int s0)] → W p l e rm_begin s m [Value.ref co, Value.ref pl, Value.int s0].toArray below meth c H locs 0 0 (MQ below ((Q_begin D cI cJ cZ cG cH co pl s0 fwa fta fra fga cxa cup clast cpeak cptick fw ft fr fg pna pta rails limit retry behind pt) A) [Value.ref co, Value.ref pl, Value.int s0].toArray s 0 0 A) (F0 m 5 ls []) := by
    intro nhl136
    induction nhl136 with
    | zero =>
      intro x132 x133 f134 f135 hmhl136
      exact absurd hmhl136 (Nat.not_lt_zero _)
    | succ nhl136 ihhl136 =>
      intro x132 x133 f134 f135 hmhl136 hx132 hx133 hf134 hf135 hle_f134_f135 H locs hP hD hS ls hl
      refine lv_iload hx hb dX0_begin_5 (lv_at hl 0 rfl) ?_
      refine lv_aload_n hx hb dX0_begin_7 rfl (lv_at hl 3 rfl) ?_
      refine va_get (D := D) (ci := 2) (v := .int rails) (C := RX3) (T := TX3) (N := 6) hx hb hts (fun w h => tbC w (tbfX3 w h)) hown hK hP 5 rfl rfl 2 (by decide) (hts (.fieldLink RX0 27 "PowerRails$Plan" "rails" "I") (tbC _ wd824)) (fun _ h9 => h9) rfl dX0_begin_8 ?_
      refine lv_icmp_ge (tgt := 95) hx hb dX0_begin_11 (by decide) (fun c_137 => ?_) (fun c_137 => ?_)
      · skip
        have i_137 : rails.toInt ≤ x132.toInt := (ile rfl rfl).mp c_137
        refine lv_iload_n hx hb dX0_begin_95 rfl (lv_at hl 1 rfl) ?_
        refine W.widen (k := 0) (n := 0) (by decide) (by decide) ?_
        have hP9 := hP.sub (ws' := [(co, .inr (0, [.ref fwa, .ref fta, .ref fra, .ref fga, .ref cxa, .int cup, .int clast, .int cpeak, .int cptick])), (fwa, .inl (cI, 8, .inl fw)), (fta, .inl (cI, 8, .inl ft)), (fra, .inl (cI, 8, .inl f134)), (fga, .inl (cI, 8, .inl f135)), (pl, .inr (2, [.ref pna, .ref pta, .int rails, .int limit, .int retry, .int behind])), (pta, .inl (cJ, 64, .inr (.inl pt)))]) [0, 1, 2, 3, 4, 5, 6] rfl
        have hD9 := hD.sub (ws' := [(co, .inr (0, [.ref fwa, .ref fta, .ref fra, .ref fga, .ref cxa, .int cup, .int clast, .int cpeak, .int cptick])), (fwa, .inl (cI, 8, .inl fw)), (fta, .inl (cI, 8, .inl ft)), (fra, .inl (cI, 8, .inl f134)), (fga, .inl (cI, 8, .inl f135)), (pl, .inr (2, [.ref pna, .ref pta, .int rails, .int limit, .int retry, .int behind])), (pta, .inl (cJ, 64, .inr (.inl pt)))]) [0, 1, 2, 3, 4, 5, 6] (by decide) rfl
        exact W.iret (v := x133) hx hb hr (fun t ht hW => ⟨⟨x133, (), rfl, (xrng rfl (by omega) (by omega)), ⟨f134, f135, (xwk_rng hf134 (by decide) (by decide)), (xwk_rng hf135 (by decide) (by decide)), hle_f134_f135, xB_of ht hW hP9 hK hD9⟩⟩, hS.F ht⟩) hS.2.2 dX0_begin_96
      · skip
        have i_137 : ¬ (rails.toInt ≤ x132.toInt) := fun h9 => c_137 ((ile rfl rfl).mpr h9)
        refine lv_iload_n hx hb dX0_begin_14 rfl (lv_at hl 4 rfl) ?_
        refine lv_iload hx hb dX0_begin_15 (lv_at hl 0 rfl) ?_
        refine lv_ishr hx hb dX0_begin_17 ?_
        refine lv_topi (fun v138 ev138 => ?_)
        refine lv_iconst (v := 1) hx hb dX0_begin_18 (by decide) ?_
        refine lv_iand hx hb dX0_begin_19 ?_
        refine lv_topi (fun v139 ev139 => ?_)
        have rv139 : 0 ≤ v139.toInt ∧ v139.toInt ≤ 1 := xandL ev139 (show (1 : Int32).toInt = 1 from (by decide)) (by omega)
        refine lv_iconst (v := 1) hx hb dX0_begin_20 (by decide) ?_
        refine lv_icmp_ne (tgt := 89) hx hb dX0_begin_21 (by decide) (fun c_140 => ?_) (fun c_140 => ?_)
        · skip
          have i_140 : ¬ (v139.toInt = 1) := fun h9 => c_140 ((ieq rfl (by decide)).mpr h9)
          obtain ⟨x141, ex141⟩ : ∃ y : Int32, y = x132 + 1 := ⟨_, rfl⟩
          have tx141 : x141.toInt = (x132.toInt + 1) := (congrArg Int32.toInt ex141).trans (xadd rfl (by decide) (by omega) (by omega))
          refine lv_iinc (v := x141) (lv' := [(4, .int x141), (3, .int x133), (0, .ref co), (1, .ref pl), (2, .int s0)]) hx hb dX0_begin_89 hl (k := 0) rfl (by rw [ex141]; rfl) (by decide) rfl (fun ls hl => ?_)
          refine lv_goto (tgt := 5) hx hb dX0_begin_92 (by decide) ?_
          exact ihhl136 x141 x133 f134 f135 (by omega) (xrng tx141 (by omega) (by omega)) (xrng rfl (by omega) (by omega)) (xwk_rng hf134 (by decide) (by decide)) (xwk_rng hf135 (by decide) (by decide)) hle_f134_f135 _ _ hP hD hS ls (lv_sub hl [0, 1, 2, 3, 4] rfl)
        · skip
          have i_140 : v139.toInt = 1 := (ieq rfl (by decide)).mp c_140
          refine lv_aload_n hx hb dX0_begin_24 rfl (lv_at hl 3 rfl) ?_
          refine lv_iload hx hb dX0_begin_25 (lv_at hl 0 rfl) ?_
          refine lv_aload_n hx hb dX0_begin_27 rfl (lv_at hl 2 rfl) ?_
          refine va_get (D := D) (ci := 0) (v := .int cup) (C := RX0) (T := TX0) (N := 9) hx hb hts (fun w h => tbC w (tbfX0 w h)) hown hK hP 0 rfl rfl 5 (by decide) (hts (.fieldLink RX0 43 "PowerRails$Course" "up" "I") (tbC _ wd839)) (fun _ h9 => h9) rfl dX0_begin_28 ?_
          refine lv_sipush (v := 256) hx hb dX0_begin_31 (by decide) ?_
          refine lv_ior hx hb dX0_begin_34 ?_
          refine lv_topi (fun v142 ev142 => ?_)
          have hPc := hP.sub (ws' := [(pl, .inr (2, [.ref pna, .ref pta, .int rails, .int limit, .int retry, .int behind])), (pta, .inl (cJ, 64, .inr (.inl pt)))]) [5, 6] rfl
          have hDc := hD.sub (ws' := [(pl, .inr (2, [.ref pna, .ref pta, .int rails, .int limit, .int retry, .int behind])), (pta, .inl (cJ, 64, .inr (.inl pt)))]) [5, 6] (by decide) rfl
          have hFc := va_free (wc := [(pl, .inr (2, [.ref pna, .ref pta, .int rails, .int limit, .int retry, .int behind])), (pta, .inl (cJ, 64, .inr (.inl pt)))]) hD hS hA [5, 6] rfl
          refine va_calli (va_runV (As := [.int x132, .int v142]) (rest := []) ⟨hx, hb, hml, hown, hts⟩ (c_holdsWith l D cI cJ cZ cG cH H.size pl x132 v142 pna pta rails limit retry behind pt (xrng rfl (by omega) (by omega)) (xrng rfl (by omega) (by omega))) (cwV 2 hts (xGV tbC wd845 wd580 wd581 wd39 wd582) rfl rfl rfl (by decide +kernel) ⟨Nat.le_of_ble_eq_true rfl, Nat.le_of_ble_eq_true rfl⟩) ⟨xPc_blind, va_recv hK hPc (ci := 2) (q0 := 0) rfl rfl, xPc_pre hPc hK hDc⟩ rfl rfl hl.1 rfl (lv_room (Nat.le_of_ble_eq_true rfl)) dX0_begin_35 ⟨Nat.le_of_ble_eq_true rfl, Nat.le_of_ble_eq_true rfl⟩) hS (fun q _ h => hFc q h) hFc (fun r143 u t H1 locs ht hvm hw143 hB hz1 hk1 hS => ?_)
          obtain ⟨hP1, hK1, hD1⟩ := hB
          rw [ht] at hP1
          obtain ⟨hP, hD⟩ := va_join (wr := [(co, .inr (0, [.ref fwa, .ref fta, .ref fra, .ref fga, .ref cxa, .int cup, .int clast, .int cpeak, .int cptick])), (fwa, .inl (cI, 8, .inl fw)), (fta, .inl (cI, 8, .inl ft)), (fra, .inl (cI, 8, .inl f134)), (fga, .inl (cI, 8, .inl f135))]) (w1 := [(pl, .inr (2, [.ref pna, .ref pta, .int rails, .int limit, .int retry, .int behind])), (pta, .inl (cJ, 64, .inr (.inl pt)))]) hP hD [5, 6] [0, 1, 2, 3, 4] rfl rfl (by decide) (by decide) hk1 hFc hP1 hD1
          generalize H1 = H at hP hS ⊢
          have hP : va_P D vwCl [(co, .inr (0, [.ref fwa, .ref fta, .ref fra, .ref fga, .ref cxa, .int cup, .int clast, .int cpeak, .int cptick])), (fwa, .inl (cI, 8, .inl fw)), (fta, .inl (cI, 8, .inl ft)), (fra, .inl (cI, 8, .inl f134)), (fga, .inl (cI, 8, .inl f135)), (pl, .inr (2, [.ref pna, .ref pta, .int rails, .int limit, .int retry, .int behind])), (pta, .inl (cJ, 64, .inr (.inl pt)))] H := hP
          have hD : va_D A [(co, .inr (0, [.ref fwa, .ref fta, .ref fra, .ref fga, .ref cxa, .int cup, .int clast, .int cpeak, .int cptick])), (fwa, .inl (cI, 8, .inl fw)), (fta, .inl (cI, 8, .inl ft)), (fra, .inl (cI, 8, .inl f134)), (fga, .inl (cI, 8, .inl f135)), (pl, .inr (2, [.ref pna, .ref pta, .int rails, .int limit, .int retry, .int behind])), (pta, .inl (cJ, 64, .inr (.inl pt)))] := hD
          have hw143 : 0 ≤ r143.toInt ∧ r143.toInt ≤ 1 := hw143
          refine lv_if_eq (tgt := 89) hx hb dX0_begin_38 (by decide) (fun c_144 => ?_) (fun c_144 => ?_)
          · skip
            have i_144 : r143.toInt = 0 := (ieq rfl (by decide)).mp c_144
            obtain ⟨x145, ex145⟩ : ∃ y : Int32, y = x132 + 1 := ⟨_, rfl⟩
            have tx145 : x145.toInt = (x132.toInt + 1) := (congrArg Int32.toInt ex145).trans (xadd rfl (by decide) (by omega) (by omega))
            refine lv_iinc (v := x145) (lv' := [(4, .int x145), (3, .int x133), (0, .ref co), (1, .ref pl), (2, .int s0)]) hx hb dX0_begin_89 hl (k := 0) rfl (by rw [ex145]; rfl) (by decide) rfl (fun ls hl => ?_)
            refine lv_goto (tgt := 5) hx hb dX0_begin_92 (by decide) ?_
            exact ihhl136 x145 x133 f134 f135 (by omega) (xrng tx145 (by omega) (by omega)) (xrng rfl (by omega) (by omega)) (xwk_rng hf134 (by decide) (by decide)) (xwk_rng hf135 (by decide) (by decide)) hle_f134_f135 _ _ hP hD hS ls (lv_sub hl [0, 1, 2, 3, 4] rfl)
          · skip
            have i_144 : ¬ (r143.toInt = 0) := fun h9 => c_144 ((ieq rfl (by decide)).mpr h9)
            refine lv_iload_n hx hb dX0_begin_41 rfl (lv_at hl 1 rfl) ?_
            refine lv_iconst (v := 1) hx hb dX0_begin_42 (by decide) ?_
            refine lv_iload hx hb dX0_begin_43 (lv_at hl 0 rfl) ?_
            refine lv_ishl hx hb dX0_begin_45 ?_
            refine lv_topi (fun v146 ev146 => ?_)
            have rv146 : 1 ≤ v146.toInt ∧ v146.toInt ≤ 128 := xshl1 7 ev146 (show (x132 : Int32).toInt = x132.toInt from rfl) (by omega) (by omega) (by decide)
            refine lv_ior hx hb dX0_begin_46 ?_
            refine lv_topi (fun v147 ev147 => ?_)
            have rv147 : 0 ≤ v147.toInt ∧ v147.toInt ≤ 2147483647 := xorL 31 ev147 (show (x133 : Int32).toInt = x133.toInt from rfl) (show (v146 : Int32).toInt = v146.toInt from rfl) (by decide) (by decide) (by omega) (by omega) (by omega) (by omega)
            refine lv_istore_n (lv' := [(3, .int v147), (4, .int x132), (0, .ref co), (1, .ref pl), (2, .int s0)]) hx hb dX0_begin_47 rfl hl (by decide) rfl (fun ls hl => ?_)
            refine lv_aload_n hx hb dX0_begin_48 rfl (lv_at hl 2 rfl) ?_
            refine va_get (D := D) (ci := 0) (v := .ref fra) (C := RX0) (T := TX0) (N := 9) hx hb hts (fun w h => tbC w (tbfX0 w h)) hown hK hP 0 rfl rfl 2 (by decide) (hts (.fieldLink RX0 18 "PowerRails$Course" "risesAt" "[I") (tbC _ wd83)) (fun _ h9 => h9) rfl dX0_begin_49 ?_
            refine lv_iload hx hb dX0_begin_52 (lv_at hl 1 rfl) ?_
            refine lv_aload_n hx hb dX0_begin_54 rfl (lv_at hl 2 rfl) ?_
            refine va_get (D := D) (ci := 0) (v := .int clast) (C := RX0) (T := TX0) (N := 9) hx hb hts (fun w h => tbC w (tbfX0 w h)) hown hK hP 0 rfl rfl 6 (by decide) (hts (.fieldLink RX0 46 "PowerRails$Course" "last" "I") (tbC _ wd840)) (fun _ h9 => h9) rfl dX0_begin_55 ?_
            refine lv_aload_n hx hb dX0_begin_58 rfl (lv_at hl 2 rfl) ?_
            refine va_get (D := D) (ci := 0) (v := .ref fwa) (C := RX0) (T := TX0) (N := 9) hx hb hts (fun w h => tbC w (tbfX0 w h)) hown hK hP 0 rfl rfl 0 (by decide) (hts (.fieldLink RX0 9 "PowerRails$Course" "waits" "[I") (tbC _ wd81)) (fun _ h9 => h9) rfl dX0_begin_59 ?_
            refine lv_iload hx hb dX0_begin_62 (lv_at hl 1 rfl) ?_
            refine va_iald hx hb hK hP 1 0 rfl rfl (vp_in_iff.mpr ⟨by omega, by omega⟩) dX0_begin_64 ?_
            refine lv_topi (fun v148 ev148 => ?_)
            have rv148 : 0 ≤ v148.toInt ∧ v148.toInt ≤ 511 := xrd ev148 h_fw (xinK (vp_in_iff.mpr ⟨by omega, by omega⟩))
            refine lv_iadd hx hb dX0_begin_65 ?_
            refine lv_topi (fun v149 ev149 => ?_)
            have tv149 : v149.toInt = (clast.toInt + v148.toInt) := (congrArg Int32.toInt ev149).trans (xadd rfl rfl (by omega) (by omega))
            refine va_iast hx hb hK hP hD hS 3 0 rfl rfl (vp_in_iff.mpr ⟨by omega, by omega⟩) dX0_begin_66 (fun H locs hP hD hS => ?_)
            obtain ⟨f150, ef150⟩ : ∃ fz9 : Nat → Int32, fz9 = upd f134 (x132 : Int32).toNatClampNeg v149 := ⟨_, rfl⟩
            have hP : va_P D vwCl [(co, .inr (0, [.ref fwa, .ref fta, .ref fra, .ref fga, .ref cxa, .int cup, .int clast, .int cpeak, .int cptick])), (fwa, .inl (cI, 8, .inl fw)), (fta, .inl (cI, 8, .inl ft)), (fra, .inl (cI, 8, .inl f150)), (fga, .inl (cI, 8, .inl f135)), (pl, .inr (2, [.ref pna, .ref pta, .int rails, .int limit, .int retry, .int behind])), (pta, .inl (cJ, 64, .inr (.inl pt)))] H := by rw [ef150]; exact hP
            have hD : va_D A [(co, .inr (0, [.ref fwa, .ref fta, .ref fra, .ref fga, .ref cxa, .int cup, .int clast, .int cpeak, .int cptick])), (fwa, .inl (cI, 8, .inl fw)), (fta, .inl (cI, 8, .inl ft)), (fra, .inl (cI, 8, .inl f150)), (fga, .inl (cI, 8, .inl f135)), (pl, .inr (2, [.ref pna, .ref pta, .int rails, .int limit, .int retry, .int behind])), (pta, .inl (cJ, 64, .inr (.inl pt)))] := by rw [ef150]; exact hD
            have rf150 : ∀ j, j < 8 → 0 ≤ (f150 j).toInt ∧ (f150 j).toInt ≤ 655 := by rw [ef150]; exact xup_rng (xwk_rng hf134 (by decide) (by decide)) (xrng tv149 (by omega) (by omega))
            refine lv_aload_n hx hb dX0_begin_67 rfl (lv_at hl 2 rfl) ?_
            refine va_get (D := D) (ci := 0) (v := .ref fga) (C := RX0) (T := TX0) (N := 9) hx hb hts (fun w h => tbC w (tbfX0 w h)) hown hK hP 0 rfl rfl 3 (by decide) (hts (.fieldLink RX0 21 "PowerRails$Course" "goodAt" "[I") (tbC _ wd84)) (fun _ h9 => h9) rfl dX0_begin_68 ?_
            refine lv_iload hx hb dX0_begin_71 (lv_at hl 1 rfl) ?_
            refine lv_aload_n hx hb dX0_begin_73 rfl (lv_at hl 2 rfl) ?_
            refine va_get (D := D) (ci := 0) (v := .ref fra) (C := RX0) (T := TX0) (N := 9) hx hb hts (fun w h => tbC w (tbfX0 w h)) hown hK hP 0 rfl rfl 2 (by decide) (hts (.fieldLink RX0 18 "PowerRails$Course" "risesAt" "[I") (tbC _ wd83)) (fun _ h9 => h9) rfl dX0_begin_74 ?_
            refine lv_iload hx hb dX0_begin_77 (lv_at hl 1 rfl) ?_
            refine va_iald hx hb hK hP 3 0 rfl rfl (vp_in_iff.mpr ⟨by omega, by omega⟩) dX0_begin_79 ?_
            refine lv_topi (fun v151 ev151 => ?_)
            have rv151 : 0 ≤ v151.toInt ∧ v151.toInt ≤ 655 := xrd ev151 rf150 (xinK (vp_in_iff.mpr ⟨by omega, by omega⟩))
            have q79v151 : v151 = v149 := by rw [ev151, ef150]; exact xupd_s
            refine lv_aload_n hx hb dX0_begin_80 rfl (lv_at hl 2 rfl) ?_
            refine va_get (D := D) (ci := 0) (v := .ref fta) (C := RX0) (T := TX0) (N := 9) hx hb hts (fun w h => tbC w (tbfX0 w h)) hown hK hP 0 rfl rfl 1 (by decide) (hts (.fieldLink RX0 15 "PowerRails$Course" "takes" "[I") (tbC _ wd82)) (fun _ h9 => h9) rfl dX0_begin_81 ?_
            refine lv_iload hx hb dX0_begin_84 (lv_at hl 1 rfl) ?_
            refine va_iald hx hb hK hP 2 0 rfl rfl (vp_in_iff.mpr ⟨by omega, by omega⟩) dX0_begin_86 ?_
            refine lv_topi (fun v152 ev152 => ?_)
            have rv152 : 0 ≤ v152.toInt ∧ v152.toInt ≤ 511 := xrd ev152 h_ft (xinK (vp_in_iff.mpr ⟨by omega, by omega⟩))
            refine lv_iadd hx hb dX0_begin_87 ?_
            refine lv_topi (fun v153 ev153 => ?_)
            have tv153 : v153.toInt = (v151.toInt + v152.toInt) := (congrArg Int32.toInt ev153).trans (xadd rfl rfl (by omega) (by omega))
            refine va_iast hx hb hK hP hD hS 4 0 rfl rfl (vp_in_iff.mpr ⟨by omega, by omega⟩) dX0_begin_88 (fun H locs hP hD hS => ?_)
            obtain ⟨f154, ef154⟩ : ∃ fz9 : Nat → Int32, fz9 = upd f135 (x132 : Int32).toNatClampNeg v153 := ⟨_, rfl⟩
            have hP : va_P D vwCl [(co, .inr (0, [.ref fwa, .ref fta, .ref fra, .ref fga, .ref cxa, .int cup, .int clast, .int cpeak, .int cptick])), (fwa, .inl (cI, 8, .inl fw)), (fta, .inl (cI, 8, .inl ft)), (fra, .inl (cI, 8, .inl f150)), (fga, .inl (cI, 8, .inl f154)), (pl, .inr (2, [.ref pna, .ref pta, .int rails, .int limit, .int retry, .int behind])), (pta, .inl (cJ, 64, .inr (.inl pt)))] H := by rw [ef154]; exact hP
            have hD : va_D A [(co, .inr (0, [.ref fwa, .ref fta, .ref fra, .ref fga, .ref cxa, .int cup, .int clast, .int cpeak, .int cptick])), (fwa, .inl (cI, 8, .inl fw)), (fta, .inl (cI, 8, .inl ft)), (fra, .inl (cI, 8, .inl f150)), (fga, .inl (cI, 8, .inl f154)), (pl, .inr (2, [.ref pna, .ref pta, .int rails, .int limit, .int retry, .int behind])), (pta, .inl (cJ, 64, .inr (.inl pt)))] := by rw [ef154]; exact hD
            have hlef154 : ∀ j, j < 8 → (f150 j).toInt ≤ (f154 j).toInt := by rw [ef150, ef154]; exact xle_upd hle_f134_f135 (by rw [tv153, ← q79v151]; omega)
            have rf154 : ∀ j, j < 8 → 0 ≤ (f154 j).toInt ∧ (f154 j).toInt ≤ 1166 := by rw [ef154]; exact xup_rng (xwk_rng hf135 (by decide) (by decide)) (xrng tv153 (by omega) (by omega))
            obtain ⟨x155, ex155⟩ : ∃ y : Int32, y = x132 + 1 := ⟨_, rfl⟩
            have tx155 : x155.toInt = (x132.toInt + 1) := (congrArg Int32.toInt ex155).trans (xadd rfl (by decide) (by omega) (by omega))
            refine lv_iinc (v := x155) (lv' := [(4, .int x155), (3, .int v147), (0, .ref co), (1, .ref pl), (2, .int s0)]) hx hb dX0_begin_89 hl (k := 1) rfl (by rw [ex155]; rfl) (by decide) rfl (fun ls hl => ?_)
            refine lv_goto (tgt := 5) hx hb dX0_begin_92 (by decide) ?_
            exact ihhl136 x155 v147 f150 f154 (by omega) (xrng tx155 (by omega) (by omega)) (xrng rfl (by omega) (by omega)) (xwk_rng rf150 (by decide) (by decide)) (xwk_rng rf154 (by decide) (by decide)) hlef154 _ _ hP hD hS ls (lv_sub hl [0, 1, 2, 3, 4] rfl)
  exact hl136 _ 0 0 fr fg (Nat.lt_succ_self _) ⟨by decide, by decide⟩ ⟨by decide, by decide⟩ (xwk_rng h_fr (by decide) (by decide)) (xwk_rng h_fg (by decide) (by decide)) h_le _ _ hP hD hS ls (lv_sub hl [0, 1, 2, 3, 4] rfl)
abbrev W_follow (cI cJ cZ cG cH : ClassId) (co : Nat) (pl : Nat) (s0 : Int32) (fwa : Nat) (fta : Nat) (fra : Nat) (fga : Nat) (cxa : Nat) (cup : Int32) (clast : Int32) (cpeak : Int32) (cptick : Int32) (fw : Nat → Int32) (ft : Nat → Int32) (fr : Nat → Int32) (fg : Nat → Int32) (pna : Nat) (pta : Nat) (rails : Int32) (limit : Int32) (retry : Int32) (behind : Int32) (pt : Nat → Int64) : va_W := [(co, .inr (0, [.ref fwa, .ref fta, .ref fra, .ref fga, .ref cxa, .int cup, .int clast, .int cpeak, .int cptick])), (fwa, .inl (cI, 8, .inl fw)), (fta, .inl (cI, 8, .inl ft)), (fra, .inl (cI, 8, .inl fr)), (fga, .inl (cI, 8, .inl fg)), (pl, .inr (2, [.ref pna, .ref pta, .int rails, .int limit, .int retry, .int behind])), (pta, .inl (cJ, 64, .inr (.inl pt)))]
abbrev Q_follow (D : va_G) (cI cJ cZ cG cH : ClassId) (co : Nat) (pl : Nat) (s0 : Int32) (fwa : Nat) (fta : Nat) (fra : Nat) (fga : Nat) (cxa : Nat) (cup : Int32) (clast : Int32) (cpeak : Int32) (cptick : Int32) (fw : Nat → Int32) (ft : Nat → Int32) (fr : Nat → Int32) (fg : Nat → Int32) (pna : Nat) (pta : Nat) (rails : Int32) (limit : Int32) (retry : Int32) (behind : Int32) (pt : Nat → Int64) (A : Nat → Prop) : Array Value → State → Outcome → State → Prop := va_Qv (fun (_ : Unit) => True) (fun _ t => ∃ (cup9 : Int32) (clast9 : Int32) (fr9 : Nat → Int32) (fg9 : Nat → Int32), (0 ≤ cup9.toInt ∧ cup9.toInt ≤ 2147483647) ∧ (0 ≤ clast9.toInt ∧ clast9.toInt ≤ 144) ∧ (∀ j, j < 8 → 0 ≤ (fr9 j).toInt ∧ (fr9 j).toInt ≤ 655) ∧ (∀ j, j < 8 → 0 ≤ (fg9 j).toInt ∧ (fg9 j).toInt ≤ 1166) ∧ (∀ j, j < 8 → (fr9 j).toInt ≤ (fg9 j).toInt) ∧ xB D (tyL cI cJ cZ cG cH) [(co, .inr (0, [.ref fwa, .ref fta, .ref fra, .ref fga, .ref cxa, .int cup9, .int clast9, .int cpeak, .int cptick])), (fwa, .inl (cI, 8, .inl fw)), (fta, .inl (cI, 8, .inl ft)), (fra, .inl (cI, 8, .inl fr9)), (fga, .inl (cI, 8, .inl fg9)), (pl, .inr (2, [.ref pna, .ref pta, .int rails, .int limit, .int retry, .int behind])), (pta, .inl (cJ, 64, .inr (.inl pt)))] A t) A
abbrev rm_follow : Room := { frames := 2, cells := 0, slots := 0, locals := 46 }
set_option maxRecDepth 100000 in
set_option maxHeartbeats 4000000 in
theorem c_follow (l : Launch) (D : va_G) (cI cJ cZ cG cH : ClassId) (sz : Nat) (co : Nat) (pl : Nat) (s0 : Int32) (fwa : Nat) (fta : Nat) (fra : Nat) (fga : Nat) (cxa : Nat) (cup : Int32) (clast : Int32) (cpeak : Int32) (cptick : Int32) (fw : Nat → Int32) (ft : Nat → Int32) (fr : Nat → Int32) (fg : Nat → Int32) (pna : Nat) (pta : Nat) (rails : Int32) (limit : Int32) (retry : Int32) (behind : Int32) (pt : Nat → Int64) (h_clast : 0 ≤ clast.toInt ∧ clast.toInt ≤ 144) (h_fw : ∀ j, j < 8 → 0 ≤ (fw j).toInt ∧ (fw j).toInt ≤ 511) (h_ft : ∀ j, j < 8 → 0 ≤ (ft j).toInt ∧ (ft j).toInt ≤ 511) (h_fr : ∀ j, j < 8 → 0 ≤ (fr j).toInt ∧ (fr j).toInt ≤ 655) (h_fg : ∀ j, j < 8 → 0 ≤ (fg j).toInt ∧ (fg j).toInt ≤ 1166) (h_rails : 0 ≤ rails.toInt ∧ rails.toInt ≤ 8) (h_le : ∀ j, j < 8 → (fr j).toInt ≤ (fg j).toInt) : Met l yX0_follow (wt yX0_follow cX0_follow 7 none) rm_follow (xPc [.ref co, .ref pl, .int s0] D (tyL cI cJ cZ cG cH) (W_follow cI cJ cZ cG cH co pl s0 fwa fta fra fga cxa cup clast cpeak cptick fw ft fr fg pna pta rails limit retry behind pt) sz) (Q_follow D cI cJ cZ cG cH co pl s0 fwa fta fra fga cxa cup clast cpeak cptick fw ft fr fg pna pta rails limit retry behind pt (va_A (W_follow cI cJ cZ cG cH co pl s0 fwa fta fra fga cxa cup clast cpeak cptick fw ft fr fg pna pta rails limit retry behind pt) sz)) 0 0 (va_A (W_follow cI cJ cZ cG cH co pl s0 fwa fta fra fga cxa cup clast cpeak cptick fw ft fr fg pna pta rails limit retry behind pt) sz) := by
  refine xMet (cc := cX0_follow) (maxL := 7) (ret := none) (Qf := Q_follow D cI cJ cZ cG cH co pl s0 fwa fta fra fga cxa cup clast cpeak cptick fw ft fr fg pna pta rails limit retry behind pt) (by decide) rfl (Nat.le_of_ble_eq_true rfl) ?_
  intro p e s m below meth c ls A hx hb hr hml hts hown hlocks hnm hsz hP hK hD hA hS hl
  have hown : s.vm.findClass RX0 = some m.cls := hown
  have hP : va_P D vwCl [(co, .inr (0, [.ref fwa, .ref fta, .ref fra, .ref fga, .ref cxa, .int cup, .int clast, .int cpeak, .int cptick])), (fwa, .inl (cI, 8, .inl fw)), (fta, .inl (cI, 8, .inl ft)), (fra, .inl (cI, 8, .inl fr)), (fga, .inl (cI, 8, .inl fg)), (pl, .inr (2, [.ref pna, .ref pta, .int rails, .int limit, .int retry, .int behind])), (pta, .inl (cJ, 64, .inr (.inl pt)))] s.heap := hP
  have hD : va_D A [(co, .inr (0, [.ref fwa, .ref fta, .ref fra, .ref fga, .ref cxa, .int cup, .int clast, .int cpeak, .int cptick])), (fwa, .inl (cI, 8, .inl fw)), (fta, .inl (cI, 8, .inl ft)), (fra, .inl (cI, 8, .inl fr)), (fga, .inl (cI, 8, .inl fg)), (pl, .inr (2, [.ref pna, .ref pta, .int rails, .int limit, .int retry, .int behind])), (pta, .inl (cJ, 64, .inr (.inl pt)))] := hD
  have hl : lv_has ls 7 [(0, .ref co), (1, .ref pl), (2, .int s0)] := hl
  refine lv_iconst (v := 0) hx hb dX0_follow_0 (by decide) ?_
  refine lv_istore_n (lv' := [(3, .int 0), (0, .ref co), (1, .ref pl), (2, .int s0)]) hx hb dX0_follow_1 rfl hl (by decide) rfl (fun ls hl => ?_)
  refine lv_aload_n hx hb dX0_follow_2 rfl (lv_at hl 1 rfl) ?_
  refine lv_iconst (v := 0) hx hb dX0_follow_3 (by decide) ?_
  refine va_put (D := D) (ci := 0) (v := .int 0) (ty := .int) (C := RX0) (T := TX0) (N := 9) hx hb hts (fun w h => tbC w (tbfX0 w h)) tyX0 tyX0_ok nmX0 hown hK hP hD hS 0 rfl rfl 5 (by decide) (hts (.fieldLink RX0 43 "PowerRails$Course" "up" "I") (tbC _ wd839)) (fun _ h9 => h9) rfl (by decide +kernel) rfl rfl (Nat.le_of_ble_eq_true rfl) dX0_follow_4 (fun H locs hP hD hS => ?_)
  have hP : va_P D vwCl [(co, .inr (0, [.ref fwa, .ref fta, .ref fra, .ref fga, .ref cxa, .int 0, .int clast, .int cpeak, .int cptick])), (fwa, .inl (cI, 8, .inl fw)), (fta, .inl (cI, 8, .inl ft)), (fra, .inl (cI, 8, .inl fr)), (fga, .inl (cI, 8, .inl fg)), (pl, .inr (2, [.ref pna, .ref pta, .int rails, .int limit, .int retry, .int behind])), (pta, .inl (cJ, 64, .inr (.inl pt)))] H := hP
  have hD : va_D A [(co, .inr (0, [.ref fwa, .ref fta, .ref fra, .ref fga, .ref cxa, .int 0, .int clast, .int cpeak, .int cptick])), (fwa, .inl (cI, 8, .inl fw)), (fta, .inl (cI, 8, .inl ft)), (fra, .inl (cI, 8, .inl fr)), (fga, .inl (cI, 8, .inl fg)), (pl, .inr (2, [.ref pna, .ref pta, .int rails, .int limit, .int retry, .int behind])), (pta, .inl (cJ, 64, .inr (.inl pt)))] := hD
  refine lv_aload_n hx hb dX0_follow_7 rfl (lv_at hl 1 rfl) ?_
  refine lv_iconst (v := 0) hx hb dX0_follow_8 (by decide) ?_
  refine va_put (D := D) (ci := 0) (v := .int 0) (ty := .int) (C := RX0) (T := TX0) (N := 9) hx hb hts (fun w h => tbC w (tbfX0 w h)) tyX0 tyX0_ok nmX0 hown hK hP hD hS 0 rfl rfl 6 (by decide) (hts (.fieldLink RX0 46 "PowerRails$Course" "last" "I") (tbC _ wd840)) (fun _ h9 => h9) rfl (by decide +kernel) rfl rfl (Nat.le_of_ble_eq_true rfl) dX0_follow_9 (fun H locs hP hD hS => ?_)
  have hP : va_P D vwCl [(co, .inr (0, [.ref fwa, .ref fta, .ref fra, .ref fga, .ref cxa, .int 0, .int 0, .int cpeak, .int cptick])), (fwa, .inl (cI, 8, .inl fw)), (fta, .inl (cI, 8, .inl ft)), (fra, .inl (cI, 8, .inl fr)), (fga, .inl (cI, 8, .inl fg)), (pl, .inr (2, [.ref pna, .ref pta, .int rails, .int limit, .int retry, .int behind])), (pta, .inl (cJ, 64, .inr (.inl pt)))] H := hP
  have hD : va_D A [(co, .inr (0, [.ref fwa, .ref fta, .ref fra, .ref fga, .ref cxa, .int 0, .int 0, .int cpeak, .int cptick])), (fwa, .inl (cI, 8, .inl fw)), (fta, .inl (cI, 8, .inl ft)), (fra, .inl (cI, 8, .inl fr)), (fga, .inl (cI, 8, .inl fg)), (pl, .inr (2, [.ref pna, .ref pta, .int rails, .int limit, .int retry, .int behind])), (pta, .inl (cJ, 64, .inr (.inl pt)))] := hD
  refine lv_iconst (v := 0) hx hb dX0_follow_12 (by decide) ?_
  refine lv_istore (lv' := [(4, .int 0), (3, .int 0), (0, .ref co), (1, .ref pl), (2, .int s0)]) hx hb dX0_follow_13 hl (by decide) rfl (fun ls hl => ?_)
  have hl623 : ∀ (nhl623 : Nat) (x617 : Int32) (x618 : Int32) (x619 : Int32) (x620 : Int32) (f621 : Nat → Int32) (f622 : Nat → Int32), ((9 - x617.toInt).toNat < nhl623) → (hx617 : 0 ≤ x617.toInt ∧ x617.toInt ≤ 9) → (hx618 : 0 ≤ x618.toInt ∧ x618.toInt ≤ 2147483647) → (hx619 : 0 ≤ x619.toInt ∧ x619.toInt ≤ 2147483647) → (hx620 : 0 ≤ x620.toInt ∧ x620.toInt ≤ 144) → (hf621 : ∀ j, j < 8 → 0 ≤ (f621 j).toInt ∧ (f621 j).toInt ≤ 655) → (hf622 : ∀ j, j < 8 → 0 ≤ (f622 j).toInt ∧ (f622 j).toInt ≤ 1166) → (hle_f621_f622 : ∀ j, j < 8 → (f621 j).toInt ≤ (f622 j).toInt) → ∀ (H : Heap) (locs : List Loc), va_P D vwCl [(co, .inr (0, [.ref fwa, .ref fta, .ref fra, .ref fga, .ref cxa, .int x619, .int x620, .int cpeak, .int cptick])), (fwa, .inl (cI, 8, .inl fw)), (fta, .inl (cI, 8, .inl ft)), (fra, .inl (cI, 8, .inl f621)), (fga, .inl (cI, 8, .inl f622)), (pl, .inr (2, [.ref pna, .ref pta, .int rails, .int limit, .int retry, .int behind])), (pta, .inl (cJ, 64, .inr (.inl pt)))] H → va_D A [(co, .inr (0, [.ref fwa, .ref fta, .ref fra, .ref fga, .ref cxa, .int x619, .int x620, .int cpeak, .int cptick])), (fwa, .inl (cI, 8, .inl fw)), (fta, .inl (cI, 8, .inl ft)), (fra, .inl (cI, 8, .inl f621)), (fga, .inl (cI, 8, .inl f622)), (pl, .inr (2, [.ref pna, .ref pta, .int rails, .int limit, .int retry, .int behind])), (pta, .inl (cJ, 64, .inr (.inl pt)))] → va_S A s.heap H locs → ∀ (ls : Array Slot), lv_has ls 7 [(4, .int x617), (3, .int x618), (0, .ref co), (1, .ref pl), (2, .int s0)] → W p l e rm_follow s m [Value.ref co, Value.ref pl, Value.int s0].toArray below meth c H locs 0 0 (MQ below ((Q_follow D cI cJ cZ cG cH co pl s0 fwa fta fra fga cxa cup clast cpeak cptick fw ft fr fg pna pta rails limit retry behind pt) A) [Value.ref co, Value.ref pl, Value.int s0].toArray s 0 0 A) (F0 m 15 ls []) := by
    intro nhl623
    induction nhl623 with
    | zero =>
      intro x617 x618 x619 x620 f621 f622 hmhl623
      exact absurd hmhl623 (Nat.not_lt_zero _)
    | succ nhl623 ihhl623 =>
      intro x617 x618 x619 x620 f621 f622 hmhl623 hx617 hx618 hx619 hx620 hf621 hf622 hle_f621_f622 H locs hP hD hS ls hl
      refine lv_iload hx hb dX0_follow_15 (lv_at hl 0 rfl) ?_
      refine lv_bipush (v := 8) hx hb dX0_follow_17 (by decide) ?_
      refine lv_icmp_gt (tgt := 121) hx hb dX0_follow_19 (by decide) (fun c_624 => ?_) (fun c_624 => ?_)
      · skip
        have i_624 : 8 < x617.toInt := (ilt (by decide) rfl).mp c_624
        refine W.widen (k := 0) (n := 0) (by decide) (by decide) ?_
        have hP9 := hP.sub (ws' := [(co, .inr (0, [.ref fwa, .ref fta, .ref fra, .ref fga, .ref cxa, .int x619, .int x620, .int cpeak, .int cptick])), (fwa, .inl (cI, 8, .inl fw)), (fta, .inl (cI, 8, .inl ft)), (fra, .inl (cI, 8, .inl f621)), (fga, .inl (cI, 8, .inl f622)), (pl, .inr (2, [.ref pna, .ref pta, .int rails, .int limit, .int retry, .int behind])), (pta, .inl (cJ, 64, .inr (.inl pt)))]) [0, 1, 2, 3, 4, 5, 6] rfl
        have hD9 := hD.sub (ws' := [(co, .inr (0, [.ref fwa, .ref fta, .ref fra, .ref fga, .ref cxa, .int x619, .int x620, .int cpeak, .int cptick])), (fwa, .inl (cI, 8, .inl fw)), (fta, .inl (cI, 8, .inl ft)), (fra, .inl (cI, 8, .inl f621)), (fga, .inl (cI, 8, .inl f622)), (pl, .inr (2, [.ref pna, .ref pta, .int rails, .int limit, .int retry, .int behind])), (pta, .inl (cJ, 64, .inr (.inl pt)))]) [0, 1, 2, 3, 4, 5, 6] (by decide) rfl
        exact W.vret hx hb hr (fun t ht hW => ⟨⟨(), rfl, trivial, ⟨x619, x620, f621, f622, (xrng rfl (by omega) (by omega)), (xrng rfl (by omega) (by omega)), (xwk_rng hf621 (by decide) (by decide)), (xwk_rng hf622 (by decide) (by decide)), hle_f621_f622, xB_of ht hW hP9 hK hD9⟩⟩, hS.F ht⟩) hS.2.2 dX0_follow_121
      · skip
        have i_624 : ¬ (8 < x617.toInt) := fun h9 => c_624 ((ilt (by decide) rfl).mpr h9)
        refine lv_iload_n hx hb dX0_follow_22 rfl (lv_at hl 1 rfl) ?_
        refine lv_aload_n hx hb dX0_follow_23 rfl (lv_at hl 2 rfl) ?_
        refine lv_aload_n hx hb dX0_follow_24 rfl (lv_at hl 3 rfl) ?_
        refine lv_iload_n hx hb dX0_follow_25 rfl (lv_at hl 4 rfl) ?_
        refine lv_iload_n hx hb dX0_follow_26 rfl (lv_at hl 1 rfl) ?_
        refine lv_iconst (v := (-1)) hx hb dX0_follow_27 (by decide) ?_
        refine lv_ixor hx hb dX0_follow_28 ?_
        refine lv_topi (fun v625 ev625 => ?_)
        refine lv_iand hx hb dX0_follow_29 ?_
        refine lv_topi (fun v626 ev626 => ?_)
        have hPc := hP.sub (ws' := [(co, .inr (0, [.ref fwa, .ref fta, .ref fra, .ref fga, .ref cxa, .int x619, .int x620, .int cpeak, .int cptick])), (fwa, .inl (cI, 8, .inl fw)), (fta, .inl (cI, 8, .inl ft)), (fra, .inl (cI, 8, .inl f621)), (fga, .inl (cI, 8, .inl f622)), (pl, .inr (2, [.ref pna, .ref pta, .int rails, .int limit, .int retry, .int behind])), (pta, .inl (cJ, 64, .inr (.inl pt)))]) [0, 1, 2, 3, 4, 5, 6] rfl
        have hDc := hD.sub (ws' := [(co, .inr (0, [.ref fwa, .ref fta, .ref fra, .ref fga, .ref cxa, .int x619, .int x620, .int cpeak, .int cptick])), (fwa, .inl (cI, 8, .inl fw)), (fta, .inl (cI, 8, .inl ft)), (fra, .inl (cI, 8, .inl f621)), (fga, .inl (cI, 8, .inl f622)), (pl, .inr (2, [.ref pna, .ref pta, .int rails, .int limit, .int retry, .int behind])), (pta, .inl (cJ, 64, .inr (.inl pt)))]) [0, 1, 2, 3, 4, 5, 6] (by decide) rfl
        have hFc := va_free (wc := [(co, .inr (0, [.ref fwa, .ref fta, .ref fra, .ref fga, .ref cxa, .int x619, .int x620, .int cpeak, .int cptick])), (fwa, .inl (cI, 8, .inl fw)), (fta, .inl (cI, 8, .inl ft)), (fra, .inl (cI, 8, .inl f621)), (fga, .inl (cI, 8, .inl f622)), (pl, .inr (2, [.ref pna, .ref pta, .int rails, .int limit, .int retry, .int behind])), (pta, .inl (cJ, 64, .inr (.inl pt)))]) hD hS hA [0, 1, 2, 3, 4, 5, 6] rfl
        refine va_calli (va_runV (As := [.ref pl, .int v626]) (rest := [.int x618]) ⟨hx, hb, hml, hown, hts⟩ (c_begin l D cI cJ cZ cG cH H.size co pl v626 fwa fta fra fga cxa x619 x620 cpeak cptick fw ft f621 f622 pna pta rails limit retry behind pt (xrng rfl (by omega) (by omega)) (xwk_rng h_fw (by decide) (by decide)) (xwk_rng h_ft (by decide) (by decide)) (xwk_rng hf621 (by decide) (by decide)) (xwk_rng hf622 (by decide) (by decide)) (xrng rfl (by omega) (by omega)) hle_f621_f622) (cwV 2 hts (xGV tbC wd841 wd842 wd843 wd23 wd844) rfl rfl rfl (by decide +kernel) ⟨Nat.le_of_ble_eq_true rfl, Nat.le_of_ble_eq_true rfl⟩) ⟨xPc_blind, va_recv hK hPc (ci := 0) (q0 := 0) rfl rfl, xPc_pre hPc hK hDc⟩ rfl rfl hl.1 rfl (lv_room (Nat.le_of_ble_eq_true rfl)) dX0_follow_30 ⟨Nat.le_of_ble_eq_true rfl, Nat.le_of_ble_eq_true rfl⟩) hS (fun q _ h => hFc q h) hFc (fun r627 u t H1 locs ht hvm hw627 hB hz1 hk1 hS => ?_)
        obtain ⟨fr_628, fg_629, hf629_0, hf629_1, hf629_2, hP1, hK1, hD1⟩ := hB
        rw [ht] at hP1
        obtain ⟨hP, hD⟩ := va_join (wr := []) (w1 := [(co, .inr (0, [.ref fwa, .ref fta, .ref fra, .ref fga, .ref cxa, .int x619, .int x620, .int cpeak, .int cptick])), (fwa, .inl (cI, 8, .inl fw)), (fta, .inl (cI, 8, .inl ft)), (fra, .inl (cI, 8, .inl fr_628)), (fga, .inl (cI, 8, .inl fg_629)), (pl, .inr (2, [.ref pna, .ref pta, .int rails, .int limit, .int retry, .int behind])), (pta, .inl (cJ, 64, .inr (.inl pt)))]) hP hD [0, 1, 2, 3, 4, 5, 6] [] rfl rfl (by decide) (by decide) hk1 hFc hP1 hD1
        generalize H1 = H at hP hS ⊢
        have hP : va_P D vwCl [(co, .inr (0, [.ref fwa, .ref fta, .ref fra, .ref fga, .ref cxa, .int x619, .int x620, .int cpeak, .int cptick])), (fwa, .inl (cI, 8, .inl fw)), (fta, .inl (cI, 8, .inl ft)), (fra, .inl (cI, 8, .inl fr_628)), (fga, .inl (cI, 8, .inl fg_629)), (pl, .inr (2, [.ref pna, .ref pta, .int rails, .int limit, .int retry, .int behind])), (pta, .inl (cJ, 64, .inr (.inl pt)))] H := hP
        have hD : va_D A [(co, .inr (0, [.ref fwa, .ref fta, .ref fra, .ref fga, .ref cxa, .int x619, .int x620, .int cpeak, .int cptick])), (fwa, .inl (cI, 8, .inl fw)), (fta, .inl (cI, 8, .inl ft)), (fra, .inl (cI, 8, .inl fr_628)), (fga, .inl (cI, 8, .inl fg_629)), (pl, .inr (2, [.ref pna, .ref pta, .int rails, .int limit, .int retry, .int behind])), (pta, .inl (cJ, 64, .inr (.inl pt)))] := hD
        have hf629_0 : ∀ j, j < 8 → 0 ≤ (fr_628 j).toInt ∧ (fr_628 j).toInt ≤ 655 := hf629_0
        have hf629_1 : ∀ j, j < 8 → 0 ≤ (fg_629 j).toInt ∧ (fg_629 j).toInt ≤ 1166 := hf629_1
        have hf629_2 : ∀ j, j < 8 → (fr_628 j).toInt ≤ (fg_629 j).toInt := hf629_2
        have hw627 : 0 ≤ r627.toInt ∧ r627.toInt ≤ 2147483647 := hw627
        refine lv_ior hx hb dX0_follow_33 ?_
        refine lv_topi (fun v630 ev630 => ?_)
        have rv630 : 0 ≤ v630.toInt ∧ v630.toInt ≤ 2147483647 := xorL 31 ev630 (show (x618 : Int32).toInt = x618.toInt from rfl) (show (r627 : Int32).toInt = r627.toInt from rfl) (by decide) (by decide) (by omega) (by omega) (by omega) (by omega)
        refine lv_istore_n (lv' := [(3, .int v630), (4, .int x617), (0, .ref co), (1, .ref pl), (2, .int s0)]) hx hb dX0_follow_34 rfl hl (by decide) rfl (fun ls hl => ?_)
        refine lv_iload_n hx hb dX0_follow_35 rfl (lv_at hl 0 rfl) ?_
        refine lv_aload_n hx hb dX0_follow_36 rfl (lv_at hl 2 rfl) ?_
        refine va_get (D := D) (ci := 0) (v := .int x619) (C := RX0) (T := TX0) (N := 9) hx hb hts (fun w h => tbC w (tbfX0 w h)) hown hK hP 0 rfl rfl 5 (by decide) (hts (.fieldLink RX0 43 "PowerRails$Course" "up" "I") (tbC _ wd839)) (fun _ h9 => h9) rfl dX0_follow_37 ?_
        refine lv_iconst (v := (-1)) hx hb dX0_follow_40 (by decide) ?_
        refine lv_ixor hx hb dX0_follow_41 ?_
        refine lv_topi (fun v631 ev631 => ?_)
        refine lv_iand hx hb dX0_follow_42 ?_
        refine lv_topi (fun v632 ev632 => ?_)
        have rv632 : 0 ≤ v632.toInt ∧ v632.toInt ≤ v630.toInt := xandL' ev632 (show (v630 : Int32).toInt = v630.toInt from rfl) (by omega)
        refine lv_istore (lv' := [(5, .int v632), (3, .int v630), (4, .int x617), (0, .ref co), (1, .ref pl), (2, .int s0)]) hx hb dX0_follow_43 hl (by decide) rfl (fun ls hl => ?_)
        refine lv_iload hx hb dX0_follow_45 (lv_at hl 0 rfl) ?_
        refine lv_if_ne (tgt := 51) hx hb dX0_follow_47 (by decide) (fun c_633 => ?_) (fun c_633 => ?_)
        · skip
          have i_633 : ¬ (v632.toInt = 0) := fun h9 => c_633 ((ieq rfl (by decide)).mpr h9)
          refine lv_aload_n hx hb dX0_follow_51 rfl (lv_at hl 3 rfl) ?_
          refine lv_aload_n hx hb dX0_follow_52 rfl (lv_at hl 3 rfl) ?_
          refine lv_iload hx hb dX0_follow_53 (lv_at hl 0 rfl) ?_
          have hPc := hP.sub (ws' := [(co, .inr (0, [.ref fwa, .ref fta, .ref fra, .ref fga, .ref cxa, .int x619, .int x620, .int cpeak, .int cptick])), (fga, .inl (cI, 8, .inl fg_629))]) [0, 4] rfl
          have hDc := hD.sub (ws' := [(co, .inr (0, [.ref fwa, .ref fta, .ref fra, .ref fga, .ref cxa, .int x619, .int x620, .int cpeak, .int cptick])), (fga, .inl (cI, 8, .inl fg_629))]) [0, 4] (by decide) rfl
          have hFc := va_free (wc := [(co, .inr (0, [.ref fwa, .ref fta, .ref fra, .ref fga, .ref cxa, .int x619, .int x620, .int cpeak, .int cptick])), (fga, .inl (cI, 8, .inl fg_629))]) hD hS hA [0, 4] rfl
          refine va_calli (va_runV (As := [.int v632]) (rest := [.ref co]) ⟨hx, hb, hml, hown, hts⟩ (c_soonest l D cI cJ cZ cG cH H.size co v632 fwa fta fra fga cxa x619 x620 cpeak cptick fg_629 (xrng rfl (by omega) (by omega)) (xwk_rng hf629_1 (by decide) (by decide))) (cwV 1 hts (xGV tbC wd846 wd847 wd848 wd23 wd849) rfl rfl rfl (by decide +kernel) ⟨Nat.le_of_ble_eq_true rfl, Nat.le_of_ble_eq_true rfl⟩) ⟨xPc_blind, va_recv hK hPc (ci := 0) (q0 := 0) rfl rfl, xPc_pre hPc hK hDc⟩ rfl rfl hl.1 rfl (lv_room (Nat.le_of_ble_eq_true rfl)) dX0_follow_55 ⟨Nat.le_of_ble_eq_true rfl, Nat.le_of_ble_eq_true rfl⟩) hS (fun q _ h => hFc q h) hFc (fun r634 u t H1 locs ht hvm hw634 hB hz1 hk1 hS => ?_)
          obtain ⟨hP1, hK1, hD1⟩ := hB
          rw [ht] at hP1
          obtain ⟨hP, hD⟩ := va_join (wr := [(fwa, .inl (cI, 8, .inl fw)), (fta, .inl (cI, 8, .inl ft)), (fra, .inl (cI, 8, .inl fr_628)), (pl, .inr (2, [.ref pna, .ref pta, .int rails, .int limit, .int retry, .int behind])), (pta, .inl (cJ, 64, .inr (.inl pt)))]) (w1 := [(co, .inr (0, [.ref fwa, .ref fta, .ref fra, .ref fga, .ref cxa, .int x619, .int x620, .int cpeak, .int cptick])), (fga, .inl (cI, 8, .inl fg_629))]) hP hD [0, 4] [1, 2, 3, 5, 6] rfl rfl (by decide) (by decide) hk1 hFc hP1 hD1
          generalize H1 = H at hP hS ⊢
          have hP : va_P D vwCl [(fwa, .inl (cI, 8, .inl fw)), (fta, .inl (cI, 8, .inl ft)), (fra, .inl (cI, 8, .inl fr_628)), (pl, .inr (2, [.ref pna, .ref pta, .int rails, .int limit, .int retry, .int behind])), (pta, .inl (cJ, 64, .inr (.inl pt))), (co, .inr (0, [.ref fwa, .ref fta, .ref fra, .ref fga, .ref cxa, .int x619, .int x620, .int cpeak, .int cptick])), (fga, .inl (cI, 8, .inl fg_629))] H := hP
          have hD : va_D A [(fwa, .inl (cI, 8, .inl fw)), (fta, .inl (cI, 8, .inl ft)), (fra, .inl (cI, 8, .inl fr_628)), (pl, .inr (2, [.ref pna, .ref pta, .int rails, .int limit, .int retry, .int behind])), (pta, .inl (cJ, 64, .inr (.inl pt))), (co, .inr (0, [.ref fwa, .ref fta, .ref fra, .ref fga, .ref cxa, .int x619, .int x620, .int cpeak, .int cptick])), (fga, .inl (cI, 8, .inl fg_629))] := hD
          have hw634 : 0 ≤ r634.toInt ∧ r634.toInt ≤ 144 := hw634
          refine va_put (D := D) (ci := 0) (v := .int r634) (ty := .int) (C := RX0) (T := TX0) (N := 9) hx hb hts (fun w h => tbC w (tbfX0 w h)) tyX0 tyX0_ok nmX0 hown hK hP hD hS 5 rfl rfl 6 (by decide) (hts (.fieldLink RX0 46 "PowerRails$Course" "last" "I") (tbC _ wd840)) (fun _ h9 => h9) rfl (by decide +kernel) rfl rfl (Nat.le_of_ble_eq_true rfl) dX0_follow_58 (fun H locs hP hD hS => ?_)
          have hP : va_P D vwCl [(fwa, .inl (cI, 8, .inl fw)), (fta, .inl (cI, 8, .inl ft)), (fra, .inl (cI, 8, .inl fr_628)), (pl, .inr (2, [.ref pna, .ref pta, .int rails, .int limit, .int retry, .int behind])), (pta, .inl (cJ, 64, .inr (.inl pt))), (co, .inr (0, [.ref fwa, .ref fta, .ref fra, .ref fga, .ref cxa, .int x619, .int r634, .int cpeak, .int cptick])), (fga, .inl (cI, 8, .inl fg_629))] H := hP
          have hD : va_D A [(fwa, .inl (cI, 8, .inl fw)), (fta, .inl (cI, 8, .inl ft)), (fra, .inl (cI, 8, .inl fr_628)), (pl, .inr (2, [.ref pna, .ref pta, .int rails, .int limit, .int retry, .int behind])), (pta, .inl (cJ, 64, .inr (.inl pt))), (co, .inr (0, [.ref fwa, .ref fta, .ref fra, .ref fga, .ref cxa, .int x619, .int r634, .int cpeak, .int cptick])), (fga, .inl (cI, 8, .inl fg_629))] := hD
          refine lv_iconst (v := 0) hx hb dX0_follow_61 (by decide) ?_
          refine lv_istore (lv' := [(6, .int 0), (5, .int v632), (3, .int v630), (4, .int x617), (0, .ref co), (1, .ref pl), (2, .int s0)]) hx hb dX0_follow_62 hl (by decide) rfl (fun ls hl => ?_)
          have hl709 : ∀ (nhl709 : Nat) (x707 : Int32) (x708 : Int32), ((8 - x707.toInt).toNat < nhl709) → (hx707 : 0 ≤ x707.toInt ∧ x707.toInt ≤ 8) → (hx708 : 0 ≤ x708.toInt ∧ x708.toInt ≤ 2147483647) → ∀ (H : Heap) (locs : List Loc), va_P D vwCl [(fwa, .inl (cI, 8, .inl fw)), (fta, .inl (cI, 8, .inl ft)), (fra, .inl (cI, 8, .inl fr_628)), (pl, .inr (2, [.ref pna, .ref pta, .int rails, .int limit, .int retry, .int behind])), (pta, .inl (cJ, 64, .inr (.inl pt))), (co, .inr (0, [.ref fwa, .ref fta, .ref fra, .ref fga, .ref cxa, .int x708, .int r634, .int cpeak, .int cptick])), (fga, .inl (cI, 8, .inl fg_629))] H → va_D A [(fwa, .inl (cI, 8, .inl fw)), (fta, .inl (cI, 8, .inl ft)), (fra, .inl (cI, 8, .inl fr_628)), (pl, .inr (2, [.ref pna, .ref pta, .int rails, .int limit, .int retry, .int behind])), (pta, .inl (cJ, 64, .inr (.inl pt))), (co, .inr (0, [.ref fwa, .ref fta, .ref fra, .ref fga, .ref cxa, .int x708, .int r634, .int cpeak, .int cptick])), (fga, .inl (cI, 8, .inl fg_629))] → va_S A s.heap H locs → ∀ (ls : Array Slot), lv_has ls 7 [(6, .int x707), (5, .int v632), (3, .int v630), (4, .int x617), (0, .ref co), (1, .ref pl), (2, .int s0)] → W p l e rm_follow s m [Value.ref co, Value.ref pl, Value.int s0].toArray below meth c H locs 0 0 (MQ below ((Q_follow D cI cJ cZ cG cH co pl s0 fwa fta fra fga cxa cup clast cpeak cptick fw ft fr fg pna pta rails limit retry behind pt) A) [Value.ref co, Value.ref pl, Value.int s0].toArray s 0 0 A) (F0 m 64 ls []) := by
            intro nhl709
            induction nhl709 with
            | zero =>
              intro x707 x708 hmhl709
              exact absurd hmhl709 (Nat.not_lt_zero _)
            | succ nhl709 ihhl709 =>
              intro x707 x708 hmhl709 hx707 hx708 H locs hP hD hS ls hl
              refine lv_iload hx hb dX0_follow_64 (lv_at hl 0 rfl) ?_
              refine lv_bipush (v := 8) hx hb dX0_follow_66 (by decide) ?_
              refine lv_icmp_ge (tgt := 115) hx hb dX0_follow_68 (by decide) (fun c_710 => ?_) (fun c_710 => ?_)
              · skip
                have i_710 : 8 ≤ x707.toInt := (ile (by decide) rfl).mp c_710
                obtain ⟨x711, ex711⟩ : ∃ y : Int32, y = x617 + 1 := ⟨_, rfl⟩
                have tx711 : x711.toInt = (x617.toInt + 1) := (congrArg Int32.toInt ex711).trans (xadd rfl (by decide) (by omega) (by omega))
                refine lv_iinc (v := x711) (lv' := [(4, .int x711), (6, .int x707), (5, .int v632), (3, .int v630), (0, .ref co), (1, .ref pl), (2, .int s0)]) hx hb dX0_follow_115 hl (k := 3) rfl (by rw [ex711]; rfl) (by decide) rfl (fun ls hl => ?_)
                refine lv_goto (tgt := 15) hx hb dX0_follow_118 (by decide) ?_
                have hP := hP.sub (ws' := [(co, .inr (0, [.ref fwa, .ref fta, .ref fra, .ref fga, .ref cxa, .int x708, .int r634, .int cpeak, .int cptick])), (fwa, .inl (cI, 8, .inl fw)), (fta, .inl (cI, 8, .inl ft)), (fra, .inl (cI, 8, .inl fr_628)), (fga, .inl (cI, 8, .inl fg_629)), (pl, .inr (2, [.ref pna, .ref pta, .int rails, .int limit, .int retry, .int behind])), (pta, .inl (cJ, 64, .inr (.inl pt)))]) [5, 0, 1, 2, 6, 3, 4] rfl
                have hD := hD.sub (ws' := [(co, .inr (0, [.ref fwa, .ref fta, .ref fra, .ref fga, .ref cxa, .int x708, .int r634, .int cpeak, .int cptick])), (fwa, .inl (cI, 8, .inl fw)), (fta, .inl (cI, 8, .inl ft)), (fra, .inl (cI, 8, .inl fr_628)), (fga, .inl (cI, 8, .inl fg_629)), (pl, .inr (2, [.ref pna, .ref pta, .int rails, .int limit, .int retry, .int behind])), (pta, .inl (cJ, 64, .inr (.inl pt)))]) [5, 0, 1, 2, 6, 3, 4] (by decide) rfl
                exact ihhl623 x711 v630 x708 r634 fr_628 fg_629 (by omega) (xrng tx711 (by omega) (by omega)) (xrng rfl (by omega) (by omega)) (xrng rfl (by omega) (by omega)) (xrng rfl (by omega) (by omega)) (xwk_rng hf629_0 (by decide) (by decide)) (xwk_rng hf629_1 (by decide) (by decide)) hf629_2 _ _ hP hD hS ls (lv_sub hl [0, 3, 4, 5, 6] rfl)
              · skip
                have i_710 : ¬ (8 ≤ x707.toInt) := fun h9 => c_710 ((ile (by decide) rfl).mpr h9)
                refine lv_iload hx hb dX0_follow_71 (lv_at hl 1 rfl) ?_
                refine lv_iload hx hb dX0_follow_73 (lv_at hl 0 rfl) ?_
                refine lv_ishr hx hb dX0_follow_75 ?_
                refine lv_topi (fun v712 ev712 => ?_)
                refine lv_iconst (v := 1) hx hb dX0_follow_76 (by decide) ?_
                refine lv_iand hx hb dX0_follow_77 ?_
                refine lv_topi (fun v713 ev713 => ?_)
                have rv713 : 0 ≤ v713.toInt ∧ v713.toInt ≤ 1 := xandL ev713 (show (1 : Int32).toInt = 1 from (by decide)) (by omega)
                refine lv_iconst (v := 1) hx hb dX0_follow_78 (by decide) ?_
                refine lv_icmp_ne (tgt := 109) hx hb dX0_follow_79 (by decide) (fun c_714 => ?_) (fun c_714 => ?_)
                · skip
                  have i_714 : ¬ (v713.toInt = 1) := fun h9 => c_714 ((ieq rfl (by decide)).mpr h9)
                  obtain ⟨x715, ex715⟩ : ∃ y : Int32, y = x707 + 1 := ⟨_, rfl⟩
                  have tx715 : x715.toInt = (x707.toInt + 1) := (congrArg Int32.toInt ex715).trans (xadd rfl (by decide) (by omega) (by omega))
                  refine lv_iinc (v := x715) (lv' := [(6, .int x715), (5, .int v632), (3, .int v630), (4, .int x617), (0, .ref co), (1, .ref pl), (2, .int s0)]) hx hb dX0_follow_109 hl (k := 0) rfl (by rw [ex715]; rfl) (by decide) rfl (fun ls hl => ?_)
                  refine lv_goto (tgt := 64) hx hb dX0_follow_112 (by decide) ?_
                  exact ihhl709 x715 x708 (by omega) (xrng tx715 (by omega) (by omega)) (xrng rfl (by omega) (by omega)) _ _ hP hD hS ls (lv_sub hl [0, 1, 2, 3, 4, 5, 6] rfl)
                · skip
                  have i_714 : v713.toInt = 1 := (ieq rfl (by decide)).mp c_714
                  refine lv_aload_n hx hb dX0_follow_82 rfl (lv_at hl 4 rfl) ?_
                  refine va_get (D := D) (ci := 0) (v := .ref fga) (C := RX0) (T := TX0) (N := 9) hx hb hts (fun w h => tbC w (tbfX0 w h)) hown hK hP 5 rfl rfl 3 (by decide) (hts (.fieldLink RX0 21 "PowerRails$Course" "goodAt" "[I") (tbC _ wd84)) (fun _ h9 => h9) rfl dX0_follow_83 ?_
                  refine lv_iload hx hb dX0_follow_86 (lv_at hl 0 rfl) ?_
                  refine va_iald hx hb hK hP 6 0 rfl rfl (vp_in_iff.mpr ⟨by omega, by omega⟩) dX0_follow_88 ?_
                  refine lv_topi (fun v716 ev716 => ?_)
                  have rv716 : 0 ≤ v716.toInt ∧ v716.toInt ≤ 1166 := xrd ev716 hf629_1 (xinK (vp_in_iff.mpr ⟨by omega, by omega⟩))
                  refine lv_aload_n hx hb dX0_follow_89 rfl (lv_at hl 4 rfl) ?_
                  refine va_get (D := D) (ci := 0) (v := .int r634) (C := RX0) (T := TX0) (N := 9) hx hb hts (fun w h => tbC w (tbfX0 w h)) hown hK hP 5 rfl rfl 6 (by decide) (hts (.fieldLink RX0 46 "PowerRails$Course" "last" "I") (tbC _ wd840)) (fun _ h9 => h9) rfl dX0_follow_90 ?_
                  refine lv_icmp_ne (tgt := 109) hx hb dX0_follow_93 (by decide) (fun c_717 => ?_) (fun c_717 => ?_)
                  · skip
                    have i_717 : ¬ (v716.toInt = r634.toInt) := fun h9 => c_717 ((ieq rfl rfl).mpr h9)
                    obtain ⟨x718, ex718⟩ : ∃ y : Int32, y = x707 + 1 := ⟨_, rfl⟩
                    have tx718 : x718.toInt = (x707.toInt + 1) := (congrArg Int32.toInt ex718).trans (xadd rfl (by decide) (by omega) (by omega))
                    refine lv_iinc (v := x718) (lv' := [(6, .int x718), (5, .int v632), (3, .int v630), (4, .int x617), (0, .ref co), (1, .ref pl), (2, .int s0)]) hx hb dX0_follow_109 hl (k := 0) rfl (by rw [ex718]; rfl) (by decide) rfl (fun ls hl => ?_)
                    refine lv_goto (tgt := 64) hx hb dX0_follow_112 (by decide) ?_
                    exact ihhl709 x718 x708 (by omega) (xrng tx718 (by omega) (by omega)) (xrng rfl (by omega) (by omega)) _ _ hP hD hS ls (lv_sub hl [0, 1, 2, 3, 4, 5, 6] rfl)
                  · skip
                    have i_717 : v716.toInt = r634.toInt := (ieq rfl rfl).mp c_717
                    refine lv_aload_n hx hb dX0_follow_96 rfl (lv_at hl 4 rfl) ?_
                    refine lv_dup hx hb dX0_follow_97 rfl ?_
                    refine va_get (D := D) (ci := 0) (v := .int x708) (C := RX0) (T := TX0) (N := 9) hx hb hts (fun w h => tbC w (tbfX0 w h)) hown hK hP 5 rfl rfl 5 (by decide) (hts (.fieldLink RX0 43 "PowerRails$Course" "up" "I") (tbC _ wd839)) (fun _ h9 => h9) rfl dX0_follow_98 ?_
                    refine lv_iconst (v := 1) hx hb dX0_follow_101 (by decide) ?_
                    refine lv_iload hx hb dX0_follow_102 (lv_at hl 0 rfl) ?_
                    refine lv_ishl hx hb dX0_follow_104 ?_
                    refine lv_topi (fun v719 ev719 => ?_)
                    have rv719 : 1 ≤ v719.toInt ∧ v719.toInt ≤ 128 := xshl1 7 ev719 (show (x707 : Int32).toInt = x707.toInt from rfl) (by omega) (by omega) (by decide)
                    refine lv_ior hx hb dX0_follow_105 ?_
                    refine lv_topi (fun v720 ev720 => ?_)
                    have rv720 : 0 ≤ v720.toInt ∧ v720.toInt ≤ 2147483647 := xorL 31 ev720 (show (x708 : Int32).toInt = x708.toInt from rfl) (show (v719 : Int32).toInt = v719.toInt from rfl) (by decide) (by decide) (by omega) (by omega) (by omega) (by omega)
                    refine va_put (D := D) (ci := 0) (v := .int v720) (ty := .int) (C := RX0) (T := TX0) (N := 9) hx hb hts (fun w h => tbC w (tbfX0 w h)) tyX0 tyX0_ok nmX0 hown hK hP hD hS 5 rfl rfl 5 (by decide) (hts (.fieldLink RX0 43 "PowerRails$Course" "up" "I") (tbC _ wd839)) (fun _ h9 => h9) rfl (by decide +kernel) rfl rfl (Nat.le_of_ble_eq_true rfl) dX0_follow_106 (fun H locs hP hD hS => ?_)
                    have hP : va_P D vwCl [(fwa, .inl (cI, 8, .inl fw)), (fta, .inl (cI, 8, .inl ft)), (fra, .inl (cI, 8, .inl fr_628)), (pl, .inr (2, [.ref pna, .ref pta, .int rails, .int limit, .int retry, .int behind])), (pta, .inl (cJ, 64, .inr (.inl pt))), (co, .inr (0, [.ref fwa, .ref fta, .ref fra, .ref fga, .ref cxa, .int v720, .int r634, .int cpeak, .int cptick])), (fga, .inl (cI, 8, .inl fg_629))] H := hP
                    have hD : va_D A [(fwa, .inl (cI, 8, .inl fw)), (fta, .inl (cI, 8, .inl ft)), (fra, .inl (cI, 8, .inl fr_628)), (pl, .inr (2, [.ref pna, .ref pta, .int rails, .int limit, .int retry, .int behind])), (pta, .inl (cJ, 64, .inr (.inl pt))), (co, .inr (0, [.ref fwa, .ref fta, .ref fra, .ref fga, .ref cxa, .int v720, .int r634, .int cpeak, .int cptick])), (fga, .inl (cI, 8, .inl fg_629))] := hD
                    obtain ⟨x721, ex721⟩ : ∃ y : Int32, y = x707 + 1 := ⟨_, rfl⟩
                    have tx721 : x721.toInt = (x707.toInt + 1) := (congrArg Int32.toInt ex721).trans (xadd rfl (by decide) (by omega) (by omega))
                    refine lv_iinc (v := x721) (lv' := [(6, .int x721), (5, .int v632), (3, .int v630), (4, .int x617), (0, .ref co), (1, .ref pl), (2, .int s0)]) hx hb dX0_follow_109 hl (k := 0) rfl (by rw [ex721]; rfl) (by decide) rfl (fun ls hl => ?_)
                    refine lv_goto (tgt := 64) hx hb dX0_follow_112 (by decide) ?_
                    exact ihhl709 x721 v720 (by omega) (xrng tx721 (by omega) (by omega)) (xrng rfl (by omega) (by omega)) _ _ hP hD hS ls (lv_sub hl [0, 1, 2, 3, 4, 5, 6] rfl)
          exact hl709 _ 0 x619 (Nat.lt_succ_self _) ⟨by decide, by decide⟩ (xrng rfl (by omega) (by omega)) _ _ hP hD hS ls (lv_sub hl [0, 1, 2, 3, 4, 5, 6] rfl)
        · skip
          have i_633 : v632.toInt = 0 := (ieq rfl (by decide)).mp c_633
          refine W.widen (k := 0) (n := 0) (by decide) (by decide) ?_
          have hP9 := hP.sub (ws' := [(co, .inr (0, [.ref fwa, .ref fta, .ref fra, .ref fga, .ref cxa, .int x619, .int x620, .int cpeak, .int cptick])), (fwa, .inl (cI, 8, .inl fw)), (fta, .inl (cI, 8, .inl ft)), (fra, .inl (cI, 8, .inl fr_628)), (fga, .inl (cI, 8, .inl fg_629)), (pl, .inr (2, [.ref pna, .ref pta, .int rails, .int limit, .int retry, .int behind])), (pta, .inl (cJ, 64, .inr (.inl pt)))]) [0, 1, 2, 3, 4, 5, 6] rfl
          have hD9 := hD.sub (ws' := [(co, .inr (0, [.ref fwa, .ref fta, .ref fra, .ref fga, .ref cxa, .int x619, .int x620, .int cpeak, .int cptick])), (fwa, .inl (cI, 8, .inl fw)), (fta, .inl (cI, 8, .inl ft)), (fra, .inl (cI, 8, .inl fr_628)), (fga, .inl (cI, 8, .inl fg_629)), (pl, .inr (2, [.ref pna, .ref pta, .int rails, .int limit, .int retry, .int behind])), (pta, .inl (cJ, 64, .inr (.inl pt)))]) [0, 1, 2, 3, 4, 5, 6] (by decide) rfl
          exact W.vret hx hb hr (fun t ht hW => ⟨⟨(), rfl, trivial, ⟨x619, x620, fr_628, fg_629, (xrng rfl (by omega) (by omega)), (xrng rfl (by omega) (by omega)), (xwk_rng hf629_0 (by decide) (by decide)), (xwk_rng hf629_1 (by decide) (by decide)), hf629_2, xB_of ht hW hP9 hK hD9⟩⟩, hS.F ht⟩) hS.2.2 dX0_follow_50
  exact hl623 _ 0 0 0 0 fr fg (Nat.lt_succ_self _) ⟨by decide, by decide⟩ ⟨by decide, by decide⟩ ⟨by decide, by decide⟩ ⟨by decide, by decide⟩ (xwk_rng h_fr (by decide) (by decide)) (xwk_rng h_fg (by decide) (by decide)) h_le _ _ hP hD hS ls (lv_sub hl [0, 1, 2, 3, 4] rfl)
abbrev W_drawnAt (cI cJ cZ cG cH : ClassId) (co : Nat) (pl : Nat) (t0 : Int32) (fwa : Nat) (fta : Nat) (fra : Nat) (fga : Nat) (cxa : Nat) (cup : Int32) (clast : Int32) (cpeak : Int32) (cptick : Int32) (fr : Nat → Int32) (fg : Nat → Int32) (pna : Nat) (pta : Nat) (rails : Int32) (limit : Int32) (retry : Int32) (behind : Int32) (pn : Nat → Int32) : va_W := [(co, .inr (0, [.ref fwa, .ref fta, .ref fra, .ref fga, .ref cxa, .int cup, .int clast, .int cpeak, .int cptick])), (fra, .inl (cI, 8, .inl fr)), (fga, .inl (cI, 8, .inl fg)), (pl, .inr (2, [.ref pna, .ref pta, .int rails, .int limit, .int retry, .int behind])), (pna, .inl (cI, 64, .inl pn))]
abbrev Q_drawnAt (D : va_G) (cI cJ cZ cG cH : ClassId) (co : Nat) (pl : Nat) (t0 : Int32) (fwa : Nat) (fta : Nat) (fra : Nat) (fga : Nat) (cxa : Nat) (cup : Int32) (clast : Int32) (cpeak : Int32) (cptick : Int32) (fr : Nat → Int32) (fg : Nat → Int32) (pna : Nat) (pta : Nat) (rails : Int32) (limit : Int32) (retry : Int32) (behind : Int32) (pn : Nat → Int32) (A : Nat → Prop) : Array Value → State → Outcome → State → Prop := va_Qi (fun (r : Int32) (_ : Unit) => True) (fun _ t => xB D (tyL cI cJ cZ cG cH) [(co, .inr (0, [.ref fwa, .ref fta, .ref fra, .ref fga, .ref cxa, .int cup, .int clast, .int cpeak, .int cptick])), (fra, .inl (cI, 8, .inl fr)), (fga, .inl (cI, 8, .inl fg)), (pl, .inr (2, [.ref pna, .ref pta, .int rails, .int limit, .int retry, .int behind])), (pna, .inl (cI, 64, .inl pn))] A t) A
abbrev rm_drawnAt : Room := { frames := 1, cells := 0, slots := 0, locals := 22 }
set_option maxRecDepth 100000 in
set_option maxHeartbeats 4000000 in
theorem c_drawnAt (l : Launch) (D : va_G) (cI cJ cZ cG cH : ClassId) (sz : Nat) (co : Nat) (pl : Nat) (t0 : Int32) (fwa : Nat) (fta : Nat) (fra : Nat) (fga : Nat) (cxa : Nat) (cup : Int32) (clast : Int32) (cpeak : Int32) (cptick : Int32) (fr : Nat → Int32) (fg : Nat → Int32) (pna : Nat) (pta : Nat) (rails : Int32) (limit : Int32) (retry : Int32) (behind : Int32) (pn : Nat → Int32) (h_clast : 0 ≤ clast.toInt ∧ clast.toInt ≤ 144) (h_fr : ∀ j, j < 8 → 0 ≤ (fr j).toInt ∧ (fr j).toInt ≤ 655) (h_fg : ∀ j, j < 8 → 0 ≤ (fg j).toInt ∧ (fg j).toInt ≤ 1166) (h_rails : 0 ≤ rails.toInt ∧ rails.toInt ≤ 8) (h_pn : ∀ j, j < 64 → 0 ≤ (pn j).toInt ∧ (pn j).toInt ≤ 511) (h_le : ∀ j, j < 8 → (fr j).toInt ≤ (fg j).toInt) : Met l yX0_drawnAt (wt yX0_drawnAt cX0_drawnAt 5 (some .int)) rm_drawnAt (xPc [.ref co, .ref pl, .int t0] D (tyL cI cJ cZ cG cH) (W_drawnAt cI cJ cZ cG cH co pl t0 fwa fta fra fga cxa cup clast cpeak cptick fr fg pna pta rails limit retry behind pn) sz) (Q_drawnAt D cI cJ cZ cG cH co pl t0 fwa fta fra fga cxa cup clast cpeak cptick fr fg pna pta rails limit retry behind pn (va_A (W_drawnAt cI cJ cZ cG cH co pl t0 fwa fta fra fga cxa cup clast cpeak cptick fr fg pna pta rails limit retry behind pn) sz)) 0 0 (va_A (W_drawnAt cI cJ cZ cG cH co pl t0 fwa fta fra fga cxa cup clast cpeak cptick fr fg pna pta rails limit retry behind pn) sz) := by
  refine xMet (cc := cX0_drawnAt) (maxL := 5) (ret := (some .int)) (Qf := Q_drawnAt D cI cJ cZ cG cH co pl t0 fwa fta fra fga cxa cup clast cpeak cptick fr fg pna pta rails limit retry behind pn) (by decide) rfl (Nat.le_of_ble_eq_true rfl) ?_
  intro p e s m below meth c ls A hx hb hr hml hts hown hlocks hnm hsz hP hK hD hA hS hl
  have hown : s.vm.findClass RX0 = some m.cls := hown
  have hP : va_P D vwCl [(co, .inr (0, [.ref fwa, .ref fta, .ref fra, .ref fga, .ref cxa, .int cup, .int clast, .int cpeak, .int cptick])), (fra, .inl (cI, 8, .inl fr)), (fga, .inl (cI, 8, .inl fg)), (pl, .inr (2, [.ref pna, .ref pta, .int rails, .int limit, .int retry, .int behind])), (pna, .inl (cI, 64, .inl pn))] s.heap := hP
  have hD : va_D A [(co, .inr (0, [.ref fwa, .ref fta, .ref fra, .ref fga, .ref cxa, .int cup, .int clast, .int cpeak, .int cptick])), (fra, .inl (cI, 8, .inl fr)), (fga, .inl (cI, 8, .inl fg)), (pl, .inr (2, [.ref pna, .ref pta, .int rails, .int limit, .int retry, .int behind])), (pna, .inl (cI, 64, .inl pn))] := hD
  have hl : lv_has ls 5 [(0, .ref co), (1, .ref pl), (2, .int t0)] := hl
  refine lv_iconst (v := 0) hx hb dX0_drawnAt_0 (by decide) ?_
  refine lv_istore_n (lv' := [(3, .int 0), (0, .ref co), (1, .ref pl), (2, .int t0)]) hx hb dX0_drawnAt_1 rfl hl (by decide) rfl (fun ls hl => ?_)
  refine lv_iconst (v := 0) hx hb dX0_drawnAt_2 (by decide) ?_
  refine lv_istore (lv' := [(4, .int 0), (3, .int 0), (0, .ref co), (1, .ref pl), (2, .int t0)]) hx hb dX0_drawnAt_3 hl (by decide) rfl (fun ls hl => ?_)
  have hl99 : ∀ (nhl99 : Nat) (x97 : Int32) (x98 : Int32), ((8 - x97.toInt).toNat < nhl99) → (hx97 : 0 ≤ x97.toInt ∧ x97.toInt ≤ 8) → ∀ (H : Heap) (locs : List Loc), va_P D vwCl [(co, .inr (0, [.ref fwa, .ref fta, .ref fra, .ref fga, .ref cxa, .int cup, .int clast, .int cpeak, .int cptick])), (fra, .inl (cI, 8, .inl fr)), (fga, .inl (cI, 8, .inl fg)), (pl, .inr (2, [.ref pna, .ref pta, .int rails, .int limit, .int retry, .int behind])), (pna, .inl (cI, 64, .inl pn))] H → va_D A [(co, .inr (0, [.ref fwa, .ref fta, .ref fra, .ref fga, .ref cxa, .int cup, .int clast, .int cpeak, .int cptick])), (fra, .inl (cI, 8, .inl fr)), (fga, .inl (cI, 8, .inl fg)), (pl, .inr (2, [.ref pna, .ref pta, .int rails, .int limit, .int retry, .int behind])), (pna, .inl (cI, 64, .inl pn))] → va_S A s.heap H locs → ∀ (ls : Array Slot), lv_has ls 5 [(4, .int x97), (3, .int x98), (0, .ref co), (1, .ref pl), (2, .int t0)] → W p l e rm_drawnAt s m [Value.ref co, Value.ref pl, Value.int t0].toArray below meth c H locs 0 0 (MQ below ((Q_drawnAt D cI cJ cZ cG cH co pl t0 fwa fta fra fga cxa cup clast cpeak cptick fr fg pna pta rails limit retry behind pn) A) [Value.ref co, Value.ref pl, Value.int t0].toArray s 0 0 A) (F0 m 5 ls []) := by
    intro nhl99
    induction nhl99 with
    | zero =>
      intro x97 x98 hmhl99
      exact absurd hmhl99 (Nat.not_lt_zero _)
    | succ nhl99 ihhl99 =>
      intro x97 x98 hmhl99 hx97 H locs hP hD hS ls hl
      refine lv_iload hx hb dX0_drawnAt_5 (lv_at hl 0 rfl) ?_
      refine lv_aload_n hx hb dX0_drawnAt_7 rfl (lv_at hl 3 rfl) ?_
      refine va_get (D := D) (ci := 2) (v := .int rails) (C := RX3) (T := TX3) (N := 6) hx hb hts (fun w h => tbC w (tbfX3 w h)) hown hK hP 3 rfl rfl 2 (by decide) (hts (.fieldLink RX0 27 "PowerRails$Plan" "rails" "I") (tbC _ wd824)) (fun _ h9 => h9) rfl dX0_drawnAt_8 ?_
      refine lv_icmp_ge (tgt := 77) hx hb dX0_drawnAt_11 (by decide) (fun c_100 => ?_) (fun c_100 => ?_)
      · skip
        have i_100 : rails.toInt ≤ x97.toInt := (ile rfl rfl).mp c_100
        refine lv_iload_n hx hb dX0_drawnAt_77 rfl (lv_at hl 1 rfl) ?_
        refine W.widen (k := 0) (n := 0) (by decide) (by decide) ?_
        have hP9 := hP.sub (ws' := [(co, .inr (0, [.ref fwa, .ref fta, .ref fra, .ref fga, .ref cxa, .int cup, .int clast, .int cpeak, .int cptick])), (fra, .inl (cI, 8, .inl fr)), (fga, .inl (cI, 8, .inl fg)), (pl, .inr (2, [.ref pna, .ref pta, .int rails, .int limit, .int retry, .int behind])), (pna, .inl (cI, 64, .inl pn))]) [0, 1, 2, 3, 4] rfl
        have hD9 := hD.sub (ws' := [(co, .inr (0, [.ref fwa, .ref fta, .ref fra, .ref fga, .ref cxa, .int cup, .int clast, .int cpeak, .int cptick])), (fra, .inl (cI, 8, .inl fr)), (fga, .inl (cI, 8, .inl fg)), (pl, .inr (2, [.ref pna, .ref pta, .int rails, .int limit, .int retry, .int behind])), (pna, .inl (cI, 64, .inl pn))]) [0, 1, 2, 3, 4] (by decide) rfl
        exact W.iret (v := x98) hx hb hr (fun t ht hW => ⟨⟨x98, (), rfl, trivial, xB_of ht hW hP9 hK hD9⟩, hS.F ht⟩) hS.2.2 dX0_drawnAt_78
      · skip
        have i_100 : ¬ (rails.toInt ≤ x97.toInt) := fun h9 => c_100 ((ile rfl rfl).mpr h9)
        refine lv_aload_n hx hb dX0_drawnAt_14 rfl (lv_at hl 2 rfl) ?_
        refine lv_iload hx hb dX0_drawnAt_15 (lv_at hl 0 rfl) ?_
        have hPc := hP.sub (ws' := [(co, .inr (0, [.ref fwa, .ref fta, .ref fra, .ref fga, .ref cxa, .int cup, .int clast, .int cpeak, .int cptick]))]) [0] rfl
        have hDc := hD.sub (ws' := [(co, .inr (0, [.ref fwa, .ref fta, .ref fra, .ref fga, .ref cxa, .int cup, .int clast, .int cpeak, .int cptick]))]) [0] (by decide) rfl
        have hFc := va_free (wc := [(co, .inr (0, [.ref fwa, .ref fta, .ref fra, .ref fga, .ref cxa, .int cup, .int clast, .int cpeak, .int cptick]))]) hD hS hA [0] rfl
        refine va_calli (va_runV (As := [.int x97]) (rest := []) ⟨hx, hb, hml, hown, hts⟩ (c_isUp l D cI cJ cZ cG cH H.size co x97 fwa fta fra fga cxa cup clast cpeak cptick (xrng rfl (by omega) (by omega))) (cwV 1 hts (xGV tbC wd933 wd856 wd857 wd23 wd858) rfl rfl rfl (by decide +kernel) ⟨Nat.le_of_ble_eq_true rfl, Nat.le_of_ble_eq_true rfl⟩) ⟨xPc_blind, va_recv hK hPc (ci := 0) (q0 := 0) rfl rfl, xPc_pre hPc hK hDc⟩ rfl rfl hl.1 rfl (lv_room (Nat.le_of_ble_eq_true rfl)) dX0_drawnAt_17 ⟨Nat.le_of_ble_eq_true rfl, Nat.le_of_ble_eq_true rfl⟩) hS (fun q _ h => hFc q h) hFc (fun r101 u t H1 locs ht hvm hw101 hB hz1 hk1 hS => ?_)
        obtain ⟨hP1, hK1, hD1⟩ := hB
        rw [ht] at hP1
        obtain ⟨hP, hD⟩ := va_join (wr := [(fra, .inl (cI, 8, .inl fr)), (fga, .inl (cI, 8, .inl fg)), (pl, .inr (2, [.ref pna, .ref pta, .int rails, .int limit, .int retry, .int behind])), (pna, .inl (cI, 64, .inl pn))]) (w1 := [(co, .inr (0, [.ref fwa, .ref fta, .ref fra, .ref fga, .ref cxa, .int cup, .int clast, .int cpeak, .int cptick]))]) hP hD [0] [1, 2, 3, 4] rfl rfl (by decide) (by decide) hk1 hFc hP1 hD1
        generalize H1 = H at hP hS ⊢
        have hP : va_P D vwCl [(fra, .inl (cI, 8, .inl fr)), (fga, .inl (cI, 8, .inl fg)), (pl, .inr (2, [.ref pna, .ref pta, .int rails, .int limit, .int retry, .int behind])), (pna, .inl (cI, 64, .inl pn)), (co, .inr (0, [.ref fwa, .ref fta, .ref fra, .ref fga, .ref cxa, .int cup, .int clast, .int cpeak, .int cptick]))] H := hP
        have hD : va_D A [(fra, .inl (cI, 8, .inl fr)), (fga, .inl (cI, 8, .inl fg)), (pl, .inr (2, [.ref pna, .ref pta, .int rails, .int limit, .int retry, .int behind])), (pna, .inl (cI, 64, .inl pn)), (co, .inr (0, [.ref fwa, .ref fta, .ref fra, .ref fga, .ref cxa, .int cup, .int clast, .int cpeak, .int cptick]))] := hD
        have hw101 : 0 ≤ r101.toInt ∧ r101.toInt ≤ 1 := hw101
        refine lv_if_ne (tgt := 26) hx hb dX0_drawnAt_20 (by decide) (fun c_102 => ?_) (fun c_102 => ?_)
        · skip
          have i_102 : ¬ (r101.toInt = 0) := fun h9 => c_102 ((ieq rfl (by decide)).mpr h9)
          refine lv_iload_n hx hb dX0_drawnAt_26 rfl (lv_at hl 4 rfl) ?_
          refine lv_aload_n hx hb dX0_drawnAt_27 rfl (lv_at hl 2 rfl) ?_
          refine va_get (D := D) (ci := 0) (v := .ref fga) (C := RX0) (T := TX0) (N := 9) hx hb hts (fun w h => tbC w (tbfX0 w h)) hown hK hP 4 rfl rfl 3 (by decide) (hts (.fieldLink RX0 21 "PowerRails$Course" "goodAt" "[I") (tbC _ wd84)) (fun _ h9 => h9) rfl dX0_drawnAt_28 ?_
          refine lv_iload hx hb dX0_drawnAt_31 (lv_at hl 0 rfl) ?_
          refine va_iald hx hb hK hP 1 0 rfl rfl (vp_in_iff.mpr ⟨by omega, by omega⟩) dX0_drawnAt_33 ?_
          refine lv_topi (fun v103 ev103 => ?_)
          have rv103 : 0 ≤ v103.toInt ∧ v103.toInt ≤ 1166 := xrd ev103 h_fg (xinK (vp_in_iff.mpr ⟨by omega, by omega⟩))
          refine lv_icmp_lt (tgt := 50) hx hb dX0_drawnAt_34 (by decide) (fun c_104 => ?_) (fun c_104 => ?_)
          · skip
            have i_104 : t0.toInt < v103.toInt := (ilt rfl rfl).mp c_104
            refine lv_iload_n hx hb dX0_drawnAt_50 rfl (lv_at hl 4 rfl) ?_
            refine lv_aload_n hx hb dX0_drawnAt_51 rfl (lv_at hl 2 rfl) ?_
            refine va_get (D := D) (ci := 0) (v := .ref fra) (C := RX0) (T := TX0) (N := 9) hx hb hts (fun w h => tbC w (tbfX0 w h)) hown hK hP 4 rfl rfl 2 (by decide) (hts (.fieldLink RX0 18 "PowerRails$Course" "risesAt" "[I") (tbC _ wd83)) (fun _ h9 => h9) rfl dX0_drawnAt_52 ?_
            refine lv_iload hx hb dX0_drawnAt_55 (lv_at hl 0 rfl) ?_
            refine va_iald hx hb hK hP 0 0 rfl rfl (vp_in_iff.mpr ⟨by omega, by omega⟩) dX0_drawnAt_57 ?_
            refine lv_topi (fun v105 ev105 => ?_)
            have rv105 : 0 ≤ v105.toInt ∧ v105.toInt ≤ 655 := xrd ev105 h_fr (xinK (vp_in_iff.mpr ⟨by omega, by omega⟩))
            refine lv_icmp_lt (tgt := 71) hx hb dX0_drawnAt_58 (by decide) (fun c_106 => ?_) (fun c_106 => ?_)
            · skip
              have i_106 : t0.toInt < v105.toInt := (ilt rfl rfl).mp c_106
              obtain ⟨x107, ex107⟩ : ∃ y : Int32, y = x97 + 1 := ⟨_, rfl⟩
              have tx107 : x107.toInt = (x97.toInt + 1) := (congrArg Int32.toInt ex107).trans (xadd rfl (by decide) (by omega) (by omega))
              refine lv_iinc (v := x107) (lv' := [(4, .int x107), (3, .int x98), (0, .ref co), (1, .ref pl), (2, .int t0)]) hx hb dX0_drawnAt_71 hl (k := 0) rfl (by rw [ex107]; rfl) (by decide) rfl (fun ls hl => ?_)
              refine lv_goto (tgt := 5) hx hb dX0_drawnAt_74 (by decide) ?_
              have hP := hP.sub (ws' := [(co, .inr (0, [.ref fwa, .ref fta, .ref fra, .ref fga, .ref cxa, .int cup, .int clast, .int cpeak, .int cptick])), (fra, .inl (cI, 8, .inl fr)), (fga, .inl (cI, 8, .inl fg)), (pl, .inr (2, [.ref pna, .ref pta, .int rails, .int limit, .int retry, .int behind])), (pna, .inl (cI, 64, .inl pn))]) [4, 0, 1, 2, 3] rfl
              have hD := hD.sub (ws' := [(co, .inr (0, [.ref fwa, .ref fta, .ref fra, .ref fga, .ref cxa, .int cup, .int clast, .int cpeak, .int cptick])), (fra, .inl (cI, 8, .inl fr)), (fga, .inl (cI, 8, .inl fg)), (pl, .inr (2, [.ref pna, .ref pta, .int rails, .int limit, .int retry, .int behind])), (pna, .inl (cI, 64, .inl pn))]) [4, 0, 1, 2, 3] (by decide) rfl
              exact ihhl99 x107 x98 (by omega) (xrng tx107 (by omega) (by omega)) _ _ hP hD hS ls (lv_sub hl [0, 1, 2, 3, 4] rfl)
            · skip
              have i_106 : ¬ (t0.toInt < v105.toInt) := fun h9 => c_106 ((ilt rfl rfl).mpr h9)
              refine lv_iload_n hx hb dX0_drawnAt_61 rfl (lv_at hl 1 rfl) ?_
              refine lv_aload_n hx hb dX0_drawnAt_62 rfl (lv_at hl 3 rfl) ?_
              refine lv_iload hx hb dX0_drawnAt_63 (lv_at hl 0 rfl) ?_
              refine lv_iconst (v := 4) hx hb dX0_drawnAt_65 (by decide) ?_
              have hPc := hP.sub (ws' := [(pl, .inr (2, [.ref pna, .ref pta, .int rails, .int limit, .int retry, .int behind])), (pna, .inl (cI, 64, .inl pn))]) [2, 3] rfl
              have hDc := hD.sub (ws' := [(pl, .inr (2, [.ref pna, .ref pta, .int rails, .int limit, .int retry, .int behind])), (pna, .inl (cI, 64, .inl pn))]) [2, 3] (by decide) rfl
              have hFc := va_free (wc := [(pl, .inr (2, [.ref pna, .ref pta, .int rails, .int limit, .int retry, .int behind])), (pna, .inl (cI, 64, .inl pn))]) hD hS hA [2, 3] rfl
              refine va_calli (va_runV (As := [.int x97, .int 4]) (rest := [.int x98]) ⟨hx, hb, hml, hown, hts⟩ (c_number l D cI cJ cZ cG cH H.size pl x97 (4 : Int32) pna pta rails limit retry behind pn (xrng rfl (by omega) (by omega)) ⟨by decide, by decide⟩ (xrng rfl (by omega) (by omega)) (xwk_rng h_pn (by decide) (by decide))) (cwV 2 hts (xGV tbC wd825 wd388 wd389 wd39 wd390) rfl rfl rfl (by decide +kernel) ⟨Nat.le_of_ble_eq_true rfl, Nat.le_of_ble_eq_true rfl⟩) ⟨xPc_blind, va_recv hK hPc (ci := 2) (q0 := 0) rfl rfl, xPc_pre hPc hK hDc⟩ rfl rfl hl.1 rfl (lv_room (Nat.le_of_ble_eq_true rfl)) dX0_drawnAt_66 ⟨Nat.le_of_ble_eq_true rfl, Nat.le_of_ble_eq_true rfl⟩) hS (fun q _ h => hFc q h) hFc (fun r108 u t H1 locs ht hvm hw108 hB hz1 hk1 hS => ?_)
              obtain ⟨hP1, hK1, hD1⟩ := hB
              rw [ht] at hP1
              obtain ⟨hP, hD⟩ := va_join (wr := [(fra, .inl (cI, 8, .inl fr)), (fga, .inl (cI, 8, .inl fg)), (co, .inr (0, [.ref fwa, .ref fta, .ref fra, .ref fga, .ref cxa, .int cup, .int clast, .int cpeak, .int cptick]))]) (w1 := [(pl, .inr (2, [.ref pna, .ref pta, .int rails, .int limit, .int retry, .int behind])), (pna, .inl (cI, 64, .inl pn))]) hP hD [2, 3] [0, 1, 4] rfl rfl (by decide) (by decide) hk1 hFc hP1 hD1
              generalize H1 = H at hP hS ⊢
              have hP : va_P D vwCl [(fra, .inl (cI, 8, .inl fr)), (fga, .inl (cI, 8, .inl fg)), (co, .inr (0, [.ref fwa, .ref fta, .ref fra, .ref fga, .ref cxa, .int cup, .int clast, .int cpeak, .int cptick])), (pl, .inr (2, [.ref pna, .ref pta, .int rails, .int limit, .int retry, .int behind])), (pna, .inl (cI, 64, .inl pn))] H := hP
              have hD : va_D A [(fra, .inl (cI, 8, .inl fr)), (fga, .inl (cI, 8, .inl fg)), (co, .inr (0, [.ref fwa, .ref fta, .ref fra, .ref fga, .ref cxa, .int cup, .int clast, .int cpeak, .int cptick])), (pl, .inr (2, [.ref pna, .ref pta, .int rails, .int limit, .int retry, .int behind])), (pna, .inl (cI, 64, .inl pn))] := hD
              have hw108 : 0 ≤ r108.toInt ∧ r108.toInt ≤ 511 := hw108
              refine lv_iadd hx hb dX0_drawnAt_69 ?_
              refine lv_topi (fun v109 ev109 => ?_)
              refine lv_istore_n (lv' := [(3, .int v109), (4, .int x97), (0, .ref co), (1, .ref pl), (2, .int t0)]) hx hb dX0_drawnAt_70 rfl hl (by decide) rfl (fun ls hl => ?_)
              obtain ⟨x110, ex110⟩ : ∃ y : Int32, y = x97 + 1 := ⟨_, rfl⟩
              have tx110 : x110.toInt = (x97.toInt + 1) := (congrArg Int32.toInt ex110).trans (xadd rfl (by decide) (by omega) (by omega))
              refine lv_iinc (v := x110) (lv' := [(4, .int x110), (3, .int v109), (0, .ref co), (1, .ref pl), (2, .int t0)]) hx hb dX0_drawnAt_71 hl (k := 1) rfl (by rw [ex110]; rfl) (by decide) rfl (fun ls hl => ?_)
              refine lv_goto (tgt := 5) hx hb dX0_drawnAt_74 (by decide) ?_
              have hP := hP.sub (ws' := [(co, .inr (0, [.ref fwa, .ref fta, .ref fra, .ref fga, .ref cxa, .int cup, .int clast, .int cpeak, .int cptick])), (fra, .inl (cI, 8, .inl fr)), (fga, .inl (cI, 8, .inl fg)), (pl, .inr (2, [.ref pna, .ref pta, .int rails, .int limit, .int retry, .int behind])), (pna, .inl (cI, 64, .inl pn))]) [2, 0, 1, 3, 4] rfl
              have hD := hD.sub (ws' := [(co, .inr (0, [.ref fwa, .ref fta, .ref fra, .ref fga, .ref cxa, .int cup, .int clast, .int cpeak, .int cptick])), (fra, .inl (cI, 8, .inl fr)), (fga, .inl (cI, 8, .inl fg)), (pl, .inr (2, [.ref pna, .ref pta, .int rails, .int limit, .int retry, .int behind])), (pna, .inl (cI, 64, .inl pn))]) [2, 0, 1, 3, 4] (by decide) rfl
              exact ihhl99 x110 v109 (by omega) (xrng tx110 (by omega) (by omega)) _ _ hP hD hS ls (lv_sub hl [0, 1, 2, 3, 4] rfl)
          · skip
            have i_104 : ¬ (t0.toInt < v103.toInt) := fun h9 => c_104 ((ilt rfl rfl).mpr h9)
            refine lv_iload_n hx hb dX0_drawnAt_37 rfl (lv_at hl 1 rfl) ?_
            refine lv_aload_n hx hb dX0_drawnAt_38 rfl (lv_at hl 3 rfl) ?_
            refine lv_iload hx hb dX0_drawnAt_39 (lv_at hl 0 rfl) ?_
            refine lv_iconst (v := 3) hx hb dX0_drawnAt_41 (by decide) ?_
            have hPc := hP.sub (ws' := [(pl, .inr (2, [.ref pna, .ref pta, .int rails, .int limit, .int retry, .int behind])), (pna, .inl (cI, 64, .inl pn))]) [2, 3] rfl
            have hDc := hD.sub (ws' := [(pl, .inr (2, [.ref pna, .ref pta, .int rails, .int limit, .int retry, .int behind])), (pna, .inl (cI, 64, .inl pn))]) [2, 3] (by decide) rfl
            have hFc := va_free (wc := [(pl, .inr (2, [.ref pna, .ref pta, .int rails, .int limit, .int retry, .int behind])), (pna, .inl (cI, 64, .inl pn))]) hD hS hA [2, 3] rfl
            refine va_calli (va_runV (As := [.int x97, .int 3]) (rest := [.int x98]) ⟨hx, hb, hml, hown, hts⟩ (c_number l D cI cJ cZ cG cH H.size pl x97 (3 : Int32) pna pta rails limit retry behind pn (xrng rfl (by omega) (by omega)) ⟨by decide, by decide⟩ (xrng rfl (by omega) (by omega)) (xwk_rng h_pn (by decide) (by decide))) (cwV 2 hts (xGV tbC wd825 wd388 wd389 wd39 wd390) rfl rfl rfl (by decide +kernel) ⟨Nat.le_of_ble_eq_true rfl, Nat.le_of_ble_eq_true rfl⟩) ⟨xPc_blind, va_recv hK hPc (ci := 2) (q0 := 0) rfl rfl, xPc_pre hPc hK hDc⟩ rfl rfl hl.1 rfl (lv_room (Nat.le_of_ble_eq_true rfl)) dX0_drawnAt_42 ⟨Nat.le_of_ble_eq_true rfl, Nat.le_of_ble_eq_true rfl⟩) hS (fun q _ h => hFc q h) hFc (fun r111 u t H1 locs ht hvm hw111 hB hz1 hk1 hS => ?_)
            obtain ⟨hP1, hK1, hD1⟩ := hB
            rw [ht] at hP1
            obtain ⟨hP, hD⟩ := va_join (wr := [(fra, .inl (cI, 8, .inl fr)), (fga, .inl (cI, 8, .inl fg)), (co, .inr (0, [.ref fwa, .ref fta, .ref fra, .ref fga, .ref cxa, .int cup, .int clast, .int cpeak, .int cptick]))]) (w1 := [(pl, .inr (2, [.ref pna, .ref pta, .int rails, .int limit, .int retry, .int behind])), (pna, .inl (cI, 64, .inl pn))]) hP hD [2, 3] [0, 1, 4] rfl rfl (by decide) (by decide) hk1 hFc hP1 hD1
            generalize H1 = H at hP hS ⊢
            have hP : va_P D vwCl [(fra, .inl (cI, 8, .inl fr)), (fga, .inl (cI, 8, .inl fg)), (co, .inr (0, [.ref fwa, .ref fta, .ref fra, .ref fga, .ref cxa, .int cup, .int clast, .int cpeak, .int cptick])), (pl, .inr (2, [.ref pna, .ref pta, .int rails, .int limit, .int retry, .int behind])), (pna, .inl (cI, 64, .inl pn))] H := hP
            have hD : va_D A [(fra, .inl (cI, 8, .inl fr)), (fga, .inl (cI, 8, .inl fg)), (co, .inr (0, [.ref fwa, .ref fta, .ref fra, .ref fga, .ref cxa, .int cup, .int clast, .int cpeak, .int cptick])), (pl, .inr (2, [.ref pna, .ref pta, .int rails, .int limit, .int retry, .int behind])), (pna, .inl (cI, 64, .inl pn))] := hD
            have hw111 : 0 ≤ r111.toInt ∧ r111.toInt ≤ 511 := hw111
            refine lv_iadd hx hb dX0_drawnAt_45 ?_
            refine lv_topi (fun v112 ev112 => ?_)
            refine lv_istore_n (lv' := [(3, .int v112), (4, .int x97), (0, .ref co), (1, .ref pl), (2, .int t0)]) hx hb dX0_drawnAt_46 rfl hl (by decide) rfl (fun ls hl => ?_)
            refine lv_goto (tgt := 71) hx hb dX0_drawnAt_47 (by decide) ?_
            obtain ⟨x113, ex113⟩ : ∃ y : Int32, y = x97 + 1 := ⟨_, rfl⟩
            have tx113 : x113.toInt = (x97.toInt + 1) := (congrArg Int32.toInt ex113).trans (xadd rfl (by decide) (by omega) (by omega))
            refine lv_iinc (v := x113) (lv' := [(4, .int x113), (3, .int v112), (0, .ref co), (1, .ref pl), (2, .int t0)]) hx hb dX0_drawnAt_71 hl (k := 1) rfl (by rw [ex113]; rfl) (by decide) rfl (fun ls hl => ?_)
            refine lv_goto (tgt := 5) hx hb dX0_drawnAt_74 (by decide) ?_
            have hP := hP.sub (ws' := [(co, .inr (0, [.ref fwa, .ref fta, .ref fra, .ref fga, .ref cxa, .int cup, .int clast, .int cpeak, .int cptick])), (fra, .inl (cI, 8, .inl fr)), (fga, .inl (cI, 8, .inl fg)), (pl, .inr (2, [.ref pna, .ref pta, .int rails, .int limit, .int retry, .int behind])), (pna, .inl (cI, 64, .inl pn))]) [2, 0, 1, 3, 4] rfl
            have hD := hD.sub (ws' := [(co, .inr (0, [.ref fwa, .ref fta, .ref fra, .ref fga, .ref cxa, .int cup, .int clast, .int cpeak, .int cptick])), (fra, .inl (cI, 8, .inl fr)), (fga, .inl (cI, 8, .inl fg)), (pl, .inr (2, [.ref pna, .ref pta, .int rails, .int limit, .int retry, .int behind])), (pna, .inl (cI, 64, .inl pn))]) [2, 0, 1, 3, 4] (by decide) rfl
            exact ihhl99 x113 v112 (by omega) (xrng tx113 (by omega) (by omega)) _ _ hP hD hS ls (lv_sub hl [0, 1, 2, 3, 4] rfl)
        · skip
          have i_102 : r101.toInt = 0 := (ieq rfl (by decide)).mp c_102
          refine lv_goto (tgt := 71) hx hb dX0_drawnAt_23 (by decide) ?_
          obtain ⟨x114, ex114⟩ : ∃ y : Int32, y = x97 + 1 := ⟨_, rfl⟩
          have tx114 : x114.toInt = (x97.toInt + 1) := (congrArg Int32.toInt ex114).trans (xadd rfl (by decide) (by omega) (by omega))
          refine lv_iinc (v := x114) (lv' := [(4, .int x114), (3, .int x98), (0, .ref co), (1, .ref pl), (2, .int t0)]) hx hb dX0_drawnAt_71 hl (k := 0) rfl (by rw [ex114]; rfl) (by decide) rfl (fun ls hl => ?_)
          refine lv_goto (tgt := 5) hx hb dX0_drawnAt_74 (by decide) ?_
          have hP := hP.sub (ws' := [(co, .inr (0, [.ref fwa, .ref fta, .ref fra, .ref fga, .ref cxa, .int cup, .int clast, .int cpeak, .int cptick])), (fra, .inl (cI, 8, .inl fr)), (fga, .inl (cI, 8, .inl fg)), (pl, .inr (2, [.ref pna, .ref pta, .int rails, .int limit, .int retry, .int behind])), (pna, .inl (cI, 64, .inl pn))]) [4, 0, 1, 2, 3] rfl
          have hD := hD.sub (ws' := [(co, .inr (0, [.ref fwa, .ref fta, .ref fra, .ref fga, .ref cxa, .int cup, .int clast, .int cpeak, .int cptick])), (fra, .inl (cI, 8, .inl fr)), (fga, .inl (cI, 8, .inl fg)), (pl, .inr (2, [.ref pna, .ref pta, .int rails, .int limit, .int retry, .int behind])), (pna, .inl (cI, 64, .inl pn))]) [4, 0, 1, 2, 3] (by decide) rfl
          exact ihhl99 x114 x98 (by omega) (xrng tx114 (by omega) (by omega)) _ _ hP hD hS ls (lv_sub hl [0, 1, 2, 3, 4] rfl)
  exact hl99 _ 0 0 (Nat.lt_succ_self _) ⟨by decide, by decide⟩ _ _ hP hD hS ls (lv_sub hl [0, 1, 2, 3, 4] rfl)
abbrev W_findPeak (cI cJ cZ cG cH : ClassId) (co : Nat) (pl : Nat) (fwa : Nat) (fta : Nat) (fra : Nat) (fga : Nat) (cxa : Nat) (cup : Int32) (clast : Int32) (cpeak : Int32) (cptick : Int32) (fr : Nat → Int32) (fg : Nat → Int32) (cx : Nat → Int32) (pna : Nat) (pta : Nat) (rails : Int32) (limit : Int32) (retry : Int32) (behind : Int32) (pn : Nat → Int32) : va_W := [(co, .inr (0, [.ref fwa, .ref fta, .ref fra, .ref fga, .ref cxa, .int cup, .int clast, .int cpeak, .int cptick])), (fra, .inl (cI, 8, .inl fr)), (fga, .inl (cI, 8, .inl fg)), (cxa, .inl (cI, 145, .inl cx)), (pl, .inr (2, [.ref pna, .ref pta, .int rails, .int limit, .int retry, .int behind])), (pna, .inl (cI, 64, .inl pn))]
abbrev Q_findPeak (D : va_G) (cI cJ cZ cG cH : ClassId) (co : Nat) (pl : Nat) (fwa : Nat) (fta : Nat) (fra : Nat) (fga : Nat) (cxa : Nat) (cup : Int32) (clast : Int32) (cpeak : Int32) (cptick : Int32) (fr : Nat → Int32) (fg : Nat → Int32) (cx : Nat → Int32) (pna : Nat) (pta : Nat) (rails : Int32) (limit : Int32) (retry : Int32) (behind : Int32) (pn : Nat → Int32) (A : Nat → Prop) : Array Value → State → Outcome → State → Prop := va_Qv (fun (_ : Unit) => True) (fun _ t => ∃ (cpeak9 : Int32) (cptick9 : Int32) (cx9 : Nat → Int32), ((-4) ≤ cptick9.toInt ∧ cptick9.toInt ≤ 144) ∧ xB D (tyL cI cJ cZ cG cH) [(co, .inr (0, [.ref fwa, .ref fta, .ref fra, .ref fga, .ref cxa, .int cup, .int clast, .int cpeak9, .int cptick9])), (fra, .inl (cI, 8, .inl fr)), (fga, .inl (cI, 8, .inl fg)), (cxa, .inl (cI, 145, .inl cx9)), (pl, .inr (2, [.ref pna, .ref pta, .int rails, .int limit, .int retry, .int behind])), (pna, .inl (cI, 64, .inl pn))] A t) A
abbrev rm_findPeak : Room := { frames := 1, cells := 0, slots := 0, locals := 22 }
set_option maxRecDepth 100000 in
set_option maxHeartbeats 4000000 in
theorem c_findPeak (l : Launch) (D : va_G) (cI cJ cZ cG cH : ClassId) (sz : Nat) (co : Nat) (pl : Nat) (fwa : Nat) (fta : Nat) (fra : Nat) (fga : Nat) (cxa : Nat) (cup : Int32) (clast : Int32) (cpeak : Int32) (cptick : Int32) (fr : Nat → Int32) (fg : Nat → Int32) (cx : Nat → Int32) (pna : Nat) (pta : Nat) (rails : Int32) (limit : Int32) (retry : Int32) (behind : Int32) (pn : Nat → Int32) (h_clast : 0 ≤ clast.toInt ∧ clast.toInt ≤ 144) (h_fr : ∀ j, j < 8 → 0 ≤ (fr j).toInt ∧ (fr j).toInt ≤ 655) (h_fg : ∀ j, j < 8 → 0 ≤ (fg j).toInt ∧ (fg j).toInt ≤ 1166) (h_rails : 0 ≤ rails.toInt ∧ rails.toInt ≤ 8) (h_pn : ∀ j, j < 64 → 0 ≤ (pn j).toInt ∧ (pn j).toInt ≤ 511) (h_le : ∀ j, j < 8 → (fr j).toInt ≤ (fg j).toInt) : Met l yX0_findPeak (wt yX0_findPeak cX0_findPeak 4 none) rm_findPeak (xPc [.ref co, .ref pl] D (tyL cI cJ cZ cG cH) (W_findPeak cI cJ cZ cG cH co pl fwa fta fra fga cxa cup clast cpeak cptick fr fg cx pna pta rails limit retry behind pn) sz) (Q_findPeak D cI cJ cZ cG cH co pl fwa fta fra fga cxa cup clast cpeak cptick fr fg cx pna pta rails limit retry behind pn (va_A (W_findPeak cI cJ cZ cG cH co pl fwa fta fra fga cxa cup clast cpeak cptick fr fg cx pna pta rails limit retry behind pn) sz)) 0 0 (va_A (W_findPeak cI cJ cZ cG cH co pl fwa fta fra fga cxa cup clast cpeak cptick fr fg cx pna pta rails limit retry behind pn) sz) := by
  refine xMet (cc := cX0_findPeak) (maxL := 4) (ret := none) (Qf := Q_findPeak D cI cJ cZ cG cH co pl fwa fta fra fga cxa cup clast cpeak cptick fr fg cx pna pta rails limit retry behind pn) (by decide) rfl (Nat.le_of_ble_eq_true rfl) ?_
  intro p e s m below meth c ls A hx hb hr hml hts hown hlocks hnm hsz hP hK hD hA hS hl
  have hown : s.vm.findClass RX0 = some m.cls := hown
  have hP : va_P D vwCl [(co, .inr (0, [.ref fwa, .ref fta, .ref fra, .ref fga, .ref cxa, .int cup, .int clast, .int cpeak, .int cptick])), (fra, .inl (cI, 8, .inl fr)), (fga, .inl (cI, 8, .inl fg)), (cxa, .inl (cI, 145, .inl cx)), (pl, .inr (2, [.ref pna, .ref pta, .int rails, .int limit, .int retry, .int behind])), (pna, .inl (cI, 64, .inl pn))] s.heap := hP
  have hD : va_D A [(co, .inr (0, [.ref fwa, .ref fta, .ref fra, .ref fga, .ref cxa, .int cup, .int clast, .int cpeak, .int cptick])), (fra, .inl (cI, 8, .inl fr)), (fga, .inl (cI, 8, .inl fg)), (cxa, .inl (cI, 145, .inl cx)), (pl, .inr (2, [.ref pna, .ref pta, .int rails, .int limit, .int retry, .int behind])), (pna, .inl (cI, 64, .inl pn))] := hD
  have hl : lv_has ls 4 [(0, .ref co), (1, .ref pl)] := hl
  refine lv_iconst (v := 0) hx hb dX0_findPeak_0 (by decide) ?_
  refine lv_istore_n (lv' := [(2, .int 0), (0, .ref co), (1, .ref pl)]) hx hb dX0_findPeak_1 rfl hl (by decide) rfl (fun ls hl => ?_)
  have hl130 : ∀ (nhl130 : Nat) (x128 : Int32) (f129 : Nat → Int32), ((8 - x128.toInt).toNat < nhl130) → (hx128 : 0 ≤ x128.toInt ∧ x128.toInt ≤ 8) → ∀ (H : Heap) (locs : List Loc), va_P D vwCl [(co, .inr (0, [.ref fwa, .ref fta, .ref fra, .ref fga, .ref cxa, .int cup, .int clast, .int cpeak, .int cptick])), (fra, .inl (cI, 8, .inl fr)), (fga, .inl (cI, 8, .inl fg)), (cxa, .inl (cI, 145, .inl f129)), (pl, .inr (2, [.ref pna, .ref pta, .int rails, .int limit, .int retry, .int behind])), (pna, .inl (cI, 64, .inl pn))] H → va_D A [(co, .inr (0, [.ref fwa, .ref fta, .ref fra, .ref fga, .ref cxa, .int cup, .int clast, .int cpeak, .int cptick])), (fra, .inl (cI, 8, .inl fr)), (fga, .inl (cI, 8, .inl fg)), (cxa, .inl (cI, 145, .inl f129)), (pl, .inr (2, [.ref pna, .ref pta, .int rails, .int limit, .int retry, .int behind])), (pna, .inl (cI, 64, .inl pn))] → va_S A s.heap H locs → ∀ (ls : Array Slot), lv_has ls 4 [(2, .int x128), (0, .ref co), (1, .ref pl)] → W p l e rm_findPeak s m [Value.ref co, Value.ref pl].toArray below meth c H locs 0 0 (MQ below ((Q_findPeak D cI cJ cZ cG cH co pl fwa fta fra fga cxa cup clast cpeak cptick fr fg cx pna pta rails limit retry behind pn) A) [Value.ref co, Value.ref pl].toArray s 0 0 A) (F0 m 2 ls []) := by
    intro nhl130
    induction nhl130 with
    | zero =>
      intro x128 f129 hmhl130
      exact absurd hmhl130 (Nat.not_lt_zero _)
    | succ nhl130 ihhl130 =>
      intro x128 f129 hmhl130 hx128 H locs hP hD hS ls hl
      refine lv_iload_n hx hb dX0_findPeak_2 rfl (lv_at hl 0 rfl) ?_
      refine lv_aload_n hx hb dX0_findPeak_3 rfl (lv_at hl 2 rfl) ?_
      refine va_get (D := D) (ci := 2) (v := .int rails) (C := RX3) (T := TX3) (N := 6) hx hb hts (fun w h => tbC w (tbfX3 w h)) hown hK hP 4 rfl rfl 2 (by decide) (hts (.fieldLink RX0 27 "PowerRails$Plan" "rails" "I") (tbC _ wd824)) (fun _ h9 => h9) rfl dX0_findPeak_4 ?_
      refine lv_icmp_ge (tgt := 83) hx hb dX0_findPeak_7 (by decide) (fun c_131 => ?_) (fun c_131 => ?_)
      · skip
        have i_131 : rails.toInt ≤ x128.toInt := (ile rfl rfl).mp c_131
        refine lv_aload_n hx hb dX0_findPeak_83 rfl (lv_at hl 1 rfl) ?_
        refine lv_bipush (v := (-4)) hx hb dX0_findPeak_84 (by decide) ?_
        refine va_put (D := D) (ci := 0) (v := .int (-4)) (ty := .int) (C := RX0) (T := TX0) (N := 9) hx hb hts (fun w h => tbC w (tbfX0 w h)) tyX0 tyX0_ok nmX0 hown hK hP hD hS 0 rfl rfl 7 (by decide) (hts (.fieldLink RX0 70 "PowerRails$Course" "peak" "I") (tbC _ wd962)) (fun _ h9 => h9) rfl (by decide +kernel) rfl rfl (Nat.le_of_ble_eq_true rfl) dX0_findPeak_86 (fun H locs hP hD hS => ?_)
        have hP : va_P D vwCl [(co, .inr (0, [.ref fwa, .ref fta, .ref fra, .ref fga, .ref cxa, .int cup, .int clast, .int (-4), .int cptick])), (fra, .inl (cI, 8, .inl fr)), (fga, .inl (cI, 8, .inl fg)), (cxa, .inl (cI, 145, .inl f129)), (pl, .inr (2, [.ref pna, .ref pta, .int rails, .int limit, .int retry, .int behind])), (pna, .inl (cI, 64, .inl pn))] H := hP
        have hD : va_D A [(co, .inr (0, [.ref fwa, .ref fta, .ref fra, .ref fga, .ref cxa, .int cup, .int clast, .int (-4), .int cptick])), (fra, .inl (cI, 8, .inl fr)), (fga, .inl (cI, 8, .inl fg)), (cxa, .inl (cI, 145, .inl f129)), (pl, .inr (2, [.ref pna, .ref pta, .int rails, .int limit, .int retry, .int behind])), (pna, .inl (cI, 64, .inl pn))] := hD
        refine lv_aload_n hx hb dX0_findPeak_89 rfl (lv_at hl 1 rfl) ?_
        refine lv_bipush (v := (-4)) hx hb dX0_findPeak_90 (by decide) ?_
        refine va_put (D := D) (ci := 0) (v := .int (-4)) (ty := .int) (C := RX0) (T := TX0) (N := 9) hx hb hts (fun w h => tbC w (tbfX0 w h)) tyX0 tyX0_ok nmX0 hown hK hP hD hS 0 rfl rfl 8 (by decide) (hts (.fieldLink RX0 73 "PowerRails$Course" "peakTick" "I") (tbC _ wd963)) (fun _ h9 => h9) rfl (by decide +kernel) rfl rfl (Nat.le_of_ble_eq_true rfl) dX0_findPeak_92 (fun H locs hP hD hS => ?_)
        have hP : va_P D vwCl [(co, .inr (0, [.ref fwa, .ref fta, .ref fra, .ref fga, .ref cxa, .int cup, .int clast, .int (-4), .int (-4)])), (fra, .inl (cI, 8, .inl fr)), (fga, .inl (cI, 8, .inl fg)), (cxa, .inl (cI, 145, .inl f129)), (pl, .inr (2, [.ref pna, .ref pta, .int rails, .int limit, .int retry, .int behind])), (pna, .inl (cI, 64, .inl pn))] H := hP
        have hD : va_D A [(co, .inr (0, [.ref fwa, .ref fta, .ref fra, .ref fga, .ref cxa, .int cup, .int clast, .int (-4), .int (-4)])), (fra, .inl (cI, 8, .inl fr)), (fga, .inl (cI, 8, .inl fg)), (cxa, .inl (cI, 145, .inl f129)), (pl, .inr (2, [.ref pna, .ref pta, .int rails, .int limit, .int retry, .int behind])), (pna, .inl (cI, 64, .inl pn))] := hD
        refine lv_iconst (v := 0) hx hb dX0_findPeak_95 (by decide) ?_
        refine lv_istore_n (lv' := [(2, .int 0), (0, .ref co), (1, .ref pl)]) hx hb dX0_findPeak_96 rfl hl (by decide) rfl (fun ls hl => ?_)
        refine lv_iconst (v := 0) hx hb dX0_findPeak_97 (by decide) ?_
        refine lv_istore_n (lv' := [(3, .int 0), (2, .int 0), (0, .ref co), (1, .ref pl)]) hx hb dX0_findPeak_98 rfl hl (by decide) rfl (fun ls hl => ?_)
        have hl207 : ∀ (nhl207 : Nat) (x202 : Int32) (x203 : Int32) (x204 : Int32) (x205 : Int32) (f206 : Nat → Int32), ((145 - x202.toInt).toNat < nhl207) → (hx202 : 0 ≤ x202.toInt ∧ x202.toInt ≤ 145) → (hx205 : (-4) ≤ x205.toInt ∧ x205.toInt ≤ 144) → ∀ (H : Heap) (locs : List Loc), va_P D vwCl [(co, .inr (0, [.ref fwa, .ref fta, .ref fra, .ref fga, .ref cxa, .int cup, .int clast, .int x204, .int x205])), (fra, .inl (cI, 8, .inl fr)), (fga, .inl (cI, 8, .inl fg)), (cxa, .inl (cI, 145, .inl f206)), (pl, .inr (2, [.ref pna, .ref pta, .int rails, .int limit, .int retry, .int behind])), (pna, .inl (cI, 64, .inl pn))] H → va_D A [(co, .inr (0, [.ref fwa, .ref fta, .ref fra, .ref fga, .ref cxa, .int cup, .int clast, .int x204, .int x205])), (fra, .inl (cI, 8, .inl fr)), (fga, .inl (cI, 8, .inl fg)), (cxa, .inl (cI, 145, .inl f206)), (pl, .inr (2, [.ref pna, .ref pta, .int rails, .int limit, .int retry, .int behind])), (pna, .inl (cI, 64, .inl pn))] → va_S A s.heap H locs → ∀ (ls : Array Slot), lv_has ls 4 [(3, .int x202), (2, .int x203), (0, .ref co), (1, .ref pl)] → W p l e rm_findPeak s m [Value.ref co, Value.ref pl].toArray below meth c H locs 0 0 (MQ below ((Q_findPeak D cI cJ cZ cG cH co pl fwa fta fra fga cxa cup clast cpeak cptick fr fg cx pna pta rails limit retry behind pn) A) [Value.ref co, Value.ref pl].toArray s 0 0 A) (F0 m 99 ls []) := by
          intro nhl207
          induction nhl207 with
          | zero =>
            intro x202 x203 x204 x205 f206 hmhl207
            exact absurd hmhl207 (Nat.not_lt_zero _)
          | succ nhl207 ihhl207 =>
            intro x202 x203 x204 x205 f206 hmhl207 hx202 hx205 H locs hP hD hS ls hl
            refine lv_iload_n hx hb dX0_findPeak_99 rfl (lv_at hl 0 rfl) ?_
            refine lv_aload_n hx hb dX0_findPeak_100 rfl (lv_at hl 2 rfl) ?_
            refine va_get (D := D) (ci := 0) (v := .int clast) (C := RX0) (T := TX0) (N := 9) hx hb hts (fun w h => tbC w (tbfX0 w h)) hown hK hP 0 rfl rfl 6 (by decide) (hts (.fieldLink RX0 46 "PowerRails$Course" "last" "I") (tbC _ wd840)) (fun _ h9 => h9) rfl dX0_findPeak_101 ?_
            refine lv_icmp_gt (tgt := 154) hx hb dX0_findPeak_104 (by decide) (fun c_208 => ?_) (fun c_208 => ?_)
            · skip
              have i_208 : clast.toInt < x202.toInt := (ilt rfl rfl).mp c_208
              refine W.widen (k := 0) (n := 0) (by decide) (by decide) ?_
              have hP9 := hP.sub (ws' := [(co, .inr (0, [.ref fwa, .ref fta, .ref fra, .ref fga, .ref cxa, .int cup, .int clast, .int x204, .int x205])), (fra, .inl (cI, 8, .inl fr)), (fga, .inl (cI, 8, .inl fg)), (cxa, .inl (cI, 145, .inl f206)), (pl, .inr (2, [.ref pna, .ref pta, .int rails, .int limit, .int retry, .int behind])), (pna, .inl (cI, 64, .inl pn))]) [0, 1, 2, 3, 4, 5] rfl
              have hD9 := hD.sub (ws' := [(co, .inr (0, [.ref fwa, .ref fta, .ref fra, .ref fga, .ref cxa, .int cup, .int clast, .int x204, .int x205])), (fra, .inl (cI, 8, .inl fr)), (fga, .inl (cI, 8, .inl fg)), (cxa, .inl (cI, 145, .inl f206)), (pl, .inr (2, [.ref pna, .ref pta, .int rails, .int limit, .int retry, .int behind])), (pna, .inl (cI, 64, .inl pn))]) [0, 1, 2, 3, 4, 5] (by decide) rfl
              exact W.vret hx hb hr (fun t ht hW => ⟨⟨(), rfl, trivial, ⟨x204, x205, f206, (xrng rfl (by omega) (by omega)), xB_of ht hW hP9 hK hD9⟩⟩, hS.F ht⟩) hS.2.2 dX0_findPeak_154
            · skip
              have i_208 : ¬ (clast.toInt < x202.toInt) := fun h9 => c_208 ((ilt rfl rfl).mpr h9)
              refine lv_iload_n hx hb dX0_findPeak_107 rfl (lv_at hl 0 rfl) ?_
              refine lv_sipush (v := 144) hx hb dX0_findPeak_108 (by decide) ?_
              refine lv_icmp_gt (tgt := 154) hx hb dX0_findPeak_111 (by decide) (fun c_209 => ?_) (fun c_209 => ?_)
              · skip
                have i_209 : 144 < x202.toInt := (ilt (by decide) rfl).mp c_209
                exfalso
                omega
              · skip
                have i_209 : ¬ (144 < x202.toInt) := fun h9 => c_209 ((ilt (by decide) rfl).mpr h9)
                refine lv_iload_n hx hb dX0_findPeak_114 rfl (lv_at hl 1 rfl) ?_
                refine lv_aload_n hx hb dX0_findPeak_115 rfl (lv_at hl 2 rfl) ?_
                refine va_get (D := D) (ci := 0) (v := .ref cxa) (C := RX0) (T := TX0) (N := 9) hx hb hts (fun w h => tbC w (tbfX0 w h)) hown hK hP 0 rfl rfl 4 (by decide) (hts (.fieldLink RX0 24 "PowerRails$Course" "changes" "[I") (tbC _ wd85)) (fun _ h9 => h9) rfl dX0_findPeak_116 ?_
                refine lv_iload_n hx hb dX0_findPeak_119 rfl (lv_at hl 0 rfl) ?_
                refine va_iald hx hb hK hP 3 0 rfl rfl (vp_in_iff.mpr ⟨by omega, by omega⟩) dX0_findPeak_120 ?_
                refine lv_topi (fun v210 ev210 => ?_)
                refine lv_iadd hx hb dX0_findPeak_121 ?_
                refine lv_topi (fun v211 ev211 => ?_)
                refine lv_istore_n (lv' := [(2, .int v211), (3, .int x202), (0, .ref co), (1, .ref pl)]) hx hb dX0_findPeak_122 rfl hl (by decide) rfl (fun ls hl => ?_)
                refine lv_aload_n hx hb dX0_findPeak_123 rfl (lv_at hl 2 rfl) ?_
                refine va_get (D := D) (ci := 0) (v := .ref cxa) (C := RX0) (T := TX0) (N := 9) hx hb hts (fun w h => tbC w (tbfX0 w h)) hown hK hP 0 rfl rfl 4 (by decide) (hts (.fieldLink RX0 24 "PowerRails$Course" "changes" "[I") (tbC _ wd85)) (fun _ h9 => h9) rfl dX0_findPeak_124 ?_
                refine lv_iload_n hx hb dX0_findPeak_127 rfl (lv_at hl 1 rfl) ?_
                refine lv_iconst (v := 0) hx hb dX0_findPeak_128 (by decide) ?_
                refine va_iast hx hb hK hP hD hS 3 0 rfl rfl (vp_in_iff.mpr ⟨by omega, by omega⟩) dX0_findPeak_129 (fun H locs hP hD hS => ?_)
                obtain ⟨f212, ef212⟩ : ∃ fz9 : Nat → Int32, fz9 = upd f206 (x202 : Int32).toNatClampNeg 0 := ⟨_, rfl⟩
                have hP : va_P D vwCl [(co, .inr (0, [.ref fwa, .ref fta, .ref fra, .ref fga, .ref cxa, .int cup, .int clast, .int x204, .int x205])), (fra, .inl (cI, 8, .inl fr)), (fga, .inl (cI, 8, .inl fg)), (cxa, .inl (cI, 145, .inl f212)), (pl, .inr (2, [.ref pna, .ref pta, .int rails, .int limit, .int retry, .int behind])), (pna, .inl (cI, 64, .inl pn))] H := by rw [ef212]; exact hP
                have hD : va_D A [(co, .inr (0, [.ref fwa, .ref fta, .ref fra, .ref fga, .ref cxa, .int cup, .int clast, .int x204, .int x205])), (fra, .inl (cI, 8, .inl fr)), (fga, .inl (cI, 8, .inl fg)), (cxa, .inl (cI, 145, .inl f212)), (pl, .inr (2, [.ref pna, .ref pta, .int rails, .int limit, .int retry, .int behind])), (pna, .inl (cI, 64, .inl pn))] := by rw [ef212]; exact hD
                refine lv_iload_n hx hb dX0_findPeak_130 rfl (lv_at hl 0 rfl) ?_
                refine lv_aload_n hx hb dX0_findPeak_131 rfl (lv_at hl 2 rfl) ?_
                refine va_get (D := D) (ci := 0) (v := .int x204) (C := RX0) (T := TX0) (N := 9) hx hb hts (fun w h => tbC w (tbfX0 w h)) hown hK hP 0 rfl rfl 7 (by decide) (hts (.fieldLink RX0 70 "PowerRails$Course" "peak" "I") (tbC _ wd962)) (fun _ h9 => h9) rfl dX0_findPeak_132 ?_
                refine lv_icmp_le (tgt := 148) hx hb dX0_findPeak_135 (by decide) (fun c_213 => ?_) (fun c_213 => ?_)
                · skip
                  have i_213 : v211.toInt ≤ x204.toInt := (ile rfl rfl).mp c_213
                  obtain ⟨x214, ex214⟩ : ∃ y : Int32, y = x202 + 1 := ⟨_, rfl⟩
                  have tx214 : x214.toInt = (x202.toInt + 1) := (congrArg Int32.toInt ex214).trans (xadd rfl (by decide) (by omega) (by omega))
                  refine lv_iinc (v := x214) (lv' := [(3, .int x214), (2, .int v211), (0, .ref co), (1, .ref pl)]) hx hb dX0_findPeak_148 hl (k := 1) rfl (by rw [ex214]; rfl) (by decide) rfl (fun ls hl => ?_)
                  refine lv_goto (tgt := 99) hx hb dX0_findPeak_151 (by decide) ?_
                  exact ihhl207 x214 v211 x204 x205 f212 (by omega) (xrng tx214 (by omega) (by omega)) (xrng rfl (by omega) (by omega)) _ _ hP hD hS ls (lv_sub hl [0, 1, 2, 3] rfl)
                · skip
                  have i_213 : ¬ (v211.toInt ≤ x204.toInt) := fun h9 => c_213 ((ile rfl rfl).mpr h9)
                  refine lv_aload_n hx hb dX0_findPeak_138 rfl (lv_at hl 2 rfl) ?_
                  refine lv_iload_n hx hb dX0_findPeak_139 rfl (lv_at hl 0 rfl) ?_
                  refine va_put (D := D) (ci := 0) (v := .int v211) (ty := .int) (C := RX0) (T := TX0) (N := 9) hx hb hts (fun w h => tbC w (tbfX0 w h)) tyX0 tyX0_ok nmX0 hown hK hP hD hS 0 rfl rfl 7 (by decide) (hts (.fieldLink RX0 70 "PowerRails$Course" "peak" "I") (tbC _ wd962)) (fun _ h9 => h9) rfl (by decide +kernel) rfl rfl (Nat.le_of_ble_eq_true rfl) dX0_findPeak_140 (fun H locs hP hD hS => ?_)
                  have hP : va_P D vwCl [(co, .inr (0, [.ref fwa, .ref fta, .ref fra, .ref fga, .ref cxa, .int cup, .int clast, .int v211, .int x205])), (fra, .inl (cI, 8, .inl fr)), (fga, .inl (cI, 8, .inl fg)), (cxa, .inl (cI, 145, .inl f212)), (pl, .inr (2, [.ref pna, .ref pta, .int rails, .int limit, .int retry, .int behind])), (pna, .inl (cI, 64, .inl pn))] H := hP
                  have hD : va_D A [(co, .inr (0, [.ref fwa, .ref fta, .ref fra, .ref fga, .ref cxa, .int cup, .int clast, .int v211, .int x205])), (fra, .inl (cI, 8, .inl fr)), (fga, .inl (cI, 8, .inl fg)), (cxa, .inl (cI, 145, .inl f212)), (pl, .inr (2, [.ref pna, .ref pta, .int rails, .int limit, .int retry, .int behind])), (pna, .inl (cI, 64, .inl pn))] := hD
                  refine lv_aload_n hx hb dX0_findPeak_143 rfl (lv_at hl 2 rfl) ?_
                  refine lv_iload_n hx hb dX0_findPeak_144 rfl (lv_at hl 1 rfl) ?_
                  refine va_put (D := D) (ci := 0) (v := .int x202) (ty := .int) (C := RX0) (T := TX0) (N := 9) hx hb hts (fun w h => tbC w (tbfX0 w h)) tyX0 tyX0_ok nmX0 hown hK hP hD hS 0 rfl rfl 8 (by decide) (hts (.fieldLink RX0 73 "PowerRails$Course" "peakTick" "I") (tbC _ wd963)) (fun _ h9 => h9) rfl (by decide +kernel) rfl rfl (Nat.le_of_ble_eq_true rfl) dX0_findPeak_145 (fun H locs hP hD hS => ?_)
                  have hP : va_P D vwCl [(co, .inr (0, [.ref fwa, .ref fta, .ref fra, .ref fga, .ref cxa, .int cup, .int clast, .int v211, .int x202])), (fra, .inl (cI, 8, .inl fr)), (fga, .inl (cI, 8, .inl fg)), (cxa, .inl (cI, 145, .inl f212)), (pl, .inr (2, [.ref pna, .ref pta, .int rails, .int limit, .int retry, .int behind])), (pna, .inl (cI, 64, .inl pn))] H := hP
                  have hD : va_D A [(co, .inr (0, [.ref fwa, .ref fta, .ref fra, .ref fga, .ref cxa, .int cup, .int clast, .int v211, .int x202])), (fra, .inl (cI, 8, .inl fr)), (fga, .inl (cI, 8, .inl fg)), (cxa, .inl (cI, 145, .inl f212)), (pl, .inr (2, [.ref pna, .ref pta, .int rails, .int limit, .int retry, .int behind])), (pna, .inl (cI, 64, .inl pn))] := hD
                  obtain ⟨x215, ex215⟩ : ∃ y : Int32, y = x202 + 1 := ⟨_, rfl⟩
                  have tx215 : x215.toInt = (x202.toInt + 1) := (congrArg Int32.toInt ex215).trans (xadd rfl (by decide) (by omega) (by omega))
                  refine lv_iinc (v := x215) (lv' := [(3, .int x215), (2, .int v211), (0, .ref co), (1, .ref pl)]) hx hb dX0_findPeak_148 hl (k := 1) rfl (by rw [ex215]; rfl) (by decide) rfl (fun ls hl => ?_)
                  refine lv_goto (tgt := 99) hx hb dX0_findPeak_151 (by decide) ?_
                  exact ihhl207 x215 v211 v211 x202 f212 (by omega) (xrng tx215 (by omega) (by omega)) (xrng rfl (by omega) (by omega)) _ _ hP hD hS ls (lv_sub hl [0, 1, 2, 3] rfl)
        exact hl207 _ 0 0 (-4) (-4) f129 (Nat.lt_succ_self _) ⟨by decide, by decide⟩ ⟨by decide, by decide⟩ _ _ hP hD hS ls (lv_sub hl [0, 1, 2, 3] rfl)
      · skip
        have i_131 : ¬ (rails.toInt ≤ x128.toInt) := fun h9 => c_131 ((ile rfl rfl).mpr h9)
        refine lv_aload_n hx hb dX0_findPeak_10 rfl (lv_at hl 1 rfl) ?_
        refine lv_iload_n hx hb dX0_findPeak_11 rfl (lv_at hl 0 rfl) ?_
        have hPc := hP.sub (ws' := [(co, .inr (0, [.ref fwa, .ref fta, .ref fra, .ref fga, .ref cxa, .int cup, .int clast, .int cpeak, .int cptick]))]) [0] rfl
        have hDc := hD.sub (ws' := [(co, .inr (0, [.ref fwa, .ref fta, .ref fra, .ref fga, .ref cxa, .int cup, .int clast, .int cpeak, .int cptick]))]) [0] (by decide) rfl
        have hFc := va_free (wc := [(co, .inr (0, [.ref fwa, .ref fta, .ref fra, .ref fga, .ref cxa, .int cup, .int clast, .int cpeak, .int cptick]))]) hD hS hA [0] rfl
        refine va_calli (va_runV (As := [.int x128]) (rest := []) ⟨hx, hb, hml, hown, hts⟩ (c_isUp l D cI cJ cZ cG cH H.size co x128 fwa fta fra fga cxa cup clast cpeak cptick (xrng rfl (by omega) (by omega))) (cwV 1 hts (xGV tbC wd933 wd856 wd857 wd23 wd858) rfl rfl rfl (by decide +kernel) ⟨Nat.le_of_ble_eq_true rfl, Nat.le_of_ble_eq_true rfl⟩) ⟨xPc_blind, va_recv hK hPc (ci := 0) (q0 := 0) rfl rfl, xPc_pre hPc hK hDc⟩ rfl rfl hl.1 rfl (lv_room (Nat.le_of_ble_eq_true rfl)) dX0_findPeak_12 ⟨Nat.le_of_ble_eq_true rfl, Nat.le_of_ble_eq_true rfl⟩) hS (fun q _ h => hFc q h) hFc (fun r216 u t H1 locs ht hvm hw216 hB hz1 hk1 hS => ?_)
        obtain ⟨hP1, hK1, hD1⟩ := hB
        rw [ht] at hP1
        obtain ⟨hP, hD⟩ := va_join (wr := [(fra, .inl (cI, 8, .inl fr)), (fga, .inl (cI, 8, .inl fg)), (cxa, .inl (cI, 145, .inl f129)), (pl, .inr (2, [.ref pna, .ref pta, .int rails, .int limit, .int retry, .int behind])), (pna, .inl (cI, 64, .inl pn))]) (w1 := [(co, .inr (0, [.ref fwa, .ref fta, .ref fra, .ref fga, .ref cxa, .int cup, .int clast, .int cpeak, .int cptick]))]) hP hD [0] [1, 2, 3, 4, 5] rfl rfl (by decide) (by decide) hk1 hFc hP1 hD1
        generalize H1 = H at hP hS ⊢
        have hP : va_P D vwCl [(fra, .inl (cI, 8, .inl fr)), (fga, .inl (cI, 8, .inl fg)), (cxa, .inl (cI, 145, .inl f129)), (pl, .inr (2, [.ref pna, .ref pta, .int rails, .int limit, .int retry, .int behind])), (pna, .inl (cI, 64, .inl pn)), (co, .inr (0, [.ref fwa, .ref fta, .ref fra, .ref fga, .ref cxa, .int cup, .int clast, .int cpeak, .int cptick]))] H := hP
        have hD : va_D A [(fra, .inl (cI, 8, .inl fr)), (fga, .inl (cI, 8, .inl fg)), (cxa, .inl (cI, 145, .inl f129)), (pl, .inr (2, [.ref pna, .ref pta, .int rails, .int limit, .int retry, .int behind])), (pna, .inl (cI, 64, .inl pn)), (co, .inr (0, [.ref fwa, .ref fta, .ref fra, .ref fga, .ref cxa, .int cup, .int clast, .int cpeak, .int cptick]))] := hD
        have hw216 : 0 ≤ r216.toInt ∧ r216.toInt ≤ 1 := hw216
        refine lv_if_eq (tgt := 77) hx hb dX0_findPeak_15 (by decide) (fun c_217 => ?_) (fun c_217 => ?_)
        · skip
          have i_217 : r216.toInt = 0 := (ieq rfl (by decide)).mp c_217
          obtain ⟨x218, ex218⟩ : ∃ y : Int32, y = x128 + 1 := ⟨_, rfl⟩
          have tx218 : x218.toInt = (x128.toInt + 1) := (congrArg Int32.toInt ex218).trans (xadd rfl (by decide) (by omega) (by omega))
          refine lv_iinc (v := x218) (lv' := [(2, .int x218), (0, .ref co), (1, .ref pl)]) hx hb dX0_findPeak_77 hl (k := 0) rfl (by rw [ex218]; rfl) (by decide) rfl (fun ls hl => ?_)
          refine lv_goto (tgt := 2) hx hb dX0_findPeak_80 (by decide) ?_
          have hP := hP.sub (ws' := [(co, .inr (0, [.ref fwa, .ref fta, .ref fra, .ref fga, .ref cxa, .int cup, .int clast, .int cpeak, .int cptick])), (fra, .inl (cI, 8, .inl fr)), (fga, .inl (cI, 8, .inl fg)), (cxa, .inl (cI, 145, .inl f129)), (pl, .inr (2, [.ref pna, .ref pta, .int rails, .int limit, .int retry, .int behind])), (pna, .inl (cI, 64, .inl pn))]) [5, 0, 1, 2, 3, 4] rfl
          have hD := hD.sub (ws' := [(co, .inr (0, [.ref fwa, .ref fta, .ref fra, .ref fga, .ref cxa, .int cup, .int clast, .int cpeak, .int cptick])), (fra, .inl (cI, 8, .inl fr)), (fga, .inl (cI, 8, .inl fg)), (cxa, .inl (cI, 145, .inl f129)), (pl, .inr (2, [.ref pna, .ref pta, .int rails, .int limit, .int retry, .int behind])), (pna, .inl (cI, 64, .inl pn))]) [5, 0, 1, 2, 3, 4] (by decide) rfl
          exact ihhl130 x218 f129 (by omega) (xrng tx218 (by omega) (by omega)) _ _ hP hD hS ls (lv_sub hl [0, 1, 2] rfl)
        · skip
          have i_217 : ¬ (r216.toInt = 0) := fun h9 => c_217 ((ieq rfl (by decide)).mpr h9)
          refine lv_aload_n hx hb dX0_findPeak_18 rfl (lv_at hl 1 rfl) ?_
          refine va_get (D := D) (ci := 0) (v := .ref fga) (C := RX0) (T := TX0) (N := 9) hx hb hts (fun w h => tbC w (tbfX0 w h)) hown hK hP 5 rfl rfl 3 (by decide) (hts (.fieldLink RX0 21 "PowerRails$Course" "goodAt" "[I") (tbC _ wd84)) (fun _ h9 => h9) rfl dX0_findPeak_19 ?_
          refine lv_iload_n hx hb dX0_findPeak_22 rfl (lv_at hl 0 rfl) ?_
          refine va_iald hx hb hK hP 1 0 rfl rfl (vp_in_iff.mpr ⟨by omega, by omega⟩) dX0_findPeak_23 ?_
          refine lv_topi (fun v219 ev219 => ?_)
          have rv219 : 0 ≤ v219.toInt ∧ v219.toInt ≤ 1166 := xrd ev219 h_fg (xinK (vp_in_iff.mpr ⟨by omega, by omega⟩))
          refine lv_sipush (v := 144) hx hb dX0_findPeak_24 (by decide) ?_
          refine lv_icmp_gt (tgt := 77) hx hb dX0_findPeak_27 (by decide) (fun c_220 => ?_) (fun c_220 => ?_)
          · skip
            have i_220 : 144 < v219.toInt := (ilt (by decide) rfl).mp c_220
            obtain ⟨x221, ex221⟩ : ∃ y : Int32, y = x128 + 1 := ⟨_, rfl⟩
            have tx221 : x221.toInt = (x128.toInt + 1) := (congrArg Int32.toInt ex221).trans (xadd rfl (by decide) (by omega) (by omega))
            refine lv_iinc (v := x221) (lv' := [(2, .int x221), (0, .ref co), (1, .ref pl)]) hx hb dX0_findPeak_77 hl (k := 0) rfl (by rw [ex221]; rfl) (by decide) rfl (fun ls hl => ?_)
            refine lv_goto (tgt := 2) hx hb dX0_findPeak_80 (by decide) ?_
            have hP := hP.sub (ws' := [(co, .inr (0, [.ref fwa, .ref fta, .ref fra, .ref fga, .ref cxa, .int cup, .int clast, .int cpeak, .int cptick])), (fra, .inl (cI, 8, .inl fr)), (fga, .inl (cI, 8, .inl fg)), (cxa, .inl (cI, 145, .inl f129)), (pl, .inr (2, [.ref pna, .ref pta, .int rails, .int limit, .int retry, .int behind])), (pna, .inl (cI, 64, .inl pn))]) [5, 0, 1, 2, 3, 4] rfl
            have hD := hD.sub (ws' := [(co, .inr (0, [.ref fwa, .ref fta, .ref fra, .ref fga, .ref cxa, .int cup, .int clast, .int cpeak, .int cptick])), (fra, .inl (cI, 8, .inl fr)), (fga, .inl (cI, 8, .inl fg)), (cxa, .inl (cI, 145, .inl f129)), (pl, .inr (2, [.ref pna, .ref pta, .int rails, .int limit, .int retry, .int behind])), (pna, .inl (cI, 64, .inl pn))]) [5, 0, 1, 2, 3, 4] (by decide) rfl
            exact ihhl130 x221 f129 (by omega) (xrng tx221 (by omega) (by omega)) _ _ hP hD hS ls (lv_sub hl [0, 1, 2] rfl)
          · skip
            have i_220 : ¬ (144 < v219.toInt) := fun h9 => c_220 ((ilt (by decide) rfl).mpr h9)
            refine lv_aload_n hx hb dX0_findPeak_30 rfl (lv_at hl 1 rfl) ?_
            refine va_get (D := D) (ci := 0) (v := .ref cxa) (C := RX0) (T := TX0) (N := 9) hx hb hts (fun w h => tbC w (tbfX0 w h)) hown hK hP 5 rfl rfl 4 (by decide) (hts (.fieldLink RX0 24 "PowerRails$Course" "changes" "[I") (tbC _ wd85)) (fun _ h9 => h9) rfl dX0_findPeak_31 ?_
            refine lv_aload_n hx hb dX0_findPeak_34 rfl (lv_at hl 1 rfl) ?_
            refine va_get (D := D) (ci := 0) (v := .ref fra) (C := RX0) (T := TX0) (N := 9) hx hb hts (fun w h => tbC w (tbfX0 w h)) hown hK hP 5 rfl rfl 2 (by decide) (hts (.fieldLink RX0 18 "PowerRails$Course" "risesAt" "[I") (tbC _ wd83)) (fun _ h9 => h9) rfl dX0_findPeak_35 ?_
            refine lv_iload_n hx hb dX0_findPeak_38 rfl (lv_at hl 0 rfl) ?_
            refine va_iald hx hb hK hP 0 0 rfl rfl (vp_in_iff.mpr ⟨by omega, by omega⟩) dX0_findPeak_39 ?_
            refine lv_topi (fun v222 ev222 => ?_)
            have rv222 : 0 ≤ v222.toInt ∧ v222.toInt ≤ 655 := xrd ev222 h_fr (xinK (vp_in_iff.mpr ⟨by omega, by omega⟩))
            have q39v222 : v222.toInt ≤ v219.toInt := by rw [ev222, ev219]; exact h_le _ (by first | decide | exact xinK (vp_in_iff.mpr ⟨by omega, by omega⟩))
            refine lv_dup2_11 hx hb dX0_findPeak_40 rfl rfl ?_
            refine va_iald hx hb hK hP 2 0 rfl rfl (vp_in_iff.mpr ⟨by omega, by omega⟩) dX0_findPeak_41 ?_
            refine lv_topi (fun v223 ev223 => ?_)
            refine lv_aload_n hx hb dX0_findPeak_42 rfl (lv_at hl 2 rfl) ?_
            refine lv_iload_n hx hb dX0_findPeak_43 rfl (lv_at hl 0 rfl) ?_
            refine lv_iconst (v := 4) hx hb dX0_findPeak_44 (by decide) ?_
            have hPc := hP.sub (ws' := [(pl, .inr (2, [.ref pna, .ref pta, .int rails, .int limit, .int retry, .int behind])), (pna, .inl (cI, 64, .inl pn))]) [3, 4] rfl
            have hDc := hD.sub (ws' := [(pl, .inr (2, [.ref pna, .ref pta, .int rails, .int limit, .int retry, .int behind])), (pna, .inl (cI, 64, .inl pn))]) [3, 4] (by decide) rfl
            have hFc := va_free (wc := [(pl, .inr (2, [.ref pna, .ref pta, .int rails, .int limit, .int retry, .int behind])), (pna, .inl (cI, 64, .inl pn))]) hD hS hA [3, 4] rfl
            refine va_calli (va_runV (As := [.int x128, .int 4]) (rest := [.int v223, .int v222, .ref cxa]) ⟨hx, hb, hml, hown, hts⟩ (c_number l D cI cJ cZ cG cH H.size pl x128 (4 : Int32) pna pta rails limit retry behind pn (xrng rfl (by omega) (by omega)) ⟨by decide, by decide⟩ (xrng rfl (by omega) (by omega)) (xwk_rng h_pn (by decide) (by decide))) (cwV 2 hts (xGV tbC wd825 wd388 wd389 wd39 wd390) rfl rfl rfl (by decide +kernel) ⟨Nat.le_of_ble_eq_true rfl, Nat.le_of_ble_eq_true rfl⟩) ⟨xPc_blind, va_recv hK hPc (ci := 2) (q0 := 0) rfl rfl, xPc_pre hPc hK hDc⟩ rfl rfl hl.1 rfl (lv_room (Nat.le_of_ble_eq_true rfl)) dX0_findPeak_45 ⟨Nat.le_of_ble_eq_true rfl, Nat.le_of_ble_eq_true rfl⟩) hS (fun q _ h => hFc q h) hFc (fun r224 u t H1 locs ht hvm hw224 hB hz1 hk1 hS => ?_)
            obtain ⟨hP1, hK1, hD1⟩ := hB
            rw [ht] at hP1
            obtain ⟨hP, hD⟩ := va_join (wr := [(fra, .inl (cI, 8, .inl fr)), (fga, .inl (cI, 8, .inl fg)), (cxa, .inl (cI, 145, .inl f129)), (co, .inr (0, [.ref fwa, .ref fta, .ref fra, .ref fga, .ref cxa, .int cup, .int clast, .int cpeak, .int cptick]))]) (w1 := [(pl, .inr (2, [.ref pna, .ref pta, .int rails, .int limit, .int retry, .int behind])), (pna, .inl (cI, 64, .inl pn))]) hP hD [3, 4] [0, 1, 2, 5] rfl rfl (by decide) (by decide) hk1 hFc hP1 hD1
            generalize H1 = H at hP hS ⊢
            have hP : va_P D vwCl [(fra, .inl (cI, 8, .inl fr)), (fga, .inl (cI, 8, .inl fg)), (cxa, .inl (cI, 145, .inl f129)), (co, .inr (0, [.ref fwa, .ref fta, .ref fra, .ref fga, .ref cxa, .int cup, .int clast, .int cpeak, .int cptick])), (pl, .inr (2, [.ref pna, .ref pta, .int rails, .int limit, .int retry, .int behind])), (pna, .inl (cI, 64, .inl pn))] H := hP
            have hD : va_D A [(fra, .inl (cI, 8, .inl fr)), (fga, .inl (cI, 8, .inl fg)), (cxa, .inl (cI, 145, .inl f129)), (co, .inr (0, [.ref fwa, .ref fta, .ref fra, .ref fga, .ref cxa, .int cup, .int clast, .int cpeak, .int cptick])), (pl, .inr (2, [.ref pna, .ref pta, .int rails, .int limit, .int retry, .int behind])), (pna, .inl (cI, 64, .inl pn))] := hD
            have hw224 : 0 ≤ r224.toInt ∧ r224.toInt ≤ 511 := hw224
            refine lv_iadd hx hb dX0_findPeak_48 ?_
            refine lv_topi (fun v225 ev225 => ?_)
            refine va_iast hx hb hK hP hD hS 2 0 rfl rfl (vp_in_iff.mpr ⟨by omega, by omega⟩) dX0_findPeak_49 (fun H locs hP hD hS => ?_)
            obtain ⟨f226, ef226⟩ : ∃ fz9 : Nat → Int32, fz9 = upd f129 (v222 : Int32).toNatClampNeg v225 := ⟨_, rfl⟩
            have hP : va_P D vwCl [(fra, .inl (cI, 8, .inl fr)), (fga, .inl (cI, 8, .inl fg)), (cxa, .inl (cI, 145, .inl f226)), (co, .inr (0, [.ref fwa, .ref fta, .ref fra, .ref fga, .ref cxa, .int cup, .int clast, .int cpeak, .int cptick])), (pl, .inr (2, [.ref pna, .ref pta, .int rails, .int limit, .int retry, .int behind])), (pna, .inl (cI, 64, .inl pn))] H := by rw [ef226]; exact hP
            have hD : va_D A [(fra, .inl (cI, 8, .inl fr)), (fga, .inl (cI, 8, .inl fg)), (cxa, .inl (cI, 145, .inl f226)), (co, .inr (0, [.ref fwa, .ref fta, .ref fra, .ref fga, .ref cxa, .int cup, .int clast, .int cpeak, .int cptick])), (pl, .inr (2, [.ref pna, .ref pta, .int rails, .int limit, .int retry, .int behind])), (pna, .inl (cI, 64, .inl pn))] := by rw [ef226]; exact hD
            refine lv_aload_n hx hb dX0_findPeak_50 rfl (lv_at hl 1 rfl) ?_
            refine va_get (D := D) (ci := 0) (v := .ref cxa) (C := RX0) (T := TX0) (N := 9) hx hb hts (fun w h => tbC w (tbfX0 w h)) hown hK hP 3 rfl rfl 4 (by decide) (hts (.fieldLink RX0 24 "PowerRails$Course" "changes" "[I") (tbC _ wd85)) (fun _ h9 => h9) rfl dX0_findPeak_51 ?_
            refine lv_aload_n hx hb dX0_findPeak_54 rfl (lv_at hl 1 rfl) ?_
            refine va_get (D := D) (ci := 0) (v := .ref fga) (C := RX0) (T := TX0) (N := 9) hx hb hts (fun w h => tbC w (tbfX0 w h)) hown hK hP 3 rfl rfl 3 (by decide) (hts (.fieldLink RX0 21 "PowerRails$Course" "goodAt" "[I") (tbC _ wd84)) (fun _ h9 => h9) rfl dX0_findPeak_55 ?_
            refine lv_iload_n hx hb dX0_findPeak_58 rfl (lv_at hl 0 rfl) ?_
            refine va_iald hx hb hK hP 1 0 rfl rfl (vp_in_iff.mpr ⟨by omega, by omega⟩) dX0_findPeak_59 ?_
            refine lv_topi (fun v227 ev227 => ?_)
            have rv227 : 0 ≤ v227.toInt ∧ v227.toInt ≤ 1166 := xrd ev227 h_fg (xinK (vp_in_iff.mpr ⟨by omega, by omega⟩))
            have qv227 : v227.toInt = v219.toInt := by rw [ev227, ev219]
            have q59v227 : v227.toInt = v219.toInt := by rw [ev227, ev219]
            refine lv_dup2_11 hx hb dX0_findPeak_60 rfl rfl ?_
            refine va_iald hx hb hK hP 2 0 rfl rfl (vp_in_iff.mpr (by rw [qv227]; omega)) dX0_findPeak_61 ?_
            refine lv_topi (fun v228 ev228 => ?_)
            refine lv_aload_n hx hb dX0_findPeak_62 rfl (lv_at hl 2 rfl) ?_
            refine lv_iload_n hx hb dX0_findPeak_63 rfl (lv_at hl 0 rfl) ?_
            refine lv_iconst (v := 3) hx hb dX0_findPeak_64 (by decide) ?_
            have hPc := hP.sub (ws' := [(pl, .inr (2, [.ref pna, .ref pta, .int rails, .int limit, .int retry, .int behind])), (pna, .inl (cI, 64, .inl pn))]) [4, 5] rfl
            have hDc := hD.sub (ws' := [(pl, .inr (2, [.ref pna, .ref pta, .int rails, .int limit, .int retry, .int behind])), (pna, .inl (cI, 64, .inl pn))]) [4, 5] (by decide) rfl
            have hFc := va_free (wc := [(pl, .inr (2, [.ref pna, .ref pta, .int rails, .int limit, .int retry, .int behind])), (pna, .inl (cI, 64, .inl pn))]) hD hS hA [4, 5] rfl
            refine va_calli (va_runV (As := [.int x128, .int 3]) (rest := [.int v228, .int v227, .ref cxa]) ⟨hx, hb, hml, hown, hts⟩ (c_number l D cI cJ cZ cG cH H.size pl x128 (3 : Int32) pna pta rails limit retry behind pn (xrng rfl (by omega) (by omega)) ⟨by decide, by decide⟩ (xrng rfl (by omega) (by omega)) (xwk_rng h_pn (by decide) (by decide))) (cwV 2 hts (xGV tbC wd825 wd388 wd389 wd39 wd390) rfl rfl rfl (by decide +kernel) ⟨Nat.le_of_ble_eq_true rfl, Nat.le_of_ble_eq_true rfl⟩) ⟨xPc_blind, va_recv hK hPc (ci := 2) (q0 := 0) rfl rfl, xPc_pre hPc hK hDc⟩ rfl rfl hl.1 rfl (lv_room (Nat.le_of_ble_eq_true rfl)) dX0_findPeak_65 ⟨Nat.le_of_ble_eq_true rfl, Nat.le_of_ble_eq_true rfl⟩) hS (fun q _ h => hFc q h) hFc (fun r229 u t H1 locs ht hvm hw229 hB hz1 hk1 hS => ?_)
            obtain ⟨hP1, hK1, hD1⟩ := hB
            rw [ht] at hP1
            obtain ⟨hP, hD⟩ := va_join (wr := [(fra, .inl (cI, 8, .inl fr)), (fga, .inl (cI, 8, .inl fg)), (cxa, .inl (cI, 145, .inl f226)), (co, .inr (0, [.ref fwa, .ref fta, .ref fra, .ref fga, .ref cxa, .int cup, .int clast, .int cpeak, .int cptick]))]) (w1 := [(pl, .inr (2, [.ref pna, .ref pta, .int rails, .int limit, .int retry, .int behind])), (pna, .inl (cI, 64, .inl pn))]) hP hD [4, 5] [0, 1, 2, 3] rfl rfl (by decide) (by decide) hk1 hFc hP1 hD1
            generalize H1 = H at hP hS ⊢
            have hP : va_P D vwCl [(fra, .inl (cI, 8, .inl fr)), (fga, .inl (cI, 8, .inl fg)), (cxa, .inl (cI, 145, .inl f226)), (co, .inr (0, [.ref fwa, .ref fta, .ref fra, .ref fga, .ref cxa, .int cup, .int clast, .int cpeak, .int cptick])), (pl, .inr (2, [.ref pna, .ref pta, .int rails, .int limit, .int retry, .int behind])), (pna, .inl (cI, 64, .inl pn))] H := hP
            have hD : va_D A [(fra, .inl (cI, 8, .inl fr)), (fga, .inl (cI, 8, .inl fg)), (cxa, .inl (cI, 145, .inl f226)), (co, .inr (0, [.ref fwa, .ref fta, .ref fra, .ref fga, .ref cxa, .int cup, .int clast, .int cpeak, .int cptick])), (pl, .inr (2, [.ref pna, .ref pta, .int rails, .int limit, .int retry, .int behind])), (pna, .inl (cI, 64, .inl pn))] := hD
            have hw229 : 0 ≤ r229.toInt ∧ r229.toInt ≤ 511 := hw229
            refine lv_aload_n hx hb dX0_findPeak_68 rfl (lv_at hl 2 rfl) ?_
            refine lv_iload_n hx hb dX0_findPeak_69 rfl (lv_at hl 0 rfl) ?_
            refine lv_iconst (v := 4) hx hb dX0_findPeak_70 (by decide) ?_
            have hPc := hP.sub (ws' := [(pl, .inr (2, [.ref pna, .ref pta, .int rails, .int limit, .int retry, .int behind])), (pna, .inl (cI, 64, .inl pn))]) [4, 5] rfl
            have hDc := hD.sub (ws' := [(pl, .inr (2, [.ref pna, .ref pta, .int rails, .int limit, .int retry, .int behind])), (pna, .inl (cI, 64, .inl pn))]) [4, 5] (by decide) rfl
            have hFc := va_free (wc := [(pl, .inr (2, [.ref pna, .ref pta, .int rails, .int limit, .int retry, .int behind])), (pna, .inl (cI, 64, .inl pn))]) hD hS hA [4, 5] rfl
            refine va_calli (va_runV (As := [.int x128, .int 4]) (rest := [.int r229, .int v228, .int v227, .ref cxa]) ⟨hx, hb, hml, hown, hts⟩ (c_number l D cI cJ cZ cG cH H.size pl x128 (4 : Int32) pna pta rails limit retry behind pn (xrng rfl (by omega) (by omega)) ⟨by decide, by decide⟩ (xrng rfl (by omega) (by omega)) (xwk_rng h_pn (by decide) (by decide))) (cwV 2 hts (xGV tbC wd825 wd388 wd389 wd39 wd390) rfl rfl rfl (by decide +kernel) ⟨Nat.le_of_ble_eq_true rfl, Nat.le_of_ble_eq_true rfl⟩) ⟨xPc_blind, va_recv hK hPc (ci := 2) (q0 := 0) rfl rfl, xPc_pre hPc hK hDc⟩ rfl rfl hl.1 rfl (lv_room (Nat.le_of_ble_eq_true rfl)) dX0_findPeak_71 ⟨Nat.le_of_ble_eq_true rfl, Nat.le_of_ble_eq_true rfl⟩) hS (fun q _ h => hFc q h) hFc (fun r230 u t H1 locs ht hvm hw230 hB hz1 hk1 hS => ?_)
            obtain ⟨hP1, hK1, hD1⟩ := hB
            rw [ht] at hP1
            obtain ⟨hP, hD⟩ := va_join (wr := [(fra, .inl (cI, 8, .inl fr)), (fga, .inl (cI, 8, .inl fg)), (cxa, .inl (cI, 145, .inl f226)), (co, .inr (0, [.ref fwa, .ref fta, .ref fra, .ref fga, .ref cxa, .int cup, .int clast, .int cpeak, .int cptick]))]) (w1 := [(pl, .inr (2, [.ref pna, .ref pta, .int rails, .int limit, .int retry, .int behind])), (pna, .inl (cI, 64, .inl pn))]) hP hD [4, 5] [0, 1, 2, 3] rfl rfl (by decide) (by decide) hk1 hFc hP1 hD1
            generalize H1 = H at hP hS ⊢
            have hP : va_P D vwCl [(fra, .inl (cI, 8, .inl fr)), (fga, .inl (cI, 8, .inl fg)), (cxa, .inl (cI, 145, .inl f226)), (co, .inr (0, [.ref fwa, .ref fta, .ref fra, .ref fga, .ref cxa, .int cup, .int clast, .int cpeak, .int cptick])), (pl, .inr (2, [.ref pna, .ref pta, .int rails, .int limit, .int retry, .int behind])), (pna, .inl (cI, 64, .inl pn))] H := hP
            have hD : va_D A [(fra, .inl (cI, 8, .inl fr)), (fga, .inl (cI, 8, .inl fg)), (cxa, .inl (cI, 145, .inl f226)), (co, .inr (0, [.ref fwa, .ref fta, .ref fra, .ref fga, .ref cxa, .int cup, .int clast, .int cpeak, .int cptick])), (pl, .inr (2, [.ref pna, .ref pta, .int rails, .int limit, .int retry, .int behind])), (pna, .inl (cI, 64, .inl pn))] := hD
            have hw230 : 0 ≤ r230.toInt ∧ r230.toInt ≤ 511 := hw230
            refine lv_isub hx hb dX0_findPeak_74 ?_
            refine lv_topi (fun v231 ev231 => ?_)
            have tv231 : v231.toInt = (r229.toInt - r230.toInt) := (congrArg Int32.toInt ev231).trans (xsub rfl rfl (by omega) (by omega))
            refine lv_iadd hx hb dX0_findPeak_75 ?_
            refine lv_topi (fun v232 ev232 => ?_)
            refine va_iast hx hb hK hP hD hS 2 0 rfl rfl (vp_in_iff.mpr (by rw [qv227]; omega)) dX0_findPeak_76 (fun H locs hP hD hS => ?_)
            obtain ⟨f233, ef233⟩ : ∃ fz9 : Nat → Int32, fz9 = upd f226 (v227 : Int32).toNatClampNeg v232 := ⟨_, rfl⟩
            have hP : va_P D vwCl [(fra, .inl (cI, 8, .inl fr)), (fga, .inl (cI, 8, .inl fg)), (cxa, .inl (cI, 145, .inl f233)), (co, .inr (0, [.ref fwa, .ref fta, .ref fra, .ref fga, .ref cxa, .int cup, .int clast, .int cpeak, .int cptick])), (pl, .inr (2, [.ref pna, .ref pta, .int rails, .int limit, .int retry, .int behind])), (pna, .inl (cI, 64, .inl pn))] H := by rw [ef233]; exact hP
            have hD : va_D A [(fra, .inl (cI, 8, .inl fr)), (fga, .inl (cI, 8, .inl fg)), (cxa, .inl (cI, 145, .inl f233)), (co, .inr (0, [.ref fwa, .ref fta, .ref fra, .ref fga, .ref cxa, .int cup, .int clast, .int cpeak, .int cptick])), (pl, .inr (2, [.ref pna, .ref pta, .int rails, .int limit, .int retry, .int behind])), (pna, .inl (cI, 64, .inl pn))] := by rw [ef233]; exact hD
            obtain ⟨x234, ex234⟩ : ∃ y : Int32, y = x128 + 1 := ⟨_, rfl⟩
            have tx234 : x234.toInt = (x128.toInt + 1) := (congrArg Int32.toInt ex234).trans (xadd rfl (by decide) (by omega) (by omega))
            refine lv_iinc (v := x234) (lv' := [(2, .int x234), (0, .ref co), (1, .ref pl)]) hx hb dX0_findPeak_77 hl (k := 0) rfl (by rw [ex234]; rfl) (by decide) rfl (fun ls hl => ?_)
            refine lv_goto (tgt := 2) hx hb dX0_findPeak_80 (by decide) ?_
            have hP := hP.sub (ws' := [(co, .inr (0, [.ref fwa, .ref fta, .ref fra, .ref fga, .ref cxa, .int cup, .int clast, .int cpeak, .int cptick])), (fra, .inl (cI, 8, .inl fr)), (fga, .inl (cI, 8, .inl fg)), (cxa, .inl (cI, 145, .inl f233)), (pl, .inr (2, [.ref pna, .ref pta, .int rails, .int limit, .int retry, .int behind])), (pna, .inl (cI, 64, .inl pn))]) [3, 0, 1, 2, 4, 5] rfl
            have hD := hD.sub (ws' := [(co, .inr (0, [.ref fwa, .ref fta, .ref fra, .ref fga, .ref cxa, .int cup, .int clast, .int cpeak, .int cptick])), (fra, .inl (cI, 8, .inl fr)), (fga, .inl (cI, 8, .inl fg)), (cxa, .inl (cI, 145, .inl f233)), (pl, .inr (2, [.ref pna, .ref pta, .int rails, .int limit, .int retry, .int behind])), (pna, .inl (cI, 64, .inl pn))]) [3, 0, 1, 2, 4, 5] (by decide) rfl
            exact ihhl130 x234 f233 (by omega) (xrng tx234 (by omega) (by omega)) _ _ hP hD hS ls (lv_sub hl [0, 1, 2] rfl)
  exact hl130 _ 0 cx (Nat.lt_succ_self _) ⟨by decide, by decide⟩ _ _ hP hD hS ls (lv_sub hl [0, 1, 2] rfl)
