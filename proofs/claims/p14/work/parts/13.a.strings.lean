abbrev W_s_coder (cI cJ cZ cG cH : ClassId) (adK : Nat → Nat) (adV : Nat → Nat) (tI : Nat) (ix : Nat) (n : Nat) : va_W := []
abbrev Q_s_coder (D : va_G) (cI cJ cZ cG cH : ClassId) (adK : Nat → Nat) (adV : Nat → Nat) (tI : Nat) (ix : Nat) (n : Nat) (A : Nat → Prop) : Array Value → State → Outcome → State → Prop := va_Qi (fun (r : Int32) (_ : Unit) => r = 0) (fun _ t => xB D (tyL cI cJ cZ cG cH) [] A t) A
abbrev rm_s_coder : Room := { frames := 0, cells := 0, slots := 0, locals := 0 }
set_option maxRecDepth 100000 in
set_option maxHeartbeats 40000000 in
theorem c_s_coder (l : Launch) (D : va_G) (cI cJ cZ cG cH : ClassId) (sz : Nat) (adK : Nat → Nat) (adV : Nat → Nat) (tI : Nat) (ix : Nat) (n : Nat) (hix : ix < 9) (hn : xlen.getD ix 0 = n) (hn6 : n ≤ 6) : Met l yJ0_coder_7d493 (wt yJ0_coder_7d493 cJ0_coder_7d493 1 (some .byte)) rm_s_coder (xPcE [.ref (adK ix)] D (tyL cI cJ cZ cG cH) (W_s_coder cI cJ cZ cG cH adK adV tI ix n) adK adV tI sz) (Q_s_coder D cI cJ cZ cG cH adK adV tI ix n (va_A (W_s_coder cI cJ cZ cG cH adK adV tI ix n) sz)) 0 0 (va_A (W_s_coder cI cJ cZ cG cH adK adV tI ix n) sz) := by
  refine xMetE (cc := cJ0_coder_7d493) (maxL := 1) (ret := (some .byte)) (Qf := Q_s_coder D cI cJ cZ cG cH adK adV tI ix n) (by decide) rfl (Nat.le_of_ble_eq_true rfl) ?_
  intro p e s m below meth c ls A hx hb hr hml hts hown hlocks hnm hsz hP hK hD hA hS hl hE
  have hown : s.vm.findClass RJ0 = some m.cls := hown
  have hP : va_P D vwCl [] s.heap := hP
  have hD : va_D A [] := hD
  have hl : lv_has ls 1 [(0, .ref (adK ix))] := hl
  refine va_gets (v := .int 1) hx hb hE.C hS hown (hts (.fieldLink RJ0 38 "java/lang/String" "COMPACT_STRINGS" "Z") (tbC _ wd297)) (fun _ h9 => h9) dJ0_coder_7d493_0 ?_
  refine lv_if_eq (tgt := 13) hx hb dJ0_coder_7d493_3 (by decide) (fun c9 => absurd c9 (by decide)) (fun _ => ?_)
  refine lv_aload_n hx hb dJ0_coder_7d493_6 rfl (lv_at hl 0 rfl) ?_
  refine vk_getf (v := .int 0) hx hb (hE.S.1 ix (by first | decide | assumption)).2.1 hS hown (hts (.fieldLink RJ0 15 "java/lang/String" "coder" "B") (tbC _ wd947)) (fun _ h9 => h9) dJ0_coder_7d493_7 ?_
  refine lv_goto (tgt := 14) hx hb dJ0_coder_7d493_10 (by decide) ?_
  refine W.widen (k := 0) (n := 0) (by decide) (by decide) ?_
  exact W.zret (v := 0) hx hb hr (by decide) (fun t ht hW => ⟨⟨0, (), rfl, rfl, xB_of9 ht hW hP hK hD [] (by decide +kernel) rfl⟩, hS.F ht⟩) hS.2.2 dJ0_coder_7d493_14
abbrev W_s_latin (cI cJ cZ cG cH : ClassId) (adK : Nat → Nat) (adV : Nat → Nat) (tI : Nat) (ix : Nat) (n : Nat) : va_W := []
abbrev Q_s_latin (D : va_G) (cI cJ cZ cG cH : ClassId) (adK : Nat → Nat) (adV : Nat → Nat) (tI : Nat) (ix : Nat) (n : Nat) (A : Nat → Prop) : Array Value → State → Outcome → State → Prop := va_Qi (fun (r : Int32) (_ : Unit) => r = 1) (fun _ t => xB D (tyL cI cJ cZ cG cH) [] A t) A
abbrev rm_s_latin : Room := { frames := 0, cells := 0, slots := 0, locals := 0 }
set_option maxRecDepth 100000 in
set_option maxHeartbeats 40000000 in
theorem c_s_latin (l : Launch) (D : va_G) (cI cJ cZ cG cH : ClassId) (sz : Nat) (adK : Nat → Nat) (adV : Nat → Nat) (tI : Nat) (ix : Nat) (n : Nat) (hix : ix < 9) (hn : xlen.getD ix 0 = n) (hn6 : n ≤ 6) : Met l yJ0_isLatin1_aae02 (wt yJ0_isLatin1_aae02 cJ0_isLatin1_aae02 1 (some .boolean)) rm_s_latin (xPcE [.ref (adK ix)] D (tyL cI cJ cZ cG cH) (W_s_latin cI cJ cZ cG cH adK adV tI ix n) adK adV tI sz) (Q_s_latin D cI cJ cZ cG cH adK adV tI ix n (va_A (W_s_latin cI cJ cZ cG cH adK adV tI ix n) sz)) 0 0 (va_A (W_s_latin cI cJ cZ cG cH adK adV tI ix n) sz) := by
  refine xMetE (cc := cJ0_isLatin1_aae02) (maxL := 1) (ret := (some .boolean)) (Qf := Q_s_latin D cI cJ cZ cG cH adK adV tI ix n) (by decide) rfl (Nat.le_of_ble_eq_true rfl) ?_
  intro p e s m below meth c ls A hx hb hr hml hts hown hlocks hnm hsz hP hK hD hA hS hl hE
  have hown : s.vm.findClass RJ0 = some m.cls := hown
  have hP : va_P D vwCl [] s.heap := hP
  have hD : va_D A [] := hD
  have hl : lv_has ls 1 [(0, .ref (adK ix))] := hl
  refine va_gets (v := .int 1) hx hb hE.C hS hown (hts (.fieldLink RJ0 38 "java/lang/String" "COMPACT_STRINGS" "Z") (tbC _ wd297)) (fun _ h9 => h9) dJ0_isLatin1_aae02_0 ?_
  refine lv_if_eq (tgt := 17) hx hb dJ0_isLatin1_aae02_3 (by decide) (fun c9 => absurd c9 (by decide)) (fun _ => ?_)
  refine lv_aload_n hx hb dJ0_isLatin1_aae02_6 rfl (lv_at hl 0 rfl) ?_
  refine vk_getf (v := .int 0) hx hb (hE.S.1 ix (by first | decide | assumption)).2.1 hS hown (hts (.fieldLink RJ0 15 "java/lang/String" "coder" "B") (tbC _ wd947)) (fun _ h9 => h9) dJ0_isLatin1_aae02_7 ?_
  refine lv_if_ne (tgt := 17) hx hb dJ0_isLatin1_aae02_10 (by decide) (fun c9 => absurd c9 (by decide)) (fun _ => ?_)
  refine lv_iconst (v := 1) hx hb dJ0_isLatin1_aae02_13 (by decide) ?_
  refine lv_goto (tgt := 18) hx hb dJ0_isLatin1_aae02_14 (by decide) ?_
  refine W.widen (k := 0) (n := 0) (by decide) (by decide) ?_
  exact W.zret (v := 1) hx hb hr (by decide) (fun t ht hW => ⟨⟨1, (), rfl, rfl, xB_of9 ht hW hP hK hD [] (by decide +kernel) rfl⟩, hS.F ht⟩) hS.2.2 dJ0_isLatin1_aae02_18
abbrev W_s_length (cI cJ cZ cG cH : ClassId) (adK : Nat → Nat) (adV : Nat → Nat) (tI : Nat) (ix : Nat) (n : Nat) : va_W := []
abbrev Q_s_length (D : va_G) (cI cJ cZ cG cH : ClassId) (adK : Nat → Nat) (adV : Nat → Nat) (tI : Nat) (ix : Nat) (n : Nat) (A : Nat → Prop) : Array Value → State → Outcome → State → Prop := va_Qi (fun (r : Int32) (_ : Unit) => r = nI n) (fun _ t => xB D (tyL cI cJ cZ cG cH) [] A t) A
abbrev rm_s_length : Room := { frames := 1, cells := 0, slots := 0, locals := 20 }
set_option maxRecDepth 100000 in
set_option maxHeartbeats 40000000 in
theorem c_s_length (l : Launch) (D : va_G) (cI cJ cZ cG cH : ClassId) (sz : Nat) (adK : Nat → Nat) (adV : Nat → Nat) (tI : Nat) (ix : Nat) (n : Nat) (hix : ix < 9) (hn : xlen.getD ix 0 = n) (hn6 : n ≤ 6) : Met l yJ0_length_8abf5 (wt yJ0_length_8abf5 cJ0_length_8abf5 1 (some .int)) rm_s_length (xPcE [.ref (adK ix)] D (tyL cI cJ cZ cG cH) (W_s_length cI cJ cZ cG cH adK adV tI ix n) adK adV tI sz) (Q_s_length D cI cJ cZ cG cH adK adV tI ix n (va_A (W_s_length cI cJ cZ cG cH adK adV tI ix n) sz)) 0 0 (va_A (W_s_length cI cJ cZ cG cH adK adV tI ix n) sz) := by
  refine xMetE (cc := cJ0_length_8abf5) (maxL := 1) (ret := (some .int)) (Qf := Q_s_length D cI cJ cZ cG cH adK adV tI ix n) (by decide) rfl (Nat.le_of_ble_eq_true rfl) ?_
  intro p e s m below meth c ls A hx hb hr hml hts hown hlocks hnm hsz hP hK hD hA hS hl hE
  have hown : s.vm.findClass RJ0 = some m.cls := hown
  have hP : va_P D vwCl [] s.heap := hP
  have hD : va_D A [] := hD
  have hl : lv_has ls 1 [(0, .ref (adK ix))] := hl
  refine lv_aload_n hx hb dJ0_length_8abf5_0 rfl (lv_at hl 0 rfl) ?_
  refine vk_getf (v := .ref (adV ix)) hx hb (hE.S.1 ix (by first | decide | assumption)).2.2.1 hS hown (hts (.fieldLink RJ0 9 "java/lang/String" "value" "[B") (tbC _ wd946)) (fun _ h9 => h9) dJ0_length_8abf5_1 ?_
  refine va_tlen (v := nI n) hx hb (hE.S.1 ix (by first | decide | assumption)).2.2.2 hS (by rw [hn]; rfl) dJ0_length_8abf5_4 ?_
  refine lv_aload_n hx hb dJ0_length_8abf5_5 rfl (lv_at hl 0 rfl) ?_
  obtain ⟨hPc, hDc, hFc, hC9⟩ := xpk (wc := W_s_coder cI cJ cZ cG cH adK adV tI ix n) hP hD hS hA [] (by decide +kernel) rfl
  refine va_calli (va_runV (As := []) (rest := [.int (nI n)]) ⟨hx, hb, hml, hown, hts⟩ (c_s_coder l D cI cJ cZ cG cH s.heap.size adK adV tI ix n (by first | decide | assumption) (by first | decide | assumption) (by first | decide | assumption)) (cwV 0 hts (xGV tbC wd294 wd295 wd296 wd62 wd972) rfl rfl rfl (by decide +kernel) ⟨Nat.le_of_ble_eq_true rfl, Nat.le_of_ble_eq_true rfl⟩) ⟨xPcE_blind, vk_recv hE.S (i := ix) (by first | decide | assumption) hS, xPcE_pre hPc hK hDc hE hS hFc⟩ rfl rfl hl.1 rfl (lv_room (Nat.le_of_ble_eq_true rfl)) dJ0_length_8abf5_6 ⟨Nat.le_of_ble_eq_true rfl, Nat.le_of_ble_eq_true rfl⟩) hS (fun q _ h => hFc q h) hFc (fun r1 u t H1 locs ht hvm hw1 hB hz1 hk1 hS => ?_)
  obtain ⟨hP1, hK1, hD1⟩ := hB
  rw [ht] at hP1
  obtain ⟨hP, hD⟩ : xPD D A [] H1 := xjn 0 hP hD [] [] hC9 rfl (by decide +kernel) (by decide +kernel) hk1 hFc hP1 hD1
  generalize H1 = H at hP hS ⊢
  obtain rfl : r1 = 0 := hw1
  refine lv_ishr hx hb dJ0_length_8abf5_9 ?_
  refine lv_topi (fun v2 ev2 => ?_)
  refine W.widen (k := 0) (n := 0) (by decide) (by decide) ?_
  exact W.iret (v := v2) hx hb hr (fun t ht hW => ⟨⟨v2, (), rfl, (ev2.trans (sc_shr0 (by omega))), xB_of9 ht hW hP hK hD [] (by decide +kernel) rfl⟩, hS.F ht⟩) hS.2.2 dJ0_length_8abf5_10
abbrev W_s_check3N (cI cJ cZ cG cH : ClassId) (k0 : Int32) (m0 : Int32) : va_W := []
abbrev Q_s_check3N (D : va_G) (cI cJ cZ cG cH : ClassId) (k0 : Int32) (m0 : Int32) (A : Nat → Prop) : Array Value → State → Outcome → State → Prop := va_Qi (fun (r : Int32) (_ : Unit) => True) (fun _ t => xB D (tyL cI cJ cZ cG cH) [] A t) A
abbrev rm_s_check3N : Room := { frames := 0, cells := 0, slots := 0, locals := 0 }
set_option maxRecDepth 100000 in
set_option maxHeartbeats 40000000 in
theorem c_s_check3N (l : Launch) (D : va_G) (cI cJ cZ cG cH : ClassId) (sz : Nat) (k0 : Int32) (m0 : Int32) (hk : 0 ≤ k0.toInt ∧ k0.toInt < m0.toInt) : Met l yJ3_checkIndex_8e157 (wt yJ3_checkIndex_8e157 cJ3_checkIndex_8e157 3 (some .int)) rm_s_check3N (xPc [.int k0, .int m0, .null] D (tyL cI cJ cZ cG cH) (W_s_check3N cI cJ cZ cG cH k0 m0) sz) (Q_s_check3N D cI cJ cZ cG cH k0 m0 (va_A (W_s_check3N cI cJ cZ cG cH k0 m0) sz)) 0 0 (va_A (W_s_check3N cI cJ cZ cG cH k0 m0) sz) := by
  refine xMet (cc := cJ3_checkIndex_8e157) (maxL := 3) (ret := (some .int)) (Qf := Q_s_check3N D cI cJ cZ cG cH k0 m0) (by decide) rfl (Nat.le_of_ble_eq_true rfl) ?_
  intro p e s m below meth c ls A hx hb hr hml hts hown hlocks hnm hsz hP hK hD hA hS hl
  have hown : s.vm.findClass RJ3 = some m.cls := hown
  have hP : va_P D vwCl [] s.heap := hP
  have hD : va_D A [] := hD
  have hl : lv_has ls 3 [(0, .int k0), (1, .int m0), (2, .null)] := hl
  refine lv_iload_n hx hb dJ3_checkIndex_8e157_0 rfl (lv_at hl 0 rfl) ?_
  refine lv_if_lt (tgt := 9) hx hb dJ3_checkIndex_8e157_1 (by decide) (fun c_1 => ?_) (fun c_1 => ?_)
  · skip
    have i_1 : k0.toInt < 0 := (ilt rfl (by decide)).mp c_1
    exfalso
    omega
  · skip
    have i_1 : ¬ (k0.toInt < 0) := fun h9 => c_1 ((ilt rfl (by decide)).mpr h9)
    refine lv_iload_n hx hb dJ3_checkIndex_8e157_4 rfl (lv_at hl 0 rfl) ?_
    refine lv_iload_n hx hb dJ3_checkIndex_8e157_5 rfl (lv_at hl 1 rfl) ?_
    refine lv_icmp_lt (tgt := 16) hx hb dJ3_checkIndex_8e157_6 (by decide) (fun c_2 => ?_) (fun c_2 => ?_)
    · skip
      have i_2 : k0.toInt < m0.toInt := (ilt rfl rfl).mp c_2
      refine lv_iload_n hx hb dJ3_checkIndex_8e157_16 rfl (lv_at hl 0 rfl) ?_
      refine W.widen (k := 0) (n := 0) (by decide) (by decide) ?_
      exact W.iret (v := k0) hx hb hr (fun t ht hW => ⟨⟨k0, (), rfl, trivial, xB_of9 ht hW hP hK hD [] (by decide +kernel) rfl⟩, hS.F ht⟩) hS.2.2 dJ3_checkIndex_8e157_17
    · skip
      have i_2 : ¬ (k0.toInt < m0.toInt) := fun h9 => c_2 ((ilt rfl rfl).mpr h9)
      exfalso
      omega
abbrev W_s_check3R (cI cJ cZ cG cH : ClassId) (k0 : Int32) (m0 : Int32) (t0 : Nat) : va_W := []
abbrev Q_s_check3R (D : va_G) (cI cJ cZ cG cH : ClassId) (k0 : Int32) (m0 : Int32) (t0 : Nat) (A : Nat → Prop) : Array Value → State → Outcome → State → Prop := va_Qi (fun (r : Int32) (_ : Unit) => True) (fun _ t => xB D (tyL cI cJ cZ cG cH) [] A t) A
abbrev rm_s_check3R : Room := { frames := 0, cells := 0, slots := 0, locals := 0 }
set_option maxRecDepth 100000 in
set_option maxHeartbeats 40000000 in
theorem c_s_check3R (l : Launch) (D : va_G) (cI cJ cZ cG cH : ClassId) (sz : Nat) (k0 : Int32) (m0 : Int32) (t0 : Nat) (hk : 0 ≤ k0.toInt ∧ k0.toInt < m0.toInt) : Met l yJ3_checkIndex_8e157 (wt yJ3_checkIndex_8e157 cJ3_checkIndex_8e157 3 (some .int)) rm_s_check3R (xPc [.int k0, .int m0, .ref t0] D (tyL cI cJ cZ cG cH) (W_s_check3R cI cJ cZ cG cH k0 m0 t0) sz) (Q_s_check3R D cI cJ cZ cG cH k0 m0 t0 (va_A (W_s_check3R cI cJ cZ cG cH k0 m0 t0) sz)) 0 0 (va_A (W_s_check3R cI cJ cZ cG cH k0 m0 t0) sz) := by
  refine xMet (cc := cJ3_checkIndex_8e157) (maxL := 3) (ret := (some .int)) (Qf := Q_s_check3R D cI cJ cZ cG cH k0 m0 t0) (by decide) rfl (Nat.le_of_ble_eq_true rfl) ?_
  intro p e s m below meth c ls A hx hb hr hml hts hown hlocks hnm hsz hP hK hD hA hS hl
  have hown : s.vm.findClass RJ3 = some m.cls := hown
  have hP : va_P D vwCl [] s.heap := hP
  have hD : va_D A [] := hD
  have hl : lv_has ls 3 [(0, .int k0), (1, .int m0), (2, .ref t0)] := hl
  refine lv_iload_n hx hb dJ3_checkIndex_8e157_0 rfl (lv_at hl 0 rfl) ?_
  refine lv_if_lt (tgt := 9) hx hb dJ3_checkIndex_8e157_1 (by decide) (fun c_1 => ?_) (fun c_1 => ?_)
  · skip
    have i_1 : k0.toInt < 0 := (ilt rfl (by decide)).mp c_1
    exfalso
    omega
  · skip
    have i_1 : ¬ (k0.toInt < 0) := fun h9 => c_1 ((ilt rfl (by decide)).mpr h9)
    refine lv_iload_n hx hb dJ3_checkIndex_8e157_4 rfl (lv_at hl 0 rfl) ?_
    refine lv_iload_n hx hb dJ3_checkIndex_8e157_5 rfl (lv_at hl 1 rfl) ?_
    refine lv_icmp_lt (tgt := 16) hx hb dJ3_checkIndex_8e157_6 (by decide) (fun c_2 => ?_) (fun c_2 => ?_)
    · skip
      have i_2 : k0.toInt < m0.toInt := (ilt rfl rfl).mp c_2
      refine lv_iload_n hx hb dJ3_checkIndex_8e157_16 rfl (lv_at hl 0 rfl) ?_
      refine W.widen (k := 0) (n := 0) (by decide) (by decide) ?_
      exact W.iret (v := k0) hx hb hr (fun t ht hW => ⟨⟨k0, (), rfl, trivial, xB_of9 ht hW hP hK hD [] (by decide +kernel) rfl⟩, hS.F ht⟩) hS.2.2 dJ3_checkIndex_8e157_17
    · skip
      have i_2 : ¬ (k0.toInt < m0.toInt) := fun h9 => c_2 ((ilt rfl rfl).mpr h9)
      exfalso
      omega
abbrev W_s_check (cI cJ cZ cG cH : ClassId) (k0 : Int32) (m0 : Int32) (adK : Nat → Nat) (adV : Nat → Nat) (tI : Nat) : va_W := []
abbrev Q_s_check (D : va_G) (cI cJ cZ cG cH : ClassId) (k0 : Int32) (m0 : Int32) (adK : Nat → Nat) (adV : Nat → Nat) (tI : Nat) (A : Nat → Prop) : Array Value → State → Outcome → State → Prop := va_Qv (fun (_ : Unit) => True) (fun _ t => xB D (tyL cI cJ cZ cG cH) [] A t) A
abbrev rm_s_check : Room := { frames := 1, cells := 0, slots := 0, locals := 22 }
set_option maxRecDepth 100000 in
set_option maxHeartbeats 40000000 in
theorem c_s_check (l : Launch) (D : va_G) (cI cJ cZ cG cH : ClassId) (sz : Nat) (k0 : Int32) (m0 : Int32) (adK : Nat → Nat) (adV : Nat → Nat) (tI : Nat) (hk : 0 ≤ k0.toInt ∧ k0.toInt < m0.toInt) : Met l yJ0_checkIndex_df160 (wt yJ0_checkIndex_df160 cJ0_checkIndex_df160 2 none) rm_s_check (xPcE [.int k0, .int m0] D (tyL cI cJ cZ cG cH) (W_s_check cI cJ cZ cG cH k0 m0 adK adV tI) adK adV tI sz) (Q_s_check D cI cJ cZ cG cH k0 m0 adK adV tI (va_A (W_s_check cI cJ cZ cG cH k0 m0 adK adV tI) sz)) 0 0 (va_A (W_s_check cI cJ cZ cG cH k0 m0 adK adV tI) sz) := by
  refine xMetE (cc := cJ0_checkIndex_df160) (maxL := 2) (ret := none) (Qf := Q_s_check D cI cJ cZ cG cH k0 m0 adK adV tI) (by decide) rfl (Nat.le_of_ble_eq_true rfl) ?_
  intro p e s m below meth c ls A hx hb hr hml hts hown hlocks hnm hsz hP hK hD hA hS hl hE
  have hown : s.vm.findClass RJ0 = some m.cls := hown
  have hP : va_P D vwCl [] s.heap := hP
  have hD : va_D A [] := hD
  have hl : lv_has ls 2 [(0, .int k0), (1, .int m0)] := hl
  refine lv_iload_n hx hb dJ0_checkIndex_df160_0 rfl (lv_at hl 0 rfl) ?_
  refine lv_iload_n hx hb dJ0_checkIndex_df160_1 rfl (lv_at hl 1 rfl) ?_
  rcases hE.F with hF2 | ⟨tF1, hF2⟩
  · refine va_gets (v := .null) hx hb hF2 hS hown (hts (.fieldLink RJ0 1053 "jdk/internal/util/Preconditions" "SIOOBE_FORMATTER" "Ljava/util/function/BiFunction;") (tbC _ wd308)) (fun _ h9 => h9) dJ0_checkIndex_df160_2 ?_
    obtain ⟨hPc, hDc, hFc, hC9⟩ := xpk (wc := W_s_check3N cI cJ cZ cG cH k0 m0) hP hD hS hA [] (by decide +kernel) rfl
    refine va_calli (va_runS (As := [.int k0, .int m0, .null]) (rest := []) ⟨hx, hb, hml, hown, hts⟩ (c_s_check3N l D cI cJ cZ cG cH s.heap.size k0 m0 (by rw [show (k0 : Int32).toInt = k0.toInt from rfl, show (m0 : Int32).toInt = m0.toInt from rfl]; omega)) (va_cwS 3 hts (xGS tbC wd309 wd310 wd64 wd977) rfl rfl rfl (by decide +kernel) ⟨Nat.le_of_ble_eq_true rfl, Nat.le_of_ble_eq_true rfl⟩) ⟨xPc_blind, xPc_pre hPc hK hDc⟩ rfl rfl hl.1 rfl (lv_room (Nat.le_of_ble_eq_true rfl)) dJ0_checkIndex_df160_5 ⟨Nat.le_of_ble_eq_true rfl, Nat.le_of_ble_eq_true rfl⟩) hS (fun q _ h => hFc q h) hFc (fun r3 u t H1 locs ht hvm hw3 hB hz1 hk1 hS => ?_)
    obtain ⟨hP1, hK1, hD1⟩ := hB
    rw [ht] at hP1
    obtain ⟨hP, hD⟩ : xPD D A [] H1 := xjn 0 hP hD [] [] hC9 rfl (by decide +kernel) (by decide +kernel) hk1 hFc hP1 hD1
    generalize H1 = H at hP hS ⊢
    refine lv_pop hx hb dJ0_checkIndex_df160_8 rfl ?_
    refine W.widen (k := 0) (n := 0) (by decide) (by decide) ?_
    exact W.vret hx hb hr (fun t ht hW => ⟨⟨(), rfl, trivial, xB_of9 ht hW hP hK hD [] (by decide +kernel) rfl⟩, hS.F ht⟩) hS.2.2 dJ0_checkIndex_df160_9
  · refine va_gets (v := .ref tF1) hx hb hF2 hS hown (hts (.fieldLink RJ0 1053 "jdk/internal/util/Preconditions" "SIOOBE_FORMATTER" "Ljava/util/function/BiFunction;") (tbC _ wd308)) (fun _ h9 => h9) dJ0_checkIndex_df160_2 ?_
    obtain ⟨hPc, hDc, hFc, hC9⟩ := xpk (wc := W_s_check3R cI cJ cZ cG cH k0 m0 tF1) hP hD hS hA [] (by decide +kernel) rfl
    refine va_calli (va_runS (As := [.int k0, .int m0, .ref tF1]) (rest := []) ⟨hx, hb, hml, hown, hts⟩ (c_s_check3R l D cI cJ cZ cG cH s.heap.size k0 m0 tF1 (by rw [show (k0 : Int32).toInt = k0.toInt from rfl, show (m0 : Int32).toInt = m0.toInt from rfl]; omega)) (va_cwS 3 hts (xGS tbC wd309 wd310 wd64 wd977) rfl rfl rfl (by decide +kernel) ⟨Nat.le_of_ble_eq_true rfl, Nat.le_of_ble_eq_true rfl⟩) ⟨xPc_blind, xPc_pre hPc hK hDc⟩ rfl rfl hl.1 rfl (lv_room (Nat.le_of_ble_eq_true rfl)) dJ0_checkIndex_df160_5 ⟨Nat.le_of_ble_eq_true rfl, Nat.le_of_ble_eq_true rfl⟩) hS (fun q _ h => hFc q h) hFc (fun r4 u t H1 locs ht hvm hw4 hB hz1 hk1 hS => ?_)
    obtain ⟨hP1, hK1, hD1⟩ := hB
    rw [ht] at hP1
    obtain ⟨hP, hD⟩ : xPD D A [] H1 := xjn 0 hP hD [] [] hC9 rfl (by decide +kernel) (by decide +kernel) hk1 hFc hP1 hD1
    generalize H1 = H at hP hS ⊢
    refine lv_pop hx hb dJ0_checkIndex_df160_8 rfl ?_
    refine W.widen (k := 0) (n := 0) (by decide) (by decide) ?_
    exact W.vret hx hb hr (fun t ht hW => ⟨⟨(), rfl, trivial, xB_of9 ht hW hP hK hD [] (by decide +kernel) rfl⟩, hS.F ht⟩) hS.2.2 dJ0_checkIndex_df160_9
def K_s_charAt1_1 (ix : Nat) (k0 : Int32) : (Int32) := (((((((xbyt.getD ix []).getD (k0 : Int32).toNatClampNeg 0) &&& (255 : Int32)) : Int32).toUInt32 % 65536).toInt32))
def M_s_charAt1 (ix : Nat) (k0 : Int32) : (Int32) := (K_s_charAt1_1 ix k0)
abbrev W_s_charAt1 (cI cJ cZ cG cH : ClassId) (k0 : Int32) (adK : Nat → Nat) (adV : Nat → Nat) (tI : Nat) (ix : Nat) (n : Nat) : va_W := []
abbrev Q_s_charAt1 (D : va_G) (cI cJ cZ cG cH : ClassId) (k0 : Int32) (adK : Nat → Nat) (adV : Nat → Nat) (tI : Nat) (ix : Nat) (n : Nat) (A : Nat → Prop) : Array Value → State → Outcome → State → Prop := va_Qi (fun (r : Int32) (u9 : Int32) => r = u9 ∧ (narrow .char (.int r) = .int r)) (fun u9 t => (M_s_charAt1 ix k0 = (u9)) ∧ xB D (tyL cI cJ cZ cG cH) [] A t) A
abbrev rm_s_charAt1 : Room := { frames := 2, cells := 0, slots := 0, locals := 43 }
set_option maxRecDepth 100000 in
set_option maxHeartbeats 40000000 in
theorem c_s_charAt1 (l : Launch) (D : va_G) (cI cJ cZ cG cH : ClassId) (sz : Nat) (k0 : Int32) (adK : Nat → Nat) (adV : Nat → Nat) (tI : Nat) (ix : Nat) (n : Nat) (hix : ix < 9) (hn : xlen.getD ix 0 = n) (hn6 : n ≤ 6) (hk : 0 ≤ k0.toInt ∧ k0.toInt < (n : Int)) : Met l yJ1_charAt_3b067 (wt yJ1_charAt_3b067 cJ1_charAt_3b067 2 (some .char)) rm_s_charAt1 (xPcE [.ref (adV ix), .int k0] D (tyL cI cJ cZ cG cH) (W_s_charAt1 cI cJ cZ cG cH k0 adK adV tI ix n) adK adV tI sz) (Q_s_charAt1 D cI cJ cZ cG cH k0 adK adV tI ix n (va_A (W_s_charAt1 cI cJ cZ cG cH k0 adK adV tI ix n) sz)) 0 0 (va_A (W_s_charAt1 cI cJ cZ cG cH k0 adK adV tI ix n) sz) := by
  refine xMetE (cc := cJ1_charAt_3b067) (maxL := 2) (ret := (some .char)) (Qf := Q_s_charAt1 D cI cJ cZ cG cH k0 adK adV tI ix n) (by decide) rfl (Nat.le_of_ble_eq_true rfl) ?_
  intro p e s m below meth c ls A hx hb hr hml hts hown hlocks hnm hsz hP hK hD hA hS hl hE
  have hown : s.vm.findClass RJ1 = some m.cls := hown
  have hP : va_P D vwCl [] s.heap := hP
  have hD : va_D A [] := hD
  have hl : lv_has ls 2 [(0, .ref (adV ix)), (1, .int k0)] := hl
  have hM : M_s_charAt1 ix k0 = (K_s_charAt1_1 ix k0) := rfl
  refine lv_iload_n hx hb dJ1_charAt_3b067_0 rfl (lv_at hl 1 rfl) ?_
  refine lv_aload_n hx hb dJ1_charAt_3b067_1 rfl (lv_at hl 0 rfl) ?_
  refine va_tlen (v := nI n) hx hb (hE.S.1 ix (by first | decide | assumption)).2.2.2 hS (by rw [hn]; rfl) dJ1_charAt_3b067_2 ?_
  obtain ⟨hPc, hDc, hFc, hC9⟩ := xpk (wc := W_s_check cI cJ cZ cG cH k0 (nI n) adK adV tI) hP hD hS hA [] (by decide +kernel) rfl
  refine va_callv (va_runS (As := [.int k0, .int (nI n)]) (rest := []) ⟨hx, hb, hml, hown, hts⟩ (c_s_check l D cI cJ cZ cG cH s.heap.size k0 (nI n) adK adV tI (by rw [show (k0 : Int32).toInt = k0.toInt from rfl, show ((nI n) : Int32).toInt = ((n : Nat) : Int) from (nI_toInt (by omega))]; omega)) (va_cwS 2 hts (xGS tbC wd306 wd307 wd62 wd976) rfl rfl rfl (by decide +kernel) ⟨Nat.le_of_ble_eq_true rfl, Nat.le_of_ble_eq_true rfl⟩) ⟨xPcE_blind, xPcE_pre hPc hK hDc hE hS hFc⟩ rfl rfl hl.1 rfl (lv_room (Nat.le_of_ble_eq_true rfl)) dJ1_charAt_3b067_3 ⟨Nat.le_of_ble_eq_true rfl, Nat.le_of_ble_eq_true rfl⟩) hS (fun q _ h => hFc q h) hFc (fun u t H1 locs ht hvm hw1 hB hz1 hk1 hS => ?_)
  obtain ⟨hP1, hK1, hD1⟩ := hB
  rw [ht] at hP1
  obtain ⟨hP, hD⟩ : xPD D A [] H1 := xjn 0 hP hD [] [] hC9 rfl (by decide +kernel) (by decide +kernel) hk1 hFc hP1 hD1
  generalize H1 = H at hP hS ⊢
  refine lv_aload_n hx hb dJ1_charAt_3b067_6 rfl (lv_at hl 0 rfl) ?_
  refine lv_iload_n hx hb dJ1_charAt_3b067_7 rfl (lv_at hl 1 rfl) ?_
  obtain ⟨v2, ev2⟩ : ∃ z9 : Int32, (xbyt.getD ix []).getD (k0 : Int32).toNatClampNeg 0 = z9 := ⟨_, rfl⟩
  refine va_tb (v := .int v2) hx hb (hE.S.1 ix (by first | decide | assumption)).2.2.2 hS (by rw [hn]; exact (vp_in_iff.mpr ⟨by omega, by omega⟩)) (congrArg Value.int ev2) dJ1_charAt_3b067_8 ?_
  refine lv_sipush (v := 255) hx hb dJ1_charAt_3b067_9 (by decide) ?_
  refine lv_iand hx hb dJ1_charAt_3b067_12 ?_
  refine lv_topi (fun v3 ev3 => ?_)
  have rv3 : 0 ≤ v3.toInt ∧ v3.toInt ≤ 255 := xandL ev3 (show (255 : Int32).toInt = 255 from (by decide)) (by omega)
  obtain ⟨v4, ev4⟩ : ∃ z : Int32, ((v3 : Int32).toUInt32 % 65536).toInt32 = z := ⟨_, rfl⟩
  refine lv_i2c hx hb dJ1_charAt_3b067_13 ev4 ?_
  refine W.widen (k := 0) (n := 0) (by decide) (by decide) ?_
  exact W.zret (v := v4) hx hb hr (xnarc ev3 ev4) (fun t ht hW => ⟨⟨v4, v4, rfl, ⟨rfl, (xnarc ev3 ev4)⟩, ⟨(by rw [← ev4, ev3, ← ev2]; exact hM), xB_of9 ht hW hP hK hD [] (by decide +kernel) rfl⟩⟩, hS.F ht⟩) hS.2.2 dJ1_charAt_3b067_14
def K_s_charAt_2 (r2 : Int32) : (Int32) := (r2)
def K_s_charAt_1 (ix : Nat) (k0 : Int32) : (Int32) := ((fun t9 => (K_s_charAt_2 t9)) (M_s_charAt1 ix k0))
def M_s_charAt (ix : Nat) (k0 : Int32) : (Int32) := (K_s_charAt_1 ix k0)
abbrev W_s_charAt (cI cJ cZ cG cH : ClassId) (k0 : Int32) (adK : Nat → Nat) (adV : Nat → Nat) (tI : Nat) (ix : Nat) (n : Nat) : va_W := []
abbrev Q_s_charAt (D : va_G) (cI cJ cZ cG cH : ClassId) (k0 : Int32) (adK : Nat → Nat) (adV : Nat → Nat) (tI : Nat) (ix : Nat) (n : Nat) (A : Nat → Prop) : Array Value → State → Outcome → State → Prop := va_Qi (fun (r : Int32) (u9 : Int32) => r = u9 ∧ (narrow .char (.int r) = .int r)) (fun u9 t => (M_s_charAt ix k0 = (u9)) ∧ xB D (tyL cI cJ cZ cG cH) [] A t) A
abbrev rm_s_charAt : Room := { frames := 3, cells := 0, slots := 0, locals := 64 }
set_option maxRecDepth 100000 in
set_option maxHeartbeats 40000000 in
theorem c_s_charAt (l : Launch) (D : va_G) (cI cJ cZ cG cH : ClassId) (sz : Nat) (k0 : Int32) (adK : Nat → Nat) (adV : Nat → Nat) (tI : Nat) (ix : Nat) (n : Nat) (hix : ix < 9) (hn : xlen.getD ix 0 = n) (hn6 : n ≤ 6) (hk : 0 ≤ k0.toInt ∧ k0.toInt < (n : Int)) : Met l yJ0_charAt_5068e (wt yJ0_charAt_5068e cJ0_charAt_5068e 2 (some .char)) rm_s_charAt (xPcE [.ref (adK ix), .int k0] D (tyL cI cJ cZ cG cH) (W_s_charAt cI cJ cZ cG cH k0 adK adV tI ix n) adK adV tI sz) (Q_s_charAt D cI cJ cZ cG cH k0 adK adV tI ix n (va_A (W_s_charAt cI cJ cZ cG cH k0 adK adV tI ix n) sz)) 0 0 (va_A (W_s_charAt cI cJ cZ cG cH k0 adK adV tI ix n) sz) := by
  refine xMetE (cc := cJ0_charAt_5068e) (maxL := 2) (ret := (some .char)) (Qf := Q_s_charAt D cI cJ cZ cG cH k0 adK adV tI ix n) (by decide) rfl (Nat.le_of_ble_eq_true rfl) ?_
  intro p e s m below meth c ls A hx hb hr hml hts hown hlocks hnm hsz hP hK hD hA hS hl hE
  have hown : s.vm.findClass RJ0 = some m.cls := hown
  have hP : va_P D vwCl [] s.heap := hP
  have hD : va_D A [] := hD
  have hl : lv_has ls 2 [(0, .ref (adK ix)), (1, .int k0)] := hl
  have hM : M_s_charAt ix k0 = (K_s_charAt_1 ix k0) := rfl
  refine lv_aload_n hx hb dJ0_charAt_5068e_0 rfl (lv_at hl 0 rfl) ?_
  obtain ⟨hPc, hDc, hFc, hC9⟩ := xpk (wc := W_s_latin cI cJ cZ cG cH adK adV tI ix n) hP hD hS hA [] (by decide +kernel) rfl
  refine va_calli (va_runV (As := []) (rest := []) ⟨hx, hb, hml, hown, hts⟩ (c_s_latin l D cI cJ cZ cG cH s.heap.size adK adV tI ix n (by first | decide | assumption) (by first | decide | assumption) (by first | decide | assumption)) (cwV 0 hts (xGV tbC wd301 wd302 wd303 wd62 wd974) rfl rfl rfl (by decide +kernel) ⟨Nat.le_of_ble_eq_true rfl, Nat.le_of_ble_eq_true rfl⟩) ⟨xPcE_blind, vk_recv hE.S (i := ix) (by first | decide | assumption) hS, xPcE_pre hPc hK hDc hE hS hFc⟩ rfl rfl hl.1 rfl (lv_room (Nat.le_of_ble_eq_true rfl)) dJ0_charAt_5068e_1 ⟨Nat.le_of_ble_eq_true rfl, Nat.le_of_ble_eq_true rfl⟩) hS (fun q _ h => hFc q h) hFc (fun r1 u t H1 locs ht hvm hw1 hB hz1 hk1 hS => ?_)
  obtain ⟨hP1, hK1, hD1⟩ := hB
  rw [ht] at hP1
  obtain ⟨hP, hD⟩ : xPD D A [] H1 := xjn 0 hP hD [] [] hC9 rfl (by decide +kernel) (by decide +kernel) hk1 hFc hP1 hD1
  generalize H1 = H at hP hS ⊢
  obtain rfl : r1 = 1 := hw1
  refine lv_if_eq (tgt := 16) hx hb dJ0_charAt_5068e_4 (by decide) (fun c9 => absurd c9 (by decide)) (fun _ => ?_)
  refine lv_aload_n hx hb dJ0_charAt_5068e_7 rfl (lv_at hl 0 rfl) ?_
  refine vk_getf (v := .ref (adV ix)) hx hb (hE.S.1 ix (by first | decide | assumption)).2.2.1 hS hown (hts (.fieldLink RJ0 9 "java/lang/String" "value" "[B") (tbC _ wd946)) (fun _ h9 => h9) dJ0_charAt_5068e_8 ?_
  refine lv_iload_n hx hb dJ0_charAt_5068e_11 rfl (lv_at hl 1 rfl) ?_
  obtain ⟨hPc, hDc, hFc, hC9⟩ := xpk (wc := W_s_charAt1 cI cJ cZ cG cH k0 adK adV tI ix n) hP hD hS hA [] (by decide +kernel) rfl
  refine va_calli (va_runS (As := [.ref (adV ix), .int k0]) (rest := []) ⟨hx, hb, hml, hown, hts⟩ (c_s_charAt1 l D cI cJ cZ cG cH H.size k0 adK adV tI ix n (by first | decide | assumption) (by first | decide | assumption) (by first | decide | assumption) ⟨by omega, by omega⟩) (va_cwS 2 hts (xGS tbC wd304 wd305 wd63 wd975) rfl rfl rfl (by decide +kernel) ⟨Nat.le_of_ble_eq_true rfl, Nat.le_of_ble_eq_true rfl⟩) ⟨xPcE_blind, xPcE_pre hPc hK hDc hE hS hFc⟩ rfl rfl hl.1 rfl (lv_room (Nat.le_of_ble_eq_true rfl)) dJ0_charAt_5068e_12 ⟨Nat.le_of_ble_eq_true rfl, Nat.le_of_ble_eq_true rfl⟩) hS (fun q _ h => hFc q h) hFc (fun r2 u t H1 locs ht hvm hw2 hB hz1 hk1 hS => ?_)
  obtain ⟨hru9, hw2⟩ := hw2
  subst hru9
  obtain ⟨hf2_0, hP1, hK1, hD1⟩ := hB
  rw [ht] at hP1
  obtain ⟨hP, hD⟩ : xPD D A [] H1 := xjn 0 hP hD [] [] hC9 rfl (by decide +kernel) (by decide +kernel) hk1 hFc hP1 hD1
  generalize H1 = H at hP hS ⊢
  have hf2_0 : M_s_charAt1 ix k0 = (r2) := hf2_0
  have hw2 : narrow .char (.int r2) = .int r2 := hw2
  have h9M := congrArg (fun t9 => (K_s_charAt_2 t9)) hf2_0
  have hM : M_s_charAt ix k0 = (K_s_charAt_2 r2) := (show M_s_charAt ix k0 = ((fun t9 => (K_s_charAt_2 t9)) (M_s_charAt1 ix k0)) from hM).trans h9M
  refine W.widen (k := 0) (n := 0) (by decide) (by decide) ?_
  exact W.zret (v := r2) hx hb hr hw2 (fun t ht hW => ⟨⟨r2, r2, rfl, ⟨rfl, hw2⟩, ⟨hM, xB_of9 ht hW hP hK hD [] (by decide +kernel) rfl⟩⟩, hS.F ht⟩) hS.2.2 dJ0_charAt_5068e_15
