def K_q_s_charAt1_1 (ix : Nat) (k0 : Int32) : (Int32) := (((((((xbyt.getD ix []).getD (k0 : Int32).toNatClampNeg 0) &&& (255 : Int32)) : Int32).toUInt32 % 65536).toInt32))
def M_q_s_charAt1 (ix : Nat) (k0 : Int32) : (Int32) := (K_q_s_charAt1_1 ix k0)
abbrev W_q_s_charAt1 (cI cJ cZ cG cH : ClassId) (k0 : Int32) (adK : Nat → Nat) (adV : Nat → Nat) (tI : Nat) (ix : Nat) (n : Nat) : va_W := []
abbrev Q_q_s_charAt1 (D : va_G) (cI cJ cZ cG cH : ClassId) (k0 : Int32) (adK : Nat → Nat) (adV : Nat → Nat) (tI : Nat) (ix : Nat) (n : Nat) (A : Nat → Prop) : Array Value → State → Outcome → State → Prop := va_Qi (fun (r : Int32) (u9 : Int32) => r = u9 ∧ (narrow .char (.int r) = .int r)) (fun u9 t => (M_q_s_charAt1 ix k0 = (u9)) ∧ xB D (tyL cI cJ cZ cG cH) [] A t) A
abbrev rm_q_s_charAt1 : Room := { frames := 2, cells := 0, slots := 0, locals := 43 }
set_option maxRecDepth 100000 in
set_option maxHeartbeats 40000000 in
theorem c_q_s_charAt1 (l : Launch) (D : va_G) (cI cJ cZ cG cH : ClassId) (sz : Nat) (k0 : Int32) (adK : Nat → Nat) (adV : Nat → Nat) (tI : Nat) (ix : Nat) (n : Nat) (hix : ix < 9) (hn : xlen.getD ix 0 = n) (hn6 : n ≤ 6) (hk : 0 ≤ k0.toInt ∧ k0.toInt < (n : Int)) : Met l yJ1_charAt_3b067 (wt yJ1_charAt_3b067 cJ1_charAt_3b067 2 (some .char)) rm_q_s_charAt1 (xPcE [.ref (adV ix), .int k0] D (tyL cI cJ cZ cG cH) (W_q_s_charAt1 cI cJ cZ cG cH k0 adK adV tI ix n) adK adV tI sz) (Q_q_s_charAt1 D cI cJ cZ cG cH k0 adK adV tI ix n (va_A (W_q_s_charAt1 cI cJ cZ cG cH k0 adK adV tI ix n) sz)) 0 0 (va_A (W_q_s_charAt1 cI cJ cZ cG cH k0 adK adV tI ix n) sz) := by
  refine xMetE (cc := cJ1_charAt_3b067) (maxL := 2) (ret := (some .char)) (Qf := Q_q_s_charAt1 D cI cJ cZ cG cH k0 adK adV tI ix n) (by decide) rfl (Nat.le_of_ble_eq_true rfl) ?_
  intro p e s m below meth c ls A hx hb hr hml hts hown hlocks hnm hsz hP hK hD hA hS hl hE
  have hown : s.vm.findClass RJ1 = some m.cls := hown
  have hP : va_P D vwCl [] s.heap := hP
  have hD : va_D A [] := hD
  have hl : lv_has ls 2 [(0, .ref (adV ix)), (1, .int k0)] := hl
  have hM : M_q_s_charAt1 ix k0 = (K_q_s_charAt1_1 ix k0) := rfl
  refine lv_iload_n hx hb dJ1_charAt_3b067_0 rfl (lv_at hl 1 rfl) ?_
  refine lv_aload_n hx hb dJ1_charAt_3b067_1 rfl (lv_at hl 0 rfl) ?_
  refine va_tlen (v := nI n) hx hb (hE.S.1 ix (by first | assumption | decide)).2.2.2 hS (by rw [hn]; rfl) dJ1_charAt_3b067_2 ?_
  obtain ⟨hPc, hDc, hFc, hC9⟩ := xpk (wc := W_s_check cI cJ cZ cG cH k0 (nI n) adK adV tI) hP hD hS hA [] (by decide +kernel) rfl
  refine va_callv (va_runS (As := [.int k0, .int (nI n)]) (rest := []) ⟨hx, hb, hml, hown, hts⟩ (c_s_check l D cI cJ cZ cG cH s.heap.size k0 (nI n) adK adV tI (by rw [show (k0 : Int32).toInt = k0.toInt from rfl, show ((nI n) : Int32).toInt = ((n : Nat) : Int) from (nI_toInt (by omega))]; omega)) (va_cwS 2 hts (xGS tbC wd296 wd297 wd275 wd298) rfl rfl rfl (by decide +kernel) ⟨Nat.le_of_ble_eq_true rfl, Nat.le_of_ble_eq_true rfl⟩) ⟨xPcE_blind, xPcE_pre hPc hK hDc hE hS hFc⟩ rfl rfl hl.1 rfl (lv_room (Nat.le_of_ble_eq_true rfl)) dJ1_charAt_3b067_3 ⟨Nat.le_of_ble_eq_true rfl, Nat.le_of_ble_eq_true rfl⟩) hS (fun q _ h => hFc q h) hFc (fun u t H1 locs ht hvm hw1 hB hz1 hk1 hS => ?_)
  obtain ⟨hP1, hK1, hD1⟩ := hB
  rw [ht] at hP1
  obtain ⟨hP, hD⟩ : xPD D A [] H1 := xjn 0 hP hD [] [] hC9 rfl (by decide +kernel) (by decide +kernel) hk1 hFc hP1 hD1
  generalize H1 = H at hP hS ⊢
  refine lv_aload_n hx hb dJ1_charAt_3b067_6 rfl (lv_at hl 0 rfl) ?_
  refine lv_iload_n hx hb dJ1_charAt_3b067_7 rfl (lv_at hl 1 rfl) ?_
  obtain ⟨v2, ev2⟩ : ∃ z9 : Int32, (xbyt.getD ix []).getD (k0 : Int32).toNatClampNeg 0 = z9 := ⟨_, rfl⟩
  refine va_tb (v := .int v2) hx hb (hE.S.1 ix (by first | assumption | decide)).2.2.2 hS (by rw [hn]; exact (vp_in_iff.mpr ⟨by omega, by omega⟩)) (congrArg Value.int ev2) dJ1_charAt_3b067_8 ?_
  refine lv_sipush (v := 255) hx hb dJ1_charAt_3b067_9 (by decide) ?_
  refine lv_iand hx hb dJ1_charAt_3b067_12 ?_
  refine lv_topi (fun v3 ev3 => ?_)
  have rv3 : 0 ≤ v3.toInt ∧ v3.toInt ≤ 255 := xandL ev3 (show (255 : Int32).toInt = 255 from (by decide)) (by omega)
  obtain ⟨v4, ev4⟩ : ∃ z : Int32, ((v3 : Int32).toUInt32 % 65536).toInt32 = z := ⟨_, rfl⟩
  refine lv_i2c hx hb dJ1_charAt_3b067_13 ev4 ?_
  refine W.widen (k := 0) (n := 0) (by decide) (by decide) ?_
  exact W.zret (v := v4) hx hb hr (xnarc ev3 ev4) (fun t ht hW => ⟨⟨v4, v4, rfl, ⟨rfl, (xnarc ev3 ev4)⟩, ⟨(by rw [← ev4, ev3, ← ev2]; exact hM), xB_of9 ht hW hP hK hD [] (by decide +kernel) rfl⟩⟩, hS.F ht⟩) hS.2.2 dJ1_charAt_3b067_14
def K_q_s_charAt_2 (r2 : Int32) : (Int32) := (r2)
def K_q_s_charAt_1 (ix : Nat) (k0 : Int32) : (Int32) := ((fun t9 => (K_q_s_charAt_2 t9)) (M_q_s_charAt1 ix k0))
def M_q_s_charAt (ix : Nat) (k0 : Int32) : (Int32) := (K_q_s_charAt_1 ix k0)
abbrev W_q_s_charAt (cI cJ cZ cG cH : ClassId) (k0 : Int32) (adK : Nat → Nat) (adV : Nat → Nat) (tI : Nat) (ix : Nat) (n : Nat) : va_W := []
abbrev Q_q_s_charAt (D : va_G) (cI cJ cZ cG cH : ClassId) (k0 : Int32) (adK : Nat → Nat) (adV : Nat → Nat) (tI : Nat) (ix : Nat) (n : Nat) (A : Nat → Prop) : Array Value → State → Outcome → State → Prop := va_Qi (fun (r : Int32) (u9 : Int32) => r = u9 ∧ (narrow .char (.int r) = .int r)) (fun u9 t => (M_q_s_charAt ix k0 = (u9)) ∧ xB D (tyL cI cJ cZ cG cH) [] A t) A
abbrev rm_q_s_charAt : Room := { frames := 3, cells := 0, slots := 0, locals := 64 }
set_option maxRecDepth 100000 in
set_option maxHeartbeats 40000000 in
theorem c_q_s_charAt (l : Launch) (D : va_G) (cI cJ cZ cG cH : ClassId) (sz : Nat) (k0 : Int32) (adK : Nat → Nat) (adV : Nat → Nat) (tI : Nat) (ix : Nat) (n : Nat) (hix : ix < 9) (hn : xlen.getD ix 0 = n) (hn6 : n ≤ 6) (hk : 0 ≤ k0.toInt ∧ k0.toInt < (n : Int)) : Met l yJ0_charAt_5068e (wt yJ0_charAt_5068e cJ0_charAt_5068e 2 (some .char)) rm_q_s_charAt (xPcE [.ref (adK ix), .int k0] D (tyL cI cJ cZ cG cH) (W_q_s_charAt cI cJ cZ cG cH k0 adK adV tI ix n) adK adV tI sz) (Q_q_s_charAt D cI cJ cZ cG cH k0 adK adV tI ix n (va_A (W_q_s_charAt cI cJ cZ cG cH k0 adK adV tI ix n) sz)) 0 0 (va_A (W_q_s_charAt cI cJ cZ cG cH k0 adK adV tI ix n) sz) := by
  refine xMetE (cc := cJ0_charAt_5068e) (maxL := 2) (ret := (some .char)) (Qf := Q_q_s_charAt D cI cJ cZ cG cH k0 adK adV tI ix n) (by decide) rfl (Nat.le_of_ble_eq_true rfl) ?_
  intro p e s m below meth c ls A hx hb hr hml hts hown hlocks hnm hsz hP hK hD hA hS hl hE
  have hown : s.vm.findClass RJ0 = some m.cls := hown
  have hP : va_P D vwCl [] s.heap := hP
  have hD : va_D A [] := hD
  have hl : lv_has ls 2 [(0, .ref (adK ix)), (1, .int k0)] := hl
  have hM : M_q_s_charAt ix k0 = (K_q_s_charAt_1 ix k0) := rfl
  refine lv_aload_n hx hb dJ0_charAt_5068e_0 rfl (lv_at hl 0 rfl) ?_
  obtain ⟨hPc, hDc, hFc, hC9⟩ := xpk (wc := W_s_latin cI cJ cZ cG cH adK adV tI ix n) hP hD hS hA [] (by decide +kernel) rfl
  refine va_calli (va_runV (As := []) (rest := []) ⟨hx, hb, hml, hown, hts⟩ (c_s_latin l D cI cJ cZ cG cH s.heap.size adK adV tI ix n (by first | assumption | decide) (by first | assumption | decide) (by first | assumption | decide)) (cwV 0 hts (xGV tbC wd288 wd289 wd290 wd275 wd291) rfl rfl rfl (by decide +kernel) ⟨Nat.le_of_ble_eq_true rfl, Nat.le_of_ble_eq_true rfl⟩) ⟨xPcE_blind, vk_recv hE.S (i := ix) (by first | assumption | decide) hS, xPcE_pre hPc hK hDc hE hS hFc⟩ rfl rfl hl.1 rfl (lv_room (Nat.le_of_ble_eq_true rfl)) dJ0_charAt_5068e_1 ⟨Nat.le_of_ble_eq_true rfl, Nat.le_of_ble_eq_true rfl⟩) hS (fun q _ h => hFc q h) hFc (fun r1 u t H1 locs ht hvm hw1 hB hz1 hk1 hS => ?_)
  obtain ⟨hP1, hK1, hD1⟩ := hB
  rw [ht] at hP1
  obtain ⟨hP, hD⟩ : xPD D A [] H1 := xjn 0 hP hD [] [] hC9 rfl (by decide +kernel) (by decide +kernel) hk1 hFc hP1 hD1
  generalize H1 = H at hP hS ⊢
  obtain rfl : r1 = 1 := hw1
  refine lv_if_eq (tgt := 16) hx hb dJ0_charAt_5068e_4 (by decide) (fun c9 => absurd c9 (by decide)) (fun _ => ?_)
  refine lv_aload_n hx hb dJ0_charAt_5068e_7 rfl (lv_at hl 0 rfl) ?_
  refine vk_getf (v := .ref (adV ix)) hx hb (hE.S.1 ix (by first | assumption | decide)).2.2.1 hS hown (hts (.fieldLink RJ0 9 "java/lang/String" "value" "[B") (tbC _ wd277)) (fun _ h9 => h9) dJ0_charAt_5068e_8 ?_
  refine lv_iload_n hx hb dJ0_charAt_5068e_11 rfl (lv_at hl 1 rfl) ?_
  obtain ⟨hPc, hDc, hFc, hC9⟩ := xpk (wc := W_q_s_charAt1 cI cJ cZ cG cH k0 adK adV tI ix n) hP hD hS hA [] (by decide +kernel) rfl
  refine va_calli (va_runS (As := [.ref (adV ix), .int k0]) (rest := []) ⟨hx, hb, hml, hown, hts⟩ (c_q_s_charAt1 l D cI cJ cZ cG cH H.size k0 adK adV tI ix n (by first | assumption | decide) (by first | assumption | decide) (by first | assumption | decide) ⟨by omega, by omega⟩) (va_cwS 2 hts (xGS tbC wd292 wd293 wd294 wd295) rfl rfl rfl (by decide +kernel) ⟨Nat.le_of_ble_eq_true rfl, Nat.le_of_ble_eq_true rfl⟩) ⟨xPcE_blind, xPcE_pre hPc hK hDc hE hS hFc⟩ rfl rfl hl.1 rfl (lv_room (Nat.le_of_ble_eq_true rfl)) dJ0_charAt_5068e_12 ⟨Nat.le_of_ble_eq_true rfl, Nat.le_of_ble_eq_true rfl⟩) hS (fun q _ h => hFc q h) hFc (fun r2 u t H1 locs ht hvm hw2 hB hz1 hk1 hS => ?_)
  obtain ⟨hru9, hw2⟩ := hw2
  subst hru9
  obtain ⟨hf2_0, hP1, hK1, hD1⟩ := hB
  rw [ht] at hP1
  obtain ⟨hP, hD⟩ : xPD D A [] H1 := xjn 0 hP hD [] [] hC9 rfl (by decide +kernel) (by decide +kernel) hk1 hFc hP1 hD1
  generalize H1 = H at hP hS ⊢
  have hf2_0 : M_q_s_charAt1 ix k0 = (r2) := hf2_0
  have hw2 : narrow .char (.int r2) = .int r2 := hw2
  have hM : M_q_s_charAt ix k0 = (K_q_s_charAt_2 r2) := (show M_q_s_charAt ix k0 = ((fun t9 => (K_q_s_charAt_2 t9)) (M_q_s_charAt1 ix k0)) from hM).trans (congrArg (fun t9 => (K_q_s_charAt_2 t9)) hf2_0)
  refine W.widen (k := 0) (n := 0) (by decide) (by decide) ?_
  exact W.zret (v := r2) hx hb hr hw2 (fun t ht hW => ⟨⟨r2, r2, rfl, ⟨rfl, hw2⟩, ⟨hM, xB_of9 ht hW hP hK hD [] (by decide +kernel) rfl⟩⟩, hS.F ht⟩) hS.2.2 dJ0_charAt_5068e_15
