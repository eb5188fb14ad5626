def dok (c : ByteArray) : List (Nat × Instr × Nat) → Bool
  | [] => true
  | q :: l => (decide (decode c q.1 = .ok q.2)) && dok c l
theorem dok_at {c : ByteArray} {l : List (Nat × Instr × Nat)} (h : dok c l = true) (i : Nat) {p n : Nat} {x : Instr} (e : l[i]? = some (p, x, n)) : decode c p = .ok (x, n) := by
  induction l generalizing i with
  | nil => cases e
  | cons q l ih =>
    unfold dok at h
    rw [Bool.and_eq_true] at h
    cases i with
    | zero => cases e; exact of_decide_eq_true h.1
    | succ i => exact ih h.2 i e
def dX0_init_l0 : List (Nat × Instr × Nat) := [(0, .aload_n 0, 1), (1, .invokespecial 3, 3), (4, .aload_n 0, 1), (5, .bipush 8, 2), (7, .newarray .int, 2), (9, .putfield 9, 3), (12, .aload_n 0, 1), (13, .bipush 8, 2), (15, .newarray .int, 2), (17, .putfield 15, 3), (20, .aload_n 0, 1), (21, .bipush 8, 2), (23, .newarray .int, 2), (25, .putfield 18, 3), (28, .aload_n 0, 1), (29, .bipush 8, 2), (31, .newarray .int, 2), (33, .putfield 21, 3), (36, .aload_n 0, 1), (37, .sipush 145, 3), (40, .newarray .int, 2), (42, .putfield 24, 3), (45, .return_, 1)]
theorem gdX0_init_l0 : dok cX0_init dX0_init_l0 = true := by decide +kernel
theorem dX0_init_0 : decode cX0_init 0 = .ok (.aload_n 0, 1) := dok_at gdX0_init_l0 0 rfl
theorem dX0_init_1 : decode cX0_init 1 = .ok (.invokespecial 3, 3) := dok_at gdX0_init_l0 1 rfl
theorem dX0_init_4 : decode cX0_init 4 = .ok (.aload_n 0, 1) := dok_at gdX0_init_l0 2 rfl
theorem dX0_init_5 : decode cX0_init 5 = .ok (.bipush 8, 2) := dok_at gdX0_init_l0 3 rfl
theorem dX0_init_7 : decode cX0_init 7 = .ok (.newarray .int, 2) := dok_at gdX0_init_l0 4 rfl
theorem dX0_init_9 : decode cX0_init 9 = .ok (.putfield 9, 3) := dok_at gdX0_init_l0 5 rfl
theorem dX0_init_12 : decode cX0_init 12 = .ok (.aload_n 0, 1) := dok_at gdX0_init_l0 6 rfl
theorem dX0_init_13 : decode cX0_init 13 = .ok (.bipush 8, 2) := dok_at gdX0_init_l0 7 rfl
theorem dX0_init_15 : decode cX0_init 15 = .ok (.newarray .int, 2) := dok_at gdX0_init_l0 8 rfl
theorem dX0_init_17 : decode cX0_init 17 = .ok (.putfield 15, 3) := dok_at gdX0_init_l0 9 rfl
theorem dX0_init_20 : decode cX0_init 20 = .ok (.aload_n 0, 1) := dok_at gdX0_init_l0 10 rfl
theorem dX0_init_21 : decode cX0_init 21 = .ok (.bipush 8, 2) := dok_at gdX0_init_l0 11 rfl
theorem dX0_init_23 : decode cX0_init 23 = .ok (.newarray .int, 2) := dok_at gdX0_init_l0 12 rfl
theorem dX0_init_25 : decode cX0_init 25 = .ok (.putfield 18, 3) := dok_at gdX0_init_l0 13 rfl
theorem dX0_init_28 : decode cX0_init 28 = .ok (.aload_n 0, 1) := dok_at gdX0_init_l0 14 rfl
theorem dX0_init_29 : decode cX0_init 29 = .ok (.bipush 8, 2) := dok_at gdX0_init_l0 15 rfl
theorem dX0_init_31 : decode cX0_init 31 = .ok (.newarray .int, 2) := dok_at gdX0_init_l0 16 rfl
theorem dX0_init_33 : decode cX0_init 33 = .ok (.putfield 21, 3) := dok_at gdX0_init_l0 17 rfl
theorem dX0_init_36 : decode cX0_init 36 = .ok (.aload_n 0, 1) := dok_at gdX0_init_l0 18 rfl
theorem dX0_init_37 : decode cX0_init 37 = .ok (.sipush 145, 3) := dok_at gdX0_init_l0 19 rfl
theorem dX0_init_40 : decode cX0_init 40 = .ok (.newarray .int, 2) := dok_at gdX0_init_l0 20 rfl
theorem dX0_init_42 : decode cX0_init 42 = .ok (.putfield 24, 3) := dok_at gdX0_init_l0 21 rfl
theorem dX0_init_45 : decode cX0_init 45 = .ok (.return_, 1) := dok_at gdX0_init_l0 22 rfl
def dX0_setWaits_l0 : List (Nat × Instr × Nat) := [(0, .iconst 0, 1), (1, .istore_n 2, 1), (2, .iload_n 2, 1), (3, .aload_n 1, 1), (4, .getfield 27, 3), (7, .if_icmp .ge 21, 3), (10, .aload_n 0, 1), (11, .getfield 9, 3), (14, .iload_n 2, 1), (15, .aload_n 1, 1), (16, .iload_n 2, 1), (17, .iconst 5, 1), (18, .invokevirtual 33, 3), (21, .iastore, 1), (22, .iinc 2 1, 3), (25, .goto (-23), 3), (28, .return_, 1)]
theorem gdX0_setWaits_l0 : dok cX0_setWaits dX0_setWaits_l0 = true := by decide +kernel
theorem dX0_setWaits_0 : decode cX0_setWaits 0 = .ok (.iconst 0, 1) := dok_at gdX0_setWaits_l0 0 rfl
theorem dX0_setWaits_1 : decode cX0_setWaits 1 = .ok (.istore_n 2, 1) := dok_at gdX0_setWaits_l0 1 rfl
theorem dX0_setWaits_2 : decode cX0_setWaits 2 = .ok (.iload_n 2, 1) := dok_at gdX0_setWaits_l0 2 rfl
theorem dX0_setWaits_3 : decode cX0_setWaits 3 = .ok (.aload_n 1, 1) := dok_at gdX0_setWaits_l0 3 rfl
theorem dX0_setWaits_4 : decode cX0_setWaits 4 = .ok (.getfield 27, 3) := dok_at gdX0_setWaits_l0 4 rfl
theorem dX0_setWaits_7 : decode cX0_setWaits 7 = .ok (.if_icmp .ge 21, 3) := dok_at gdX0_setWaits_l0 5 rfl
theorem dX0_setWaits_10 : decode cX0_setWaits 10 = .ok (.aload_n 0, 1) := dok_at gdX0_setWaits_l0 6 rfl
theorem dX0_setWaits_11 : decode cX0_setWaits 11 = .ok (.getfield 9, 3) := dok_at gdX0_setWaits_l0 7 rfl
theorem dX0_setWaits_14 : decode cX0_setWaits 14 = .ok (.iload_n 2, 1) := dok_at gdX0_setWaits_l0 8 rfl
theorem dX0_setWaits_15 : decode cX0_setWaits 15 = .ok (.aload_n 1, 1) := dok_at gdX0_setWaits_l0 9 rfl
theorem dX0_setWaits_16 : decode cX0_setWaits 16 = .ok (.iload_n 2, 1) := dok_at gdX0_setWaits_l0 10 rfl
theorem dX0_setWaits_17 : decode cX0_setWaits 17 = .ok (.iconst 5, 1) := dok_at gdX0_setWaits_l0 11 rfl
theorem dX0_setWaits_18 : decode cX0_setWaits 18 = .ok (.invokevirtual 33, 3) := dok_at gdX0_setWaits_l0 12 rfl
theorem dX0_setWaits_21 : decode cX0_setWaits 21 = .ok (.iastore, 1) := dok_at gdX0_setWaits_l0 13 rfl
theorem dX0_setWaits_22 : decode cX0_setWaits 22 = .ok (.iinc 2 1, 3) := dok_at gdX0_setWaits_l0 14 rfl
theorem dX0_setWaits_25 : decode cX0_setWaits 25 = .ok (.goto (-23), 3) := dok_at gdX0_setWaits_l0 15 rfl
theorem dX0_setWaits_28 : decode cX0_setWaits 28 = .ok (.return_, 1) := dok_at gdX0_setWaits_l0 16 rfl
def dX0_setTakes_l0 : List (Nat × Instr × Nat) := [(0, .iconst 0, 1), (1, .istore_n 3, 1), (2, .iload_n 3, 1), (3, .aload_n 1, 1), (4, .getfield 27, 3), (7, .if_icmp .ge 21, 3), (10, .aload_n 0, 1), (11, .getfield 15, 3), (14, .iload_n 3, 1), (15, .aload_n 1, 1), (16, .iload_n 3, 1), (17, .iload_n 2, 1), (18, .invokevirtual 33, 3), (21, .iastore, 1), (22, .iinc 3 1, 3), (25, .goto (-23), 3), (28, .return_, 1)]
theorem gdX0_setTakes_l0 : dok cX0_setTakes dX0_setTakes_l0 = true := by decide +kernel
theorem dX0_setTakes_0 : decode cX0_setTakes 0 = .ok (.iconst 0, 1) := dok_at gdX0_setTakes_l0 0 rfl
theorem dX0_setTakes_1 : decode cX0_setTakes 1 = .ok (.istore_n 3, 1) := dok_at gdX0_setTakes_l0 1 rfl
theorem dX0_setTakes_2 : decode cX0_setTakes 2 = .ok (.iload_n 3, 1) := dok_at gdX0_setTakes_l0 2 rfl
theorem dX0_setTakes_3 : decode cX0_setTakes 3 = .ok (.aload_n 1, 1) := dok_at gdX0_setTakes_l0 3 rfl
theorem dX0_setTakes_4 : decode cX0_setTakes 4 = .ok (.getfield 27, 3) := dok_at gdX0_setTakes_l0 4 rfl
theorem dX0_setTakes_7 : decode cX0_setTakes 7 = .ok (.if_icmp .ge 21, 3) := dok_at gdX0_setTakes_l0 5 rfl
theorem dX0_setTakes_10 : decode cX0_setTakes 10 = .ok (.aload_n 0, 1) := dok_at gdX0_setTakes_l0 6 rfl
theorem dX0_setTakes_11 : decode cX0_setTakes 11 = .ok (.getfield 15, 3) := dok_at gdX0_setTakes_l0 7 rfl
theorem dX0_setTakes_14 : decode cX0_setTakes 14 = .ok (.iload_n 3, 1) := dok_at gdX0_setTakes_l0 8 rfl
theorem dX0_setTakes_15 : decode cX0_setTakes 15 = .ok (.aload_n 1, 1) := dok_at gdX0_setTakes_l0 9 rfl
theorem dX0_setTakes_16 : decode cX0_setTakes 16 = .ok (.iload_n 3, 1) := dok_at gdX0_setTakes_l0 10 rfl
theorem dX0_setTakes_17 : decode cX0_setTakes 17 = .ok (.iload_n 2, 1) := dok_at gdX0_setTakes_l0 11 rfl
theorem dX0_setTakes_18 : decode cX0_setTakes 18 = .ok (.invokevirtual 33, 3) := dok_at gdX0_setTakes_l0 12 rfl
theorem dX0_setTakes_21 : decode cX0_setTakes 21 = .ok (.iastore, 1) := dok_at gdX0_setTakes_l0 13 rfl
theorem dX0_setTakes_22 : decode cX0_setTakes 22 = .ok (.iinc 3 1, 3) := dok_at gdX0_setTakes_l0 14 rfl
theorem dX0_setTakes_25 : decode cX0_setTakes 25 = .ok (.goto (-23), 3) := dok_at gdX0_setTakes_l0 15 rfl
theorem dX0_setTakes_28 : decode cX0_setTakes 28 = .ok (.return_, 1) := dok_at gdX0_setTakes_l0 16 rfl
def dX0_copyTakes_l0 : List (Nat × Instr × Nat) := [(0, .aload_n 1, 1), (1, .iconst 0, 1), (2, .aload_n 0, 1), (3, .getfield 15, 3), (6, .iconst 0, 1), (7, .bipush 8, 2), (9, .invokestatic 37, 3), (12, .return_, 1)]
theorem gdX0_copyTakes_l0 : dok cX0_copyTakes dX0_copyTakes_l0 = true := by decide +kernel
theorem dX0_copyTakes_0 : decode cX0_copyTakes 0 = .ok (.aload_n 1, 1) := dok_at gdX0_copyTakes_l0 0 rfl
theorem dX0_copyTakes_1 : decode cX0_copyTakes 1 = .ok (.iconst 0, 1) := dok_at gdX0_copyTakes_l0 1 rfl
theorem dX0_copyTakes_2 : decode cX0_copyTakes 2 = .ok (.aload_n 0, 1) := dok_at gdX0_copyTakes_l0 2 rfl
theorem dX0_copyTakes_3 : decode cX0_copyTakes 3 = .ok (.getfield 15, 3) := dok_at gdX0_copyTakes_l0 3 rfl
theorem dX0_copyTakes_6 : decode cX0_copyTakes 6 = .ok (.iconst 0, 1) := dok_at gdX0_copyTakes_l0 4 rfl
theorem dX0_copyTakes_7 : decode cX0_copyTakes 7 = .ok (.bipush 8, 2) := dok_at gdX0_copyTakes_l0 5 rfl
theorem dX0_copyTakes_9 : decode cX0_copyTakes 9 = .ok (.invokestatic 37, 3) := dok_at gdX0_copyTakes_l0 6 rfl
theorem dX0_copyTakes_12 : decode cX0_copyTakes 12 = .ok (.return_, 1) := dok_at gdX0_copyTakes_l0 7 rfl
def dX0_isUp_l0 : List (Nat × Instr × Nat) := [(0, .aload_n 0, 1), (1, .getfield 43, 3), (4, .iload_n 1, 1), (5, .ishr, 1), (6, .iconst 1, 1), (7, .iand, 1), (8, .iconst 1, 1), (9, .if_icmp .ne 7, 3), (12, .iconst 1, 1), (13, .goto 4, 3), (16, .iconst 0, 1), (17, .ireturn, 1)]
theorem gdX0_isUp_l0 : dok cX0_isUp dX0_isUp_l0 = true := by decide +kernel
theorem dX0_isUp_0 : decode cX0_isUp 0 = .ok (.aload_n 0, 1) := dok_at gdX0_isUp_l0 0 rfl
theorem dX0_isUp_1 : decode cX0_isUp 1 = .ok (.getfield 43, 3) := dok_at gdX0_isUp_l0 1 rfl
theorem dX0_isUp_4 : decode cX0_isUp 4 = .ok (.iload_n 1, 1) := dok_at gdX0_isUp_l0 2 rfl
theorem dX0_isUp_5 : decode cX0_isUp 5 = .ok (.ishr, 1) := dok_at gdX0_isUp_l0 3 rfl
theorem dX0_isUp_6 : decode cX0_isUp 6 = .ok (.iconst 1, 1) := dok_at gdX0_isUp_l0 4 rfl
theorem dX0_isUp_7 : decode cX0_isUp 7 = .ok (.iand, 1) := dok_at gdX0_isUp_l0 5 rfl
theorem dX0_isUp_8 : decode cX0_isUp 8 = .ok (.iconst 1, 1) := dok_at gdX0_isUp_l0 6 rfl
theorem dX0_isUp_9 : decode cX0_isUp 9 = .ok (.if_icmp .ne 7, 3) := dok_at gdX0_isUp_l0 7 rfl
theorem dX0_isUp_12 : decode cX0_isUp 12 = .ok (.iconst 1, 1) := dok_at gdX0_isUp_l0 8 rfl
theorem dX0_isUp_13 : decode cX0_isUp 13 = .ok (.goto 4, 3) := dok_at gdX0_isUp_l0 9 rfl
theorem dX0_isUp_16 : decode cX0_isUp 16 = .ok (.iconst 0, 1) := dok_at gdX0_isUp_l0 10 rfl
theorem dX0_isUp_17 : decode cX0_isUp 17 = .ok (.ireturn, 1) := dok_at gdX0_isUp_l0 11 rfl
def dX0_follow_l0 : List (Nat × Instr × Nat) := [(0, .iconst 0, 1), (1, .istore_n 3, 1), (2, .aload_n 0, 1), (3, .iconst 0, 1), (4, .putfield 43, 3), (7, .aload_n 0, 1), (8, .iconst 0, 1), (9, .putfield 46, 3), (12, .iconst 0, 1), (13, .istore 4, 2), (15, .iload 4, 2), (17, .bipush 8, 2), (19, .if_icmp .gt 102, 3), (22, .iload_n 3, 1), (23, .aload_n 0, 1), (24, .aload_n 1, 1), (25, .iload_n 2, 1), (26, .iload_n 3, 1), (27, .iconst (-1), 1), (28, .ixor, 1), (29, .iand, 1), (30, .invokevirtual 49, 3), (33, .ior, 1), (34, .istore_n 3, 1)]
theorem gdX0_follow_l0 : dok cX0_follow dX0_follow_l0 = true := by decide +kernel
theorem dX0_follow_0 : decode cX0_follow 0 = .ok (.iconst 0, 1) := dok_at gdX0_follow_l0 0 rfl
theorem dX0_follow_1 : decode cX0_follow 1 = .ok (.istore_n 3, 1) := dok_at gdX0_follow_l0 1 rfl
theorem dX0_follow_2 : decode cX0_follow 2 = .ok (.aload_n 0, 1) := dok_at gdX0_follow_l0 2 rfl
theorem dX0_follow_3 : decode cX0_follow 3 = .ok (.iconst 0, 1) := dok_at gdX0_follow_l0 3 rfl
theorem dX0_follow_4 : decode cX0_follow 4 = .ok (.putfield 43, 3) := dok_at gdX0_follow_l0 4 rfl
theorem dX0_follow_7 : decode cX0_follow 7 = .ok (.aload_n 0, 1) := dok_at gdX0_follow_l0 5 rfl
theorem dX0_follow_8 : decode cX0_follow 8 = .ok (.iconst 0, 1) := dok_at gdX0_follow_l0 6 rfl
theorem dX0_follow_9 : decode cX0_follow 9 = .ok (.putfield 46, 3) := dok_at gdX0_follow_l0 7 rfl
theorem dX0_follow_12 : decode cX0_follow 12 = .ok (.iconst 0, 1) := dok_at gdX0_follow_l0 8 rfl
theorem dX0_follow_13 : decode cX0_follow 13 = .ok (.istore 4, 2) := dok_at gdX0_follow_l0 9 rfl
theorem dX0_follow_15 : decode cX0_follow 15 = .ok (.iload 4, 2) := dok_at gdX0_follow_l0 10 rfl
theorem dX0_follow_17 : decode cX0_follow 17 = .ok (.bipush 8, 2) := dok_at gdX0_follow_l0 11 rfl
theorem dX0_follow_19 : decode cX0_follow 19 = .ok (.if_icmp .gt 102, 3) := dok_at gdX0_follow_l0 12 rfl
theorem dX0_follow_22 : decode cX0_follow 22 = .ok (.iload_n 3, 1) := dok_at gdX0_follow_l0 13 rfl
theorem dX0_follow_23 : decode cX0_follow 23 = .ok (.aload_n 0, 1) := dok_at gdX0_follow_l0 14 rfl
theorem dX0_follow_24 : decode cX0_follow 24 = .ok (.aload_n 1, 1) := dok_at gdX0_follow_l0 15 rfl
theorem dX0_follow_25 : decode cX0_follow 25 = .ok (.iload_n 2, 1) := dok_at gdX0_follow_l0 16 rfl
theorem dX0_follow_26 : decode cX0_follow 26 = .ok (.iload_n 3, 1) := dok_at gdX0_follow_l0 17 rfl
theorem dX0_follow_27 : decode cX0_follow 27 = .ok (.iconst (-1), 1) := dok_at gdX0_follow_l0 18 rfl
theorem dX0_follow_28 : decode cX0_follow 28 = .ok (.ixor, 1) := dok_at gdX0_follow_l0 19 rfl
theorem dX0_follow_29 : decode cX0_follow 29 = .ok (.iand, 1) := dok_at gdX0_follow_l0 20 rfl
theorem dX0_follow_30 : decode cX0_follow 30 = .ok (.invokevirtual 49, 3) := dok_at gdX0_follow_l0 21 rfl
theorem dX0_follow_33 : decode cX0_follow 33 = .ok (.ior, 1) := dok_at gdX0_follow_l0 22 rfl
theorem dX0_follow_34 : decode cX0_follow 34 = .ok (.istore_n 3, 1) := dok_at gdX0_follow_l0 23 rfl
def dX0_follow_l35 : List (Nat × Instr × Nat) := [(35, .iload_n 3, 1), (36, .aload_n 0, 1), (37, .getfield 43, 3), (40, .iconst (-1), 1), (41, .ixor, 1), (42, .iand, 1), (43, .istore 5, 2), (45, .iload 5, 2), (47, .ifCond .ne 4, 3), (50, .return_, 1), (51, .aload_n 0, 1), (52, .aload_n 0, 1), (53, .iload 5, 2), (55, .invokevirtual 53, 3), (58, .putfield 46, 3), (61, .iconst 0, 1), (62, .istore 6, 2), (64, .iload 6, 2), (66, .bipush 8, 2), (68, .if_icmp .ge 47, 3), (71, .iload 5, 2), (73, .iload 6, 2), (75, .ishr, 1), (76, .iconst 1, 1)]
theorem gdX0_follow_l35 : dok cX0_follow dX0_follow_l35 = true := by decide +kernel
theorem dX0_follow_35 : decode cX0_follow 35 = .ok (.iload_n 3, 1) := dok_at gdX0_follow_l35 0 rfl
theorem dX0_follow_36 : decode cX0_follow 36 = .ok (.aload_n 0, 1) := dok_at gdX0_follow_l35 1 rfl
theorem dX0_follow_37 : decode cX0_follow 37 = .ok (.getfield 43, 3) := dok_at gdX0_follow_l35 2 rfl
theorem dX0_follow_40 : decode cX0_follow 40 = .ok (.iconst (-1), 1) := dok_at gdX0_follow_l35 3 rfl
theorem dX0_follow_41 : decode cX0_follow 41 = .ok (.ixor, 1) := dok_at gdX0_follow_l35 4 rfl
theorem dX0_follow_42 : decode cX0_follow 42 = .ok (.iand, 1) := dok_at gdX0_follow_l35 5 rfl
theorem dX0_follow_43 : decode cX0_follow 43 = .ok (.istore 5, 2) := dok_at gdX0_follow_l35 6 rfl
theorem dX0_follow_45 : decode cX0_follow 45 = .ok (.iload 5, 2) := dok_at gdX0_follow_l35 7 rfl
theorem dX0_follow_47 : decode cX0_follow 47 = .ok (.ifCond .ne 4, 3) := dok_at gdX0_follow_l35 8 rfl
theorem dX0_follow_50 : decode cX0_follow 50 = .ok (.return_, 1) := dok_at gdX0_follow_l35 9 rfl
theorem dX0_follow_51 : decode cX0_follow 51 = .ok (.aload_n 0, 1) := dok_at gdX0_follow_l35 10 rfl
theorem dX0_follow_52 : decode cX0_follow 52 = .ok (.aload_n 0, 1) := dok_at gdX0_follow_l35 11 rfl
theorem dX0_follow_53 : decode cX0_follow 53 = .ok (.iload 5, 2) := dok_at gdX0_follow_l35 12 rfl
theorem dX0_follow_55 : decode cX0_follow 55 = .ok (.invokevirtual 53, 3) := dok_at gdX0_follow_l35 13 rfl
theorem dX0_follow_58 : decode cX0_follow 58 = .ok (.putfield 46, 3) := dok_at gdX0_follow_l35 14 rfl
theorem dX0_follow_61 : decode cX0_follow 61 = .ok (.iconst 0, 1) := dok_at gdX0_follow_l35 15 rfl
theorem dX0_follow_62 : decode cX0_follow 62 = .ok (.istore 6, 2) := dok_at gdX0_follow_l35 16 rfl
theorem dX0_follow_64 : decode cX0_follow 64 = .ok (.iload 6, 2) := dok_at gdX0_follow_l35 17 rfl
theorem dX0_follow_66 : decode cX0_follow 66 = .ok (.bipush 8, 2) := dok_at gdX0_follow_l35 18 rfl
theorem dX0_follow_68 : decode cX0_follow 68 = .ok (.if_icmp .ge 47, 3) := dok_at gdX0_follow_l35 19 rfl
theorem dX0_follow_71 : decode cX0_follow 71 = .ok (.iload 5, 2) := dok_at gdX0_follow_l35 20 rfl
theorem dX0_follow_73 : decode cX0_follow 73 = .ok (.iload 6, 2) := dok_at gdX0_follow_l35 21 rfl
theorem dX0_follow_75 : decode cX0_follow 75 = .ok (.ishr, 1) := dok_at gdX0_follow_l35 22 rfl
theorem dX0_follow_76 : decode cX0_follow 76 = .ok (.iconst 1, 1) := dok_at gdX0_follow_l35 23 rfl
def dX0_follow_l77 : List (Nat × Instr × Nat) := [(77, .iand, 1), (78, .iconst 1, 1), (79, .if_icmp .ne 30, 3), (82, .aload_n 0, 1), (83, .getfield 21, 3), (86, .iload 6, 2), (88, .iaload, 1), (89, .aload_n 0, 1), (90, .getfield 46, 3), (93, .if_icmp .ne 16, 3), (96, .aload_n 0, 1), (97, .dup, 1), (98, .getfield 43, 3), (101, .iconst 1, 1), (102, .iload 6, 2), (104, .ishl, 1), (105, .ior, 1), (106, .putfield 43, 3), (109, .iinc 6 1, 3), (112, .goto (-48), 3), (115, .iinc 4 1, 3), (118, .goto (-103), 3), (121, .return_, 1)]
theorem gdX0_follow_l77 : dok cX0_follow dX0_follow_l77 = true := by decide +kernel
theorem dX0_follow_77 : decode cX0_follow 77 = .ok (.iand, 1) := dok_at gdX0_follow_l77 0 rfl
theorem dX0_follow_78 : decode cX0_follow 78 = .ok (.iconst 1, 1) := dok_at gdX0_follow_l77 1 rfl
theorem dX0_follow_79 : decode cX0_follow 79 = .ok (.if_icmp .ne 30, 3) := dok_at gdX0_follow_l77 2 rfl
theorem dX0_follow_82 : decode cX0_follow 82 = .ok (.aload_n 0, 1) := dok_at gdX0_follow_l77 3 rfl
theorem dX0_follow_83 : decode cX0_follow 83 = .ok (.getfield 21, 3) := dok_at gdX0_follow_l77 4 rfl
theorem dX0_follow_86 : decode cX0_follow 86 = .ok (.iload 6, 2) := dok_at gdX0_follow_l77 5 rfl
theorem dX0_follow_88 : decode cX0_follow 88 = .ok (.iaload, 1) := dok_at gdX0_follow_l77 6 rfl
theorem dX0_follow_89 : decode cX0_follow 89 = .ok (.aload_n 0, 1) := dok_at gdX0_follow_l77 7 rfl
theorem dX0_follow_90 : decode cX0_follow 90 = .ok (.getfield 46, 3) := dok_at gdX0_follow_l77 8 rfl
theorem dX0_follow_93 : decode cX0_follow 93 = .ok (.if_icmp .ne 16, 3) := dok_at gdX0_follow_l77 9 rfl
theorem dX0_follow_96 : decode cX0_follow 96 = .ok (.aload_n 0, 1) := dok_at gdX0_follow_l77 10 rfl
theorem dX0_follow_97 : decode cX0_follow 97 = .ok (.dup, 1) := dok_at gdX0_follow_l77 11 rfl
theorem dX0_follow_98 : decode cX0_follow 98 = .ok (.getfield 43, 3) := dok_at gdX0_follow_l77 12 rfl
theorem dX0_follow_101 : decode cX0_follow 101 = .ok (.iconst 1, 1) := dok_at gdX0_follow_l77 13 rfl
theorem dX0_follow_102 : decode cX0_follow 102 = .ok (.iload 6, 2) := dok_at gdX0_follow_l77 14 rfl
theorem dX0_follow_104 : decode cX0_follow 104 = .ok (.ishl, 1) := dok_at gdX0_follow_l77 15 rfl
theorem dX0_follow_105 : decode cX0_follow 105 = .ok (.ior, 1) := dok_at gdX0_follow_l77 16 rfl
theorem dX0_follow_106 : decode cX0_follow 106 = .ok (.putfield 43, 3) := dok_at gdX0_follow_l77 17 rfl
theorem dX0_follow_109 : decode cX0_follow 109 = .ok (.iinc 6 1, 3) := dok_at gdX0_follow_l77 18 rfl
theorem dX0_follow_112 : decode cX0_follow 112 = .ok (.goto (-48), 3) := dok_at gdX0_follow_l77 19 rfl
theorem dX0_follow_115 : decode cX0_follow 115 = .ok (.iinc 4 1, 3) := dok_at gdX0_follow_l77 20 rfl
theorem dX0_follow_118 : decode cX0_follow 118 = .ok (.goto (-103), 3) := dok_at gdX0_follow_l77 21 rfl
theorem dX0_follow_121 : decode cX0_follow 121 = .ok (.return_, 1) := dok_at gdX0_follow_l77 22 rfl
def dX0_begin_l0 : List (Nat × Instr × Nat) := [(0, .iconst 0, 1), (1, .istore_n 3, 1), (2, .iconst 0, 1), (3, .istore 4, 2), (5, .iload 4, 2), (7, .aload_n 1, 1), (8, .getfield 27, 3), (11, .if_icmp .ge 84, 3), (14, .iload_n 2, 1), (15, .iload 4, 2), (17, .ishr, 1), (18, .iconst 1, 1), (19, .iand, 1), (20, .iconst 1, 1), (21, .if_icmp .ne 68, 3), (24, .aload_n 1, 1), (25, .iload 4, 2), (27, .aload_n 0, 1), (28, .getfield 43, 3), (31, .sipush 256, 3), (34, .ior, 1), (35, .invokevirtual 57, 3), (38, .ifCond .eq 51, 3), (41, .iload_n 3, 1)]
theorem gdX0_begin_l0 : dok cX0_begin dX0_begin_l0 = true := by decide +kernel
theorem dX0_begin_0 : decode cX0_begin 0 = .ok (.iconst 0, 1) := dok_at gdX0_begin_l0 0 rfl
theorem dX0_begin_1 : decode cX0_begin 1 = .ok (.istore_n 3, 1) := dok_at gdX0_begin_l0 1 rfl
theorem dX0_begin_2 : decode cX0_begin 2 = .ok (.iconst 0, 1) := dok_at gdX0_begin_l0 2 rfl
theorem dX0_begin_3 : decode cX0_begin 3 = .ok (.istore 4, 2) := dok_at gdX0_begin_l0 3 rfl
theorem dX0_begin_5 : decode cX0_begin 5 = .ok (.iload 4, 2) := dok_at gdX0_begin_l0 4 rfl
theorem dX0_begin_7 : decode cX0_begin 7 = .ok (.aload_n 1, 1) := dok_at gdX0_begin_l0 5 rfl
theorem dX0_begin_8 : decode cX0_begin 8 = .ok (.getfield 27, 3) := dok_at gdX0_begin_l0 6 rfl
theorem dX0_begin_11 : decode cX0_begin 11 = .ok (.if_icmp .ge 84, 3) := dok_at gdX0_begin_l0 7 rfl
theorem dX0_begin_14 : decode cX0_begin 14 = .ok (.iload_n 2, 1) := dok_at gdX0_begin_l0 8 rfl
theorem dX0_begin_15 : decode cX0_begin 15 = .ok (.iload 4, 2) := dok_at gdX0_begin_l0 9 rfl
theorem dX0_begin_17 : decode cX0_begin 17 = .ok (.ishr, 1) := dok_at gdX0_begin_l0 10 rfl
theorem dX0_begin_18 : decode cX0_begin 18 = .ok (.iconst 1, 1) := dok_at gdX0_begin_l0 11 rfl
theorem dX0_begin_19 : decode cX0_begin 19 = .ok (.iand, 1) := dok_at gdX0_begin_l0 12 rfl
theorem dX0_begin_20 : decode cX0_begin 20 = .ok (.iconst 1, 1) := dok_at gdX0_begin_l0 13 rfl
theorem dX0_begin_21 : decode cX0_begin 21 = .ok (.if_icmp .ne 68, 3) := dok_at gdX0_begin_l0 14 rfl
theorem dX0_begin_24 : decode cX0_begin 24 = .ok (.aload_n 1, 1) := dok_at gdX0_begin_l0 15 rfl
theorem dX0_begin_25 : decode cX0_begin 25 = .ok (.iload 4, 2) := dok_at gdX0_begin_l0 16 rfl
theorem dX0_begin_27 : decode cX0_begin 27 = .ok (.aload_n 0, 1) := dok_at gdX0_begin_l0 17 rfl
theorem dX0_begin_28 : decode cX0_begin 28 = .ok (.getfield 43, 3) := dok_at gdX0_begin_l0 18 rfl
theorem dX0_begin_31 : decode cX0_begin 31 = .ok (.sipush 256, 3) := dok_at gdX0_begin_l0 19 rfl
theorem dX0_begin_34 : decode cX0_begin 34 = .ok (.ior, 1) := dok_at gdX0_begin_l0 20 rfl
theorem dX0_begin_35 : decode cX0_begin 35 = .ok (.invokevirtual 57, 3) := dok_at gdX0_begin_l0 21 rfl
theorem dX0_begin_38 : decode cX0_begin 38 = .ok (.ifCond .eq 51, 3) := dok_at gdX0_begin_l0 22 rfl
theorem dX0_begin_41 : decode cX0_begin 41 = .ok (.iload_n 3, 1) := dok_at gdX0_begin_l0 23 rfl
def dX0_begin_l42 : List (Nat × Instr × Nat) := [(42, .iconst 1, 1), (43, .iload 4, 2), (45, .ishl, 1), (46, .ior, 1), (47, .istore_n 3, 1), (48, .aload_n 0, 1), (49, .getfield 18, 3), (52, .iload 4, 2), (54, .aload_n 0, 1), (55, .getfield 46, 3), (58, .aload_n 0, 1), (59, .getfield 9, 3), (62, .iload 4, 2), (64, .iaload, 1), (65, .iadd, 1), (66, .iastore, 1), (67, .aload_n 0, 1), (68, .getfield 21, 3), (71, .iload 4, 2), (73, .aload_n 0, 1), (74, .getfield 18, 3), (77, .iload 4, 2), (79, .iaload, 1), (80, .aload_n 0, 1)]
theorem gdX0_begin_l42 : dok cX0_begin dX0_begin_l42 = true := by decide +kernel
theorem dX0_begin_42 : decode cX0_begin 42 = .ok (.iconst 1, 1) := dok_at gdX0_begin_l42 0 rfl
theorem dX0_begin_43 : decode cX0_begin 43 = .ok (.iload 4, 2) := dok_at gdX0_begin_l42 1 rfl
theorem dX0_begin_45 : decode cX0_begin 45 = .ok (.ishl, 1) := dok_at gdX0_begin_l42 2 rfl
theorem dX0_begin_46 : decode cX0_begin 46 = .ok (.ior, 1) := dok_at gdX0_begin_l42 3 rfl
theorem dX0_begin_47 : decode cX0_begin 47 = .ok (.istore_n 3, 1) := dok_at gdX0_begin_l42 4 rfl
theorem dX0_begin_48 : decode cX0_begin 48 = .ok (.aload_n 0, 1) := dok_at gdX0_begin_l42 5 rfl
theorem dX0_begin_49 : decode cX0_begin 49 = .ok (.getfield 18, 3) := dok_at gdX0_begin_l42 6 rfl
theorem dX0_begin_52 : decode cX0_begin 52 = .ok (.iload 4, 2) := dok_at gdX0_begin_l42 7 rfl
theorem dX0_begin_54 : decode cX0_begin 54 = .ok (.aload_n 0, 1) := dok_at gdX0_begin_l42 8 rfl
theorem dX0_begin_55 : decode cX0_begin 55 = .ok (.getfield 46, 3) := dok_at gdX0_begin_l42 9 rfl
theorem dX0_begin_58 : decode cX0_begin 58 = .ok (.aload_n 0, 1) := dok_at gdX0_begin_l42 10 rfl
theorem dX0_begin_59 : decode cX0_begin 59 = .ok (.getfield 9, 3) := dok_at gdX0_begin_l42 11 rfl
theorem dX0_begin_62 : decode cX0_begin 62 = .ok (.iload 4, 2) := dok_at gdX0_begin_l42 12 rfl
theorem dX0_begin_64 : decode cX0_begin 64 = .ok (.iaload, 1) := dok_at gdX0_begin_l42 13 rfl
theorem dX0_begin_65 : decode cX0_begin 65 = .ok (.iadd, 1) := dok_at gdX0_begin_l42 14 rfl
theorem dX0_begin_66 : decode cX0_begin 66 = .ok (.iastore, 1) := dok_at gdX0_begin_l42 15 rfl
theorem dX0_begin_67 : decode cX0_begin 67 = .ok (.aload_n 0, 1) := dok_at gdX0_begin_l42 16 rfl
theorem dX0_begin_68 : decode cX0_begin 68 = .ok (.getfield 21, 3) := dok_at gdX0_begin_l42 17 rfl
theorem dX0_begin_71 : decode cX0_begin 71 = .ok (.iload 4, 2) := dok_at gdX0_begin_l42 18 rfl
theorem dX0_begin_73 : decode cX0_begin 73 = .ok (.aload_n 0, 1) := dok_at gdX0_begin_l42 19 rfl
theorem dX0_begin_74 : decode cX0_begin 74 = .ok (.getfield 18, 3) := dok_at gdX0_begin_l42 20 rfl
theorem dX0_begin_77 : decode cX0_begin 77 = .ok (.iload 4, 2) := dok_at gdX0_begin_l42 21 rfl
theorem dX0_begin_79 : decode cX0_begin 79 = .ok (.iaload, 1) := dok_at gdX0_begin_l42 22 rfl
theorem dX0_begin_80 : decode cX0_begin 80 = .ok (.aload_n 0, 1) := dok_at gdX0_begin_l42 23 rfl
def dX0_begin_l81 : List (Nat × Instr × Nat) := [(81, .getfield 15, 3), (84, .iload 4, 2), (86, .iaload, 1), (87, .iadd, 1), (88, .iastore, 1), (89, .iinc 4 1, 3), (92, .goto (-87), 3), (95, .iload_n 3, 1), (96, .ireturn, 1)]
theorem gdX0_begin_l81 : dok cX0_begin dX0_begin_l81 = true := by decide +kernel
theorem dX0_begin_81 : decode cX0_begin 81 = .ok (.getfield 15, 3) := dok_at gdX0_begin_l81 0 rfl
theorem dX0_begin_84 : decode cX0_begin 84 = .ok (.iload 4, 2) := dok_at gdX0_begin_l81 1 rfl
theorem dX0_begin_86 : decode cX0_begin 86 = .ok (.iaload, 1) := dok_at gdX0_begin_l81 2 rfl
theorem dX0_begin_87 : decode cX0_begin 87 = .ok (.iadd, 1) := dok_at gdX0_begin_l81 3 rfl
theorem dX0_begin_88 : decode cX0_begin 88 = .ok (.iastore, 1) := dok_at gdX0_begin_l81 4 rfl
theorem dX0_begin_89 : decode cX0_begin 89 = .ok (.iinc 4 1, 3) := dok_at gdX0_begin_l81 5 rfl
theorem dX0_begin_92 : decode cX0_begin 92 = .ok (.goto (-87), 3) := dok_at gdX0_begin_l81 6 rfl
theorem dX0_begin_95 : decode cX0_begin 95 = .ok (.iload_n 3, 1) := dok_at gdX0_begin_l81 7 rfl
theorem dX0_begin_96 : decode cX0_begin 96 = .ok (.ireturn, 1) := dok_at gdX0_begin_l81 8 rfl
def dX0_soonest_l0 : List (Nat × Instr × Nat) := [(0, .sipush 144, 3), (3, .istore_n 2, 1), (4, .iconst 0, 1), (5, .istore_n 3, 1), (6, .iload_n 3, 1), (7, .bipush 8, 2), (9, .if_icmp .ge 29, 3), (12, .iload_n 1, 1), (13, .iload_n 3, 1), (14, .ishr, 1), (15, .iconst 1, 1), (16, .iand, 1), (17, .iconst 1, 1), (18, .if_icmp .ne 14, 3), (21, .iload_n 2, 1), (22, .aload_n 0, 1), (23, .getfield 21, 3), (26, .iload_n 3, 1), (27, .iaload, 1), (28, .invokestatic 61, 3), (31, .istore_n 2, 1), (32, .iinc 3 1, 3), (35, .goto (-29), 3), (38, .iload_n 2, 1)]
theorem gdX0_soonest_l0 : dok cX0_soonest dX0_soonest_l0 = true := by decide +kernel
theorem dX0_soonest_0 : decode cX0_soonest 0 = .ok (.sipush 144, 3) := dok_at gdX0_soonest_l0 0 rfl
theorem dX0_soonest_3 : decode cX0_soonest 3 = .ok (.istore_n 2, 1) := dok_at gdX0_soonest_l0 1 rfl
theorem dX0_soonest_4 : decode cX0_soonest 4 = .ok (.iconst 0, 1) := dok_at gdX0_soonest_l0 2 rfl
theorem dX0_soonest_5 : decode cX0_soonest 5 = .ok (.istore_n 3, 1) := dok_at gdX0_soonest_l0 3 rfl
theorem dX0_soonest_6 : decode cX0_soonest 6 = .ok (.iload_n 3, 1) := dok_at gdX0_soonest_l0 4 rfl
theorem dX0_soonest_7 : decode cX0_soonest 7 = .ok (.bipush 8, 2) := dok_at gdX0_soonest_l0 5 rfl
theorem dX0_soonest_9 : decode cX0_soonest 9 = .ok (.if_icmp .ge 29, 3) := dok_at gdX0_soonest_l0 6 rfl
theorem dX0_soonest_12 : decode cX0_soonest 12 = .ok (.iload_n 1, 1) := dok_at gdX0_soonest_l0 7 rfl
theorem dX0_soonest_13 : decode cX0_soonest 13 = .ok (.iload_n 3, 1) := dok_at gdX0_soonest_l0 8 rfl
theorem dX0_soonest_14 : decode cX0_soonest 14 = .ok (.ishr, 1) := dok_at gdX0_soonest_l0 9 rfl
theorem dX0_soonest_15 : decode cX0_soonest 15 = .ok (.iconst 1, 1) := dok_at gdX0_soonest_l0 10 rfl
theorem dX0_soonest_16 : decode cX0_soonest 16 = .ok (.iand, 1) := dok_at gdX0_soonest_l0 11 rfl
theorem dX0_soonest_17 : decode cX0_soonest 17 = .ok (.iconst 1, 1) := dok_at gdX0_soonest_l0 12 rfl
theorem dX0_soonest_18 : decode cX0_soonest 18 = .ok (.if_icmp .ne 14, 3) := dok_at gdX0_soonest_l0 13 rfl
theorem dX0_soonest_21 : decode cX0_soonest 21 = .ok (.iload_n 2, 1) := dok_at gdX0_soonest_l0 14 rfl
theorem dX0_soonest_22 : decode cX0_soonest 22 = .ok (.aload_n 0, 1) := dok_at gdX0_soonest_l0 15 rfl
theorem dX0_soonest_23 : decode cX0_soonest 23 = .ok (.getfield 21, 3) := dok_at gdX0_soonest_l0 16 rfl
theorem dX0_soonest_26 : decode cX0_soonest 26 = .ok (.iload_n 3, 1) := dok_at gdX0_soonest_l0 17 rfl
theorem dX0_soonest_27 : decode cX0_soonest 27 = .ok (.iaload, 1) := dok_at gdX0_soonest_l0 18 rfl
theorem dX0_soonest_28 : decode cX0_soonest 28 = .ok (.invokestatic 61, 3) := dok_at gdX0_soonest_l0 19 rfl
theorem dX0_soonest_31 : decode cX0_soonest 31 = .ok (.istore_n 2, 1) := dok_at gdX0_soonest_l0 20 rfl
theorem dX0_soonest_32 : decode cX0_soonest 32 = .ok (.iinc 3 1, 3) := dok_at gdX0_soonest_l0 21 rfl
theorem dX0_soonest_35 : decode cX0_soonest 35 = .ok (.goto (-29), 3) := dok_at gdX0_soonest_l0 22 rfl
theorem dX0_soonest_38 : decode cX0_soonest 38 = .ok (.iload_n 2, 1) := dok_at gdX0_soonest_l0 23 rfl
def dX0_soonest_l39 : List (Nat × Instr × Nat) := [(39, .ireturn, 1)]
theorem gdX0_soonest_l39 : dok cX0_soonest dX0_soonest_l39 = true := by decide +kernel
theorem dX0_soonest_39 : decode cX0_soonest 39 = .ok (.ireturn, 1) := dok_at gdX0_soonest_l39 0 rfl
def dX0_drawnAt_l0 : List (Nat × Instr × Nat) := [(0, .iconst 0, 1), (1, .istore_n 3, 1), (2, .iconst 0, 1), (3, .istore 4, 2), (5, .iload 4, 2), (7, .aload_n 1, 1), (8, .getfield 27, 3), (11, .if_icmp .ge 66, 3), (14, .aload_n 0, 1), (15, .iload 4, 2), (17, .invokevirtual 66, 3), (20, .ifCond .ne 6, 3), (23, .goto 48, 3), (26, .iload_n 2, 1), (27, .aload_n 0, 1), (28, .getfield 21, 3), (31, .iload 4, 2), (33, .iaload, 1), (34, .if_icmp .lt 16, 3), (37, .iload_n 3, 1), (38, .aload_n 1, 1), (39, .iload 4, 2), (41, .iconst 3, 1), (42, .invokevirtual 33, 3)]
theorem gdX0_drawnAt_l0 : dok cX0_drawnAt dX0_drawnAt_l0 = true := by decide +kernel
theorem dX0_drawnAt_0 : decode cX0_drawnAt 0 = .ok (.iconst 0, 1) := dok_at gdX0_drawnAt_l0 0 rfl
theorem dX0_drawnAt_1 : decode cX0_drawnAt 1 = .ok (.istore_n 3, 1) := dok_at gdX0_drawnAt_l0 1 rfl
theorem dX0_drawnAt_2 : decode cX0_drawnAt 2 = .ok (.iconst 0, 1) := dok_at gdX0_drawnAt_l0 2 rfl
theorem dX0_drawnAt_3 : decode cX0_drawnAt 3 = .ok (.istore 4, 2) := dok_at gdX0_drawnAt_l0 3 rfl
theorem dX0_drawnAt_5 : decode cX0_drawnAt 5 = .ok (.iload 4, 2) := dok_at gdX0_drawnAt_l0 4 rfl
theorem dX0_drawnAt_7 : decode cX0_drawnAt 7 = .ok (.aload_n 1, 1) := dok_at gdX0_drawnAt_l0 5 rfl
theorem dX0_drawnAt_8 : decode cX0_drawnAt 8 = .ok (.getfield 27, 3) := dok_at gdX0_drawnAt_l0 6 rfl
theorem dX0_drawnAt_11 : decode cX0_drawnAt 11 = .ok (.if_icmp .ge 66, 3) := dok_at gdX0_drawnAt_l0 7 rfl
theorem dX0_drawnAt_14 : decode cX0_drawnAt 14 = .ok (.aload_n 0, 1) := dok_at gdX0_drawnAt_l0 8 rfl
theorem dX0_drawnAt_15 : decode cX0_drawnAt 15 = .ok (.iload 4, 2) := dok_at gdX0_drawnAt_l0 9 rfl
theorem dX0_drawnAt_17 : decode cX0_drawnAt 17 = .ok (.invokevirtual 66, 3) := dok_at gdX0_drawnAt_l0 10 rfl
theorem dX0_drawnAt_20 : decode cX0_drawnAt 20 = .ok (.ifCond .ne 6, 3) := dok_at gdX0_drawnAt_l0 11 rfl
theorem dX0_drawnAt_23 : decode cX0_drawnAt 23 = .ok (.goto 48, 3) := dok_at gdX0_drawnAt_l0 12 rfl
theorem dX0_drawnAt_26 : decode cX0_drawnAt 26 = .ok (.iload_n 2, 1) := dok_at gdX0_drawnAt_l0 13 rfl
theorem dX0_drawnAt_27 : decode cX0_drawnAt 27 = .ok (.aload_n 0, 1) := dok_at gdX0_drawnAt_l0 14 rfl
theorem dX0_drawnAt_28 : decode cX0_drawnAt 28 = .ok (.getfield 21, 3) := dok_at gdX0_drawnAt_l0 15 rfl
theorem dX0_drawnAt_31 : decode cX0_drawnAt 31 = .ok (.iload 4, 2) := dok_at gdX0_drawnAt_l0 16 rfl
theorem dX0_drawnAt_33 : decode cX0_drawnAt 33 = .ok (.iaload, 1) := dok_at gdX0_drawnAt_l0 17 rfl
theorem dX0_drawnAt_34 : decode cX0_drawnAt 34 = .ok (.if_icmp .lt 16, 3) := dok_at gdX0_drawnAt_l0 18 rfl
theorem dX0_drawnAt_37 : decode cX0_drawnAt 37 = .ok (.iload_n 3, 1) := dok_at gdX0_drawnAt_l0 19 rfl
theorem dX0_drawnAt_38 : decode cX0_drawnAt 38 = .ok (.aload_n 1, 1) := dok_at gdX0_drawnAt_l0 20 rfl
theorem dX0_drawnAt_39 : decode cX0_drawnAt 39 = .ok (.iload 4, 2) := dok_at gdX0_drawnAt_l0 21 rfl
theorem dX0_drawnAt_41 : decode cX0_drawnAt 41 = .ok (.iconst 3, 1) := dok_at gdX0_drawnAt_l0 22 rfl
theorem dX0_drawnAt_42 : decode cX0_drawnAt 42 = .ok (.invokevirtual 33, 3) := dok_at gdX0_drawnAt_l0 23 rfl
def dX0_drawnAt_l45 : List (Nat × Instr × Nat) := [(45, .iadd, 1), (46, .istore_n 3, 1), (47, .goto 24, 3), (50, .iload_n 2, 1), (51, .aload_n 0, 1), (52, .getfield 18, 3), (55, .iload 4, 2), (57, .iaload, 1), (58, .if_icmp .lt 13, 3), (61, .iload_n 3, 1), (62, .aload_n 1, 1), (63, .iload 4, 2), (65, .iconst 4, 1), (66, .invokevirtual 33, 3), (69, .iadd, 1), (70, .istore_n 3, 1), (71, .iinc 4 1, 3), (74, .goto (-69), 3), (77, .iload_n 3, 1), (78, .ireturn, 1)]
theorem gdX0_drawnAt_l45 : dok cX0_drawnAt dX0_drawnAt_l45 = true := by decide +kernel
theorem dX0_drawnAt_45 : decode cX0_drawnAt 45 = .ok (.iadd, 1) := dok_at gdX0_drawnAt_l45 0 rfl
theorem dX0_drawnAt_46 : decode cX0_drawnAt 46 = .ok (.istore_n 3, 1) := dok_at gdX0_drawnAt_l45 1 rfl
theorem dX0_drawnAt_47 : decode cX0_drawnAt 47 = .ok (.goto 24, 3) := dok_at gdX0_drawnAt_l45 2 rfl
theorem dX0_drawnAt_50 : decode cX0_drawnAt 50 = .ok (.iload_n 2, 1) := dok_at gdX0_drawnAt_l45 3 rfl
theorem dX0_drawnAt_51 : decode cX0_drawnAt 51 = .ok (.aload_n 0, 1) := dok_at gdX0_drawnAt_l45 4 rfl
theorem dX0_drawnAt_52 : decode cX0_drawnAt 52 = .ok (.getfield 18, 3) := dok_at gdX0_drawnAt_l45 5 rfl
theorem dX0_drawnAt_55 : decode cX0_drawnAt 55 = .ok (.iload 4, 2) := dok_at gdX0_drawnAt_l45 6 rfl
theorem dX0_drawnAt_57 : decode cX0_drawnAt 57 = .ok (.iaload, 1) := dok_at gdX0_drawnAt_l45 7 rfl
theorem dX0_drawnAt_58 : decode cX0_drawnAt 58 = .ok (.if_icmp .lt 13, 3) := dok_at gdX0_drawnAt_l45 8 rfl
theorem dX0_drawnAt_61 : decode cX0_drawnAt 61 = .ok (.iload_n 3, 1) := dok_at gdX0_drawnAt_l45 9 rfl
theorem dX0_drawnAt_62 : decode cX0_drawnAt 62 = .ok (.aload_n 1, 1) := dok_at gdX0_drawnAt_l45 10 rfl
theorem dX0_drawnAt_63 : decode cX0_drawnAt 63 = .ok (.iload 4, 2) := dok_at gdX0_drawnAt_l45 11 rfl
theorem dX0_drawnAt_65 : decode cX0_drawnAt 65 = .ok (.iconst 4, 1) := dok_at gdX0_drawnAt_l45 12 rfl
theorem dX0_drawnAt_66 : decode cX0_drawnAt 66 = .ok (.invokevirtual 33, 3) := dok_at gdX0_drawnAt_l45 13 rfl
theorem dX0_drawnAt_69 : decode cX0_drawnAt 69 = .ok (.iadd, 1) := dok_at gdX0_drawnAt_l45 14 rfl
theorem dX0_drawnAt_70 : decode cX0_drawnAt 70 = .ok (.istore_n 3, 1) := dok_at gdX0_drawnAt_l45 15 rfl
theorem dX0_drawnAt_71 : decode cX0_drawnAt 71 = .ok (.iinc 4 1, 3) := dok_at gdX0_drawnAt_l45 16 rfl
theorem dX0_drawnAt_74 : decode cX0_drawnAt 74 = .ok (.goto (-69), 3) := dok_at gdX0_drawnAt_l45 17 rfl
theorem dX0_drawnAt_77 : decode cX0_drawnAt 77 = .ok (.iload_n 3, 1) := dok_at gdX0_drawnAt_l45 18 rfl
theorem dX0_drawnAt_78 : decode cX0_drawnAt 78 = .ok (.ireturn, 1) := dok_at gdX0_drawnAt_l45 19 rfl
def dX0_findPeak_l0 : List (Nat × Instr × Nat) := [(0, .iconst 0, 1), (1, .istore_n 2, 1), (2, .iload_n 2, 1), (3, .aload_n 1, 1), (4, .getfield 27, 3), (7, .if_icmp .ge 76, 3), (10, .aload_n 0, 1), (11, .iload_n 2, 1), (12, .invokevirtual 66, 3), (15, .ifCond .eq 62, 3), (18, .aload_n 0, 1), (19, .getfield 21, 3), (22, .iload_n 2, 1), (23, .iaload, 1), (24, .sipush 144, 3), (27, .if_icmp .gt 50, 3), (30, .aload_n 0, 1), (31, .getfield 24, 3), (34, .aload_n 0, 1), (35, .getfield 18, 3), (38, .iload_n 2, 1), (39, .iaload, 1), (40, .dup2, 1), (41, .iaload, 1)]
theorem gdX0_findPeak_l0 : dok cX0_findPeak dX0_findPeak_l0 = true := by decide +kernel
theorem dX0_findPeak_0 : decode cX0_findPeak 0 = .ok (.iconst 0, 1) := dok_at gdX0_findPeak_l0 0 rfl
theorem dX0_findPeak_1 : decode cX0_findPeak 1 = .ok (.istore_n 2, 1) := dok_at gdX0_findPeak_l0 1 rfl
theorem dX0_findPeak_2 : decode cX0_findPeak 2 = .ok (.iload_n 2, 1) := dok_at gdX0_findPeak_l0 2 rfl
theorem dX0_findPeak_3 : decode cX0_findPeak 3 = .ok (.aload_n 1, 1) := dok_at gdX0_findPeak_l0 3 rfl
theorem dX0_findPeak_4 : decode cX0_findPeak 4 = .ok (.getfield 27, 3) := dok_at gdX0_findPeak_l0 4 rfl
theorem dX0_findPeak_7 : decode cX0_findPeak 7 = .ok (.if_icmp .ge 76, 3) := dok_at gdX0_findPeak_l0 5 rfl
theorem dX0_findPeak_10 : decode cX0_findPeak 10 = .ok (.aload_n 0, 1) := dok_at gdX0_findPeak_l0 6 rfl
theorem dX0_findPeak_11 : decode cX0_findPeak 11 = .ok (.iload_n 2, 1) := dok_at gdX0_findPeak_l0 7 rfl
theorem dX0_findPeak_12 : decode cX0_findPeak 12 = .ok (.invokevirtual 66, 3) := dok_at gdX0_findPeak_l0 8 rfl
theorem dX0_findPeak_15 : decode cX0_findPeak 15 = .ok (.ifCond .eq 62, 3) := dok_at gdX0_findPeak_l0 9 rfl
theorem dX0_findPeak_18 : decode cX0_findPeak 18 = .ok (.aload_n 0, 1) := dok_at gdX0_findPeak_l0 10 rfl
theorem dX0_findPeak_19 : decode cX0_findPeak 19 = .ok (.getfield 21, 3) := dok_at gdX0_findPeak_l0 11 rfl
theorem dX0_findPeak_22 : decode cX0_findPeak 22 = .ok (.iload_n 2, 1) := dok_at gdX0_findPeak_l0 12 rfl
theorem dX0_findPeak_23 : decode cX0_findPeak 23 = .ok (.iaload, 1) := dok_at gdX0_findPeak_l0 13 rfl
theorem dX0_findPeak_24 : decode cX0_findPeak 24 = .ok (.sipush 144, 3) := dok_at gdX0_findPeak_l0 14 rfl
theorem dX0_findPeak_27 : decode cX0_findPeak 27 = .ok (.if_icmp .gt 50, 3) := dok_at gdX0_findPeak_l0 15 rfl
theorem dX0_findPeak_30 : decode cX0_findPeak 30 = .ok (.aload_n 0, 1) := dok_at gdX0_findPeak_l0 16 rfl
theorem dX0_findPeak_31 : decode cX0_findPeak 31 = .ok (.getfield 24, 3) := dok_at gdX0_findPeak_l0 17 rfl
theorem dX0_findPeak_34 : decode cX0_findPeak 34 = .ok (.aload_n 0, 1) := dok_at gdX0_findPeak_l0 18 rfl
theorem dX0_findPeak_35 : decode cX0_findPeak 35 = .ok (.getfield 18, 3) := dok_at gdX0_findPeak_l0 19 rfl
theorem dX0_findPeak_38 : decode cX0_findPeak 38 = .ok (.iload_n 2, 1) := dok_at gdX0_findPeak_l0 20 rfl
theorem dX0_findPeak_39 : decode cX0_findPeak 39 = .ok (.iaload, 1) := dok_at gdX0_findPeak_l0 21 rfl
theorem dX0_findPeak_40 : decode cX0_findPeak 40 = .ok (.dup2, 1) := dok_at gdX0_findPeak_l0 22 rfl
theorem dX0_findPeak_41 : decode cX0_findPeak 41 = .ok (.iaload, 1) := dok_at gdX0_findPeak_l0 23 rfl
def dX0_findPeak_l42 : List (Nat × Instr × Nat) := [(42, .aload_n 1, 1), (43, .iload_n 2, 1), (44, .iconst 4, 1), (45, .invokevirtual 33, 3), (48, .iadd, 1), (49, .iastore, 1), (50, .aload_n 0, 1), (51, .getfield 24, 3), (54, .aload_n 0, 1), (55, .getfield 21, 3), (58, .iload_n 2, 1), (59, .iaload, 1), (60, .dup2, 1), (61, .iaload, 1), (62, .aload_n 1, 1), (63, .iload_n 2, 1), (64, .iconst 3, 1), (65, .invokevirtual 33, 3), (68, .aload_n 1, 1), (69, .iload_n 2, 1), (70, .iconst 4, 1), (71, .invokevirtual 33, 3), (74, .isub, 1), (75, .iadd, 1)]
theorem gdX0_findPeak_l42 : dok cX0_findPeak dX0_findPeak_l42 = true := by decide +kernel
theorem dX0_findPeak_42 : decode cX0_findPeak 42 = .ok (.aload_n 1, 1) := dok_at gdX0_findPeak_l42 0 rfl
theorem dX0_findPeak_43 : decode cX0_findPeak 43 = .ok (.iload_n 2, 1) := dok_at gdX0_findPeak_l42 1 rfl
theorem dX0_findPeak_44 : decode cX0_findPeak 44 = .ok (.iconst 4, 1) := dok_at gdX0_findPeak_l42 2 rfl
theorem dX0_findPeak_45 : decode cX0_findPeak 45 = .ok (.invokevirtual 33, 3) := dok_at gdX0_findPeak_l42 3 rfl
theorem dX0_findPeak_48 : decode cX0_findPeak 48 = .ok (.iadd, 1) := dok_at gdX0_findPeak_l42 4 rfl
theorem dX0_findPeak_49 : decode cX0_findPeak 49 = .ok (.iastore, 1) := dok_at gdX0_findPeak_l42 5 rfl
theorem dX0_findPeak_50 : decode cX0_findPeak 50 = .ok (.aload_n 0, 1) := dok_at gdX0_findPeak_l42 6 rfl
theorem dX0_findPeak_51 : decode cX0_findPeak 51 = .ok (.getfield 24, 3) := dok_at gdX0_findPeak_l42 7 rfl
theorem dX0_findPeak_54 : decode cX0_findPeak 54 = .ok (.aload_n 0, 1) := dok_at gdX0_findPeak_l42 8 rfl
theorem dX0_findPeak_55 : decode cX0_findPeak 55 = .ok (.getfield 21, 3) := dok_at gdX0_findPeak_l42 9 rfl
theorem dX0_findPeak_58 : decode cX0_findPeak 58 = .ok (.iload_n 2, 1) := dok_at gdX0_findPeak_l42 10 rfl
theorem dX0_findPeak_59 : decode cX0_findPeak 59 = .ok (.iaload, 1) := dok_at gdX0_findPeak_l42 11 rfl
theorem dX0_findPeak_60 : decode cX0_findPeak 60 = .ok (.dup2, 1) := dok_at gdX0_findPeak_l42 12 rfl
theorem dX0_findPeak_61 : decode cX0_findPeak 61 = .ok (.iaload, 1) := dok_at gdX0_findPeak_l42 13 rfl
theorem dX0_findPeak_62 : decode cX0_findPeak 62 = .ok (.aload_n 1, 1) := dok_at gdX0_findPeak_l42 14 rfl
theorem dX0_findPeak_63 : decode cX0_findPeak 63 = .ok (.iload_n 2, 1) := dok_at gdX0_findPeak_l42 15 rfl
theorem dX0_findPeak_64 : decode cX0_findPeak 64 = .ok (.iconst 3, 1) := dok_at gdX0_findPeak_l42 16 rfl
theorem dX0_findPeak_65 : decode cX0_findPeak 65 = .ok (.invokevirtual 33, 3) := dok_at gdX0_findPeak_l42 17 rfl
theorem dX0_findPeak_68 : decode cX0_findPeak 68 = .ok (.aload_n 1, 1) := dok_at gdX0_findPeak_l42 18 rfl
theorem dX0_findPeak_69 : decode cX0_findPeak 69 = .ok (.iload_n 2, 1) := dok_at gdX0_findPeak_l42 19 rfl
theorem dX0_findPeak_70 : decode cX0_findPeak 70 = .ok (.iconst 4, 1) := dok_at gdX0_findPeak_l42 20 rfl
theorem dX0_findPeak_71 : decode cX0_findPeak 71 = .ok (.invokevirtual 33, 3) := dok_at gdX0_findPeak_l42 21 rfl
theorem dX0_findPeak_74 : decode cX0_findPeak 74 = .ok (.isub, 1) := dok_at gdX0_findPeak_l42 22 rfl
theorem dX0_findPeak_75 : decode cX0_findPeak 75 = .ok (.iadd, 1) := dok_at gdX0_findPeak_l42 23 rfl
def dX0_findPeak_l76 : List (Nat × Instr × Nat) := [(76, .iastore, 1), (77, .iinc 2 1, 3), (80, .goto (-78), 3), (83, .aload_n 0, 1), (84, .bipush (-4), 2), (86, .putfield 70, 3), (89, .aload_n 0, 1), (90, .bipush (-4), 2), (92, .putfield 73, 3), (95, .iconst 0, 1), (96, .istore_n 2, 1), (97, .iconst 0, 1), (98, .istore_n 3, 1), (99, .iload_n 3, 1), (100, .aload_n 0, 1), (101, .getfield 46, 3), (104, .if_icmp .gt 50, 3), (107, .iload_n 3, 1), (108, .sipush 144, 3), (111, .if_icmp .gt 43, 3), (114, .iload_n 2, 1), (115, .aload_n 0, 1), (116, .getfield 24, 3), (119, .iload_n 3, 1)]
theorem gdX0_findPeak_l76 : dok cX0_findPeak dX0_findPeak_l76 = true := by decide +kernel
theorem dX0_findPeak_76 : decode cX0_findPeak 76 = .ok (.iastore, 1) := dok_at gdX0_findPeak_l76 0 rfl
theorem dX0_findPeak_77 : decode cX0_findPeak 77 = .ok (.iinc 2 1, 3) := dok_at gdX0_findPeak_l76 1 rfl
theorem dX0_findPeak_80 : decode cX0_findPeak 80 = .ok (.goto (-78), 3) := dok_at gdX0_findPeak_l76 2 rfl
theorem dX0_findPeak_83 : decode cX0_findPeak 83 = .ok (.aload_n 0, 1) := dok_at gdX0_findPeak_l76 3 rfl
theorem dX0_findPeak_84 : decode cX0_findPeak 84 = .ok (.bipush (-4), 2) := dok_at gdX0_findPeak_l76 4 rfl
theorem dX0_findPeak_86 : decode cX0_findPeak 86 = .ok (.putfield 70, 3) := dok_at gdX0_findPeak_l76 5 rfl
theorem dX0_findPeak_89 : decode cX0_findPeak 89 = .ok (.aload_n 0, 1) := dok_at gdX0_findPeak_l76 6 rfl
theorem dX0_findPeak_90 : decode cX0_findPeak 90 = .ok (.bipush (-4), 2) := dok_at gdX0_findPeak_l76 7 rfl
theorem dX0_findPeak_92 : decode cX0_findPeak 92 = .ok (.putfield 73, 3) := dok_at gdX0_findPeak_l76 8 rfl
theorem dX0_findPeak_95 : decode cX0_findPeak 95 = .ok (.iconst 0, 1) := dok_at gdX0_findPeak_l76 9 rfl
theorem dX0_findPeak_96 : decode cX0_findPeak 96 = .ok (.istore_n 2, 1) := dok_at gdX0_findPeak_l76 10 rfl
theorem dX0_findPeak_97 : decode cX0_findPeak 97 = .ok (.iconst 0, 1) := dok_at gdX0_findPeak_l76 11 rfl
theorem dX0_findPeak_98 : decode cX0_findPeak 98 = .ok (.istore_n 3, 1) := dok_at gdX0_findPeak_l76 12 rfl
theorem dX0_findPeak_99 : decode cX0_findPeak 99 = .ok (.iload_n 3, 1) := dok_at gdX0_findPeak_l76 13 rfl
theorem dX0_findPeak_100 : decode cX0_findPeak 100 = .ok (.aload_n 0, 1) := dok_at gdX0_findPeak_l76 14 rfl
theorem dX0_findPeak_101 : decode cX0_findPeak 101 = .ok (.getfield 46, 3) := dok_at gdX0_findPeak_l76 15 rfl
theorem dX0_findPeak_104 : decode cX0_findPeak 104 = .ok (.if_icmp .gt 50, 3) := dok_at gdX0_findPeak_l76 16 rfl
theorem dX0_findPeak_107 : decode cX0_findPeak 107 = .ok (.iload_n 3, 1) := dok_at gdX0_findPeak_l76 17 rfl
theorem dX0_findPeak_108 : decode cX0_findPeak 108 = .ok (.sipush 144, 3) := dok_at gdX0_findPeak_l76 18 rfl
theorem dX0_findPeak_111 : decode cX0_findPeak 111 = .ok (.if_icmp .gt 43, 3) := dok_at gdX0_findPeak_l76 19 rfl
theorem dX0_findPeak_114 : decode cX0_findPeak 114 = .ok (.iload_n 2, 1) := dok_at gdX0_findPeak_l76 20 rfl
theorem dX0_findPeak_115 : decode cX0_findPeak 115 = .ok (.aload_n 0, 1) := dok_at gdX0_findPeak_l76 21 rfl
theorem dX0_findPeak_116 : decode cX0_findPeak 116 = .ok (.getfield 24, 3) := dok_at gdX0_findPeak_l76 22 rfl
theorem dX0_findPeak_119 : decode cX0_findPeak 119 = .ok (.iload_n 3, 1) := dok_at gdX0_findPeak_l76 23 rfl
def dX0_findPeak_l120 : List (Nat × Instr × Nat) := [(120, .iaload, 1), (121, .iadd, 1), (122, .istore_n 2, 1), (123, .aload_n 0, 1), (124, .getfield 24, 3), (127, .iload_n 3, 1), (128, .iconst 0, 1), (129, .iastore, 1), (130, .iload_n 2, 1), (131, .aload_n 0, 1), (132, .getfield 70, 3), (135, .if_icmp .le 13, 3), (138, .aload_n 0, 1), (139, .iload_n 2, 1), (140, .putfield 70, 3), (143, .aload_n 0, 1), (144, .iload_n 3, 1), (145, .putfield 73, 3), (148, .iinc 3 1, 3), (151, .goto (-52), 3), (154, .return_, 1)]
theorem gdX0_findPeak_l120 : dok cX0_findPeak dX0_findPeak_l120 = true := by decide +kernel
theorem dX0_findPeak_120 : decode cX0_findPeak 120 = .ok (.iaload, 1) := dok_at gdX0_findPeak_l120 0 rfl
theorem dX0_findPeak_121 : decode cX0_findPeak 121 = .ok (.iadd, 1) := dok_at gdX0_findPeak_l120 1 rfl
theorem dX0_findPeak_122 : decode cX0_findPeak 122 = .ok (.istore_n 2, 1) := dok_at gdX0_findPeak_l120 2 rfl
theorem dX0_findPeak_123 : decode cX0_findPeak 123 = .ok (.aload_n 0, 1) := dok_at gdX0_findPeak_l120 3 rfl
theorem dX0_findPeak_124 : decode cX0_findPeak 124 = .ok (.getfield 24, 3) := dok_at gdX0_findPeak_l120 4 rfl
theorem dX0_findPeak_127 : decode cX0_findPeak 127 = .ok (.iload_n 3, 1) := dok_at gdX0_findPeak_l120 5 rfl
theorem dX0_findPeak_128 : decode cX0_findPeak 128 = .ok (.iconst 0, 1) := dok_at gdX0_findPeak_l120 6 rfl
theorem dX0_findPeak_129 : decode cX0_findPeak 129 = .ok (.iastore, 1) := dok_at gdX0_findPeak_l120 7 rfl
theorem dX0_findPeak_130 : decode cX0_findPeak 130 = .ok (.iload_n 2, 1) := dok_at gdX0_findPeak_l120 8 rfl
theorem dX0_findPeak_131 : decode cX0_findPeak 131 = .ok (.aload_n 0, 1) := dok_at gdX0_findPeak_l120 9 rfl
theorem dX0_findPeak_132 : decode cX0_findPeak 132 = .ok (.getfield 70, 3) := dok_at gdX0_findPeak_l120 10 rfl
theorem dX0_findPeak_135 : decode cX0_findPeak 135 = .ok (.if_icmp .le 13, 3) := dok_at gdX0_findPeak_l120 11 rfl
theorem dX0_findPeak_138 : decode cX0_findPeak 138 = .ok (.aload_n 0, 1) := dok_at gdX0_findPeak_l120 12 rfl
theorem dX0_findPeak_139 : decode cX0_findPeak 139 = .ok (.iload_n 2, 1) := dok_at gdX0_findPeak_l120 13 rfl
theorem dX0_findPeak_140 : decode cX0_findPeak 140 = .ok (.putfield 70, 3) := dok_at gdX0_findPeak_l120 14 rfl
theorem dX0_findPeak_143 : decode cX0_findPeak 143 = .ok (.aload_n 0, 1) := dok_at gdX0_findPeak_l120 15 rfl
theorem dX0_findPeak_144 : decode cX0_findPeak 144 = .ok (.iload_n 3, 1) := dok_at gdX0_findPeak_l120 16 rfl
theorem dX0_findPeak_145 : decode cX0_findPeak 145 = .ok (.putfield 73, 3) := dok_at gdX0_findPeak_l120 17 rfl
theorem dX0_findPeak_148 : decode cX0_findPeak 148 = .ok (.iinc 3 1, 3) := dok_at gdX0_findPeak_l120 18 rfl
theorem dX0_findPeak_151 : decode cX0_findPeak 151 = .ok (.goto (-52), 3) := dok_at gdX0_findPeak_l120 19 rfl
theorem dX0_findPeak_154 : decode cX0_findPeak 154 = .ok (.return_, 1) := dok_at gdX0_findPeak_l120 20 rfl
def dX1_isUpAmong_l0 : List (Nat × Instr × Nat) := [(0, .aload_n 0, 1), (1, .iload_n 1, 1), (2, .invokevirtual 9, 3), (5, .iload_n 2, 1), (6, .ishr, 1), (7, .iconst 1, 1), (8, .iand, 1), (9, .iconst 1, 1), (10, .if_icmp .ne 7, 3), (13, .iconst 1, 1), (14, .goto 4, 3), (17, .iconst 0, 1), (18, .ireturn, 1)]
theorem gdX1_isUpAmong_l0 : dok cX1_isUpAmong dX1_isUpAmong_l0 = true := by decide +kernel
theorem dX1_isUpAmong_0 : decode cX1_isUpAmong 0 = .ok (.aload_n 0, 1) := dok_at gdX1_isUpAmong_l0 0 rfl
theorem dX1_isUpAmong_1 : decode cX1_isUpAmong 1 = .ok (.iload_n 1, 1) := dok_at gdX1_isUpAmong_l0 1 rfl
theorem dX1_isUpAmong_2 : decode cX1_isUpAmong 2 = .ok (.invokevirtual 9, 3) := dok_at gdX1_isUpAmong_l0 2 rfl
theorem dX1_isUpAmong_5 : decode cX1_isUpAmong 5 = .ok (.iload_n 2, 1) := dok_at gdX1_isUpAmong_l0 3 rfl
theorem dX1_isUpAmong_6 : decode cX1_isUpAmong 6 = .ok (.ishr, 1) := dok_at gdX1_isUpAmong_l0 4 rfl
theorem dX1_isUpAmong_7 : decode cX1_isUpAmong 7 = .ok (.iconst 1, 1) := dok_at gdX1_isUpAmong_l0 5 rfl
theorem dX1_isUpAmong_8 : decode cX1_isUpAmong 8 = .ok (.iand, 1) := dok_at gdX1_isUpAmong_l0 6 rfl
theorem dX1_isUpAmong_9 : decode cX1_isUpAmong 9 = .ok (.iconst 1, 1) := dok_at gdX1_isUpAmong_l0 7 rfl
theorem dX1_isUpAmong_10 : decode cX1_isUpAmong 10 = .ok (.if_icmp .ne 7, 3) := dok_at gdX1_isUpAmong_l0 8 rfl
theorem dX1_isUpAmong_13 : decode cX1_isUpAmong 13 = .ok (.iconst 1, 1) := dok_at gdX1_isUpAmong_l0 9 rfl
theorem dX1_isUpAmong_14 : decode cX1_isUpAmong 14 = .ok (.goto 4, 3) := dok_at gdX1_isUpAmong_l0 10 rfl
theorem dX1_isUpAmong_17 : decode cX1_isUpAmong 17 = .ok (.iconst 0, 1) := dok_at gdX1_isUpAmong_l0 11 rfl
theorem dX1_isUpAmong_18 : decode cX1_isUpAmong 18 = .ok (.ireturn, 1) := dok_at gdX1_isUpAmong_l0 12 rfl
def dX1_fewestThatCut_l0 : List (Nat × Instr × Nat) := [(0, .iconst 0, 1), (1, .istore_n 3, 1), (2, .iconst 1, 1), (3, .istore 4, 2), (5, .iload 4, 2), (7, .aload_n 0, 1), (8, .invokevirtual 15, 3), (11, .if_icmp .gt 75, 3), (14, .iload 4, 2), (16, .iload_n 2, 1), (17, .ishr, 1), (18, .iconst 1, 1), (19, .iand, 1), (20, .ifCond .ne 7, 3), (23, .iconst 1, 1), (24, .goto 4, 3), (27, .iconst 0, 1), (28, .istore 5, 2), (30, .iload_n 3, 1), (31, .ifCond .eq 15, 3), (34, .iload 4, 2), (36, .invokestatic 19, 3), (39, .iload_n 3, 1), (40, .invokestatic 19, 3)]
theorem gdX1_fewestThatCut_l0 : dok cX1_fewestThatCut dX1_fewestThatCut_l0 = true := by decide +kernel
theorem dX1_fewestThatCut_0 : decode cX1_fewestThatCut 0 = .ok (.iconst 0, 1) := dok_at gdX1_fewestThatCut_l0 0 rfl
theorem dX1_fewestThatCut_1 : decode cX1_fewestThatCut 1 = .ok (.istore_n 3, 1) := dok_at gdX1_fewestThatCut_l0 1 rfl
theorem dX1_fewestThatCut_2 : decode cX1_fewestThatCut 2 = .ok (.iconst 1, 1) := dok_at gdX1_fewestThatCut_l0 2 rfl
theorem dX1_fewestThatCut_3 : decode cX1_fewestThatCut 3 = .ok (.istore 4, 2) := dok_at gdX1_fewestThatCut_l0 3 rfl
theorem dX1_fewestThatCut_5 : decode cX1_fewestThatCut 5 = .ok (.iload 4, 2) := dok_at gdX1_fewestThatCut_l0 4 rfl
theorem dX1_fewestThatCut_7 : decode cX1_fewestThatCut 7 = .ok (.aload_n 0, 1) := dok_at gdX1_fewestThatCut_l0 5 rfl
theorem dX1_fewestThatCut_8 : decode cX1_fewestThatCut 8 = .ok (.invokevirtual 15, 3) := dok_at gdX1_fewestThatCut_l0 6 rfl
theorem dX1_fewestThatCut_11 : decode cX1_fewestThatCut 11 = .ok (.if_icmp .gt 75, 3) := dok_at gdX1_fewestThatCut_l0 7 rfl
theorem dX1_fewestThatCut_14 : decode cX1_fewestThatCut 14 = .ok (.iload 4, 2) := dok_at gdX1_fewestThatCut_l0 8 rfl
theorem dX1_fewestThatCut_16 : decode cX1_fewestThatCut 16 = .ok (.iload_n 2, 1) := dok_at gdX1_fewestThatCut_l0 9 rfl
theorem dX1_fewestThatCut_17 : decode cX1_fewestThatCut 17 = .ok (.ishr, 1) := dok_at gdX1_fewestThatCut_l0 10 rfl
theorem dX1_fewestThatCut_18 : decode cX1_fewestThatCut 18 = .ok (.iconst 1, 1) := dok_at gdX1_fewestThatCut_l0 11 rfl
theorem dX1_fewestThatCut_19 : decode cX1_fewestThatCut 19 = .ok (.iand, 1) := dok_at gdX1_fewestThatCut_l0 12 rfl
theorem dX1_fewestThatCut_20 : decode cX1_fewestThatCut 20 = .ok (.ifCond .ne 7, 3) := dok_at gdX1_fewestThatCut_l0 13 rfl
theorem dX1_fewestThatCut_23 : decode cX1_fewestThatCut 23 = .ok (.iconst 1, 1) := dok_at gdX1_fewestThatCut_l0 14 rfl
theorem dX1_fewestThatCut_24 : decode cX1_fewestThatCut 24 = .ok (.goto 4, 3) := dok_at gdX1_fewestThatCut_l0 15 rfl
theorem dX1_fewestThatCut_27 : decode cX1_fewestThatCut 27 = .ok (.iconst 0, 1) := dok_at gdX1_fewestThatCut_l0 16 rfl
theorem dX1_fewestThatCut_28 : decode cX1_fewestThatCut 28 = .ok (.istore 5, 2) := dok_at gdX1_fewestThatCut_l0 17 rfl
theorem dX1_fewestThatCut_30 : decode cX1_fewestThatCut 30 = .ok (.iload_n 3, 1) := dok_at gdX1_fewestThatCut_l0 18 rfl
theorem dX1_fewestThatCut_31 : decode cX1_fewestThatCut 31 = .ok (.ifCond .eq 15, 3) := dok_at gdX1_fewestThatCut_l0 19 rfl
theorem dX1_fewestThatCut_34 : decode cX1_fewestThatCut 34 = .ok (.iload 4, 2) := dok_at gdX1_fewestThatCut_l0 20 rfl
theorem dX1_fewestThatCut_36 : decode cX1_fewestThatCut 36 = .ok (.invokestatic 19, 3) := dok_at gdX1_fewestThatCut_l0 21 rfl
theorem dX1_fewestThatCut_39 : decode cX1_fewestThatCut 39 = .ok (.iload_n 3, 1) := dok_at gdX1_fewestThatCut_l0 22 rfl
theorem dX1_fewestThatCut_40 : decode cX1_fewestThatCut 40 = .ok (.invokestatic 19, 3) := dok_at gdX1_fewestThatCut_l0 23 rfl
def dX1_fewestThatCut_l43 : List (Nat × Instr × Nat) := [(43, .if_icmp .ge 7, 3), (46, .iconst 1, 1), (47, .goto 4, 3), (50, .iconst 0, 1), (51, .istore 6, 2), (53, .iload 5, 2), (55, .ifCond .eq 25, 3), (58, .iload 6, 2), (60, .ifCond .eq 20, 3), (63, .aload_n 0, 1), (64, .iload_n 1, 1), (65, .iload 4, 2), (67, .iconst (-1), 1), (68, .ixor, 1), (69, .iand, 1), (70, .iload_n 2, 1), (71, .invokestatic 24, 3), (74, .ifCond .ne 6, 3), (77, .iload 4, 2), (79, .istore_n 3, 1), (80, .iinc 4 1, 3), (83, .goto (-78), 3), (86, .iload_n 3, 1), (87, .ireturn, 1)]
theorem gdX1_fewestThatCut_l43 : dok cX1_fewestThatCut dX1_fewestThatCut_l43 = true := by decide +kernel
theorem dX1_fewestThatCut_43 : decode cX1_fewestThatCut 43 = .ok (.if_icmp .ge 7, 3) := dok_at gdX1_fewestThatCut_l43 0 rfl
theorem dX1_fewestThatCut_46 : decode cX1_fewestThatCut 46 = .ok (.iconst 1, 1) := dok_at gdX1_fewestThatCut_l43 1 rfl
theorem dX1_fewestThatCut_47 : decode cX1_fewestThatCut 47 = .ok (.goto 4, 3) := dok_at gdX1_fewestThatCut_l43 2 rfl
theorem dX1_fewestThatCut_50 : decode cX1_fewestThatCut 50 = .ok (.iconst 0, 1) := dok_at gdX1_fewestThatCut_l43 3 rfl
theorem dX1_fewestThatCut_51 : decode cX1_fewestThatCut 51 = .ok (.istore 6, 2) := dok_at gdX1_fewestThatCut_l43 4 rfl
theorem dX1_fewestThatCut_53 : decode cX1_fewestThatCut 53 = .ok (.iload 5, 2) := dok_at gdX1_fewestThatCut_l43 5 rfl
theorem dX1_fewestThatCut_55 : decode cX1_fewestThatCut 55 = .ok (.ifCond .eq 25, 3) := dok_at gdX1_fewestThatCut_l43 6 rfl
theorem dX1_fewestThatCut_58 : decode cX1_fewestThatCut 58 = .ok (.iload 6, 2) := dok_at gdX1_fewestThatCut_l43 7 rfl
theorem dX1_fewestThatCut_60 : decode cX1_fewestThatCut 60 = .ok (.ifCond .eq 20, 3) := dok_at gdX1_fewestThatCut_l43 8 rfl
theorem dX1_fewestThatCut_63 : decode cX1_fewestThatCut 63 = .ok (.aload_n 0, 1) := dok_at gdX1_fewestThatCut_l43 9 rfl
theorem dX1_fewestThatCut_64 : decode cX1_fewestThatCut 64 = .ok (.iload_n 1, 1) := dok_at gdX1_fewestThatCut_l43 10 rfl
theorem dX1_fewestThatCut_65 : decode cX1_fewestThatCut 65 = .ok (.iload 4, 2) := dok_at gdX1_fewestThatCut_l43 11 rfl
theorem dX1_fewestThatCut_67 : decode cX1_fewestThatCut 67 = .ok (.iconst (-1), 1) := dok_at gdX1_fewestThatCut_l43 12 rfl
theorem dX1_fewestThatCut_68 : decode cX1_fewestThatCut 68 = .ok (.ixor, 1) := dok_at gdX1_fewestThatCut_l43 13 rfl
theorem dX1_fewestThatCut_69 : decode cX1_fewestThatCut 69 = .ok (.iand, 1) := dok_at gdX1_fewestThatCut_l43 14 rfl
theorem dX1_fewestThatCut_70 : decode cX1_fewestThatCut 70 = .ok (.iload_n 2, 1) := dok_at gdX1_fewestThatCut_l43 15 rfl
theorem dX1_fewestThatCut_71 : decode cX1_fewestThatCut 71 = .ok (.invokestatic 24, 3) := dok_at gdX1_fewestThatCut_l43 16 rfl
theorem dX1_fewestThatCut_74 : decode cX1_fewestThatCut 74 = .ok (.ifCond .ne 6, 3) := dok_at gdX1_fewestThatCut_l43 17 rfl
theorem dX1_fewestThatCut_77 : decode cX1_fewestThatCut 77 = .ok (.iload 4, 2) := dok_at gdX1_fewestThatCut_l43 18 rfl
theorem dX1_fewestThatCut_79 : decode cX1_fewestThatCut 79 = .ok (.istore_n 3, 1) := dok_at gdX1_fewestThatCut_l43 19 rfl
theorem dX1_fewestThatCut_80 : decode cX1_fewestThatCut 80 = .ok (.iinc 4 1, 3) := dok_at gdX1_fewestThatCut_l43 20 rfl
theorem dX1_fewestThatCut_83 : decode cX1_fewestThatCut 83 = .ok (.goto (-78), 3) := dok_at gdX1_fewestThatCut_l43 21 rfl
theorem dX1_fewestThatCut_86 : decode cX1_fewestThatCut 86 = .ok (.iload_n 3, 1) := dok_at gdX1_fewestThatCut_l43 22 rfl
theorem dX1_fewestThatCut_87 : decode cX1_fewestThatCut 87 = .ok (.ireturn, 1) := dok_at gdX1_fewestThatCut_l43 23 rfl
def dX1_fewestThatDo_l0 : List (Nat × Instr × Nat) := [(0, .aload_n 0, 1), (1, .invokevirtual 15, 3), (4, .istore_n 3, 1), (5, .iconst 1, 1), (6, .istore 4, 2), (8, .iload 4, 2), (10, .aload_n 0, 1), (11, .invokevirtual 15, 3), (14, .if_icmp .gt 48, 3), (17, .iload 4, 2), (19, .invokestatic 19, 3), (22, .iload_n 3, 1), (23, .invokestatic 19, 3), (26, .if_icmp .ge 7, 3), (29, .iconst 1, 1), (30, .goto 4, 3), (33, .iconst 0, 1), (34, .istore 5, 2), (36, .iload 5, 2), (38, .ifCond .eq 18, 3), (41, .aload_n 0, 1), (42, .iload_n 1, 1), (43, .iload 4, 2), (45, .iand, 1)]
theorem gdX1_fewestThatDo_l0 : dok cX1_fewestThatDo dX1_fewestThatDo_l0 = true := by decide +kernel
theorem dX1_fewestThatDo_0 : decode cX1_fewestThatDo 0 = .ok (.aload_n 0, 1) := dok_at gdX1_fewestThatDo_l0 0 rfl
theorem dX1_fewestThatDo_1 : decode cX1_fewestThatDo 1 = .ok (.invokevirtual 15, 3) := dok_at gdX1_fewestThatDo_l0 1 rfl
theorem dX1_fewestThatDo_4 : decode cX1_fewestThatDo 4 = .ok (.istore_n 3, 1) := dok_at gdX1_fewestThatDo_l0 2 rfl
theorem dX1_fewestThatDo_5 : decode cX1_fewestThatDo 5 = .ok (.iconst 1, 1) := dok_at gdX1_fewestThatDo_l0 3 rfl
theorem dX1_fewestThatDo_6 : decode cX1_fewestThatDo 6 = .ok (.istore 4, 2) := dok_at gdX1_fewestThatDo_l0 4 rfl
theorem dX1_fewestThatDo_8 : decode cX1_fewestThatDo 8 = .ok (.iload 4, 2) := dok_at gdX1_fewestThatDo_l0 5 rfl
theorem dX1_fewestThatDo_10 : decode cX1_fewestThatDo 10 = .ok (.aload_n 0, 1) := dok_at gdX1_fewestThatDo_l0 6 rfl
theorem dX1_fewestThatDo_11 : decode cX1_fewestThatDo 11 = .ok (.invokevirtual 15, 3) := dok_at gdX1_fewestThatDo_l0 7 rfl
theorem dX1_fewestThatDo_14 : decode cX1_fewestThatDo 14 = .ok (.if_icmp .gt 48, 3) := dok_at gdX1_fewestThatDo_l0 8 rfl
theorem dX1_fewestThatDo_17 : decode cX1_fewestThatDo 17 = .ok (.iload 4, 2) := dok_at gdX1_fewestThatDo_l0 9 rfl
theorem dX1_fewestThatDo_19 : decode cX1_fewestThatDo 19 = .ok (.invokestatic 19, 3) := dok_at gdX1_fewestThatDo_l0 10 rfl
theorem dX1_fewestThatDo_22 : decode cX1_fewestThatDo 22 = .ok (.iload_n 3, 1) := dok_at gdX1_fewestThatDo_l0 11 rfl
theorem dX1_fewestThatDo_23 : decode cX1_fewestThatDo 23 = .ok (.invokestatic 19, 3) := dok_at gdX1_fewestThatDo_l0 12 rfl
theorem dX1_fewestThatDo_26 : decode cX1_fewestThatDo 26 = .ok (.if_icmp .ge 7, 3) := dok_at gdX1_fewestThatDo_l0 13 rfl
theorem dX1_fewestThatDo_29 : decode cX1_fewestThatDo 29 = .ok (.iconst 1, 1) := dok_at gdX1_fewestThatDo_l0 14 rfl
theorem dX1_fewestThatDo_30 : decode cX1_fewestThatDo 30 = .ok (.goto 4, 3) := dok_at gdX1_fewestThatDo_l0 15 rfl
theorem dX1_fewestThatDo_33 : decode cX1_fewestThatDo 33 = .ok (.iconst 0, 1) := dok_at gdX1_fewestThatDo_l0 16 rfl
theorem dX1_fewestThatDo_34 : decode cX1_fewestThatDo 34 = .ok (.istore 5, 2) := dok_at gdX1_fewestThatDo_l0 17 rfl
theorem dX1_fewestThatDo_36 : decode cX1_fewestThatDo 36 = .ok (.iload 5, 2) := dok_at gdX1_fewestThatDo_l0 18 rfl
theorem dX1_fewestThatDo_38 : decode cX1_fewestThatDo 38 = .ok (.ifCond .eq 18, 3) := dok_at gdX1_fewestThatDo_l0 19 rfl
theorem dX1_fewestThatDo_41 : decode cX1_fewestThatDo 41 = .ok (.aload_n 0, 1) := dok_at gdX1_fewestThatDo_l0 20 rfl
theorem dX1_fewestThatDo_42 : decode cX1_fewestThatDo 42 = .ok (.iload_n 1, 1) := dok_at gdX1_fewestThatDo_l0 21 rfl
theorem dX1_fewestThatDo_43 : decode cX1_fewestThatDo 43 = .ok (.iload 4, 2) := dok_at gdX1_fewestThatDo_l0 22 rfl
theorem dX1_fewestThatDo_45 : decode cX1_fewestThatDo 45 = .ok (.iand, 1) := dok_at gdX1_fewestThatDo_l0 23 rfl
def dX1_fewestThatDo_l46 : List (Nat × Instr × Nat) := [(46, .iload_n 2, 1), (47, .invokestatic 24, 3), (50, .ifCond .eq 6, 3), (53, .iload 4, 2), (55, .istore_n 3, 1), (56, .iinc 4 1, 3), (59, .goto (-51), 3), (62, .iload_n 3, 1), (63, .ireturn, 1)]
theorem gdX1_fewestThatDo_l46 : dok cX1_fewestThatDo dX1_fewestThatDo_l46 = true := by decide +kernel
theorem dX1_fewestThatDo_46 : decode cX1_fewestThatDo 46 = .ok (.iload_n 2, 1) := dok_at gdX1_fewestThatDo_l46 0 rfl
theorem dX1_fewestThatDo_47 : decode cX1_fewestThatDo 47 = .ok (.invokestatic 24, 3) := dok_at gdX1_fewestThatDo_l46 1 rfl
theorem dX1_fewestThatDo_50 : decode cX1_fewestThatDo 50 = .ok (.ifCond .eq 6, 3) := dok_at gdX1_fewestThatDo_l46 2 rfl
theorem dX1_fewestThatDo_53 : decode cX1_fewestThatDo 53 = .ok (.iload 4, 2) := dok_at gdX1_fewestThatDo_l46 3 rfl
theorem dX1_fewestThatDo_55 : decode cX1_fewestThatDo 55 = .ok (.istore_n 3, 1) := dok_at gdX1_fewestThatDo_l46 4 rfl
theorem dX1_fewestThatDo_56 : decode cX1_fewestThatDo 56 = .ok (.iinc 4 1, 3) := dok_at gdX1_fewestThatDo_l46 5 rfl
theorem dX1_fewestThatDo_59 : decode cX1_fewestThatDo 59 = .ok (.goto (-51), 3) := dok_at gdX1_fewestThatDo_l46 6 rfl
theorem dX1_fewestThatDo_62 : decode cX1_fewestThatDo 62 = .ok (.iload_n 3, 1) := dok_at gdX1_fewestThatDo_l46 7 rfl
theorem dX1_fewestThatDo_63 : decode cX1_fewestThatDo 63 = .ok (.ireturn, 1) := dok_at gdX1_fewestThatDo_l46 8 rfl
def dX1_neverWithout_l0 : List (Nat × Instr × Nat) := [(0, .iconst 0, 1), (1, .istore_n 3, 1), (2, .iconst 0, 1), (3, .istore 4, 2), (5, .iload 4, 2), (7, .aload_n 0, 1), (8, .getfield 30, 3), (11, .if_icmp .ge 32, 3), (14, .aload_n 0, 1), (15, .iload_n 1, 1), (16, .iconst 1, 1), (17, .iload 4, 2), (19, .ishl, 1), (20, .iconst (-1), 1), (21, .ixor, 1), (22, .iand, 1), (23, .iload_n 2, 1), (24, .invokestatic 24, 3), (27, .ifCond .ne 10, 3), (30, .iload_n 3, 1), (31, .iconst 1, 1), (32, .iload 4, 2), (34, .ishl, 1), (35, .ior, 1)]
theorem gdX1_neverWithout_l0 : dok cX1_neverWithout dX1_neverWithout_l0 = true := by decide +kernel
theorem dX1_neverWithout_0 : decode cX1_neverWithout 0 = .ok (.iconst 0, 1) := dok_at gdX1_neverWithout_l0 0 rfl
theorem dX1_neverWithout_1 : decode cX1_neverWithout 1 = .ok (.istore_n 3, 1) := dok_at gdX1_neverWithout_l0 1 rfl
theorem dX1_neverWithout_2 : decode cX1_neverWithout 2 = .ok (.iconst 0, 1) := dok_at gdX1_neverWithout_l0 2 rfl
theorem dX1_neverWithout_3 : decode cX1_neverWithout 3 = .ok (.istore 4, 2) := dok_at gdX1_neverWithout_l0 3 rfl
theorem dX1_neverWithout_5 : decode cX1_neverWithout 5 = .ok (.iload 4, 2) := dok_at gdX1_neverWithout_l0 4 rfl
theorem dX1_neverWithout_7 : decode cX1_neverWithout 7 = .ok (.aload_n 0, 1) := dok_at gdX1_neverWithout_l0 5 rfl
theorem dX1_neverWithout_8 : decode cX1_neverWithout 8 = .ok (.getfield 30, 3) := dok_at gdX1_neverWithout_l0 6 rfl
theorem dX1_neverWithout_11 : decode cX1_neverWithout 11 = .ok (.if_icmp .ge 32, 3) := dok_at gdX1_neverWithout_l0 7 rfl
theorem dX1_neverWithout_14 : decode cX1_neverWithout 14 = .ok (.aload_n 0, 1) := dok_at gdX1_neverWithout_l0 8 rfl
theorem dX1_neverWithout_15 : decode cX1_neverWithout 15 = .ok (.iload_n 1, 1) := dok_at gdX1_neverWithout_l0 9 rfl
theorem dX1_neverWithout_16 : decode cX1_neverWithout 16 = .ok (.iconst 1, 1) := dok_at gdX1_neverWithout_l0 10 rfl
theorem dX1_neverWithout_17 : decode cX1_neverWithout 17 = .ok (.iload 4, 2) := dok_at gdX1_neverWithout_l0 11 rfl
theorem dX1_neverWithout_19 : decode cX1_neverWithout 19 = .ok (.ishl, 1) := dok_at gdX1_neverWithout_l0 12 rfl
theorem dX1_neverWithout_20 : decode cX1_neverWithout 20 = .ok (.iconst (-1), 1) := dok_at gdX1_neverWithout_l0 13 rfl
theorem dX1_neverWithout_21 : decode cX1_neverWithout 21 = .ok (.ixor, 1) := dok_at gdX1_neverWithout_l0 14 rfl
theorem dX1_neverWithout_22 : decode cX1_neverWithout 22 = .ok (.iand, 1) := dok_at gdX1_neverWithout_l0 15 rfl
theorem dX1_neverWithout_23 : decode cX1_neverWithout 23 = .ok (.iload_n 2, 1) := dok_at gdX1_neverWithout_l0 16 rfl
theorem dX1_neverWithout_24 : decode cX1_neverWithout 24 = .ok (.invokestatic 24, 3) := dok_at gdX1_neverWithout_l0 17 rfl
theorem dX1_neverWithout_27 : decode cX1_neverWithout 27 = .ok (.ifCond .ne 10, 3) := dok_at gdX1_neverWithout_l0 18 rfl
theorem dX1_neverWithout_30 : decode cX1_neverWithout 30 = .ok (.iload_n 3, 1) := dok_at gdX1_neverWithout_l0 19 rfl
theorem dX1_neverWithout_31 : decode cX1_neverWithout 31 = .ok (.iconst 1, 1) := dok_at gdX1_neverWithout_l0 20 rfl
theorem dX1_neverWithout_32 : decode cX1_neverWithout 32 = .ok (.iload 4, 2) := dok_at gdX1_neverWithout_l0 21 rfl
theorem dX1_neverWithout_34 : decode cX1_neverWithout 34 = .ok (.ishl, 1) := dok_at gdX1_neverWithout_l0 22 rfl
theorem dX1_neverWithout_35 : decode cX1_neverWithout 35 = .ok (.ior, 1) := dok_at gdX1_neverWithout_l0 23 rfl
def dX1_neverWithout_l36 : List (Nat × Instr × Nat) := [(36, .istore_n 3, 1), (37, .iinc 4 1, 3), (40, .goto (-35), 3), (43, .iload_n 3, 1), (44, .ireturn, 1)]
theorem gdX1_neverWithout_l36 : dok cX1_neverWithout dX1_neverWithout_l36 = true := by decide +kernel
theorem dX1_neverWithout_36 : decode cX1_neverWithout 36 = .ok (.istore_n 3, 1) := dok_at gdX1_neverWithout_l36 0 rfl
theorem dX1_neverWithout_37 : decode cX1_neverWithout 37 = .ok (.iinc 4 1, 3) := dok_at gdX1_neverWithout_l36 1 rfl
theorem dX1_neverWithout_40 : decode cX1_neverWithout 40 = .ok (.goto (-35), 3) := dok_at gdX1_neverWithout_l36 2 rfl
theorem dX1_neverWithout_43 : decode cX1_neverWithout 43 = .ok (.iload_n 3, 1) := dok_at gdX1_neverWithout_l36 3 rfl
theorem dX1_neverWithout_44 : decode cX1_neverWithout 44 = .ok (.ireturn, 1) := dok_at gdX1_neverWithout_l36 4 rfl
def dX1_thatExplain_l0 : List (Nat × Instr × Nat) := [(0, .aload_n 0, 1), (1, .invokevirtual 15, 3), (4, .istore_n 2, 1), (5, .aload_n 0, 1), (6, .iload_n 2, 1), (7, .invokevirtual 9, 3), (10, .iload_n 1, 1), (11, .if_icmp .ne 9, 3), (14, .sipush 256, 3), (17, .goto 4, 3), (20, .iconst 0, 1), (21, .istore_n 3, 1), (22, .iconst 0, 1), (23, .istore 4, 2), (25, .iload 4, 2), (27, .aload_n 0, 1), (28, .getfield 30, 3), (31, .if_icmp .ge 32, 3), (34, .aload_n 0, 1), (35, .iload_n 2, 1), (36, .iconst 1, 1), (37, .iload 4, 2), (39, .ishl, 1), (40, .iconst (-1), 1)]
theorem gdX1_thatExplain_l0 : dok cX1_thatExplain dX1_thatExplain_l0 = true := by decide +kernel
theorem dX1_thatExplain_0 : decode cX1_thatExplain 0 = .ok (.aload_n 0, 1) := dok_at gdX1_thatExplain_l0 0 rfl
theorem dX1_thatExplain_1 : decode cX1_thatExplain 1 = .ok (.invokevirtual 15, 3) := dok_at gdX1_thatExplain_l0 1 rfl
theorem dX1_thatExplain_4 : decode cX1_thatExplain 4 = .ok (.istore_n 2, 1) := dok_at gdX1_thatExplain_l0 2 rfl
theorem dX1_thatExplain_5 : decode cX1_thatExplain 5 = .ok (.aload_n 0, 1) := dok_at gdX1_thatExplain_l0 3 rfl
theorem dX1_thatExplain_6 : decode cX1_thatExplain 6 = .ok (.iload_n 2, 1) := dok_at gdX1_thatExplain_l0 4 rfl
theorem dX1_thatExplain_7 : decode cX1_thatExplain 7 = .ok (.invokevirtual 9, 3) := dok_at gdX1_thatExplain_l0 5 rfl
theorem dX1_thatExplain_10 : decode cX1_thatExplain 10 = .ok (.iload_n 1, 1) := dok_at gdX1_thatExplain_l0 6 rfl
theorem dX1_thatExplain_11 : decode cX1_thatExplain 11 = .ok (.if_icmp .ne 9, 3) := dok_at gdX1_thatExplain_l0 7 rfl
theorem dX1_thatExplain_14 : decode cX1_thatExplain 14 = .ok (.sipush 256, 3) := dok_at gdX1_thatExplain_l0 8 rfl
theorem dX1_thatExplain_17 : decode cX1_thatExplain 17 = .ok (.goto 4, 3) := dok_at gdX1_thatExplain_l0 9 rfl
theorem dX1_thatExplain_20 : decode cX1_thatExplain 20 = .ok (.iconst 0, 1) := dok_at gdX1_thatExplain_l0 10 rfl
theorem dX1_thatExplain_21 : decode cX1_thatExplain 21 = .ok (.istore_n 3, 1) := dok_at gdX1_thatExplain_l0 11 rfl
theorem dX1_thatExplain_22 : decode cX1_thatExplain 22 = .ok (.iconst 0, 1) := dok_at gdX1_thatExplain_l0 12 rfl
theorem dX1_thatExplain_23 : decode cX1_thatExplain 23 = .ok (.istore 4, 2) := dok_at gdX1_thatExplain_l0 13 rfl
theorem dX1_thatExplain_25 : decode cX1_thatExplain 25 = .ok (.iload 4, 2) := dok_at gdX1_thatExplain_l0 14 rfl
theorem dX1_thatExplain_27 : decode cX1_thatExplain 27 = .ok (.aload_n 0, 1) := dok_at gdX1_thatExplain_l0 15 rfl
theorem dX1_thatExplain_28 : decode cX1_thatExplain 28 = .ok (.getfield 30, 3) := dok_at gdX1_thatExplain_l0 16 rfl
theorem dX1_thatExplain_31 : decode cX1_thatExplain 31 = .ok (.if_icmp .ge 32, 3) := dok_at gdX1_thatExplain_l0 17 rfl
theorem dX1_thatExplain_34 : decode cX1_thatExplain 34 = .ok (.aload_n 0, 1) := dok_at gdX1_thatExplain_l0 18 rfl
theorem dX1_thatExplain_35 : decode cX1_thatExplain 35 = .ok (.iload_n 2, 1) := dok_at gdX1_thatExplain_l0 19 rfl
theorem dX1_thatExplain_36 : decode cX1_thatExplain 36 = .ok (.iconst 1, 1) := dok_at gdX1_thatExplain_l0 20 rfl
theorem dX1_thatExplain_37 : decode cX1_thatExplain 37 = .ok (.iload 4, 2) := dok_at gdX1_thatExplain_l0 21 rfl
theorem dX1_thatExplain_39 : decode cX1_thatExplain 39 = .ok (.ishl, 1) := dok_at gdX1_thatExplain_l0 22 rfl
theorem dX1_thatExplain_40 : decode cX1_thatExplain 40 = .ok (.iconst (-1), 1) := dok_at gdX1_thatExplain_l0 23 rfl
def dX1_thatExplain_l41 : List (Nat × Instr × Nat) := [(41, .ixor, 1), (42, .iand, 1), (43, .invokevirtual 9, 3), (46, .iload_n 1, 1), (47, .if_icmp .ne 10, 3), (50, .iload_n 3, 1), (51, .iconst 1, 1), (52, .iload 4, 2), (54, .ishl, 1), (55, .ior, 1), (56, .istore_n 3, 1), (57, .iinc 4 1, 3), (60, .goto (-35), 3), (63, .iload_n 3, 1), (64, .ireturn, 1)]
theorem gdX1_thatExplain_l41 : dok cX1_thatExplain dX1_thatExplain_l41 = true := by decide +kernel
theorem dX1_thatExplain_41 : decode cX1_thatExplain 41 = .ok (.ixor, 1) := dok_at gdX1_thatExplain_l41 0 rfl
theorem dX1_thatExplain_42 : decode cX1_thatExplain 42 = .ok (.iand, 1) := dok_at gdX1_thatExplain_l41 1 rfl
theorem dX1_thatExplain_43 : decode cX1_thatExplain 43 = .ok (.invokevirtual 9, 3) := dok_at gdX1_thatExplain_l41 2 rfl
theorem dX1_thatExplain_46 : decode cX1_thatExplain 46 = .ok (.iload_n 1, 1) := dok_at gdX1_thatExplain_l41 3 rfl
theorem dX1_thatExplain_47 : decode cX1_thatExplain 47 = .ok (.if_icmp .ne 10, 3) := dok_at gdX1_thatExplain_l41 4 rfl
theorem dX1_thatExplain_50 : decode cX1_thatExplain 50 = .ok (.iload_n 3, 1) := dok_at gdX1_thatExplain_l41 5 rfl
theorem dX1_thatExplain_51 : decode cX1_thatExplain 51 = .ok (.iconst 1, 1) := dok_at gdX1_thatExplain_l41 6 rfl
theorem dX1_thatExplain_52 : decode cX1_thatExplain 52 = .ok (.iload 4, 2) := dok_at gdX1_thatExplain_l41 7 rfl
theorem dX1_thatExplain_54 : decode cX1_thatExplain 54 = .ok (.ishl, 1) := dok_at gdX1_thatExplain_l41 8 rfl
theorem dX1_thatExplain_55 : decode cX1_thatExplain 55 = .ok (.ior, 1) := dok_at gdX1_thatExplain_l41 9 rfl
theorem dX1_thatExplain_56 : decode cX1_thatExplain 56 = .ok (.istore_n 3, 1) := dok_at gdX1_thatExplain_l41 10 rfl
theorem dX1_thatExplain_57 : decode cX1_thatExplain 57 = .ok (.iinc 4 1, 3) := dok_at gdX1_thatExplain_l41 11 rfl
theorem dX1_thatExplain_60 : decode cX1_thatExplain 60 = .ok (.goto (-35), 3) := dok_at gdX1_thatExplain_l41 12 rfl
theorem dX1_thatExplain_63 : decode cX1_thatExplain 63 = .ok (.iload_n 3, 1) := dok_at gdX1_thatExplain_l41 13 rfl
theorem dX1_thatExplain_64 : decode cX1_thatExplain 64 = .ok (.ireturn, 1) := dok_at gdX1_thatExplain_l41 14 rfl
def dX2_init_l0 : List (Nat × Instr × Nat) := [(0, .aload_n 0, 1), (1, .invokespecial 1, 3), (4, .aload_n 0, 1), (5, .bipush 64, 2), (7, .newarray .int, 2), (9, .putfield 9, 3), (12, .aload_n 0, 1), (13, .bipush 64, 2), (15, .newarray .int, 2), (17, .putfield 13, 3), (20, .aload_n 0, 1), (21, .bipush 64, 2), (23, .newarray .int, 2), (25, .putfield 16, 3), (28, .aload_n 0, 1), (29, .iconst 0, 1), (30, .putfield 19, 3), (33, .return_, 1)]
theorem gdX2_init_l0 : dok cX2_init dX2_init_l0 = true := by decide +kernel
theorem dX2_init_0 : decode cX2_init 0 = .ok (.aload_n 0, 1) := dok_at gdX2_init_l0 0 rfl
theorem dX2_init_1 : decode cX2_init 1 = .ok (.invokespecial 1, 3) := dok_at gdX2_init_l0 1 rfl
theorem dX2_init_4 : decode cX2_init 4 = .ok (.aload_n 0, 1) := dok_at gdX2_init_l0 2 rfl
theorem dX2_init_5 : decode cX2_init 5 = .ok (.bipush 64, 2) := dok_at gdX2_init_l0 3 rfl
theorem dX2_init_7 : decode cX2_init 7 = .ok (.newarray .int, 2) := dok_at gdX2_init_l0 4 rfl
theorem dX2_init_9 : decode cX2_init 9 = .ok (.putfield 9, 3) := dok_at gdX2_init_l0 5 rfl
theorem dX2_init_12 : decode cX2_init 12 = .ok (.aload_n 0, 1) := dok_at gdX2_init_l0 6 rfl
theorem dX2_init_13 : decode cX2_init 13 = .ok (.bipush 64, 2) := dok_at gdX2_init_l0 7 rfl
theorem dX2_init_15 : decode cX2_init 15 = .ok (.newarray .int, 2) := dok_at gdX2_init_l0 8 rfl
theorem dX2_init_17 : decode cX2_init 17 = .ok (.putfield 13, 3) := dok_at gdX2_init_l0 9 rfl
theorem dX2_init_20 : decode cX2_init 20 = .ok (.aload_n 0, 1) := dok_at gdX2_init_l0 10 rfl
theorem dX2_init_21 : decode cX2_init 21 = .ok (.bipush 64, 2) := dok_at gdX2_init_l0 11 rfl
theorem dX2_init_23 : decode cX2_init 23 = .ok (.newarray .int, 2) := dok_at gdX2_init_l0 12 rfl
theorem dX2_init_25 : decode cX2_init 25 = .ok (.putfield 16, 3) := dok_at gdX2_init_l0 13 rfl
theorem dX2_init_28 : decode cX2_init 28 = .ok (.aload_n 0, 1) := dok_at gdX2_init_l0 14 rfl
theorem dX2_init_29 : decode cX2_init 29 = .ok (.iconst 0, 1) := dok_at gdX2_init_l0 15 rfl
theorem dX2_init_30 : decode cX2_init 30 = .ok (.putfield 19, 3) := dok_at gdX2_init_l0 16 rfl
theorem dX2_init_33 : decode cX2_init 33 = .ok (.return_, 1) := dok_at gdX2_init_l0 17 rfl
def dX2_note_l0 : List (Nat × Instr × Nat) := [(0, .aload_n 0, 1), (1, .getfield 19, 3), (4, .bipush 64, 2), (6, .if_icmp .lt 4, 3), (9, .return_, 1), (10, .aload_n 0, 1), (11, .getfield 9, 3), (14, .aload_n 0, 1), (15, .getfield 19, 3), (18, .iload_n 1, 1), (19, .iastore, 1), (20, .aload_n 0, 1), (21, .getfield 13, 3), (24, .aload_n 0, 1), (25, .getfield 19, 3), (28, .iload_n 2, 1), (29, .iastore, 1), (30, .aload_n 0, 1), (31, .getfield 16, 3), (34, .aload_n 0, 1), (35, .getfield 19, 3), (38, .iload_n 3, 1), (39, .iastore, 1), (40, .aload_n 0, 1)]
theorem gdX2_note_l0 : dok cX2_note dX2_note_l0 = true := by decide +kernel
theorem dX2_note_0 : decode cX2_note 0 = .ok (.aload_n 0, 1) := dok_at gdX2_note_l0 0 rfl
theorem dX2_note_1 : decode cX2_note 1 = .ok (.getfield 19, 3) := dok_at gdX2_note_l0 1 rfl
theorem dX2_note_4 : decode cX2_note 4 = .ok (.bipush 64, 2) := dok_at gdX2_note_l0 2 rfl
theorem dX2_note_6 : decode cX2_note 6 = .ok (.if_icmp .lt 4, 3) := dok_at gdX2_note_l0 3 rfl
theorem dX2_note_9 : decode cX2_note 9 = .ok (.return_, 1) := dok_at gdX2_note_l0 4 rfl
theorem dX2_note_10 : decode cX2_note 10 = .ok (.aload_n 0, 1) := dok_at gdX2_note_l0 5 rfl
theorem dX2_note_11 : decode cX2_note 11 = .ok (.getfield 9, 3) := dok_at gdX2_note_l0 6 rfl
theorem dX2_note_14 : decode cX2_note 14 = .ok (.aload_n 0, 1) := dok_at gdX2_note_l0 7 rfl
theorem dX2_note_15 : decode cX2_note 15 = .ok (.getfield 19, 3) := dok_at gdX2_note_l0 8 rfl
theorem dX2_note_18 : decode cX2_note 18 = .ok (.iload_n 1, 1) := dok_at gdX2_note_l0 9 rfl
theorem dX2_note_19 : decode cX2_note 19 = .ok (.iastore, 1) := dok_at gdX2_note_l0 10 rfl
theorem dX2_note_20 : decode cX2_note 20 = .ok (.aload_n 0, 1) := dok_at gdX2_note_l0 11 rfl
theorem dX2_note_21 : decode cX2_note 21 = .ok (.getfield 13, 3) := dok_at gdX2_note_l0 12 rfl
theorem dX2_note_24 : decode cX2_note 24 = .ok (.aload_n 0, 1) := dok_at gdX2_note_l0 13 rfl
theorem dX2_note_25 : decode cX2_note 25 = .ok (.getfield 19, 3) := dok_at gdX2_note_l0 14 rfl
theorem dX2_note_28 : decode cX2_note 28 = .ok (.iload_n 2, 1) := dok_at gdX2_note_l0 15 rfl
theorem dX2_note_29 : decode cX2_note 29 = .ok (.iastore, 1) := dok_at gdX2_note_l0 16 rfl
theorem dX2_note_30 : decode cX2_note 30 = .ok (.aload_n 0, 1) := dok_at gdX2_note_l0 17 rfl
theorem dX2_note_31 : decode cX2_note 31 = .ok (.getfield 16, 3) := dok_at gdX2_note_l0 18 rfl
theorem dX2_note_34 : decode cX2_note 34 = .ok (.aload_n 0, 1) := dok_at gdX2_note_l0 19 rfl
theorem dX2_note_35 : decode cX2_note 35 = .ok (.getfield 19, 3) := dok_at gdX2_note_l0 20 rfl
theorem dX2_note_38 : decode cX2_note 38 = .ok (.iload_n 3, 1) := dok_at gdX2_note_l0 21 rfl
theorem dX2_note_39 : decode cX2_note 39 = .ok (.iastore, 1) := dok_at gdX2_note_l0 22 rfl
theorem dX2_note_40 : decode cX2_note 40 = .ok (.aload_n 0, 1) := dok_at gdX2_note_l0 23 rfl
def dX2_note_l41 : List (Nat × Instr × Nat) := [(41, .dup, 1), (42, .getfield 19, 3), (45, .iconst 1, 1), (46, .iadd, 1), (47, .putfield 19, 3), (50, .return_, 1)]
theorem gdX2_note_l41 : dok cX2_note dX2_note_l41 = true := by decide +kernel
theorem dX2_note_41 : decode cX2_note 41 = .ok (.dup, 1) := dok_at gdX2_note_l41 0 rfl
theorem dX2_note_42 : decode cX2_note 42 = .ok (.getfield 19, 3) := dok_at gdX2_note_l41 1 rfl
theorem dX2_note_45 : decode cX2_note 45 = .ok (.iconst 1, 1) := dok_at gdX2_note_l41 2 rfl
theorem dX2_note_46 : decode cX2_note 46 = .ok (.iadd, 1) := dok_at gdX2_note_l41 3 rfl
theorem dX2_note_47 : decode cX2_note 47 = .ok (.putfield 19, 3) := dok_at gdX2_note_l41 4 rfl
theorem dX2_note_50 : decode cX2_note 50 = .ok (.return_, 1) := dok_at gdX2_note_l41 5 rfl
def dX3_init_l0 : List (Nat × Instr × Nat) := [(0, .aload_n 0, 1), (1, .invokespecial 3, 3), (4, .aload_n 0, 1), (5, .bipush 64, 2), (7, .newarray .int, 2), (9, .putfield 11, 3), (12, .aload_n 0, 1), (13, .bipush 64, 2), (15, .newarray .long, 2), (17, .putfield 15, 3), (20, .aload_n 0, 1), (21, .iconst 0, 1), (22, .putfield 19, 3), (25, .aload_n 0, 1), (26, .sipush 999, 3), (29, .putfield 23, 3), (32, .aload_n 0, 1), (33, .iconst 0, 1), (34, .putfield 26, 3), (37, .aload_n 0, 1), (38, .iconst 5, 1), (39, .putfield 29, 3), (42, .return_, 1)]
theorem gdX3_init_l0 : dok cX3_init dX3_init_l0 = true := by decide +kernel
theorem dX3_init_0 : decode cX3_init 0 = .ok (.aload_n 0, 1) := dok_at gdX3_init_l0 0 rfl
theorem dX3_init_1 : decode cX3_init 1 = .ok (.invokespecial 3, 3) := dok_at gdX3_init_l0 1 rfl
theorem dX3_init_4 : decode cX3_init 4 = .ok (.aload_n 0, 1) := dok_at gdX3_init_l0 2 rfl
theorem dX3_init_5 : decode cX3_init 5 = .ok (.bipush 64, 2) := dok_at gdX3_init_l0 3 rfl
theorem dX3_init_7 : decode cX3_init 7 = .ok (.newarray .int, 2) := dok_at gdX3_init_l0 4 rfl
theorem dX3_init_9 : decode cX3_init 9 = .ok (.putfield 11, 3) := dok_at gdX3_init_l0 5 rfl
theorem dX3_init_12 : decode cX3_init 12 = .ok (.aload_n 0, 1) := dok_at gdX3_init_l0 6 rfl
theorem dX3_init_13 : decode cX3_init 13 = .ok (.bipush 64, 2) := dok_at gdX3_init_l0 7 rfl
theorem dX3_init_15 : decode cX3_init 15 = .ok (.newarray .long, 2) := dok_at gdX3_init_l0 8 rfl
theorem dX3_init_17 : decode cX3_init 17 = .ok (.putfield 15, 3) := dok_at gdX3_init_l0 9 rfl
theorem dX3_init_20 : decode cX3_init 20 = .ok (.aload_n 0, 1) := dok_at gdX3_init_l0 10 rfl
theorem dX3_init_21 : decode cX3_init 21 = .ok (.iconst 0, 1) := dok_at gdX3_init_l0 11 rfl
theorem dX3_init_22 : decode cX3_init 22 = .ok (.putfield 19, 3) := dok_at gdX3_init_l0 12 rfl
theorem dX3_init_25 : decode cX3_init 25 = .ok (.aload_n 0, 1) := dok_at gdX3_init_l0 13 rfl
theorem dX3_init_26 : decode cX3_init 26 = .ok (.sipush 999, 3) := dok_at gdX3_init_l0 14 rfl
theorem dX3_init_29 : decode cX3_init 29 = .ok (.putfield 23, 3) := dok_at gdX3_init_l0 15 rfl
theorem dX3_init_32 : decode cX3_init 32 = .ok (.aload_n 0, 1) := dok_at gdX3_init_l0 16 rfl
theorem dX3_init_33 : decode cX3_init 33 = .ok (.iconst 0, 1) := dok_at gdX3_init_l0 17 rfl
theorem dX3_init_34 : decode cX3_init 34 = .ok (.putfield 26, 3) := dok_at gdX3_init_l0 18 rfl
theorem dX3_init_37 : decode cX3_init 37 = .ok (.aload_n 0, 1) := dok_at gdX3_init_l0 19 rfl
theorem dX3_init_38 : decode cX3_init 38 = .ok (.iconst 5, 1) := dok_at gdX3_init_l0 20 rfl
theorem dX3_init_39 : decode cX3_init 39 = .ok (.putfield 29, 3) := dok_at gdX3_init_l0 21 rfl
theorem dX3_init_42 : decode cX3_init 42 = .ok (.return_, 1) := dok_at gdX3_init_l0 22 rfl
def dX3_reset_l0 : List (Nat × Instr × Nat) := [(0, .aload_n 0, 1), (1, .iconst 0, 1), (2, .putfield 19, 3), (5, .aload_n 0, 1), (6, .sipush 999, 3), (9, .putfield 23, 3), (12, .aload_n 0, 1), (13, .iconst 0, 1), (14, .putfield 26, 3), (17, .aload_n 0, 1), (18, .iconst 5, 1), (19, .putfield 29, 3), (22, .return_, 1)]
theorem gdX3_reset_l0 : dok cX3_reset dX3_reset_l0 = true := by decide +kernel
theorem dX3_reset_0 : decode cX3_reset 0 = .ok (.aload_n 0, 1) := dok_at gdX3_reset_l0 0 rfl
theorem dX3_reset_1 : decode cX3_reset 1 = .ok (.iconst 0, 1) := dok_at gdX3_reset_l0 1 rfl
theorem dX3_reset_2 : decode cX3_reset 2 = .ok (.putfield 19, 3) := dok_at gdX3_reset_l0 2 rfl
theorem dX3_reset_5 : decode cX3_reset 5 = .ok (.aload_n 0, 1) := dok_at gdX3_reset_l0 3 rfl
theorem dX3_reset_6 : decode cX3_reset 6 = .ok (.sipush 999, 3) := dok_at gdX3_reset_l0 4 rfl
theorem dX3_reset_9 : decode cX3_reset 9 = .ok (.putfield 23, 3) := dok_at gdX3_reset_l0 5 rfl
theorem dX3_reset_12 : decode cX3_reset 12 = .ok (.aload_n 0, 1) := dok_at gdX3_reset_l0 6 rfl
theorem dX3_reset_13 : decode cX3_reset 13 = .ok (.iconst 0, 1) := dok_at gdX3_reset_l0 7 rfl
theorem dX3_reset_14 : decode cX3_reset 14 = .ok (.putfield 26, 3) := dok_at gdX3_reset_l0 8 rfl
theorem dX3_reset_17 : decode cX3_reset 17 = .ok (.aload_n 0, 1) := dok_at gdX3_reset_l0 9 rfl
theorem dX3_reset_18 : decode cX3_reset 18 = .ok (.iconst 5, 1) := dok_at gdX3_reset_l0 10 rfl
theorem dX3_reset_19 : decode cX3_reset 19 = .ok (.putfield 29, 3) := dok_at gdX3_reset_l0 11 rfl
theorem dX3_reset_22 : decode cX3_reset 22 = .ok (.return_, 1) := dok_at gdX3_reset_l0 12 rfl
def dX3_addRail_l0 : List (Nat × Instr × Nat) := [(0, .aload_n 0, 1), (1, .aload_n 0, 1), (2, .getfield 19, 3), (5, .iconst 2, 1), (6, .iconst 1, 1), (7, .invokevirtual 32, 3), (10, .aload_n 0, 1), (11, .aload_n 0, 1), (12, .getfield 19, 3), (15, .iconst 3, 1), (16, .iconst 1, 1), (17, .invokevirtual 32, 3), (20, .aload_n 0, 1), (21, .aload_n 0, 1), (22, .getfield 19, 3), (25, .iconst 4, 1), (26, .iconst 2, 1), (27, .invokevirtual 32, 3), (30, .aload_n 0, 1), (31, .aload_n 0, 1), (32, .getfield 19, 3), (35, .iconst 5, 1), (36, .iconst 0, 1), (37, .invokevirtual 32, 3)]
theorem gdX3_addRail_l0 : dok cX3_addRail dX3_addRail_l0 = true := by decide +kernel
theorem dX3_addRail_0 : decode cX3_addRail 0 = .ok (.aload_n 0, 1) := dok_at gdX3_addRail_l0 0 rfl
theorem dX3_addRail_1 : decode cX3_addRail 1 = .ok (.aload_n 0, 1) := dok_at gdX3_addRail_l0 1 rfl
theorem dX3_addRail_2 : decode cX3_addRail 2 = .ok (.getfield 19, 3) := dok_at gdX3_addRail_l0 2 rfl
theorem dX3_addRail_5 : decode cX3_addRail 5 = .ok (.iconst 2, 1) := dok_at gdX3_addRail_l0 3 rfl
theorem dX3_addRail_6 : decode cX3_addRail 6 = .ok (.iconst 1, 1) := dok_at gdX3_addRail_l0 4 rfl
theorem dX3_addRail_7 : decode cX3_addRail 7 = .ok (.invokevirtual 32, 3) := dok_at gdX3_addRail_l0 5 rfl
theorem dX3_addRail_10 : decode cX3_addRail 10 = .ok (.aload_n 0, 1) := dok_at gdX3_addRail_l0 6 rfl
theorem dX3_addRail_11 : decode cX3_addRail 11 = .ok (.aload_n 0, 1) := dok_at gdX3_addRail_l0 7 rfl
theorem dX3_addRail_12 : decode cX3_addRail 12 = .ok (.getfield 19, 3) := dok_at gdX3_addRail_l0 8 rfl
theorem dX3_addRail_15 : decode cX3_addRail 15 = .ok (.iconst 3, 1) := dok_at gdX3_addRail_l0 9 rfl
theorem dX3_addRail_16 : decode cX3_addRail 16 = .ok (.iconst 1, 1) := dok_at gdX3_addRail_l0 10 rfl
theorem dX3_addRail_17 : decode cX3_addRail 17 = .ok (.invokevirtual 32, 3) := dok_at gdX3_addRail_l0 11 rfl
theorem dX3_addRail_20 : decode cX3_addRail 20 = .ok (.aload_n 0, 1) := dok_at gdX3_addRail_l0 12 rfl
theorem dX3_addRail_21 : decode cX3_addRail 21 = .ok (.aload_n 0, 1) := dok_at gdX3_addRail_l0 13 rfl
theorem dX3_addRail_22 : decode cX3_addRail 22 = .ok (.getfield 19, 3) := dok_at gdX3_addRail_l0 14 rfl
theorem dX3_addRail_25 : decode cX3_addRail 25 = .ok (.iconst 4, 1) := dok_at gdX3_addRail_l0 15 rfl
theorem dX3_addRail_26 : decode cX3_addRail 26 = .ok (.iconst 2, 1) := dok_at gdX3_addRail_l0 16 rfl
theorem dX3_addRail_27 : decode cX3_addRail 27 = .ok (.invokevirtual 32, 3) := dok_at gdX3_addRail_l0 17 rfl
theorem dX3_addRail_30 : decode cX3_addRail 30 = .ok (.aload_n 0, 1) := dok_at gdX3_addRail_l0 18 rfl
theorem dX3_addRail_31 : decode cX3_addRail 31 = .ok (.aload_n 0, 1) := dok_at gdX3_addRail_l0 19 rfl
theorem dX3_addRail_32 : decode cX3_addRail 32 = .ok (.getfield 19, 3) := dok_at gdX3_addRail_l0 20 rfl
theorem dX3_addRail_35 : decode cX3_addRail 35 = .ok (.iconst 5, 1) := dok_at gdX3_addRail_l0 21 rfl
theorem dX3_addRail_36 : decode cX3_addRail 36 = .ok (.iconst 0, 1) := dok_at gdX3_addRail_l0 22 rfl
theorem dX3_addRail_37 : decode cX3_addRail 37 = .ok (.invokevirtual 32, 3) := dok_at gdX3_addRail_l0 23 rfl
def dX3_addRail_l40 : List (Nat × Instr × Nat) := [(40, .aload_n 0, 1), (41, .aload_n 0, 1), (42, .getfield 19, 3), (45, .bipush 6, 2), (47, .iconst 0, 1), (48, .invokevirtual 32, 3), (51, .aload_n 0, 1), (52, .aload_n 0, 1), (53, .getfield 19, 3), (56, .bipush 7, 2), (58, .sipush 256, 3), (61, .invokevirtual 32, 3), (64, .iconst 0, 1), (65, .istore_n 1, 1), (66, .iload_n 1, 1), (67, .bipush 8, 2), (69, .if_icmp .ge 35, 3), (72, .aload_n 0, 1), (73, .getfield 15, 3), (76, .aload_n 0, 1), (77, .getfield 19, 3), (80, .bipush 8, 2), (82, .imul, 1), (83, .iload_n 1, 1)]
theorem gdX3_addRail_l40 : dok cX3_addRail dX3_addRail_l40 = true := by decide +kernel
theorem dX3_addRail_40 : decode cX3_addRail 40 = .ok (.aload_n 0, 1) := dok_at gdX3_addRail_l40 0 rfl
theorem dX3_addRail_41 : decode cX3_addRail 41 = .ok (.aload_n 0, 1) := dok_at gdX3_addRail_l40 1 rfl
theorem dX3_addRail_42 : decode cX3_addRail 42 = .ok (.getfield 19, 3) := dok_at gdX3_addRail_l40 2 rfl
theorem dX3_addRail_45 : decode cX3_addRail 45 = .ok (.bipush 6, 2) := dok_at gdX3_addRail_l40 3 rfl
theorem dX3_addRail_47 : decode cX3_addRail 47 = .ok (.iconst 0, 1) := dok_at gdX3_addRail_l40 4 rfl
theorem dX3_addRail_48 : decode cX3_addRail 48 = .ok (.invokevirtual 32, 3) := dok_at gdX3_addRail_l40 5 rfl
theorem dX3_addRail_51 : decode cX3_addRail 51 = .ok (.aload_n 0, 1) := dok_at gdX3_addRail_l40 6 rfl
theorem dX3_addRail_52 : decode cX3_addRail 52 = .ok (.aload_n 0, 1) := dok_at gdX3_addRail_l40 7 rfl
theorem dX3_addRail_53 : decode cX3_addRail 53 = .ok (.getfield 19, 3) := dok_at gdX3_addRail_l40 8 rfl
theorem dX3_addRail_56 : decode cX3_addRail 56 = .ok (.bipush 7, 2) := dok_at gdX3_addRail_l40 9 rfl
theorem dX3_addRail_58 : decode cX3_addRail 58 = .ok (.sipush 256, 3) := dok_at gdX3_addRail_l40 10 rfl
theorem dX3_addRail_61 : decode cX3_addRail 61 = .ok (.invokevirtual 32, 3) := dok_at gdX3_addRail_l40 11 rfl
theorem dX3_addRail_64 : decode cX3_addRail 64 = .ok (.iconst 0, 1) := dok_at gdX3_addRail_l40 12 rfl
theorem dX3_addRail_65 : decode cX3_addRail 65 = .ok (.istore_n 1, 1) := dok_at gdX3_addRail_l40 13 rfl
theorem dX3_addRail_66 : decode cX3_addRail 66 = .ok (.iload_n 1, 1) := dok_at gdX3_addRail_l40 14 rfl
theorem dX3_addRail_67 : decode cX3_addRail 67 = .ok (.bipush 8, 2) := dok_at gdX3_addRail_l40 15 rfl
theorem dX3_addRail_69 : decode cX3_addRail 69 = .ok (.if_icmp .ge 35, 3) := dok_at gdX3_addRail_l40 16 rfl
theorem dX3_addRail_72 : decode cX3_addRail 72 = .ok (.aload_n 0, 1) := dok_at gdX3_addRail_l40 17 rfl
theorem dX3_addRail_73 : decode cX3_addRail 73 = .ok (.getfield 15, 3) := dok_at gdX3_addRail_l40 18 rfl
theorem dX3_addRail_76 : decode cX3_addRail 76 = .ok (.aload_n 0, 1) := dok_at gdX3_addRail_l40 19 rfl
theorem dX3_addRail_77 : decode cX3_addRail 77 = .ok (.getfield 19, 3) := dok_at gdX3_addRail_l40 20 rfl
theorem dX3_addRail_80 : decode cX3_addRail 80 = .ok (.bipush 8, 2) := dok_at gdX3_addRail_l40 21 rfl
theorem dX3_addRail_82 : decode cX3_addRail 82 = .ok (.imul, 1) := dok_at gdX3_addRail_l40 22 rfl
theorem dX3_addRail_83 : decode cX3_addRail 83 = .ok (.iload_n 1, 1) := dok_at gdX3_addRail_l40 23 rfl
def dX3_addRail_l84 : List (Nat × Instr × Nat) := [(84, .iadd, 1), (85, .iload_n 1, 1), (86, .iconst 4, 1), (87, .if_icmp .lt 9, 3), (90, .ldc2_w 36, 3), (93, .goto 4, 3), (96, .lconst 0, 1), (97, .lastore, 1), (98, .iinc 1 1, 3), (101, .goto (-35), 3), (104, .aload_n 0, 1), (105, .dup, 1), (106, .getfield 19, 3), (109, .iconst 1, 1), (110, .iadd, 1), (111, .putfield 19, 3), (114, .return_, 1)]
theorem gdX3_addRail_l84 : dok cX3_addRail dX3_addRail_l84 = true := by decide +kernel
theorem dX3_addRail_84 : decode cX3_addRail 84 = .ok (.iadd, 1) := dok_at gdX3_addRail_l84 0 rfl
theorem dX3_addRail_85 : decode cX3_addRail 85 = .ok (.iload_n 1, 1) := dok_at gdX3_addRail_l84 1 rfl
theorem dX3_addRail_86 : decode cX3_addRail 86 = .ok (.iconst 4, 1) := dok_at gdX3_addRail_l84 2 rfl
theorem dX3_addRail_87 : decode cX3_addRail 87 = .ok (.if_icmp .lt 9, 3) := dok_at gdX3_addRail_l84 3 rfl
theorem dX3_addRail_90 : decode cX3_addRail 90 = .ok (.ldc2_w 36, 3) := dok_at gdX3_addRail_l84 4 rfl
theorem dX3_addRail_93 : decode cX3_addRail 93 = .ok (.goto 4, 3) := dok_at gdX3_addRail_l84 5 rfl
theorem dX3_addRail_96 : decode cX3_addRail 96 = .ok (.lconst 0, 1) := dok_at gdX3_addRail_l84 6 rfl
theorem dX3_addRail_97 : decode cX3_addRail 97 = .ok (.lastore, 1) := dok_at gdX3_addRail_l84 7 rfl
theorem dX3_addRail_98 : decode cX3_addRail 98 = .ok (.iinc 1 1, 3) := dok_at gdX3_addRail_l84 8 rfl
theorem dX3_addRail_101 : decode cX3_addRail 101 = .ok (.goto (-35), 3) := dok_at gdX3_addRail_l84 9 rfl
theorem dX3_addRail_104 : decode cX3_addRail 104 = .ok (.aload_n 0, 1) := dok_at gdX3_addRail_l84 10 rfl
theorem dX3_addRail_105 : decode cX3_addRail 105 = .ok (.dup, 1) := dok_at gdX3_addRail_l84 11 rfl
theorem dX3_addRail_106 : decode cX3_addRail 106 = .ok (.getfield 19, 3) := dok_at gdX3_addRail_l84 12 rfl
theorem dX3_addRail_109 : decode cX3_addRail 109 = .ok (.iconst 1, 1) := dok_at gdX3_addRail_l84 13 rfl
theorem dX3_addRail_110 : decode cX3_addRail 110 = .ok (.iadd, 1) := dok_at gdX3_addRail_l84 14 rfl
theorem dX3_addRail_111 : decode cX3_addRail 111 = .ok (.putfield 19, 3) := dok_at gdX3_addRail_l84 15 rfl
theorem dX3_addRail_114 : decode cX3_addRail 114 = .ok (.return_, 1) := dok_at gdX3_addRail_l84 16 rfl
def dX3_hasRail_l0 : List (Nat × Instr × Nat) := [(0, .iload_n 1, 1), (1, .ifCond .lt 15, 3), (4, .iload_n 1, 1), (5, .aload_n 0, 1), (6, .getfield 19, 3), (9, .if_icmp .ge 7, 3), (12, .iconst 1, 1), (13, .goto 4, 3), (16, .iconst 0, 1), (17, .ireturn, 1)]
theorem gdX3_hasRail_l0 : dok cX3_hasRail dX3_hasRail_l0 = true := by decide +kernel
theorem dX3_hasRail_0 : decode cX3_hasRail 0 = .ok (.iload_n 1, 1) := dok_at gdX3_hasRail_l0 0 rfl
theorem dX3_hasRail_1 : decode cX3_hasRail 1 = .ok (.ifCond .lt 15, 3) := dok_at gdX3_hasRail_l0 1 rfl
theorem dX3_hasRail_4 : decode cX3_hasRail 4 = .ok (.iload_n 1, 1) := dok_at gdX3_hasRail_l0 2 rfl
theorem dX3_hasRail_5 : decode cX3_hasRail 5 = .ok (.aload_n 0, 1) := dok_at gdX3_hasRail_l0 3 rfl
theorem dX3_hasRail_6 : decode cX3_hasRail 6 = .ok (.getfield 19, 3) := dok_at gdX3_hasRail_l0 4 rfl
theorem dX3_hasRail_9 : decode cX3_hasRail 9 = .ok (.if_icmp .ge 7, 3) := dok_at gdX3_hasRail_l0 5 rfl
theorem dX3_hasRail_12 : decode cX3_hasRail 12 = .ok (.iconst 1, 1) := dok_at gdX3_hasRail_l0 6 rfl
theorem dX3_hasRail_13 : decode cX3_hasRail 13 = .ok (.goto 4, 3) := dok_at gdX3_hasRail_l0 7 rfl
theorem dX3_hasRail_16 : decode cX3_hasRail 16 = .ok (.iconst 0, 1) := dok_at gdX3_hasRail_l0 8 rfl
theorem dX3_hasRail_17 : decode cX3_hasRail 17 = .ok (.ireturn, 1) := dok_at gdX3_hasRail_l0 9 rfl
def dX3_allRails_l0 : List (Nat × Instr × Nat) := [(0, .iconst 1, 1), (1, .aload_n 0, 1), (2, .getfield 19, 3), (5, .ishl, 1), (6, .iconst 1, 1), (7, .isub, 1), (8, .ireturn, 1)]
theorem gdX3_allRails_l0 : dok cX3_allRails dX3_allRails_l0 = true := by decide +kernel
theorem dX3_allRails_0 : decode cX3_allRails 0 = .ok (.iconst 1, 1) := dok_at gdX3_allRails_l0 0 rfl
theorem dX3_allRails_1 : decode cX3_allRails 1 = .ok (.aload_n 0, 1) := dok_at gdX3_allRails_l0 1 rfl
theorem dX3_allRails_2 : decode cX3_allRails 2 = .ok (.getfield 19, 3) := dok_at gdX3_allRails_l0 2 rfl
theorem dX3_allRails_5 : decode cX3_allRails 5 = .ok (.ishl, 1) := dok_at gdX3_allRails_l0 3 rfl
theorem dX3_allRails_6 : decode cX3_allRails 6 = .ok (.iconst 1, 1) := dok_at gdX3_allRails_l0 4 rfl
theorem dX3_allRails_7 : decode cX3_allRails 7 = .ok (.isub, 1) := dok_at gdX3_allRails_l0 5 rfl
theorem dX3_allRails_8 : decode cX3_allRails 8 = .ok (.ireturn, 1) := dok_at gdX3_allRails_l0 6 rfl
def dX3_number_l0 : List (Nat × Instr × Nat) := [(0, .aload_n 0, 1), (1, .getfield 11, 3), (4, .iload_n 1, 1), (5, .bipush 8, 2), (7, .imul, 1), (8, .iload_n 2, 1), (9, .iadd, 1), (10, .iaload, 1), (11, .ireturn, 1)]
theorem gdX3_number_l0 : dok cX3_number dX3_number_l0 = true := by decide +kernel
theorem dX3_number_0 : decode cX3_number 0 = .ok (.aload_n 0, 1) := dok_at gdX3_number_l0 0 rfl
theorem dX3_number_1 : decode cX3_number 1 = .ok (.getfield 11, 3) := dok_at gdX3_number_l0 1 rfl
theorem dX3_number_4 : decode cX3_number 4 = .ok (.iload_n 1, 1) := dok_at gdX3_number_l0 2 rfl
theorem dX3_number_5 : decode cX3_number 5 = .ok (.bipush 8, 2) := dok_at gdX3_number_l0 3 rfl
theorem dX3_number_7 : decode cX3_number 7 = .ok (.imul, 1) := dok_at gdX3_number_l0 4 rfl
theorem dX3_number_8 : decode cX3_number 8 = .ok (.iload_n 2, 1) := dok_at gdX3_number_l0 5 rfl
theorem dX3_number_9 : decode cX3_number 9 = .ok (.iadd, 1) := dok_at gdX3_number_l0 6 rfl
theorem dX3_number_10 : decode cX3_number 10 = .ok (.iaload, 1) := dok_at gdX3_number_l0 7 rfl
theorem dX3_number_11 : decode cX3_number 11 = .ok (.ireturn, 1) := dok_at gdX3_number_l0 8 rfl
def dX3_setNumber_l0 : List (Nat × Instr × Nat) := [(0, .aload_n 0, 1), (1, .getfield 11, 3), (4, .iload_n 1, 1), (5, .bipush 8, 2), (7, .imul, 1), (8, .iload_n 2, 1), (9, .iadd, 1), (10, .iload_n 3, 1), (11, .iastore, 1), (12, .return_, 1)]
theorem gdX3_setNumber_l0 : dok cX3_setNumber dX3_setNumber_l0 = true := by decide +kernel
theorem dX3_setNumber_0 : decode cX3_setNumber 0 = .ok (.aload_n 0, 1) := dok_at gdX3_setNumber_l0 0 rfl
theorem dX3_setNumber_1 : decode cX3_setNumber 1 = .ok (.getfield 11, 3) := dok_at gdX3_setNumber_l0 1 rfl
theorem dX3_setNumber_4 : decode cX3_setNumber 4 = .ok (.iload_n 1, 1) := dok_at gdX3_setNumber_l0 2 rfl
theorem dX3_setNumber_5 : decode cX3_setNumber 5 = .ok (.bipush 8, 2) := dok_at gdX3_setNumber_l0 3 rfl
theorem dX3_setNumber_7 : decode cX3_setNumber 7 = .ok (.imul, 1) := dok_at gdX3_setNumber_l0 4 rfl
theorem dX3_setNumber_8 : decode cX3_setNumber 8 = .ok (.iload_n 2, 1) := dok_at gdX3_setNumber_l0 5 rfl
theorem dX3_setNumber_9 : decode cX3_setNumber 9 = .ok (.iadd, 1) := dok_at gdX3_setNumber_l0 6 rfl
theorem dX3_setNumber_10 : decode cX3_setNumber 10 = .ok (.iload_n 3, 1) := dok_at gdX3_setNumber_l0 7 rfl
theorem dX3_setNumber_11 : decode cX3_setNumber 11 = .ok (.iastore, 1) := dok_at gdX3_setNumber_l0 8 rfl
theorem dX3_setNumber_12 : decode cX3_setNumber 12 = .ok (.return_, 1) := dok_at gdX3_setNumber_l0 9 rfl
def dX3_setWaits_l0 : List (Nat × Instr × Nat) := [(0, .iconst 0, 1), (1, .istore_n 2, 1), (2, .iload_n 2, 1), (3, .aload_n 0, 1), (4, .getfield 19, 3), (7, .if_icmp .ge 18, 3), (10, .aload_n 0, 1), (11, .iload_n 2, 1), (12, .iconst 5, 1), (13, .aload_n 1, 1), (14, .iload_n 2, 1), (15, .iaload, 1), (16, .invokevirtual 32, 3), (19, .iinc 2 1, 3), (22, .goto (-20), 3), (25, .return_, 1)]
theorem gdX3_setWaits_l0 : dok cX3_setWaits dX3_setWaits_l0 = true := by decide +kernel
theorem dX3_setWaits_0 : decode cX3_setWaits 0 = .ok (.iconst 0, 1) := dok_at gdX3_setWaits_l0 0 rfl
theorem dX3_setWaits_1 : decode cX3_setWaits 1 = .ok (.istore_n 2, 1) := dok_at gdX3_setWaits_l0 1 rfl
theorem dX3_setWaits_2 : decode cX3_setWaits 2 = .ok (.iload_n 2, 1) := dok_at gdX3_setWaits_l0 2 rfl
theorem dX3_setWaits_3 : decode cX3_setWaits 3 = .ok (.aload_n 0, 1) := dok_at gdX3_setWaits_l0 3 rfl
theorem dX3_setWaits_4 : decode cX3_setWaits 4 = .ok (.getfield 19, 3) := dok_at gdX3_setWaits_l0 4 rfl
theorem dX3_setWaits_7 : decode cX3_setWaits 7 = .ok (.if_icmp .ge 18, 3) := dok_at gdX3_setWaits_l0 5 rfl
theorem dX3_setWaits_10 : decode cX3_setWaits 10 = .ok (.aload_n 0, 1) := dok_at gdX3_setWaits_l0 6 rfl
theorem dX3_setWaits_11 : decode cX3_setWaits 11 = .ok (.iload_n 2, 1) := dok_at gdX3_setWaits_l0 7 rfl
theorem dX3_setWaits_12 : decode cX3_setWaits 12 = .ok (.iconst 5, 1) := dok_at gdX3_setWaits_l0 8 rfl
theorem dX3_setWaits_13 : decode cX3_setWaits 13 = .ok (.aload_n 1, 1) := dok_at gdX3_setWaits_l0 9 rfl
theorem dX3_setWaits_14 : decode cX3_setWaits 14 = .ok (.iload_n 2, 1) := dok_at gdX3_setWaits_l0 10 rfl
theorem dX3_setWaits_15 : decode cX3_setWaits 15 = .ok (.iaload, 1) := dok_at gdX3_setWaits_l0 11 rfl
theorem dX3_setWaits_16 : decode cX3_setWaits 16 = .ok (.invokevirtual 32, 3) := dok_at gdX3_setWaits_l0 12 rfl
theorem dX3_setWaits_19 : decode cX3_setWaits 19 = .ok (.iinc 2 1, 3) := dok_at gdX3_setWaits_l0 13 rfl
theorem dX3_setWaits_22 : decode cX3_setWaits 22 = .ok (.goto (-20), 3) := dok_at gdX3_setWaits_l0 14 rfl
theorem dX3_setWaits_25 : decode cX3_setWaits 25 = .ok (.return_, 1) := dok_at gdX3_setWaits_l0 15 rfl
def dX3_holdsWith_l0 : List (Nat × Instr × Nat) := [(0, .aload_n 0, 1), (1, .getfield 15, 3), (4, .iload_n 1, 1), (5, .bipush 8, 2), (7, .imul, 1), (8, .iload_n 2, 1), (9, .bipush 6, 2), (11, .ishr, 1), (12, .bipush 7, 2), (14, .iand, 1), (15, .iadd, 1), (16, .laload, 1), (17, .iload_n 2, 1), (18, .bipush 63, 2), (20, .iand, 1), (21, .lushr, 1), (22, .lconst 1, 1), (23, .land, 1), (24, .lconst 0, 1), (25, .lcmp, 1), (26, .ifCond .eq 7, 3), (29, .iconst 1, 1), (30, .goto 4, 3), (33, .iconst 0, 1)]
theorem gdX3_holdsWith_l0 : dok cX3_holdsWith dX3_holdsWith_l0 = true := by decide +kernel
theorem dX3_holdsWith_0 : decode cX3_holdsWith 0 = .ok (.aload_n 0, 1) := dok_at gdX3_holdsWith_l0 0 rfl
theorem dX3_holdsWith_1 : decode cX3_holdsWith 1 = .ok (.getfield 15, 3) := dok_at gdX3_holdsWith_l0 1 rfl
theorem dX3_holdsWith_4 : decode cX3_holdsWith 4 = .ok (.iload_n 1, 1) := dok_at gdX3_holdsWith_l0 2 rfl
theorem dX3_holdsWith_5 : decode cX3_holdsWith 5 = .ok (.bipush 8, 2) := dok_at gdX3_holdsWith_l0 3 rfl
theorem dX3_holdsWith_7 : decode cX3_holdsWith 7 = .ok (.imul, 1) := dok_at gdX3_holdsWith_l0 4 rfl
theorem dX3_holdsWith_8 : decode cX3_holdsWith 8 = .ok (.iload_n 2, 1) := dok_at gdX3_holdsWith_l0 5 rfl
theorem dX3_holdsWith_9 : decode cX3_holdsWith 9 = .ok (.bipush 6, 2) := dok_at gdX3_holdsWith_l0 6 rfl
theorem dX3_holdsWith_11 : decode cX3_holdsWith 11 = .ok (.ishr, 1) := dok_at gdX3_holdsWith_l0 7 rfl
theorem dX3_holdsWith_12 : decode cX3_holdsWith 12 = .ok (.bipush 7, 2) := dok_at gdX3_holdsWith_l0 8 rfl
theorem dX3_holdsWith_14 : decode cX3_holdsWith 14 = .ok (.iand, 1) := dok_at gdX3_holdsWith_l0 9 rfl
theorem dX3_holdsWith_15 : decode cX3_holdsWith 15 = .ok (.iadd, 1) := dok_at gdX3_holdsWith_l0 10 rfl
theorem dX3_holdsWith_16 : decode cX3_holdsWith 16 = .ok (.laload, 1) := dok_at gdX3_holdsWith_l0 11 rfl
theorem dX3_holdsWith_17 : decode cX3_holdsWith 17 = .ok (.iload_n 2, 1) := dok_at gdX3_holdsWith_l0 12 rfl
theorem dX3_holdsWith_18 : decode cX3_holdsWith 18 = .ok (.bipush 63, 2) := dok_at gdX3_holdsWith_l0 13 rfl
theorem dX3_holdsWith_20 : decode cX3_holdsWith 20 = .ok (.iand, 1) := dok_at gdX3_holdsWith_l0 14 rfl
theorem dX3_holdsWith_21 : decode cX3_holdsWith 21 = .ok (.lushr, 1) := dok_at gdX3_holdsWith_l0 15 rfl
theorem dX3_holdsWith_22 : decode cX3_holdsWith 22 = .ok (.lconst 1, 1) := dok_at gdX3_holdsWith_l0 16 rfl
theorem dX3_holdsWith_23 : decode cX3_holdsWith 23 = .ok (.land, 1) := dok_at gdX3_holdsWith_l0 17 rfl
theorem dX3_holdsWith_24 : decode cX3_holdsWith 24 = .ok (.lconst 0, 1) := dok_at gdX3_holdsWith_l0 18 rfl
theorem dX3_holdsWith_25 : decode cX3_holdsWith 25 = .ok (.lcmp, 1) := dok_at gdX3_holdsWith_l0 19 rfl
theorem dX3_holdsWith_26 : decode cX3_holdsWith 26 = .ok (.ifCond .eq 7, 3) := dok_at gdX3_holdsWith_l0 20 rfl
theorem dX3_holdsWith_29 : decode cX3_holdsWith 29 = .ok (.iconst 1, 1) := dok_at gdX3_holdsWith_l0 21 rfl
theorem dX3_holdsWith_30 : decode cX3_holdsWith 30 = .ok (.goto 4, 3) := dok_at gdX3_holdsWith_l0 22 rfl
theorem dX3_holdsWith_33 : decode cX3_holdsWith 33 = .ok (.iconst 0, 1) := dok_at gdX3_holdsWith_l0 23 rfl
def dX3_holdsWith_l34 : List (Nat × Instr × Nat) := [(34, .ireturn, 1)]
theorem gdX3_holdsWith_l34 : dok cX3_holdsWith dX3_holdsWith_l34 = true := by decide +kernel
theorem dX3_holdsWith_34 : decode cX3_holdsWith 34 = .ok (.ireturn, 1) := dok_at gdX3_holdsWith_l34 0 rfl
def dX3_isLeastSet_l0 : List (Nat × Instr × Nat) := [(0, .aload_n 0, 1), (1, .iload_n 1, 1), (2, .iload_n 2, 1), (3, .invokevirtual 38, 3), (6, .ifCond .ne 5, 3), (9, .iconst 0, 1), (10, .ireturn, 1), (11, .iconst 0, 1), (12, .istore_n 3, 1), (13, .iload_n 3, 1), (14, .bipush 8, 2), (16, .if_icmp .gt 35, 3), (19, .iload_n 2, 1), (20, .iload_n 3, 1), (21, .ishr, 1), (22, .iconst 1, 1), (23, .iand, 1), (24, .iconst 1, 1), (25, .if_icmp .ne 20, 3), (28, .aload_n 0, 1), (29, .iload_n 1, 1), (30, .iload_n 2, 1), (31, .iconst 1, 1), (32, .iload_n 3, 1)]
theorem gdX3_isLeastSet_l0 : dok cX3_isLeastSet dX3_isLeastSet_l0 = true := by decide +kernel
theorem dX3_isLeastSet_0 : decode cX3_isLeastSet 0 = .ok (.aload_n 0, 1) := dok_at gdX3_isLeastSet_l0 0 rfl
theorem dX3_isLeastSet_1 : decode cX3_isLeastSet 1 = .ok (.iload_n 1, 1) := dok_at gdX3_isLeastSet_l0 1 rfl
theorem dX3_isLeastSet_2 : decode cX3_isLeastSet 2 = .ok (.iload_n 2, 1) := dok_at gdX3_isLeastSet_l0 2 rfl
theorem dX3_isLeastSet_3 : decode cX3_isLeastSet 3 = .ok (.invokevirtual 38, 3) := dok_at gdX3_isLeastSet_l0 3 rfl
theorem dX3_isLeastSet_6 : decode cX3_isLeastSet 6 = .ok (.ifCond .ne 5, 3) := dok_at gdX3_isLeastSet_l0 4 rfl
theorem dX3_isLeastSet_9 : decode cX3_isLeastSet 9 = .ok (.iconst 0, 1) := dok_at gdX3_isLeastSet_l0 5 rfl
theorem dX3_isLeastSet_10 : decode cX3_isLeastSet 10 = .ok (.ireturn, 1) := dok_at gdX3_isLeastSet_l0 6 rfl
theorem dX3_isLeastSet_11 : decode cX3_isLeastSet 11 = .ok (.iconst 0, 1) := dok_at gdX3_isLeastSet_l0 7 rfl
theorem dX3_isLeastSet_12 : decode cX3_isLeastSet 12 = .ok (.istore_n 3, 1) := dok_at gdX3_isLeastSet_l0 8 rfl
theorem dX3_isLeastSet_13 : decode cX3_isLeastSet 13 = .ok (.iload_n 3, 1) := dok_at gdX3_isLeastSet_l0 9 rfl
theorem dX3_isLeastSet_14 : decode cX3_isLeastSet 14 = .ok (.bipush 8, 2) := dok_at gdX3_isLeastSet_l0 10 rfl
theorem dX3_isLeastSet_16 : decode cX3_isLeastSet 16 = .ok (.if_icmp .gt 35, 3) := dok_at gdX3_isLeastSet_l0 11 rfl
theorem dX3_isLeastSet_19 : decode cX3_isLeastSet 19 = .ok (.iload_n 2, 1) := dok_at gdX3_isLeastSet_l0 12 rfl
theorem dX3_isLeastSet_20 : decode cX3_isLeastSet 20 = .ok (.iload_n 3, 1) := dok_at gdX3_isLeastSet_l0 13 rfl
theorem dX3_isLeastSet_21 : decode cX3_isLeastSet 21 = .ok (.ishr, 1) := dok_at gdX3_isLeastSet_l0 14 rfl
theorem dX3_isLeastSet_22 : decode cX3_isLeastSet 22 = .ok (.iconst 1, 1) := dok_at gdX3_isLeastSet_l0 15 rfl
theorem dX3_isLeastSet_23 : decode cX3_isLeastSet 23 = .ok (.iand, 1) := dok_at gdX3_isLeastSet_l0 16 rfl
theorem dX3_isLeastSet_24 : decode cX3_isLeastSet 24 = .ok (.iconst 1, 1) := dok_at gdX3_isLeastSet_l0 17 rfl
theorem dX3_isLeastSet_25 : decode cX3_isLeastSet 25 = .ok (.if_icmp .ne 20, 3) := dok_at gdX3_isLeastSet_l0 18 rfl
theorem dX3_isLeastSet_28 : decode cX3_isLeastSet 28 = .ok (.aload_n 0, 1) := dok_at gdX3_isLeastSet_l0 19 rfl
theorem dX3_isLeastSet_29 : decode cX3_isLeastSet 29 = .ok (.iload_n 1, 1) := dok_at gdX3_isLeastSet_l0 20 rfl
theorem dX3_isLeastSet_30 : decode cX3_isLeastSet 30 = .ok (.iload_n 2, 1) := dok_at gdX3_isLeastSet_l0 21 rfl
theorem dX3_isLeastSet_31 : decode cX3_isLeastSet 31 = .ok (.iconst 1, 1) := dok_at gdX3_isLeastSet_l0 22 rfl
theorem dX3_isLeastSet_32 : decode cX3_isLeastSet 32 = .ok (.iload_n 3, 1) := dok_at gdX3_isLeastSet_l0 23 rfl
def dX3_isLeastSet_l33 : List (Nat × Instr × Nat) := [(33, .ishl, 1), (34, .iconst (-1), 1), (35, .ixor, 1), (36, .iand, 1), (37, .invokevirtual 38, 3), (40, .ifCond .eq 5, 3), (43, .iconst 0, 1), (44, .ireturn, 1), (45, .iinc 3 1, 3), (48, .goto (-35), 3), (51, .iconst 1, 1), (52, .ireturn, 1)]
theorem gdX3_isLeastSet_l33 : dok cX3_isLeastSet dX3_isLeastSet_l33 = true := by decide +kernel
theorem dX3_isLeastSet_33 : decode cX3_isLeastSet 33 = .ok (.ishl, 1) := dok_at gdX3_isLeastSet_l33 0 rfl
theorem dX3_isLeastSet_34 : decode cX3_isLeastSet 34 = .ok (.iconst (-1), 1) := dok_at gdX3_isLeastSet_l33 1 rfl
theorem dX3_isLeastSet_35 : decode cX3_isLeastSet 35 = .ok (.ixor, 1) := dok_at gdX3_isLeastSet_l33 2 rfl
theorem dX3_isLeastSet_36 : decode cX3_isLeastSet 36 = .ok (.iand, 1) := dok_at gdX3_isLeastSet_l33 3 rfl
theorem dX3_isLeastSet_37 : decode cX3_isLeastSet 37 = .ok (.invokevirtual 38, 3) := dok_at gdX3_isLeastSet_l33 4 rfl
theorem dX3_isLeastSet_40 : decode cX3_isLeastSet 40 = .ok (.ifCond .eq 5, 3) := dok_at gdX3_isLeastSet_l33 5 rfl
theorem dX3_isLeastSet_43 : decode cX3_isLeastSet 43 = .ok (.iconst 0, 1) := dok_at gdX3_isLeastSet_l33 6 rfl
theorem dX3_isLeastSet_44 : decode cX3_isLeastSet 44 = .ok (.ireturn, 1) := dok_at gdX3_isLeastSet_l33 7 rfl
theorem dX3_isLeastSet_45 : decode cX3_isLeastSet 45 = .ok (.iinc 3 1, 3) := dok_at gdX3_isLeastSet_l33 8 rfl
theorem dX3_isLeastSet_48 : decode cX3_isLeastSet 48 = .ok (.goto (-35), 3) := dok_at gdX3_isLeastSet_l33 9 rfl
theorem dX3_isLeastSet_51 : decode cX3_isLeastSet 51 = .ok (.iconst 1, 1) := dok_at gdX3_isLeastSet_l33 10 rfl
theorem dX3_isLeastSet_52 : decode cX3_isLeastSet 52 = .ok (.ireturn, 1) := dok_at gdX3_isLeastSet_l33 11 rfl
def dX3_countLeastSets_l0 : List (Nat × Instr × Nat) := [(0, .iconst 0, 1), (1, .istore_n 2, 1), (2, .iconst 0, 1), (3, .istore_n 3, 1), (4, .iload_n 3, 1), (5, .sipush 512, 3), (8, .if_icmp .ge 21, 3), (11, .aload_n 0, 1), (12, .iload_n 1, 1), (13, .iload_n 3, 1), (14, .invokevirtual 42, 3), (17, .ifCond .eq 6, 3), (20, .iinc 2 1, 3), (23, .iinc 3 1, 3), (26, .goto (-22), 3), (29, .iload_n 2, 1), (30, .ireturn, 1)]
theorem gdX3_countLeastSets_l0 : dok cX3_countLeastSets dX3_countLeastSets_l0 = true := by decide +kernel
theorem dX3_countLeastSets_0 : decode cX3_countLeastSets 0 = .ok (.iconst 0, 1) := dok_at gdX3_countLeastSets_l0 0 rfl
theorem dX3_countLeastSets_1 : decode cX3_countLeastSets 1 = .ok (.istore_n 2, 1) := dok_at gdX3_countLeastSets_l0 1 rfl
theorem dX3_countLeastSets_2 : decode cX3_countLeastSets 2 = .ok (.iconst 0, 1) := dok_at gdX3_countLeastSets_l0 2 rfl
theorem dX3_countLeastSets_3 : decode cX3_countLeastSets 3 = .ok (.istore_n 3, 1) := dok_at gdX3_countLeastSets_l0 3 rfl
theorem dX3_countLeastSets_4 : decode cX3_countLeastSets 4 = .ok (.iload_n 3, 1) := dok_at gdX3_countLeastSets_l0 4 rfl
theorem dX3_countLeastSets_5 : decode cX3_countLeastSets 5 = .ok (.sipush 512, 3) := dok_at gdX3_countLeastSets_l0 5 rfl
theorem dX3_countLeastSets_8 : decode cX3_countLeastSets 8 = .ok (.if_icmp .ge 21, 3) := dok_at gdX3_countLeastSets_l0 6 rfl
theorem dX3_countLeastSets_11 : decode cX3_countLeastSets 11 = .ok (.aload_n 0, 1) := dok_at gdX3_countLeastSets_l0 7 rfl
theorem dX3_countLeastSets_12 : decode cX3_countLeastSets 12 = .ok (.iload_n 1, 1) := dok_at gdX3_countLeastSets_l0 8 rfl
theorem dX3_countLeastSets_13 : decode cX3_countLeastSets 13 = .ok (.iload_n 3, 1) := dok_at gdX3_countLeastSets_l0 9 rfl
theorem dX3_countLeastSets_14 : decode cX3_countLeastSets 14 = .ok (.invokevirtual 42, 3) := dok_at gdX3_countLeastSets_l0 10 rfl
theorem dX3_countLeastSets_17 : decode cX3_countLeastSets 17 = .ok (.ifCond .eq 6, 3) := dok_at gdX3_countLeastSets_l0 11 rfl
theorem dX3_countLeastSets_20 : decode cX3_countLeastSets 20 = .ok (.iinc 2 1, 3) := dok_at gdX3_countLeastSets_l0 12 rfl
theorem dX3_countLeastSets_23 : decode cX3_countLeastSets 23 = .ok (.iinc 3 1, 3) := dok_at gdX3_countLeastSets_l0 13 rfl
theorem dX3_countLeastSets_26 : decode cX3_countLeastSets 26 = .ok (.goto (-22), 3) := dok_at gdX3_countLeastSets_l0 14 rfl
theorem dX3_countLeastSets_29 : decode cX3_countLeastSets 29 = .ok (.iload_n 2, 1) := dok_at gdX3_countLeastSets_l0 15 rfl
theorem dX3_countLeastSets_30 : decode cX3_countLeastSets 30 = .ok (.ireturn, 1) := dok_at gdX3_countLeastSets_l0 16 rfl
def dX3_leastSet_l0 : List (Nat × Instr × Nat) := [(0, .iconst 0, 1), (1, .istore_n 3, 1), (2, .iconst 0, 1), (3, .istore 4, 2), (5, .iload 4, 2), (7, .sipush 512, 3), (10, .if_icmp .ge 30, 3), (13, .aload_n 0, 1), (14, .iload_n 1, 1), (15, .iload 4, 2), (17, .invokevirtual 42, 3), (20, .ifCond .eq 14, 3), (23, .iload_n 3, 1), (24, .iload_n 2, 1), (25, .if_icmp .ne 6, 3), (28, .iload 4, 2), (30, .ireturn, 1), (31, .iinc 3 1, 3), (34, .iinc 4 1, 3), (37, .goto (-32), 3), (40, .iconst (-1), 1), (41, .ireturn, 1)]
theorem gdX3_leastSet_l0 : dok cX3_leastSet dX3_leastSet_l0 = true := by decide +kernel
theorem dX3_leastSet_0 : decode cX3_leastSet 0 = .ok (.iconst 0, 1) := dok_at gdX3_leastSet_l0 0 rfl
theorem dX3_leastSet_1 : decode cX3_leastSet 1 = .ok (.istore_n 3, 1) := dok_at gdX3_leastSet_l0 1 rfl
theorem dX3_leastSet_2 : decode cX3_leastSet 2 = .ok (.iconst 0, 1) := dok_at gdX3_leastSet_l0 2 rfl
theorem dX3_leastSet_3 : decode cX3_leastSet 3 = .ok (.istore 4, 2) := dok_at gdX3_leastSet_l0 3 rfl
theorem dX3_leastSet_5 : decode cX3_leastSet 5 = .ok (.iload 4, 2) := dok_at gdX3_leastSet_l0 4 rfl
theorem dX3_leastSet_7 : decode cX3_leastSet 7 = .ok (.sipush 512, 3) := dok_at gdX3_leastSet_l0 5 rfl
theorem dX3_leastSet_10 : decode cX3_leastSet 10 = .ok (.if_icmp .ge 30, 3) := dok_at gdX3_leastSet_l0 6 rfl
theorem dX3_leastSet_13 : decode cX3_leastSet 13 = .ok (.aload_n 0, 1) := dok_at gdX3_leastSet_l0 7 rfl
theorem dX3_leastSet_14 : decode cX3_leastSet 14 = .ok (.iload_n 1, 1) := dok_at gdX3_leastSet_l0 8 rfl
theorem dX3_leastSet_15 : decode cX3_leastSet 15 = .ok (.iload 4, 2) := dok_at gdX3_leastSet_l0 9 rfl
theorem dX3_leastSet_17 : decode cX3_leastSet 17 = .ok (.invokevirtual 42, 3) := dok_at gdX3_leastSet_l0 10 rfl
theorem dX3_leastSet_20 : decode cX3_leastSet 20 = .ok (.ifCond .eq 14, 3) := dok_at gdX3_leastSet_l0 11 rfl
theorem dX3_leastSet_23 : decode cX3_leastSet 23 = .ok (.iload_n 3, 1) := dok_at gdX3_leastSet_l0 12 rfl
theorem dX3_leastSet_24 : decode cX3_leastSet 24 = .ok (.iload_n 2, 1) := dok_at gdX3_leastSet_l0 13 rfl
theorem dX3_leastSet_25 : decode cX3_leastSet 25 = .ok (.if_icmp .ne 6, 3) := dok_at gdX3_leastSet_l0 14 rfl
theorem dX3_leastSet_28 : decode cX3_leastSet 28 = .ok (.iload 4, 2) := dok_at gdX3_leastSet_l0 15 rfl
theorem dX3_leastSet_30 : decode cX3_leastSet 30 = .ok (.ireturn, 1) := dok_at gdX3_leastSet_l0 16 rfl
theorem dX3_leastSet_31 : decode cX3_leastSet 31 = .ok (.iinc 3 1, 3) := dok_at gdX3_leastSet_l0 17 rfl
theorem dX3_leastSet_34 : decode cX3_leastSet 34 = .ok (.iinc 4 1, 3) := dok_at gdX3_leastSet_l0 18 rfl
theorem dX3_leastSet_37 : decode cX3_leastSet 37 = .ok (.goto (-32), 3) := dok_at gdX3_leastSet_l0 19 rfl
theorem dX3_leastSet_40 : decode cX3_leastSet 40 = .ok (.iconst (-1), 1) := dok_at gdX3_leastSet_l0 20 rfl
theorem dX3_leastSet_41 : decode cX3_leastSet 41 = .ok (.ireturn, 1) := dok_at gdX3_leastSet_l0 21 rfl
def dX3_upAmong_l0 : List (Nat × Instr × Nat) := [(0, .iconst 0, 1), (1, .istore_n 2, 1), (2, .iconst 0, 1), (3, .istore_n 3, 1), (4, .iload_n 3, 1), (5, .bipush 8, 2), (7, .if_icmp .gt 75, 3), (10, .iload_n 2, 1), (11, .istore 4, 2), (13, .iconst 0, 1), (14, .istore 5, 2), (16, .iload 5, 2), (18, .aload_n 0, 1), (19, .getfield 19, 3), (22, .if_icmp .ge 42, 3), (25, .iload_n 1, 1), (26, .iload 5, 2), (28, .ishr, 1), (29, .iconst 1, 1), (30, .iand, 1), (31, .iconst 1, 1), (32, .if_icmp .ne 26, 3), (35, .aload_n 0, 1), (36, .iload 5, 2)]
theorem gdX3_upAmong_l0 : dok cX3_upAmong dX3_upAmong_l0 = true := by decide +kernel
theorem dX3_upAmong_0 : decode cX3_upAmong 0 = .ok (.iconst 0, 1) := dok_at gdX3_upAmong_l0 0 rfl
theorem dX3_upAmong_1 : decode cX3_upAmong 1 = .ok (.istore_n 2, 1) := dok_at gdX3_upAmong_l0 1 rfl
theorem dX3_upAmong_2 : decode cX3_upAmong 2 = .ok (.iconst 0, 1) := dok_at gdX3_upAmong_l0 2 rfl
theorem dX3_upAmong_3 : decode cX3_upAmong 3 = .ok (.istore_n 3, 1) := dok_at gdX3_upAmong_l0 3 rfl
theorem dX3_upAmong_4 : decode cX3_upAmong 4 = .ok (.iload_n 3, 1) := dok_at gdX3_upAmong_l0 4 rfl
theorem dX3_upAmong_5 : decode cX3_upAmong 5 = .ok (.bipush 8, 2) := dok_at gdX3_upAmong_l0 5 rfl
theorem dX3_upAmong_7 : decode cX3_upAmong 7 = .ok (.if_icmp .gt 75, 3) := dok_at gdX3_upAmong_l0 6 rfl
theorem dX3_upAmong_10 : decode cX3_upAmong 10 = .ok (.iload_n 2, 1) := dok_at gdX3_upAmong_l0 7 rfl
theorem dX3_upAmong_11 : decode cX3_upAmong 11 = .ok (.istore 4, 2) := dok_at gdX3_upAmong_l0 8 rfl
theorem dX3_upAmong_13 : decode cX3_upAmong 13 = .ok (.iconst 0, 1) := dok_at gdX3_upAmong_l0 9 rfl
theorem dX3_upAmong_14 : decode cX3_upAmong 14 = .ok (.istore 5, 2) := dok_at gdX3_upAmong_l0 10 rfl
theorem dX3_upAmong_16 : decode cX3_upAmong 16 = .ok (.iload 5, 2) := dok_at gdX3_upAmong_l0 11 rfl
theorem dX3_upAmong_18 : decode cX3_upAmong 18 = .ok (.aload_n 0, 1) := dok_at gdX3_upAmong_l0 12 rfl
theorem dX3_upAmong_19 : decode cX3_upAmong 19 = .ok (.getfield 19, 3) := dok_at gdX3_upAmong_l0 13 rfl
theorem dX3_upAmong_22 : decode cX3_upAmong 22 = .ok (.if_icmp .ge 42, 3) := dok_at gdX3_upAmong_l0 14 rfl
theorem dX3_upAmong_25 : decode cX3_upAmong 25 = .ok (.iload_n 1, 1) := dok_at gdX3_upAmong_l0 15 rfl
theorem dX3_upAmong_26 : decode cX3_upAmong 26 = .ok (.iload 5, 2) := dok_at gdX3_upAmong_l0 16 rfl
theorem dX3_upAmong_28 : decode cX3_upAmong 28 = .ok (.ishr, 1) := dok_at gdX3_upAmong_l0 17 rfl
theorem dX3_upAmong_29 : decode cX3_upAmong 29 = .ok (.iconst 1, 1) := dok_at gdX3_upAmong_l0 18 rfl
theorem dX3_upAmong_30 : decode cX3_upAmong 30 = .ok (.iand, 1) := dok_at gdX3_upAmong_l0 19 rfl
theorem dX3_upAmong_31 : decode cX3_upAmong 31 = .ok (.iconst 1, 1) := dok_at gdX3_upAmong_l0 20 rfl
theorem dX3_upAmong_32 : decode cX3_upAmong 32 = .ok (.if_icmp .ne 26, 3) := dok_at gdX3_upAmong_l0 21 rfl
theorem dX3_upAmong_35 : decode cX3_upAmong 35 = .ok (.aload_n 0, 1) := dok_at gdX3_upAmong_l0 22 rfl
theorem dX3_upAmong_36 : decode cX3_upAmong 36 = .ok (.iload 5, 2) := dok_at gdX3_upAmong_l0 23 rfl
def dX3_upAmong_l38 : List (Nat × Instr × Nat) := [(38, .iload_n 2, 1), (39, .sipush 256, 3), (42, .ior, 1), (43, .invokevirtual 38, 3), (46, .ifCond .eq 12, 3), (49, .iload 4, 2), (51, .iconst 1, 1), (52, .iload 5, 2), (54, .ishl, 1), (55, .ior, 1), (56, .istore 4, 2), (58, .iinc 5 1, 3), (61, .goto (-45), 3), (64, .iload 4, 2), (66, .iload_n 2, 1), (67, .if_icmp .ne 6, 3), (70, .goto 12, 3), (73, .iload 4, 2), (75, .istore_n 2, 1), (76, .iinc 3 1, 3), (79, .goto (-75), 3), (82, .iload_n 2, 1), (83, .ireturn, 1)]
theorem gdX3_upAmong_l38 : dok cX3_upAmong dX3_upAmong_l38 = true := by decide +kernel
theorem dX3_upAmong_38 : decode cX3_upAmong 38 = .ok (.iload_n 2, 1) := dok_at gdX3_upAmong_l38 0 rfl
theorem dX3_upAmong_39 : decode cX3_upAmong 39 = .ok (.sipush 256, 3) := dok_at gdX3_upAmong_l38 1 rfl
theorem dX3_upAmong_42 : decode cX3_upAmong 42 = .ok (.ior, 1) := dok_at gdX3_upAmong_l38 2 rfl
theorem dX3_upAmong_43 : decode cX3_upAmong 43 = .ok (.invokevirtual 38, 3) := dok_at gdX3_upAmong_l38 3 rfl
theorem dX3_upAmong_46 : decode cX3_upAmong 46 = .ok (.ifCond .eq 12, 3) := dok_at gdX3_upAmong_l38 4 rfl
theorem dX3_upAmong_49 : decode cX3_upAmong 49 = .ok (.iload 4, 2) := dok_at gdX3_upAmong_l38 5 rfl
theorem dX3_upAmong_51 : decode cX3_upAmong 51 = .ok (.iconst 1, 1) := dok_at gdX3_upAmong_l38 6 rfl
theorem dX3_upAmong_52 : decode cX3_upAmong 52 = .ok (.iload 5, 2) := dok_at gdX3_upAmong_l38 7 rfl
theorem dX3_upAmong_54 : decode cX3_upAmong 54 = .ok (.ishl, 1) := dok_at gdX3_upAmong_l38 8 rfl
theorem dX3_upAmong_55 : decode cX3_upAmong 55 = .ok (.ior, 1) := dok_at gdX3_upAmong_l38 9 rfl
theorem dX3_upAmong_56 : decode cX3_upAmong 56 = .ok (.istore 4, 2) := dok_at gdX3_upAmong_l38 10 rfl
theorem dX3_upAmong_58 : decode cX3_upAmong 58 = .ok (.iinc 5 1, 3) := dok_at gdX3_upAmong_l38 11 rfl
theorem dX3_upAmong_61 : decode cX3_upAmong 61 = .ok (.goto (-45), 3) := dok_at gdX3_upAmong_l38 12 rfl
theorem dX3_upAmong_64 : decode cX3_upAmong 64 = .ok (.iload 4, 2) := dok_at gdX3_upAmong_l38 13 rfl
theorem dX3_upAmong_66 : decode cX3_upAmong 66 = .ok (.iload_n 2, 1) := dok_at gdX3_upAmong_l38 14 rfl
theorem dX3_upAmong_67 : decode cX3_upAmong 67 = .ok (.if_icmp .ne 6, 3) := dok_at gdX3_upAmong_l38 15 rfl
theorem dX3_upAmong_70 : decode cX3_upAmong 70 = .ok (.goto 12, 3) := dok_at gdX3_upAmong_l38 16 rfl
theorem dX3_upAmong_73 : decode cX3_upAmong 73 = .ok (.iload 4, 2) := dok_at gdX3_upAmong_l38 17 rfl
theorem dX3_upAmong_75 : decode cX3_upAmong 75 = .ok (.istore_n 2, 1) := dok_at gdX3_upAmong_l38 18 rfl
theorem dX3_upAmong_76 : decode cX3_upAmong 76 = .ok (.iinc 3 1, 3) := dok_at gdX3_upAmong_l38 19 rfl
theorem dX3_upAmong_79 : decode cX3_upAmong 79 = .ok (.goto (-75), 3) := dok_at gdX3_upAmong_l38 20 rfl
theorem dX3_upAmong_82 : decode cX3_upAmong 82 = .ok (.iload_n 2, 1) := dok_at gdX3_upAmong_l38 21 rfl
theorem dX3_upAmong_83 : decode cX3_upAmong 83 = .ok (.ireturn, 1) := dok_at gdX3_upAmong_l38 22 rfl
def dX3_countWays_l0 : List (Nat × Instr × Nat) := [(0, .iconst 1, 1), (1, .istore_n 1, 1), (2, .iconst 0, 1), (3, .istore_n 2, 1), (4, .iload_n 2, 1), (5, .aload_n 0, 1), (6, .getfield 19, 3), (9, .if_icmp .ge 27, 3), (12, .iload_n 1, 1), (13, .aload_n 0, 1), (14, .iload_n 2, 1), (15, .iconst 1, 1), (16, .invokevirtual 45, 3), (19, .aload_n 0, 1), (20, .iload_n 2, 1), (21, .iconst 0, 1), (22, .invokevirtual 45, 3), (25, .isub, 1), (26, .iconst 1, 1), (27, .iadd, 1), (28, .imul, 1), (29, .istore_n 1, 1), (30, .iinc 2 1, 3), (33, .goto (-29), 3)]
theorem gdX3_countWays_l0 : dok cX3_countWays dX3_countWays_l0 = true := by decide +kernel
theorem dX3_countWays_0 : decode cX3_countWays 0 = .ok (.iconst 1, 1) := dok_at gdX3_countWays_l0 0 rfl
theorem dX3_countWays_1 : decode cX3_countWays 1 = .ok (.istore_n 1, 1) := dok_at gdX3_countWays_l0 1 rfl
theorem dX3_countWays_2 : decode cX3_countWays 2 = .ok (.iconst 0, 1) := dok_at gdX3_countWays_l0 2 rfl
theorem dX3_countWays_3 : decode cX3_countWays 3 = .ok (.istore_n 2, 1) := dok_at gdX3_countWays_l0 3 rfl
theorem dX3_countWays_4 : decode cX3_countWays 4 = .ok (.iload_n 2, 1) := dok_at gdX3_countWays_l0 4 rfl
theorem dX3_countWays_5 : decode cX3_countWays 5 = .ok (.aload_n 0, 1) := dok_at gdX3_countWays_l0 5 rfl
theorem dX3_countWays_6 : decode cX3_countWays 6 = .ok (.getfield 19, 3) := dok_at gdX3_countWays_l0 6 rfl
theorem dX3_countWays_9 : decode cX3_countWays 9 = .ok (.if_icmp .ge 27, 3) := dok_at gdX3_countWays_l0 7 rfl
theorem dX3_countWays_12 : decode cX3_countWays 12 = .ok (.iload_n 1, 1) := dok_at gdX3_countWays_l0 8 rfl
theorem dX3_countWays_13 : decode cX3_countWays 13 = .ok (.aload_n 0, 1) := dok_at gdX3_countWays_l0 9 rfl
theorem dX3_countWays_14 : decode cX3_countWays 14 = .ok (.iload_n 2, 1) := dok_at gdX3_countWays_l0 10 rfl
theorem dX3_countWays_15 : decode cX3_countWays 15 = .ok (.iconst 1, 1) := dok_at gdX3_countWays_l0 11 rfl
theorem dX3_countWays_16 : decode cX3_countWays 16 = .ok (.invokevirtual 45, 3) := dok_at gdX3_countWays_l0 12 rfl
theorem dX3_countWays_19 : decode cX3_countWays 19 = .ok (.aload_n 0, 1) := dok_at gdX3_countWays_l0 13 rfl
theorem dX3_countWays_20 : decode cX3_countWays 20 = .ok (.iload_n 2, 1) := dok_at gdX3_countWays_l0 14 rfl
theorem dX3_countWays_21 : decode cX3_countWays 21 = .ok (.iconst 0, 1) := dok_at gdX3_countWays_l0 15 rfl
theorem dX3_countWays_22 : decode cX3_countWays 22 = .ok (.invokevirtual 45, 3) := dok_at gdX3_countWays_l0 16 rfl
theorem dX3_countWays_25 : decode cX3_countWays 25 = .ok (.isub, 1) := dok_at gdX3_countWays_l0 17 rfl
theorem dX3_countWays_26 : decode cX3_countWays 26 = .ok (.iconst 1, 1) := dok_at gdX3_countWays_l0 18 rfl
theorem dX3_countWays_27 : decode cX3_countWays 27 = .ok (.iadd, 1) := dok_at gdX3_countWays_l0 19 rfl
theorem dX3_countWays_28 : decode cX3_countWays 28 = .ok (.imul, 1) := dok_at gdX3_countWays_l0 20 rfl
theorem dX3_countWays_29 : decode cX3_countWays 29 = .ok (.istore_n 1, 1) := dok_at gdX3_countWays_l0 21 rfl
theorem dX3_countWays_30 : decode cX3_countWays 30 = .ok (.iinc 2 1, 3) := dok_at gdX3_countWays_l0 22 rfl
theorem dX3_countWays_33 : decode cX3_countWays 33 = .ok (.goto (-29), 3) := dok_at gdX3_countWays_l0 23 rfl
def dX3_countWays_l36 : List (Nat × Instr × Nat) := [(36, .iload_n 1, 1), (37, .ireturn, 1)]
theorem gdX3_countWays_l36 : dok cX3_countWays dX3_countWays_l36 = true := by decide +kernel
theorem dX3_countWays_36 : decode cX3_countWays 36 = .ok (.iload_n 1, 1) := dok_at gdX3_countWays_l36 0 rfl
theorem dX3_countWays_37 : decode cX3_countWays 37 = .ok (.ireturn, 1) := dok_at gdX3_countWays_l36 1 rfl
def dX3_sourcesOf_l0 : List (Nat × Instr × Nat) := [(0, .iload_n 1, 1), (1, .istore_n 2, 1), (2, .iconst 0, 1), (3, .istore_n 3, 1), (4, .iload_n 3, 1), (5, .bipush 8, 2), (7, .if_icmp .ge 53, 3), (10, .iconst 0, 1), (11, .istore 4, 2), (13, .iload 4, 2), (15, .aload_n 0, 1), (16, .getfield 19, 3), (19, .if_icmp .ge 35, 3), (22, .iload_n 2, 1), (23, .iload 4, 2), (25, .ishr, 1), (26, .iconst 1, 1), (27, .iand, 1), (28, .iconst 1, 1), (29, .if_icmp .ne 19, 3), (32, .iload_n 2, 1), (33, .aload_n 0, 1), (34, .iload 4, 2), (36, .bipush 7, 2)]
theorem gdX3_sourcesOf_l0 : dok cX3_sourcesOf dX3_sourcesOf_l0 = true := by decide +kernel
theorem dX3_sourcesOf_0 : decode cX3_sourcesOf 0 = .ok (.iload_n 1, 1) := dok_at gdX3_sourcesOf_l0 0 rfl
theorem dX3_sourcesOf_1 : decode cX3_sourcesOf 1 = .ok (.istore_n 2, 1) := dok_at gdX3_sourcesOf_l0 1 rfl
theorem dX3_sourcesOf_2 : decode cX3_sourcesOf 2 = .ok (.iconst 0, 1) := dok_at gdX3_sourcesOf_l0 2 rfl
theorem dX3_sourcesOf_3 : decode cX3_sourcesOf 3 = .ok (.istore_n 3, 1) := dok_at gdX3_sourcesOf_l0 3 rfl
theorem dX3_sourcesOf_4 : decode cX3_sourcesOf 4 = .ok (.iload_n 3, 1) := dok_at gdX3_sourcesOf_l0 4 rfl
theorem dX3_sourcesOf_5 : decode cX3_sourcesOf 5 = .ok (.bipush 8, 2) := dok_at gdX3_sourcesOf_l0 5 rfl
theorem dX3_sourcesOf_7 : decode cX3_sourcesOf 7 = .ok (.if_icmp .ge 53, 3) := dok_at gdX3_sourcesOf_l0 6 rfl
theorem dX3_sourcesOf_10 : decode cX3_sourcesOf 10 = .ok (.iconst 0, 1) := dok_at gdX3_sourcesOf_l0 7 rfl
theorem dX3_sourcesOf_11 : decode cX3_sourcesOf 11 = .ok (.istore 4, 2) := dok_at gdX3_sourcesOf_l0 8 rfl
theorem dX3_sourcesOf_13 : decode cX3_sourcesOf 13 = .ok (.iload 4, 2) := dok_at gdX3_sourcesOf_l0 9 rfl
theorem dX3_sourcesOf_15 : decode cX3_sourcesOf 15 = .ok (.aload_n 0, 1) := dok_at gdX3_sourcesOf_l0 10 rfl
theorem dX3_sourcesOf_16 : decode cX3_sourcesOf 16 = .ok (.getfield 19, 3) := dok_at gdX3_sourcesOf_l0 11 rfl
theorem dX3_sourcesOf_19 : decode cX3_sourcesOf 19 = .ok (.if_icmp .ge 35, 3) := dok_at gdX3_sourcesOf_l0 12 rfl
theorem dX3_sourcesOf_22 : decode cX3_sourcesOf 22 = .ok (.iload_n 2, 1) := dok_at gdX3_sourcesOf_l0 13 rfl
theorem dX3_sourcesOf_23 : decode cX3_sourcesOf 23 = .ok (.iload 4, 2) := dok_at gdX3_sourcesOf_l0 14 rfl
theorem dX3_sourcesOf_25 : decode cX3_sourcesOf 25 = .ok (.ishr, 1) := dok_at gdX3_sourcesOf_l0 15 rfl
theorem dX3_sourcesOf_26 : decode cX3_sourcesOf 26 = .ok (.iconst 1, 1) := dok_at gdX3_sourcesOf_l0 16 rfl
theorem dX3_sourcesOf_27 : decode cX3_sourcesOf 27 = .ok (.iand, 1) := dok_at gdX3_sourcesOf_l0 17 rfl
theorem dX3_sourcesOf_28 : decode cX3_sourcesOf 28 = .ok (.iconst 1, 1) := dok_at gdX3_sourcesOf_l0 18 rfl
theorem dX3_sourcesOf_29 : decode cX3_sourcesOf 29 = .ok (.if_icmp .ne 19, 3) := dok_at gdX3_sourcesOf_l0 19 rfl
theorem dX3_sourcesOf_32 : decode cX3_sourcesOf 32 = .ok (.iload_n 2, 1) := dok_at gdX3_sourcesOf_l0 20 rfl
theorem dX3_sourcesOf_33 : decode cX3_sourcesOf 33 = .ok (.aload_n 0, 1) := dok_at gdX3_sourcesOf_l0 21 rfl
theorem dX3_sourcesOf_34 : decode cX3_sourcesOf 34 = .ok (.iload 4, 2) := dok_at gdX3_sourcesOf_l0 22 rfl
theorem dX3_sourcesOf_36 : decode cX3_sourcesOf 36 = .ok (.bipush 7, 2) := dok_at gdX3_sourcesOf_l0 23 rfl
def dX3_sourcesOf_l38 : List (Nat × Instr × Nat) := [(38, .invokevirtual 45, 3), (41, .aload_n 0, 1), (42, .invokevirtual 49, 3), (45, .iand, 1), (46, .ior, 1), (47, .istore_n 2, 1), (48, .iinc 4 1, 3), (51, .goto (-38), 3), (54, .iinc 3 1, 3), (57, .goto (-53), 3), (60, .iload_n 2, 1), (61, .ireturn, 1)]
theorem gdX3_sourcesOf_l38 : dok cX3_sourcesOf dX3_sourcesOf_l38 = true := by decide +kernel
theorem dX3_sourcesOf_38 : decode cX3_sourcesOf 38 = .ok (.invokevirtual 45, 3) := dok_at gdX3_sourcesOf_l38 0 rfl
theorem dX3_sourcesOf_41 : decode cX3_sourcesOf 41 = .ok (.aload_n 0, 1) := dok_at gdX3_sourcesOf_l38 1 rfl
theorem dX3_sourcesOf_42 : decode cX3_sourcesOf 42 = .ok (.invokevirtual 49, 3) := dok_at gdX3_sourcesOf_l38 2 rfl
theorem dX3_sourcesOf_45 : decode cX3_sourcesOf 45 = .ok (.iand, 1) := dok_at gdX3_sourcesOf_l38 3 rfl
theorem dX3_sourcesOf_46 : decode cX3_sourcesOf 46 = .ok (.ior, 1) := dok_at gdX3_sourcesOf_l38 4 rfl
theorem dX3_sourcesOf_47 : decode cX3_sourcesOf 47 = .ok (.istore_n 2, 1) := dok_at gdX3_sourcesOf_l38 5 rfl
theorem dX3_sourcesOf_48 : decode cX3_sourcesOf 48 = .ok (.iinc 4 1, 3) := dok_at gdX3_sourcesOf_l38 6 rfl
theorem dX3_sourcesOf_51 : decode cX3_sourcesOf 51 = .ok (.goto (-38), 3) := dok_at gdX3_sourcesOf_l38 7 rfl
theorem dX3_sourcesOf_54 : decode cX3_sourcesOf 54 = .ok (.iinc 3 1, 3) := dok_at gdX3_sourcesOf_l38 8 rfl
theorem dX3_sourcesOf_57 : decode cX3_sourcesOf 57 = .ok (.goto (-53), 3) := dok_at gdX3_sourcesOf_l38 9 rfl
theorem dX3_sourcesOf_60 : decode cX3_sourcesOf 60 = .ok (.iload_n 2, 1) := dok_at gdX3_sourcesOf_l38 10 rfl
theorem dX3_sourcesOf_61 : decode cX3_sourcesOf 61 = .ok (.ireturn, 1) := dok_at gdX3_sourcesOf_l38 11 rfl
def dX4_init_l0 : List (Nat × Instr × Nat) := [(0, .aload_n 0, 1), (1, .invokespecial 3, 3), (4, .aload_n 0, 1), (5, .aload_n 1, 1), (6, .putfield 9, 3), (9, .aload_n 0, 1), (10, .aload_n 2, 1), (11, .putfield 15, 3), (14, .aload_n 0, 1), (15, .bipush 8, 2), (17, .newarray .int, 2), (19, .putfield 19, 3), (22, .aload_n 0, 1), (23, .bipush 7, 2), (25, .bipush 8, 2), (27, .multianewarray 25 2, 4), (31, .putfield 27, 3), (34, .aload_n 0, 1), (35, .bipush 7, 2), (37, .bipush 8, 2), (39, .multianewarray 25 2, 4), (43, .putfield 30, 3), (46, .return_, 1)]
theorem gdX4_init_l0 : dok cX4_init dX4_init_l0 = true := by decide +kernel
theorem dX4_init_0 : decode cX4_init 0 = .ok (.aload_n 0, 1) := dok_at gdX4_init_l0 0 rfl
theorem dX4_init_1 : decode cX4_init 1 = .ok (.invokespecial 3, 3) := dok_at gdX4_init_l0 1 rfl
theorem dX4_init_4 : decode cX4_init 4 = .ok (.aload_n 0, 1) := dok_at gdX4_init_l0 2 rfl
theorem dX4_init_5 : decode cX4_init 5 = .ok (.aload_n 1, 1) := dok_at gdX4_init_l0 3 rfl
theorem dX4_init_6 : decode cX4_init 6 = .ok (.putfield 9, 3) := dok_at gdX4_init_l0 4 rfl
theorem dX4_init_9 : decode cX4_init 9 = .ok (.aload_n 0, 1) := dok_at gdX4_init_l0 5 rfl
theorem dX4_init_10 : decode cX4_init 10 = .ok (.aload_n 2, 1) := dok_at gdX4_init_l0 6 rfl
theorem dX4_init_11 : decode cX4_init 11 = .ok (.putfield 15, 3) := dok_at gdX4_init_l0 7 rfl
theorem dX4_init_14 : decode cX4_init 14 = .ok (.aload_n 0, 1) := dok_at gdX4_init_l0 8 rfl
theorem dX4_init_15 : decode cX4_init 15 = .ok (.bipush 8, 2) := dok_at gdX4_init_l0 9 rfl
theorem dX4_init_17 : decode cX4_init 17 = .ok (.newarray .int, 2) := dok_at gdX4_init_l0 10 rfl
theorem dX4_init_19 : decode cX4_init 19 = .ok (.putfield 19, 3) := dok_at gdX4_init_l0 11 rfl
theorem dX4_init_22 : decode cX4_init 22 = .ok (.aload_n 0, 1) := dok_at gdX4_init_l0 12 rfl
theorem dX4_init_23 : decode cX4_init 23 = .ok (.bipush 7, 2) := dok_at gdX4_init_l0 13 rfl
theorem dX4_init_25 : decode cX4_init 25 = .ok (.bipush 8, 2) := dok_at gdX4_init_l0 14 rfl
theorem dX4_init_27 : decode cX4_init 27 = .ok (.multianewarray 25 2, 4) := dok_at gdX4_init_l0 15 rfl
theorem dX4_init_31 : decode cX4_init 31 = .ok (.putfield 27, 3) := dok_at gdX4_init_l0 16 rfl
theorem dX4_init_34 : decode cX4_init 34 = .ok (.aload_n 0, 1) := dok_at gdX4_init_l0 17 rfl
theorem dX4_init_35 : decode cX4_init 35 = .ok (.bipush 7, 2) := dok_at gdX4_init_l0 18 rfl
theorem dX4_init_37 : decode cX4_init 37 = .ok (.bipush 8, 2) := dok_at gdX4_init_l0 19 rfl
theorem dX4_init_39 : decode cX4_init 39 = .ok (.multianewarray 25 2, 4) := dok_at gdX4_init_l0 20 rfl
theorem dX4_init_43 : decode cX4_init 43 = .ok (.putfield 30, 3) := dok_at gdX4_init_l0 21 rfl
theorem dX4_init_46 : decode cX4_init 46 = .ok (.return_, 1) := dok_at gdX4_init_l0 22 rfl
def dX4_readText_l0 : List (Nat × Instr × Nat) := [(0, .aload_n 0, 1), (1, .aload_n 1, 1), (2, .putfield 15, 3), (5, .aload_n 0, 1), (6, .getfield 15, 3), (9, .invokevirtual 33, 3), (12, .aload_n 0, 1), (13, .iconst 0, 1), (14, .putfield 36, 3), (17, .aload_n 0, 1), (18, .iconst 0, 1), (19, .putfield 40, 3), (22, .aload_n 0, 1), (23, .iconst 0, 1), (24, .putfield 43, 3), (27, .aload_n 0, 1), (28, .iconst 0, 1), (29, .putfield 46, 3), (32, .aload_n 0, 1), (33, .getfield 19, 3), (36, .bipush (-4), 2), (38, .invokestatic 49, 3), (41, .aload_n 0, 1), (42, .invokevirtual 55, 3)]
theorem gdX4_readText_l0 : dok cX4_readText dX4_readText_l0 = true := by decide +kernel
theorem dX4_readText_0 : decode cX4_readText 0 = .ok (.aload_n 0, 1) := dok_at gdX4_readText_l0 0 rfl
theorem dX4_readText_1 : decode cX4_readText 1 = .ok (.aload_n 1, 1) := dok_at gdX4_readText_l0 1 rfl
theorem dX4_readText_2 : decode cX4_readText 2 = .ok (.putfield 15, 3) := dok_at gdX4_readText_l0 2 rfl
theorem dX4_readText_5 : decode cX4_readText 5 = .ok (.aload_n 0, 1) := dok_at gdX4_readText_l0 3 rfl
theorem dX4_readText_6 : decode cX4_readText 6 = .ok (.getfield 15, 3) := dok_at gdX4_readText_l0 4 rfl
theorem dX4_readText_9 : decode cX4_readText 9 = .ok (.invokevirtual 33, 3) := dok_at gdX4_readText_l0 5 rfl
theorem dX4_readText_12 : decode cX4_readText 12 = .ok (.aload_n 0, 1) := dok_at gdX4_readText_l0 6 rfl
theorem dX4_readText_13 : decode cX4_readText 13 = .ok (.iconst 0, 1) := dok_at gdX4_readText_l0 7 rfl
theorem dX4_readText_14 : decode cX4_readText 14 = .ok (.putfield 36, 3) := dok_at gdX4_readText_l0 8 rfl
theorem dX4_readText_17 : decode cX4_readText 17 = .ok (.aload_n 0, 1) := dok_at gdX4_readText_l0 9 rfl
theorem dX4_readText_18 : decode cX4_readText 18 = .ok (.iconst 0, 1) := dok_at gdX4_readText_l0 10 rfl
theorem dX4_readText_19 : decode cX4_readText 19 = .ok (.putfield 40, 3) := dok_at gdX4_readText_l0 11 rfl
theorem dX4_readText_22 : decode cX4_readText 22 = .ok (.aload_n 0, 1) := dok_at gdX4_readText_l0 12 rfl
theorem dX4_readText_23 : decode cX4_readText 23 = .ok (.iconst 0, 1) := dok_at gdX4_readText_l0 13 rfl
theorem dX4_readText_24 : decode cX4_readText 24 = .ok (.putfield 43, 3) := dok_at gdX4_readText_l0 14 rfl
theorem dX4_readText_27 : decode cX4_readText 27 = .ok (.aload_n 0, 1) := dok_at gdX4_readText_l0 15 rfl
theorem dX4_readText_28 : decode cX4_readText 28 = .ok (.iconst 0, 1) := dok_at gdX4_readText_l0 16 rfl
theorem dX4_readText_29 : decode cX4_readText 29 = .ok (.putfield 46, 3) := dok_at gdX4_readText_l0 17 rfl
theorem dX4_readText_32 : decode cX4_readText 32 = .ok (.aload_n 0, 1) := dok_at gdX4_readText_l0 18 rfl
theorem dX4_readText_33 : decode cX4_readText 33 = .ok (.getfield 19, 3) := dok_at gdX4_readText_l0 19 rfl
theorem dX4_readText_36 : decode cX4_readText 36 = .ok (.bipush (-4), 2) := dok_at gdX4_readText_l0 20 rfl
theorem dX4_readText_38 : decode cX4_readText 38 = .ok (.invokestatic 49, 3) := dok_at gdX4_readText_l0 21 rfl
theorem dX4_readText_41 : decode cX4_readText 41 = .ok (.aload_n 0, 1) := dok_at gdX4_readText_l0 22 rfl
theorem dX4_readText_42 : decode cX4_readText 42 = .ok (.invokevirtual 55, 3) := dok_at gdX4_readText_l0 23 rfl
def dX4_readText_l45 : List (Nat × Instr × Nat) := [(45, .iconst 0, 1), (46, .istore_n 2, 1), (47, .iconst 0, 1), (48, .istore_n 3, 1), (49, .iload_n 3, 1), (50, .sipush 400, 3), (53, .if_icmp .ge 52, 3), (56, .aload_n 0, 1), (57, .getfield 43, 3), (60, .ifCond .ne 45, 3), (63, .aload_n 0, 1), (64, .getfield 60, 3), (67, .ifCond .eq 38, 3), (70, .aload_n 0, 1), (71, .ldc 63, 2), (73, .invokevirtual 65, 3), (76, .ifCond .eq 10, 3), (79, .aload_n 0, 1), (80, .invokevirtual 69, 3), (83, .goto 7, 3), (86, .aload_n 0, 1), (87, .invokevirtual 72, 3), (90, .aload_n 0, 1), (91, .bipush 59, 2)]
theorem gdX4_readText_l45 : dok cX4_readText dX4_readText_l45 = true := by decide +kernel
theorem dX4_readText_45 : decode cX4_readText 45 = .ok (.iconst 0, 1) := dok_at gdX4_readText_l45 0 rfl
theorem dX4_readText_46 : decode cX4_readText 46 = .ok (.istore_n 2, 1) := dok_at gdX4_readText_l45 1 rfl
theorem dX4_readText_47 : decode cX4_readText 47 = .ok (.iconst 0, 1) := dok_at gdX4_readText_l45 2 rfl
theorem dX4_readText_48 : decode cX4_readText 48 = .ok (.istore_n 3, 1) := dok_at gdX4_readText_l45 3 rfl
theorem dX4_readText_49 : decode cX4_readText 49 = .ok (.iload_n 3, 1) := dok_at gdX4_readText_l45 4 rfl
theorem dX4_readText_50 : decode cX4_readText 50 = .ok (.sipush 400, 3) := dok_at gdX4_readText_l45 5 rfl
theorem dX4_readText_53 : decode cX4_readText 53 = .ok (.if_icmp .ge 52, 3) := dok_at gdX4_readText_l45 6 rfl
theorem dX4_readText_56 : decode cX4_readText 56 = .ok (.aload_n 0, 1) := dok_at gdX4_readText_l45 7 rfl
theorem dX4_readText_57 : decode cX4_readText 57 = .ok (.getfield 43, 3) := dok_at gdX4_readText_l45 8 rfl
theorem dX4_readText_60 : decode cX4_readText 60 = .ok (.ifCond .ne 45, 3) := dok_at gdX4_readText_l45 9 rfl
theorem dX4_readText_63 : decode cX4_readText 63 = .ok (.aload_n 0, 1) := dok_at gdX4_readText_l45 10 rfl
theorem dX4_readText_64 : decode cX4_readText 64 = .ok (.getfield 60, 3) := dok_at gdX4_readText_l45 11 rfl
theorem dX4_readText_67 : decode cX4_readText 67 = .ok (.ifCond .eq 38, 3) := dok_at gdX4_readText_l45 12 rfl
theorem dX4_readText_70 : decode cX4_readText 70 = .ok (.aload_n 0, 1) := dok_at gdX4_readText_l45 13 rfl
theorem dX4_readText_71 : decode cX4_readText 71 = .ok (.ldc 63, 2) := dok_at gdX4_readText_l45 14 rfl
theorem dX4_readText_73 : decode cX4_readText 73 = .ok (.invokevirtual 65, 3) := dok_at gdX4_readText_l45 15 rfl
theorem dX4_readText_76 : decode cX4_readText 76 = .ok (.ifCond .eq 10, 3) := dok_at gdX4_readText_l45 16 rfl
theorem dX4_readText_79 : decode cX4_readText 79 = .ok (.aload_n 0, 1) := dok_at gdX4_readText_l45 17 rfl
theorem dX4_readText_80 : decode cX4_readText 80 = .ok (.invokevirtual 69, 3) := dok_at gdX4_readText_l45 18 rfl
theorem dX4_readText_83 : decode cX4_readText 83 = .ok (.goto 7, 3) := dok_at gdX4_readText_l45 19 rfl
theorem dX4_readText_86 : decode cX4_readText 86 = .ok (.aload_n 0, 1) := dok_at gdX4_readText_l45 20 rfl
theorem dX4_readText_87 : decode cX4_readText 87 = .ok (.invokevirtual 72, 3) := dok_at gdX4_readText_l45 21 rfl
theorem dX4_readText_90 : decode cX4_readText 90 = .ok (.aload_n 0, 1) := dok_at gdX4_readText_l45 22 rfl
theorem dX4_readText_91 : decode cX4_readText 91 = .ok (.bipush 59, 2) := dok_at gdX4_readText_l45 23 rfl
def dX4_readText_l93 : List (Nat × Instr × Nat) := [(93, .invokevirtual 75, 3), (96, .iinc 2 1, 3), (99, .iinc 3 1, 3), (102, .goto (-53), 3), (105, .aload_n 0, 1), (106, .invokevirtual 79, 3), (109, .iload_n 2, 1), (110, .ireturn, 1)]
theorem gdX4_readText_l93 : dok cX4_readText dX4_readText_l93 = true := by decide +kernel
theorem dX4_readText_93 : decode cX4_readText 93 = .ok (.invokevirtual 75, 3) := dok_at gdX4_readText_l93 0 rfl
theorem dX4_readText_96 : decode cX4_readText 96 = .ok (.iinc 2 1, 3) := dok_at gdX4_readText_l93 1 rfl
theorem dX4_readText_99 : decode cX4_readText 99 = .ok (.iinc 3 1, 3) := dok_at gdX4_readText_l93 2 rfl
theorem dX4_readText_102 : decode cX4_readText 102 = .ok (.goto (-53), 3) := dok_at gdX4_readText_l93 3 rfl
theorem dX4_readText_105 : decode cX4_readText 105 = .ok (.aload_n 0, 1) := dok_at gdX4_readText_l93 4 rfl
theorem dX4_readText_106 : decode cX4_readText 106 = .ok (.invokevirtual 79, 3) := dok_at gdX4_readText_l93 5 rfl
theorem dX4_readText_109 : decode cX4_readText 109 = .ok (.iload_n 2, 1) := dok_at gdX4_readText_l93 6 rfl
theorem dX4_readText_110 : decode cX4_readText 110 = .ok (.ireturn, 1) := dok_at gdX4_readText_l93 7 rfl
def dX4_refuse_l0 : List (Nat × Instr × Nat) := [(0, .aload_n 0, 1), (1, .getfield 43, 3), (4, .ifCond .ne 13, 3), (7, .aload_n 0, 1), (8, .iload_n 1, 1), (9, .putfield 43, 3), (12, .aload_n 0, 1), (13, .iload_n 2, 1), (14, .putfield 46, 3), (17, .return_, 1)]
theorem gdX4_refuse_l0 : dok cX4_refuse dX4_refuse_l0 = true := by decide +kernel
theorem dX4_refuse_0 : decode cX4_refuse 0 = .ok (.aload_n 0, 1) := dok_at gdX4_refuse_l0 0 rfl
theorem dX4_refuse_1 : decode cX4_refuse 1 = .ok (.getfield 43, 3) := dok_at gdX4_refuse_l0 1 rfl
theorem dX4_refuse_4 : decode cX4_refuse 4 = .ok (.ifCond .ne 13, 3) := dok_at gdX4_refuse_l0 2 rfl
theorem dX4_refuse_7 : decode cX4_refuse 7 = .ok (.aload_n 0, 1) := dok_at gdX4_refuse_l0 3 rfl
theorem dX4_refuse_8 : decode cX4_refuse 8 = .ok (.iload_n 1, 1) := dok_at gdX4_refuse_l0 4 rfl
theorem dX4_refuse_9 : decode cX4_refuse 9 = .ok (.putfield 43, 3) := dok_at gdX4_refuse_l0 5 rfl
theorem dX4_refuse_12 : decode cX4_refuse 12 = .ok (.aload_n 0, 1) := dok_at gdX4_refuse_l0 6 rfl
theorem dX4_refuse_13 : decode cX4_refuse 13 = .ok (.iload_n 2, 1) := dok_at gdX4_refuse_l0 7 rfl
theorem dX4_refuse_14 : decode cX4_refuse 14 = .ok (.putfield 46, 3) := dok_at gdX4_refuse_l0 8 rfl
theorem dX4_refuse_17 : decode cX4_refuse 17 = .ok (.return_, 1) := dok_at gdX4_refuse_l0 9 rfl
def dX4_step_l0 : List (Nat × Instr × Nat) := [(0, .aload_n 0, 1), (1, .getfield 36, 3), (4, .aload_n 0, 1), (5, .getfield 9, 3), (8, .getfield 82, 3), (11, .if_icmp .ge 33, 3), (14, .aload_n 0, 1), (15, .getfield 9, 3), (18, .getfield 85, 3), (21, .aload_n 0, 1), (22, .getfield 36, 3), (25, .iaload, 1), (26, .bipush 32, 2), (28, .if_icmp .ne 16, 3), (31, .aload_n 0, 1), (32, .dup, 1), (33, .getfield 36, 3), (36, .iconst 1, 1), (37, .iadd, 1), (38, .putfield 36, 3), (41, .goto (-41), 3), (44, .aload_n 0, 1), (45, .aload_n 0, 1), (46, .getfield 36, 3)]
theorem gdX4_step_l0 : dok cX4_step dX4_step_l0 = true := by decide +kernel
theorem dX4_step_0 : decode cX4_step 0 = .ok (.aload_n 0, 1) := dok_at gdX4_step_l0 0 rfl
theorem dX4_step_1 : decode cX4_step 1 = .ok (.getfield 36, 3) := dok_at gdX4_step_l0 1 rfl
theorem dX4_step_4 : decode cX4_step 4 = .ok (.aload_n 0, 1) := dok_at gdX4_step_l0 2 rfl
theorem dX4_step_5 : decode cX4_step 5 = .ok (.getfield 9, 3) := dok_at gdX4_step_l0 3 rfl
theorem dX4_step_8 : decode cX4_step 8 = .ok (.getfield 82, 3) := dok_at gdX4_step_l0 4 rfl
theorem dX4_step_11 : decode cX4_step 11 = .ok (.if_icmp .ge 33, 3) := dok_at gdX4_step_l0 5 rfl
theorem dX4_step_14 : decode cX4_step 14 = .ok (.aload_n 0, 1) := dok_at gdX4_step_l0 6 rfl
theorem dX4_step_15 : decode cX4_step 15 = .ok (.getfield 9, 3) := dok_at gdX4_step_l0 7 rfl
theorem dX4_step_18 : decode cX4_step 18 = .ok (.getfield 85, 3) := dok_at gdX4_step_l0 8 rfl
theorem dX4_step_21 : decode cX4_step 21 = .ok (.aload_n 0, 1) := dok_at gdX4_step_l0 9 rfl
theorem dX4_step_22 : decode cX4_step 22 = .ok (.getfield 36, 3) := dok_at gdX4_step_l0 10 rfl
theorem dX4_step_25 : decode cX4_step 25 = .ok (.iaload, 1) := dok_at gdX4_step_l0 11 rfl
theorem dX4_step_26 : decode cX4_step 26 = .ok (.bipush 32, 2) := dok_at gdX4_step_l0 12 rfl
theorem dX4_step_28 : decode cX4_step 28 = .ok (.if_icmp .ne 16, 3) := dok_at gdX4_step_l0 13 rfl
theorem dX4_step_31 : decode cX4_step 31 = .ok (.aload_n 0, 1) := dok_at gdX4_step_l0 14 rfl
theorem dX4_step_32 : decode cX4_step 32 = .ok (.dup, 1) := dok_at gdX4_step_l0 15 rfl
theorem dX4_step_33 : decode cX4_step 33 = .ok (.getfield 36, 3) := dok_at gdX4_step_l0 16 rfl
theorem dX4_step_36 : decode cX4_step 36 = .ok (.iconst 1, 1) := dok_at gdX4_step_l0 17 rfl
theorem dX4_step_37 : decode cX4_step 37 = .ok (.iadd, 1) := dok_at gdX4_step_l0 18 rfl
theorem dX4_step_38 : decode cX4_step 38 = .ok (.putfield 36, 3) := dok_at gdX4_step_l0 19 rfl
theorem dX4_step_41 : decode cX4_step 41 = .ok (.goto (-41), 3) := dok_at gdX4_step_l0 20 rfl
theorem dX4_step_44 : decode cX4_step 44 = .ok (.aload_n 0, 1) := dok_at gdX4_step_l0 21 rfl
theorem dX4_step_45 : decode cX4_step 45 = .ok (.aload_n 0, 1) := dok_at gdX4_step_l0 22 rfl
theorem dX4_step_46 : decode cX4_step 46 = .ok (.getfield 36, 3) := dok_at gdX4_step_l0 23 rfl
def dX4_step_l49 : List (Nat × Instr × Nat) := [(49, .putfield 88, 3), (52, .aload_n 0, 1), (53, .iconst 0, 1), (54, .putfield 91, 3), (57, .aload_n 0, 1), (58, .getfield 36, 3), (61, .aload_n 0, 1), (62, .getfield 9, 3), (65, .getfield 82, 3), (68, .if_icmp .lt 9, 3), (71, .aload_n 0, 1), (72, .iconst 0, 1), (73, .putfield 60, 3), (76, .return_, 1), (77, .aload_n 0, 1), (78, .getfield 9, 3), (81, .getfield 85, 3), (84, .aload_n 0, 1), (85, .getfield 36, 3), (88, .iaload, 1), (89, .istore_n 1, 1), (90, .iload_n 1, 1), (91, .bipush 97, 2), (93, .if_icmp .lt 25, 3)]
theorem gdX4_step_l49 : dok cX4_step dX4_step_l49 = true := by decide +kernel
theorem dX4_step_49 : decode cX4_step 49 = .ok (.putfield 88, 3) := dok_at gdX4_step_l49 0 rfl
theorem dX4_step_52 : decode cX4_step 52 = .ok (.aload_n 0, 1) := dok_at gdX4_step_l49 1 rfl
theorem dX4_step_53 : decode cX4_step 53 = .ok (.iconst 0, 1) := dok_at gdX4_step_l49 2 rfl
theorem dX4_step_54 : decode cX4_step 54 = .ok (.putfield 91, 3) := dok_at gdX4_step_l49 3 rfl
theorem dX4_step_57 : decode cX4_step 57 = .ok (.aload_n 0, 1) := dok_at gdX4_step_l49 4 rfl
theorem dX4_step_58 : decode cX4_step 58 = .ok (.getfield 36, 3) := dok_at gdX4_step_l49 5 rfl
theorem dX4_step_61 : decode cX4_step 61 = .ok (.aload_n 0, 1) := dok_at gdX4_step_l49 6 rfl
theorem dX4_step_62 : decode cX4_step 62 = .ok (.getfield 9, 3) := dok_at gdX4_step_l49 7 rfl
theorem dX4_step_65 : decode cX4_step 65 = .ok (.getfield 82, 3) := dok_at gdX4_step_l49 8 rfl
theorem dX4_step_68 : decode cX4_step 68 = .ok (.if_icmp .lt 9, 3) := dok_at gdX4_step_l49 9 rfl
theorem dX4_step_71 : decode cX4_step 71 = .ok (.aload_n 0, 1) := dok_at gdX4_step_l49 10 rfl
theorem dX4_step_72 : decode cX4_step 72 = .ok (.iconst 0, 1) := dok_at gdX4_step_l49 11 rfl
theorem dX4_step_73 : decode cX4_step 73 = .ok (.putfield 60, 3) := dok_at gdX4_step_l49 12 rfl
theorem dX4_step_76 : decode cX4_step 76 = .ok (.return_, 1) := dok_at gdX4_step_l49 13 rfl
theorem dX4_step_77 : decode cX4_step 77 = .ok (.aload_n 0, 1) := dok_at gdX4_step_l49 14 rfl
theorem dX4_step_78 : decode cX4_step 78 = .ok (.getfield 9, 3) := dok_at gdX4_step_l49 15 rfl
theorem dX4_step_81 : decode cX4_step 81 = .ok (.getfield 85, 3) := dok_at gdX4_step_l49 16 rfl
theorem dX4_step_84 : decode cX4_step 84 = .ok (.aload_n 0, 1) := dok_at gdX4_step_l49 17 rfl
theorem dX4_step_85 : decode cX4_step 85 = .ok (.getfield 36, 3) := dok_at gdX4_step_l49 18 rfl
theorem dX4_step_88 : decode cX4_step 88 = .ok (.iaload, 1) := dok_at gdX4_step_l49 19 rfl
theorem dX4_step_89 : decode cX4_step 89 = .ok (.istore_n 1, 1) := dok_at gdX4_step_l49 20 rfl
theorem dX4_step_90 : decode cX4_step 90 = .ok (.iload_n 1, 1) := dok_at gdX4_step_l49 21 rfl
theorem dX4_step_91 : decode cX4_step 91 = .ok (.bipush 97, 2) := dok_at gdX4_step_l49 22 rfl
theorem dX4_step_93 : decode cX4_step 93 = .ok (.if_icmp .lt 25, 3) := dok_at gdX4_step_l49 23 rfl
def dX4_step_l96 : List (Nat × Instr × Nat) := [(96, .iload_n 1, 1), (97, .bipush 122, 2), (99, .if_icmp .gt 19, 3), (102, .aload_n 0, 1), (103, .iconst 1, 1), (104, .putfield 60, 3), (107, .aload_n 0, 1), (108, .bipush 97, 2), (110, .bipush 122, 2), (112, .invokevirtual 94, 3), (115, .goto 97, 3), (118, .iload_n 1, 1), (119, .bipush 48, 2), (121, .if_icmp .lt 29, 3), (124, .iload_n 1, 1), (125, .bipush 57, 2), (127, .if_icmp .gt 23, 3), (130, .aload_n 0, 1), (131, .iconst 2, 1), (132, .putfield 60, 3), (135, .aload_n 0, 1), (136, .bipush 48, 2), (138, .bipush 57, 2), (140, .invokevirtual 94, 3)]
theorem gdX4_step_l96 : dok cX4_step dX4_step_l96 = true := by decide +kernel
theorem dX4_step_96 : decode cX4_step 96 = .ok (.iload_n 1, 1) := dok_at gdX4_step_l96 0 rfl
theorem dX4_step_97 : decode cX4_step 97 = .ok (.bipush 122, 2) := dok_at gdX4_step_l96 1 rfl
theorem dX4_step_99 : decode cX4_step 99 = .ok (.if_icmp .gt 19, 3) := dok_at gdX4_step_l96 2 rfl
theorem dX4_step_102 : decode cX4_step 102 = .ok (.aload_n 0, 1) := dok_at gdX4_step_l96 3 rfl
theorem dX4_step_103 : decode cX4_step 103 = .ok (.iconst 1, 1) := dok_at gdX4_step_l96 4 rfl
theorem dX4_step_104 : decode cX4_step 104 = .ok (.putfield 60, 3) := dok_at gdX4_step_l96 5 rfl
theorem dX4_step_107 : decode cX4_step 107 = .ok (.aload_n 0, 1) := dok_at gdX4_step_l96 6 rfl
theorem dX4_step_108 : decode cX4_step 108 = .ok (.bipush 97, 2) := dok_at gdX4_step_l96 7 rfl
theorem dX4_step_110 : decode cX4_step 110 = .ok (.bipush 122, 2) := dok_at gdX4_step_l96 8 rfl
theorem dX4_step_112 : decode cX4_step 112 = .ok (.invokevirtual 94, 3) := dok_at gdX4_step_l96 9 rfl
theorem dX4_step_115 : decode cX4_step 115 = .ok (.goto 97, 3) := dok_at gdX4_step_l96 10 rfl
theorem dX4_step_118 : decode cX4_step 118 = .ok (.iload_n 1, 1) := dok_at gdX4_step_l96 11 rfl
theorem dX4_step_119 : decode cX4_step 119 = .ok (.bipush 48, 2) := dok_at gdX4_step_l96 12 rfl
theorem dX4_step_121 : decode cX4_step 121 = .ok (.if_icmp .lt 29, 3) := dok_at gdX4_step_l96 13 rfl
theorem dX4_step_124 : decode cX4_step 124 = .ok (.iload_n 1, 1) := dok_at gdX4_step_l96 14 rfl
theorem dX4_step_125 : decode cX4_step 125 = .ok (.bipush 57, 2) := dok_at gdX4_step_l96 15 rfl
theorem dX4_step_127 : decode cX4_step 127 = .ok (.if_icmp .gt 23, 3) := dok_at gdX4_step_l96 16 rfl
theorem dX4_step_130 : decode cX4_step 130 = .ok (.aload_n 0, 1) := dok_at gdX4_step_l96 17 rfl
theorem dX4_step_131 : decode cX4_step 131 = .ok (.iconst 2, 1) := dok_at gdX4_step_l96 18 rfl
theorem dX4_step_132 : decode cX4_step 132 = .ok (.putfield 60, 3) := dok_at gdX4_step_l96 19 rfl
theorem dX4_step_135 : decode cX4_step 135 = .ok (.aload_n 0, 1) := dok_at gdX4_step_l96 20 rfl
theorem dX4_step_136 : decode cX4_step 136 = .ok (.bipush 48, 2) := dok_at gdX4_step_l96 21 rfl
theorem dX4_step_138 : decode cX4_step 138 = .ok (.bipush 57, 2) := dok_at gdX4_step_l96 22 rfl
theorem dX4_step_140 : decode cX4_step 140 = .ok (.invokevirtual 94, 3) := dok_at gdX4_step_l96 23 rfl
def dX4_step_l143 : List (Nat × Instr × Nat) := [(143, .aload_n 0, 1), (144, .invokevirtual 98, 3), (147, .goto 65, 3), (150, .iload_n 1, 1), (151, .bipush 40, 2), (153, .if_icmp .eq 27, 3), (156, .iload_n 1, 1), (157, .bipush 41, 2), (159, .if_icmp .eq 21, 3), (162, .iload_n 1, 1), (163, .bipush 38, 2), (165, .if_icmp .eq 15, 3), (168, .iload_n 1, 1), (169, .bipush 124, 2), (171, .if_icmp .eq 9, 3), (174, .iload_n 1, 1), (175, .bipush 59, 2), (177, .if_icmp .ne 26, 3), (180, .aload_n 0, 1), (181, .iconst 3, 1), (182, .putfield 60, 3), (185, .aload_n 0, 1), (186, .iload_n 1, 1), (187, .putfield 91, 3)]
theorem gdX4_step_l143 : dok cX4_step dX4_step_l143 = true := by decide +kernel
theorem dX4_step_143 : decode cX4_step 143 = .ok (.aload_n 0, 1) := dok_at gdX4_step_l143 0 rfl
theorem dX4_step_144 : decode cX4_step 144 = .ok (.invokevirtual 98, 3) := dok_at gdX4_step_l143 1 rfl
theorem dX4_step_147 : decode cX4_step 147 = .ok (.goto 65, 3) := dok_at gdX4_step_l143 2 rfl
theorem dX4_step_150 : decode cX4_step 150 = .ok (.iload_n 1, 1) := dok_at gdX4_step_l143 3 rfl
theorem dX4_step_151 : decode cX4_step 151 = .ok (.bipush 40, 2) := dok_at gdX4_step_l143 4 rfl
theorem dX4_step_153 : decode cX4_step 153 = .ok (.if_icmp .eq 27, 3) := dok_at gdX4_step_l143 5 rfl
theorem dX4_step_156 : decode cX4_step 156 = .ok (.iload_n 1, 1) := dok_at gdX4_step_l143 6 rfl
theorem dX4_step_157 : decode cX4_step 157 = .ok (.bipush 41, 2) := dok_at gdX4_step_l143 7 rfl
theorem dX4_step_159 : decode cX4_step 159 = .ok (.if_icmp .eq 21, 3) := dok_at gdX4_step_l143 8 rfl
theorem dX4_step_162 : decode cX4_step 162 = .ok (.iload_n 1, 1) := dok_at gdX4_step_l143 9 rfl
theorem dX4_step_163 : decode cX4_step 163 = .ok (.bipush 38, 2) := dok_at gdX4_step_l143 10 rfl
theorem dX4_step_165 : decode cX4_step 165 = .ok (.if_icmp .eq 15, 3) := dok_at gdX4_step_l143 11 rfl
theorem dX4_step_168 : decode cX4_step 168 = .ok (.iload_n 1, 1) := dok_at gdX4_step_l143 12 rfl
theorem dX4_step_169 : decode cX4_step 169 = .ok (.bipush 124, 2) := dok_at gdX4_step_l143 13 rfl
theorem dX4_step_171 : decode cX4_step 171 = .ok (.if_icmp .eq 9, 3) := dok_at gdX4_step_l143 14 rfl
theorem dX4_step_174 : decode cX4_step 174 = .ok (.iload_n 1, 1) := dok_at gdX4_step_l143 15 rfl
theorem dX4_step_175 : decode cX4_step 175 = .ok (.bipush 59, 2) := dok_at gdX4_step_l143 16 rfl
theorem dX4_step_177 : decode cX4_step 177 = .ok (.if_icmp .ne 26, 3) := dok_at gdX4_step_l143 17 rfl
theorem dX4_step_180 : decode cX4_step 180 = .ok (.aload_n 0, 1) := dok_at gdX4_step_l143 18 rfl
theorem dX4_step_181 : decode cX4_step 181 = .ok (.iconst 3, 1) := dok_at gdX4_step_l143 19 rfl
theorem dX4_step_182 : decode cX4_step 182 = .ok (.putfield 60, 3) := dok_at gdX4_step_l143 20 rfl
theorem dX4_step_185 : decode cX4_step 185 = .ok (.aload_n 0, 1) := dok_at gdX4_step_l143 21 rfl
theorem dX4_step_186 : decode cX4_step 186 = .ok (.iload_n 1, 1) := dok_at gdX4_step_l143 22 rfl
theorem dX4_step_187 : decode cX4_step 187 = .ok (.putfield 91, 3) := dok_at gdX4_step_l143 23 rfl
def dX4_step_l190 : List (Nat × Instr × Nat) := [(190, .aload_n 0, 1), (191, .dup, 1), (192, .getfield 36, 3), (195, .iconst 1, 1), (196, .iadd, 1), (197, .putfield 36, 3), (200, .goto 12, 3), (203, .aload_n 0, 1), (204, .iconst 1, 1), (205, .aload_n 0, 1), (206, .getfield 88, 3), (209, .invokevirtual 101, 3), (212, .return_, 1)]
theorem gdX4_step_l190 : dok cX4_step dX4_step_l190 = true := by decide +kernel
theorem dX4_step_190 : decode cX4_step 190 = .ok (.aload_n 0, 1) := dok_at gdX4_step_l190 0 rfl
theorem dX4_step_191 : decode cX4_step 191 = .ok (.dup, 1) := dok_at gdX4_step_l190 1 rfl
theorem dX4_step_192 : decode cX4_step 192 = .ok (.getfield 36, 3) := dok_at gdX4_step_l190 2 rfl
theorem dX4_step_195 : decode cX4_step 195 = .ok (.iconst 1, 1) := dok_at gdX4_step_l190 3 rfl
theorem dX4_step_196 : decode cX4_step 196 = .ok (.iadd, 1) := dok_at gdX4_step_l190 4 rfl
theorem dX4_step_197 : decode cX4_step 197 = .ok (.putfield 36, 3) := dok_at gdX4_step_l190 5 rfl
theorem dX4_step_200 : decode cX4_step 200 = .ok (.goto 12, 3) := dok_at gdX4_step_l190 6 rfl
theorem dX4_step_203 : decode cX4_step 203 = .ok (.aload_n 0, 1) := dok_at gdX4_step_l190 7 rfl
theorem dX4_step_204 : decode cX4_step 204 = .ok (.iconst 1, 1) := dok_at gdX4_step_l190 8 rfl
theorem dX4_step_205 : decode cX4_step 205 = .ok (.aload_n 0, 1) := dok_at gdX4_step_l190 9 rfl
theorem dX4_step_206 : decode cX4_step 206 = .ok (.getfield 88, 3) := dok_at gdX4_step_l190 10 rfl
theorem dX4_step_209 : decode cX4_step 209 = .ok (.invokevirtual 101, 3) := dok_at gdX4_step_l190 11 rfl
theorem dX4_step_212 : decode cX4_step 212 = .ok (.return_, 1) := dok_at gdX4_step_l190 12 rfl
def dX4_skipWithin_l0 : List (Nat × Instr × Nat) := [(0, .aload_n 0, 1), (1, .getfield 36, 3), (4, .aload_n 0, 1), (5, .getfield 9, 3), (8, .getfield 82, 3), (11, .if_icmp .ge 48, 3), (14, .aload_n 0, 1), (15, .getfield 9, 3), (18, .getfield 85, 3), (21, .aload_n 0, 1), (22, .getfield 36, 3), (25, .iaload, 1), (26, .iload_n 1, 1), (27, .if_icmp .lt 32, 3), (30, .aload_n 0, 1), (31, .getfield 9, 3), (34, .getfield 85, 3), (37, .aload_n 0, 1), (38, .getfield 36, 3), (41, .iaload, 1), (42, .iload_n 2, 1), (43, .if_icmp .gt 16, 3), (46, .aload_n 0, 1), (47, .dup, 1)]
theorem gdX4_skipWithin_l0 : dok cX4_skipWithin dX4_skipWithin_l0 = true := by decide +kernel
theorem dX4_skipWithin_0 : decode cX4_skipWithin 0 = .ok (.aload_n 0, 1) := dok_at gdX4_skipWithin_l0 0 rfl
theorem dX4_skipWithin_1 : decode cX4_skipWithin 1 = .ok (.getfield 36, 3) := dok_at gdX4_skipWithin_l0 1 rfl
theorem dX4_skipWithin_4 : decode cX4_skipWithin 4 = .ok (.aload_n 0, 1) := dok_at gdX4_skipWithin_l0 2 rfl
theorem dX4_skipWithin_5 : decode cX4_skipWithin 5 = .ok (.getfield 9, 3) := dok_at gdX4_skipWithin_l0 3 rfl
theorem dX4_skipWithin_8 : decode cX4_skipWithin 8 = .ok (.getfield 82, 3) := dok_at gdX4_skipWithin_l0 4 rfl
theorem dX4_skipWithin_11 : decode cX4_skipWithin 11 = .ok (.if_icmp .ge 48, 3) := dok_at gdX4_skipWithin_l0 5 rfl
theorem dX4_skipWithin_14 : decode cX4_skipWithin 14 = .ok (.aload_n 0, 1) := dok_at gdX4_skipWithin_l0 6 rfl
theorem dX4_skipWithin_15 : decode cX4_skipWithin 15 = .ok (.getfield 9, 3) := dok_at gdX4_skipWithin_l0 7 rfl
theorem dX4_skipWithin_18 : decode cX4_skipWithin 18 = .ok (.getfield 85, 3) := dok_at gdX4_skipWithin_l0 8 rfl
theorem dX4_skipWithin_21 : decode cX4_skipWithin 21 = .ok (.aload_n 0, 1) := dok_at gdX4_skipWithin_l0 9 rfl
theorem dX4_skipWithin_22 : decode cX4_skipWithin 22 = .ok (.getfield 36, 3) := dok_at gdX4_skipWithin_l0 10 rfl
theorem dX4_skipWithin_25 : decode cX4_skipWithin 25 = .ok (.iaload, 1) := dok_at gdX4_skipWithin_l0 11 rfl
theorem dX4_skipWithin_26 : decode cX4_skipWithin 26 = .ok (.iload_n 1, 1) := dok_at gdX4_skipWithin_l0 12 rfl
theorem dX4_skipWithin_27 : decode cX4_skipWithin 27 = .ok (.if_icmp .lt 32, 3) := dok_at gdX4_skipWithin_l0 13 rfl
theorem dX4_skipWithin_30 : decode cX4_skipWithin 30 = .ok (.aload_n 0, 1) := dok_at gdX4_skipWithin_l0 14 rfl
theorem dX4_skipWithin_31 : decode cX4_skipWithin 31 = .ok (.getfield 9, 3) := dok_at gdX4_skipWithin_l0 15 rfl
theorem dX4_skipWithin_34 : decode cX4_skipWithin 34 = .ok (.getfield 85, 3) := dok_at gdX4_skipWithin_l0 16 rfl
theorem dX4_skipWithin_37 : decode cX4_skipWithin 37 = .ok (.aload_n 0, 1) := dok_at gdX4_skipWithin_l0 17 rfl
theorem dX4_skipWithin_38 : decode cX4_skipWithin 38 = .ok (.getfield 36, 3) := dok_at gdX4_skipWithin_l0 18 rfl
theorem dX4_skipWithin_41 : decode cX4_skipWithin 41 = .ok (.iaload, 1) := dok_at gdX4_skipWithin_l0 19 rfl
theorem dX4_skipWithin_42 : decode cX4_skipWithin 42 = .ok (.iload_n 2, 1) := dok_at gdX4_skipWithin_l0 20 rfl
theorem dX4_skipWithin_43 : decode cX4_skipWithin 43 = .ok (.if_icmp .gt 16, 3) := dok_at gdX4_skipWithin_l0 21 rfl
theorem dX4_skipWithin_46 : decode cX4_skipWithin 46 = .ok (.aload_n 0, 1) := dok_at gdX4_skipWithin_l0 22 rfl
theorem dX4_skipWithin_47 : decode cX4_skipWithin 47 = .ok (.dup, 1) := dok_at gdX4_skipWithin_l0 23 rfl
def dX4_skipWithin_l48 : List (Nat × Instr × Nat) := [(48, .getfield 36, 3), (51, .iconst 1, 1), (52, .iadd, 1), (53, .putfield 36, 3), (56, .goto (-56), 3), (59, .return_, 1)]
theorem gdX4_skipWithin_l48 : dok cX4_skipWithin dX4_skipWithin_l48 = true := by decide +kernel
theorem dX4_skipWithin_48 : decode cX4_skipWithin 48 = .ok (.getfield 36, 3) := dok_at gdX4_skipWithin_l48 0 rfl
theorem dX4_skipWithin_51 : decode cX4_skipWithin 51 = .ok (.iconst 1, 1) := dok_at gdX4_skipWithin_l48 1 rfl
theorem dX4_skipWithin_52 : decode cX4_skipWithin 52 = .ok (.iadd, 1) := dok_at gdX4_skipWithin_l48 2 rfl
theorem dX4_skipWithin_53 : decode cX4_skipWithin 53 = .ok (.putfield 36, 3) := dok_at gdX4_skipWithin_l48 3 rfl
theorem dX4_skipWithin_56 : decode cX4_skipWithin 56 = .ok (.goto (-56), 3) := dok_at gdX4_skipWithin_l48 4 rfl
theorem dX4_skipWithin_59 : decode cX4_skipWithin 59 = .ok (.return_, 1) := dok_at gdX4_skipWithin_l48 5 rfl
def dX4_valueNumber_l0 : List (Nat × Instr × Nat) := [(0, .aload_n 0, 1), (1, .getfield 36, 3), (4, .aload_n 0, 1), (5, .getfield 88, 3), (8, .isub, 1), (9, .iconst 3, 1), (10, .if_icmp .le 13, 3), (13, .aload_n 0, 1), (14, .iconst 1, 1), (15, .aload_n 0, 1), (16, .getfield 88, 3), (19, .invokevirtual 101, 3), (22, .return_, 1), (23, .aload_n 0, 1), (24, .getfield 88, 3), (27, .istore_n 1, 1), (28, .iload_n 1, 1), (29, .aload_n 0, 1), (30, .getfield 36, 3), (33, .if_icmp .ge 33, 3), (36, .aload_n 0, 1), (37, .aload_n 0, 1), (38, .getfield 91, 3), (41, .bipush 10, 2)]
theorem gdX4_valueNumber_l0 : dok cX4_valueNumber dX4_valueNumber_l0 = true := by decide +kernel
theorem dX4_valueNumber_0 : decode cX4_valueNumber 0 = .ok (.aload_n 0, 1) := dok_at gdX4_valueNumber_l0 0 rfl
theorem dX4_valueNumber_1 : decode cX4_valueNumber 1 = .ok (.getfield 36, 3) := dok_at gdX4_valueNumber_l0 1 rfl
theorem dX4_valueNumber_4 : decode cX4_valueNumber 4 = .ok (.aload_n 0, 1) := dok_at gdX4_valueNumber_l0 2 rfl
theorem dX4_valueNumber_5 : decode cX4_valueNumber 5 = .ok (.getfield 88, 3) := dok_at gdX4_valueNumber_l0 3 rfl
theorem dX4_valueNumber_8 : decode cX4_valueNumber 8 = .ok (.isub, 1) := dok_at gdX4_valueNumber_l0 4 rfl
theorem dX4_valueNumber_9 : decode cX4_valueNumber 9 = .ok (.iconst 3, 1) := dok_at gdX4_valueNumber_l0 5 rfl
theorem dX4_valueNumber_10 : decode cX4_valueNumber 10 = .ok (.if_icmp .le 13, 3) := dok_at gdX4_valueNumber_l0 6 rfl
theorem dX4_valueNumber_13 : decode cX4_valueNumber 13 = .ok (.aload_n 0, 1) := dok_at gdX4_valueNumber_l0 7 rfl
theorem dX4_valueNumber_14 : decode cX4_valueNumber 14 = .ok (.iconst 1, 1) := dok_at gdX4_valueNumber_l0 8 rfl
theorem dX4_valueNumber_15 : decode cX4_valueNumber 15 = .ok (.aload_n 0, 1) := dok_at gdX4_valueNumber_l0 9 rfl
theorem dX4_valueNumber_16 : decode cX4_valueNumber 16 = .ok (.getfield 88, 3) := dok_at gdX4_valueNumber_l0 10 rfl
theorem dX4_valueNumber_19 : decode cX4_valueNumber 19 = .ok (.invokevirtual 101, 3) := dok_at gdX4_valueNumber_l0 11 rfl
theorem dX4_valueNumber_22 : decode cX4_valueNumber 22 = .ok (.return_, 1) := dok_at gdX4_valueNumber_l0 12 rfl
theorem dX4_valueNumber_23 : decode cX4_valueNumber 23 = .ok (.aload_n 0, 1) := dok_at gdX4_valueNumber_l0 13 rfl
theorem dX4_valueNumber_24 : decode cX4_valueNumber 24 = .ok (.getfield 88, 3) := dok_at gdX4_valueNumber_l0 14 rfl
theorem dX4_valueNumber_27 : decode cX4_valueNumber 27 = .ok (.istore_n 1, 1) := dok_at gdX4_valueNumber_l0 15 rfl
theorem dX4_valueNumber_28 : decode cX4_valueNumber 28 = .ok (.iload_n 1, 1) := dok_at gdX4_valueNumber_l0 16 rfl
theorem dX4_valueNumber_29 : decode cX4_valueNumber 29 = .ok (.aload_n 0, 1) := dok_at gdX4_valueNumber_l0 17 rfl
theorem dX4_valueNumber_30 : decode cX4_valueNumber 30 = .ok (.getfield 36, 3) := dok_at gdX4_valueNumber_l0 18 rfl
theorem dX4_valueNumber_33 : decode cX4_valueNumber 33 = .ok (.if_icmp .ge 33, 3) := dok_at gdX4_valueNumber_l0 19 rfl
theorem dX4_valueNumber_36 : decode cX4_valueNumber 36 = .ok (.aload_n 0, 1) := dok_at gdX4_valueNumber_l0 20 rfl
theorem dX4_valueNumber_37 : decode cX4_valueNumber 37 = .ok (.aload_n 0, 1) := dok_at gdX4_valueNumber_l0 21 rfl
theorem dX4_valueNumber_38 : decode cX4_valueNumber 38 = .ok (.getfield 91, 3) := dok_at gdX4_valueNumber_l0 22 rfl
theorem dX4_valueNumber_41 : decode cX4_valueNumber 41 = .ok (.bipush 10, 2) := dok_at gdX4_valueNumber_l0 23 rfl
def dX4_valueNumber_l43 : List (Nat × Instr × Nat) := [(43, .imul, 1), (44, .aload_n 0, 1), (45, .getfield 9, 3), (48, .getfield 85, 3), (51, .iload_n 1, 1), (52, .iaload, 1), (53, .iadd, 1), (54, .bipush 48, 2), (56, .isub, 1), (57, .putfield 91, 3), (60, .iinc 1 1, 3), (63, .goto (-35), 3), (66, .return_, 1)]
theorem gdX4_valueNumber_l43 : dok cX4_valueNumber dX4_valueNumber_l43 = true := by decide +kernel
theorem dX4_valueNumber_43 : decode cX4_valueNumber 43 = .ok (.imul, 1) := dok_at gdX4_valueNumber_l43 0 rfl
theorem dX4_valueNumber_44 : decode cX4_valueNumber 44 = .ok (.aload_n 0, 1) := dok_at gdX4_valueNumber_l43 1 rfl
theorem dX4_valueNumber_45 : decode cX4_valueNumber 45 = .ok (.getfield 9, 3) := dok_at gdX4_valueNumber_l43 2 rfl
theorem dX4_valueNumber_48 : decode cX4_valueNumber 48 = .ok (.getfield 85, 3) := dok_at gdX4_valueNumber_l43 3 rfl
theorem dX4_valueNumber_51 : decode cX4_valueNumber 51 = .ok (.iload_n 1, 1) := dok_at gdX4_valueNumber_l43 4 rfl
theorem dX4_valueNumber_52 : decode cX4_valueNumber 52 = .ok (.iaload, 1) := dok_at gdX4_valueNumber_l43 5 rfl
theorem dX4_valueNumber_53 : decode cX4_valueNumber 53 = .ok (.iadd, 1) := dok_at gdX4_valueNumber_l43 6 rfl
theorem dX4_valueNumber_54 : decode cX4_valueNumber 54 = .ok (.bipush 48, 2) := dok_at gdX4_valueNumber_l43 7 rfl
theorem dX4_valueNumber_56 : decode cX4_valueNumber 56 = .ok (.isub, 1) := dok_at gdX4_valueNumber_l43 8 rfl
theorem dX4_valueNumber_57 : decode cX4_valueNumber 57 = .ok (.putfield 91, 3) := dok_at gdX4_valueNumber_l43 9 rfl
theorem dX4_valueNumber_60 : decode cX4_valueNumber 60 = .ok (.iinc 1 1, 3) := dok_at gdX4_valueNumber_l43 10 rfl
theorem dX4_valueNumber_63 : decode cX4_valueNumber 63 = .ok (.goto (-35), 3) := dok_at gdX4_valueNumber_l43 11 rfl
theorem dX4_valueNumber_66 : decode cX4_valueNumber 66 = .ok (.return_, 1) := dok_at gdX4_valueNumber_l43 12 rfl
def dX4_isWord_l0 : List (Nat × Instr × Nat) := [(0, .aload_n 0, 1), (1, .getfield 60, 3), (4, .iconst 1, 1), (5, .if_icmp .ne 19, 3), (8, .aload_n 0, 1), (9, .getfield 36, 3), (12, .aload_n 0, 1), (13, .getfield 88, 3), (16, .isub, 1), (17, .aload_n 1, 1), (18, .invokevirtual 104, 3), (21, .if_icmp .eq 5, 3), (24, .iconst 0, 1), (25, .ireturn, 1), (26, .iconst 0, 1), (27, .istore_n 2, 1), (28, .iload_n 2, 1), (29, .aload_n 1, 1), (30, .invokevirtual 104, 3), (33, .if_icmp .ge 33, 3), (36, .aload_n 0, 1), (37, .getfield 9, 3), (40, .getfield 85, 3), (43, .aload_n 0, 1)]
theorem gdX4_isWord_l0 : dok cX4_isWord dX4_isWord_l0 = true := by decide +kernel
theorem dX4_isWord_0 : decode cX4_isWord 0 = .ok (.aload_n 0, 1) := dok_at gdX4_isWord_l0 0 rfl
theorem dX4_isWord_1 : decode cX4_isWord 1 = .ok (.getfield 60, 3) := dok_at gdX4_isWord_l0 1 rfl
theorem dX4_isWord_4 : decode cX4_isWord 4 = .ok (.iconst 1, 1) := dok_at gdX4_isWord_l0 2 rfl
theorem dX4_isWord_5 : decode cX4_isWord 5 = .ok (.if_icmp .ne 19, 3) := dok_at gdX4_isWord_l0 3 rfl
theorem dX4_isWord_8 : decode cX4_isWord 8 = .ok (.aload_n 0, 1) := dok_at gdX4_isWord_l0 4 rfl
theorem dX4_isWord_9 : decode cX4_isWord 9 = .ok (.getfield 36, 3) := dok_at gdX4_isWord_l0 5 rfl
theorem dX4_isWord_12 : decode cX4_isWord 12 = .ok (.aload_n 0, 1) := dok_at gdX4_isWord_l0 6 rfl
theorem dX4_isWord_13 : decode cX4_isWord 13 = .ok (.getfield 88, 3) := dok_at gdX4_isWord_l0 7 rfl
theorem dX4_isWord_16 : decode cX4_isWord 16 = .ok (.isub, 1) := dok_at gdX4_isWord_l0 8 rfl
theorem dX4_isWord_17 : decode cX4_isWord 17 = .ok (.aload_n 1, 1) := dok_at gdX4_isWord_l0 9 rfl
theorem dX4_isWord_18 : decode cX4_isWord 18 = .ok (.invokevirtual 104, 3) := dok_at gdX4_isWord_l0 10 rfl
theorem dX4_isWord_21 : decode cX4_isWord 21 = .ok (.if_icmp .eq 5, 3) := dok_at gdX4_isWord_l0 11 rfl
theorem dX4_isWord_24 : decode cX4_isWord 24 = .ok (.iconst 0, 1) := dok_at gdX4_isWord_l0 12 rfl
theorem dX4_isWord_25 : decode cX4_isWord 25 = .ok (.ireturn, 1) := dok_at gdX4_isWord_l0 13 rfl
theorem dX4_isWord_26 : decode cX4_isWord 26 = .ok (.iconst 0, 1) := dok_at gdX4_isWord_l0 14 rfl
theorem dX4_isWord_27 : decode cX4_isWord 27 = .ok (.istore_n 2, 1) := dok_at gdX4_isWord_l0 15 rfl
theorem dX4_isWord_28 : decode cX4_isWord 28 = .ok (.iload_n 2, 1) := dok_at gdX4_isWord_l0 16 rfl
theorem dX4_isWord_29 : decode cX4_isWord 29 = .ok (.aload_n 1, 1) := dok_at gdX4_isWord_l0 17 rfl
theorem dX4_isWord_30 : decode cX4_isWord 30 = .ok (.invokevirtual 104, 3) := dok_at gdX4_isWord_l0 18 rfl
theorem dX4_isWord_33 : decode cX4_isWord 33 = .ok (.if_icmp .ge 33, 3) := dok_at gdX4_isWord_l0 19 rfl
theorem dX4_isWord_36 : decode cX4_isWord 36 = .ok (.aload_n 0, 1) := dok_at gdX4_isWord_l0 20 rfl
theorem dX4_isWord_37 : decode cX4_isWord 37 = .ok (.getfield 9, 3) := dok_at gdX4_isWord_l0 21 rfl
theorem dX4_isWord_40 : decode cX4_isWord 40 = .ok (.getfield 85, 3) := dok_at gdX4_isWord_l0 22 rfl
theorem dX4_isWord_43 : decode cX4_isWord 43 = .ok (.aload_n 0, 1) := dok_at gdX4_isWord_l0 23 rfl
def dX4_isWord_l44 : List (Nat × Instr × Nat) := [(44, .getfield 88, 3), (47, .iload_n 2, 1), (48, .iadd, 1), (49, .iaload, 1), (50, .aload_n 1, 1), (51, .iload_n 2, 1), (52, .invokevirtual 109, 3), (55, .if_icmp .eq 5, 3), (58, .iconst 0, 1), (59, .ireturn, 1), (60, .iinc 2 1, 3), (63, .goto (-35), 3), (66, .iconst 1, 1), (67, .ireturn, 1)]
theorem gdX4_isWord_l44 : dok cX4_isWord dX4_isWord_l44 = true := by decide +kernel
theorem dX4_isWord_44 : decode cX4_isWord 44 = .ok (.getfield 88, 3) := dok_at gdX4_isWord_l44 0 rfl
theorem dX4_isWord_47 : decode cX4_isWord 47 = .ok (.iload_n 2, 1) := dok_at gdX4_isWord_l44 1 rfl
theorem dX4_isWord_48 : decode cX4_isWord 48 = .ok (.iadd, 1) := dok_at gdX4_isWord_l44 2 rfl
theorem dX4_isWord_49 : decode cX4_isWord 49 = .ok (.iaload, 1) := dok_at gdX4_isWord_l44 3 rfl
theorem dX4_isWord_50 : decode cX4_isWord 50 = .ok (.aload_n 1, 1) := dok_at gdX4_isWord_l44 4 rfl
theorem dX4_isWord_51 : decode cX4_isWord 51 = .ok (.iload_n 2, 1) := dok_at gdX4_isWord_l44 5 rfl
theorem dX4_isWord_52 : decode cX4_isWord 52 = .ok (.invokevirtual 109, 3) := dok_at gdX4_isWord_l44 6 rfl
theorem dX4_isWord_55 : decode cX4_isWord 55 = .ok (.if_icmp .eq 5, 3) := dok_at gdX4_isWord_l44 7 rfl
theorem dX4_isWord_58 : decode cX4_isWord 58 = .ok (.iconst 0, 1) := dok_at gdX4_isWord_l44 8 rfl
theorem dX4_isWord_59 : decode cX4_isWord 59 = .ok (.ireturn, 1) := dok_at gdX4_isWord_l44 9 rfl
theorem dX4_isWord_60 : decode cX4_isWord 60 = .ok (.iinc 2 1, 3) := dok_at gdX4_isWord_l44 10 rfl
theorem dX4_isWord_63 : decode cX4_isWord 63 = .ok (.goto (-35), 3) := dok_at gdX4_isWord_l44 11 rfl
theorem dX4_isWord_66 : decode cX4_isWord 66 = .ok (.iconst 1, 1) := dok_at gdX4_isWord_l44 12 rfl
theorem dX4_isWord_67 : decode cX4_isWord 67 = .ok (.ireturn, 1) := dok_at gdX4_isWord_l44 13 rfl
def dX4_isSign_l0 : List (Nat × Instr × Nat) := [(0, .aload_n 0, 1), (1, .getfield 60, 3), (4, .iconst 3, 1), (5, .if_icmp .ne 15, 3), (8, .aload_n 0, 1), (9, .getfield 91, 3), (12, .iload_n 1, 1), (13, .if_icmp .ne 7, 3), (16, .iconst 1, 1), (17, .goto 4, 3), (20, .iconst 0, 1), (21, .ireturn, 1)]
theorem gdX4_isSign_l0 : dok cX4_isSign dX4_isSign_l0 = true := by decide +kernel
theorem dX4_isSign_0 : decode cX4_isSign 0 = .ok (.aload_n 0, 1) := dok_at gdX4_isSign_l0 0 rfl
theorem dX4_isSign_1 : decode cX4_isSign 1 = .ok (.getfield 60, 3) := dok_at gdX4_isSign_l0 1 rfl
theorem dX4_isSign_4 : decode cX4_isSign 4 = .ok (.iconst 3, 1) := dok_at gdX4_isSign_l0 2 rfl
theorem dX4_isSign_5 : decode cX4_isSign 5 = .ok (.if_icmp .ne 15, 3) := dok_at gdX4_isSign_l0 3 rfl
theorem dX4_isSign_8 : decode cX4_isSign 8 = .ok (.aload_n 0, 1) := dok_at gdX4_isSign_l0 4 rfl
theorem dX4_isSign_9 : decode cX4_isSign 9 = .ok (.getfield 91, 3) := dok_at gdX4_isSign_l0 5 rfl
theorem dX4_isSign_12 : decode cX4_isSign 12 = .ok (.iload_n 1, 1) := dok_at gdX4_isSign_l0 6 rfl
theorem dX4_isSign_13 : decode cX4_isSign 13 = .ok (.if_icmp .ne 7, 3) := dok_at gdX4_isSign_l0 7 rfl
theorem dX4_isSign_16 : decode cX4_isSign 16 = .ok (.iconst 1, 1) := dok_at gdX4_isSign_l0 8 rfl
theorem dX4_isSign_17 : decode cX4_isSign 17 = .ok (.goto 4, 3) := dok_at gdX4_isSign_l0 9 rfl
theorem dX4_isSign_20 : decode cX4_isSign 20 = .ok (.iconst 0, 1) := dok_at gdX4_isSign_l0 10 rfl
theorem dX4_isSign_21 : decode cX4_isSign 21 = .ok (.ireturn, 1) := dok_at gdX4_isSign_l0 11 rfl
def dX4_railNamed_l0 : List (Nat × Instr × Nat) := [(0, .aload_n 0, 1), (1, .getfield 36, 3), (4, .aload_n 0, 1), (5, .getfield 88, 3), (8, .isub, 1), (9, .iconst 1, 1), (10, .if_icmp .eq 6, 3), (13, .bipush (-4), 2), (15, .ireturn, 1), (16, .aload_n 0, 1), (17, .getfield 9, 3), (20, .getfield 85, 3), (23, .aload_n 0, 1), (24, .getfield 88, 3), (27, .iaload, 1), (28, .bipush 97, 2), (30, .isub, 1), (31, .istore_n 1, 1), (32, .iload_n 1, 1), (33, .ifCond .lt 13, 3), (36, .iload_n 1, 1), (37, .bipush 8, 2), (39, .if_icmp .ge 7, 3), (42, .iload_n 1, 1)]
theorem gdX4_railNamed_l0 : dok cX4_railNamed dX4_railNamed_l0 = true := by decide +kernel
theorem dX4_railNamed_0 : decode cX4_railNamed 0 = .ok (.aload_n 0, 1) := dok_at gdX4_railNamed_l0 0 rfl
theorem dX4_railNamed_1 : decode cX4_railNamed 1 = .ok (.getfield 36, 3) := dok_at gdX4_railNamed_l0 1 rfl
theorem dX4_railNamed_4 : decode cX4_railNamed 4 = .ok (.aload_n 0, 1) := dok_at gdX4_railNamed_l0 2 rfl
theorem dX4_railNamed_5 : decode cX4_railNamed 5 = .ok (.getfield 88, 3) := dok_at gdX4_railNamed_l0 3 rfl
theorem dX4_railNamed_8 : decode cX4_railNamed 8 = .ok (.isub, 1) := dok_at gdX4_railNamed_l0 4 rfl
theorem dX4_railNamed_9 : decode cX4_railNamed 9 = .ok (.iconst 1, 1) := dok_at gdX4_railNamed_l0 5 rfl
theorem dX4_railNamed_10 : decode cX4_railNamed 10 = .ok (.if_icmp .eq 6, 3) := dok_at gdX4_railNamed_l0 6 rfl
theorem dX4_railNamed_13 : decode cX4_railNamed 13 = .ok (.bipush (-4), 2) := dok_at gdX4_railNamed_l0 7 rfl
theorem dX4_railNamed_15 : decode cX4_railNamed 15 = .ok (.ireturn, 1) := dok_at gdX4_railNamed_l0 8 rfl
theorem dX4_railNamed_16 : decode cX4_railNamed 16 = .ok (.aload_n 0, 1) := dok_at gdX4_railNamed_l0 9 rfl
theorem dX4_railNamed_17 : decode cX4_railNamed 17 = .ok (.getfield 9, 3) := dok_at gdX4_railNamed_l0 10 rfl
theorem dX4_railNamed_20 : decode cX4_railNamed 20 = .ok (.getfield 85, 3) := dok_at gdX4_railNamed_l0 11 rfl
theorem dX4_railNamed_23 : decode cX4_railNamed 23 = .ok (.aload_n 0, 1) := dok_at gdX4_railNamed_l0 12 rfl
theorem dX4_railNamed_24 : decode cX4_railNamed 24 = .ok (.getfield 88, 3) := dok_at gdX4_railNamed_l0 13 rfl
theorem dX4_railNamed_27 : decode cX4_railNamed 27 = .ok (.iaload, 1) := dok_at gdX4_railNamed_l0 14 rfl
theorem dX4_railNamed_28 : decode cX4_railNamed 28 = .ok (.bipush 97, 2) := dok_at gdX4_railNamed_l0 15 rfl
theorem dX4_railNamed_30 : decode cX4_railNamed 30 = .ok (.isub, 1) := dok_at gdX4_railNamed_l0 16 rfl
theorem dX4_railNamed_31 : decode cX4_railNamed 31 = .ok (.istore_n 1, 1) := dok_at gdX4_railNamed_l0 17 rfl
theorem dX4_railNamed_32 : decode cX4_railNamed 32 = .ok (.iload_n 1, 1) := dok_at gdX4_railNamed_l0 18 rfl
theorem dX4_railNamed_33 : decode cX4_railNamed 33 = .ok (.ifCond .lt 13, 3) := dok_at gdX4_railNamed_l0 19 rfl
theorem dX4_railNamed_36 : decode cX4_railNamed 36 = .ok (.iload_n 1, 1) := dok_at gdX4_railNamed_l0 20 rfl
theorem dX4_railNamed_37 : decode cX4_railNamed 37 = .ok (.bipush 8, 2) := dok_at gdX4_railNamed_l0 21 rfl
theorem dX4_railNamed_39 : decode cX4_railNamed 39 = .ok (.if_icmp .ge 7, 3) := dok_at gdX4_railNamed_l0 22 rfl
theorem dX4_railNamed_42 : decode cX4_railNamed 42 = .ok (.iload_n 1, 1) := dok_at gdX4_railNamed_l0 23 rfl
def dX4_railNamed_l43 : List (Nat × Instr × Nat) := [(43, .goto 5, 3), (46, .bipush (-4), 2), (48, .ireturn, 1)]
theorem gdX4_railNamed_l43 : dok cX4_railNamed dX4_railNamed_l43 = true := by decide +kernel
theorem dX4_railNamed_43 : decode cX4_railNamed 43 = .ok (.goto 5, 3) := dok_at gdX4_railNamed_l43 0 rfl
theorem dX4_railNamed_46 : decode cX4_railNamed 46 = .ok (.bipush (-4), 2) := dok_at gdX4_railNamed_l43 1 rfl
theorem dX4_railNamed_48 : decode cX4_railNamed 48 = .ok (.ireturn, 1) := dok_at gdX4_railNamed_l43 2 rfl
def dX4_takeSign_l0 : List (Nat × Instr × Nat) := [(0, .aload_n 0, 1), (1, .getfield 43, 3), (4, .ifCond .eq 4, 3), (7, .return_, 1), (8, .aload_n 0, 1), (9, .iload_n 1, 1), (10, .invokevirtual 113, 3), (13, .ifCond .eq 10, 3), (16, .aload_n 0, 1), (17, .invokevirtual 55, 3), (20, .goto 12, 3), (23, .aload_n 0, 1), (24, .iconst 2, 1), (25, .aload_n 0, 1), (26, .getfield 88, 3), (29, .invokevirtual 101, 3), (32, .return_, 1)]
theorem gdX4_takeSign_l0 : dok cX4_takeSign dX4_takeSign_l0 = true := by decide +kernel
theorem dX4_takeSign_0 : decode cX4_takeSign 0 = .ok (.aload_n 0, 1) := dok_at gdX4_takeSign_l0 0 rfl
theorem dX4_takeSign_1 : decode cX4_takeSign 1 = .ok (.getfield 43, 3) := dok_at gdX4_takeSign_l0 1 rfl
theorem dX4_takeSign_4 : decode cX4_takeSign 4 = .ok (.ifCond .eq 4, 3) := dok_at gdX4_takeSign_l0 2 rfl
theorem dX4_takeSign_7 : decode cX4_takeSign 7 = .ok (.return_, 1) := dok_at gdX4_takeSign_l0 3 rfl
theorem dX4_takeSign_8 : decode cX4_takeSign 8 = .ok (.aload_n 0, 1) := dok_at gdX4_takeSign_l0 4 rfl
theorem dX4_takeSign_9 : decode cX4_takeSign 9 = .ok (.iload_n 1, 1) := dok_at gdX4_takeSign_l0 5 rfl
theorem dX4_takeSign_10 : decode cX4_takeSign 10 = .ok (.invokevirtual 113, 3) := dok_at gdX4_takeSign_l0 6 rfl
theorem dX4_takeSign_13 : decode cX4_takeSign 13 = .ok (.ifCond .eq 10, 3) := dok_at gdX4_takeSign_l0 7 rfl
theorem dX4_takeSign_16 : decode cX4_takeSign 16 = .ok (.aload_n 0, 1) := dok_at gdX4_takeSign_l0 8 rfl
theorem dX4_takeSign_17 : decode cX4_takeSign 17 = .ok (.invokevirtual 55, 3) := dok_at gdX4_takeSign_l0 9 rfl
theorem dX4_takeSign_20 : decode cX4_takeSign 20 = .ok (.goto 12, 3) := dok_at gdX4_takeSign_l0 10 rfl
theorem dX4_takeSign_23 : decode cX4_takeSign 23 = .ok (.aload_n 0, 1) := dok_at gdX4_takeSign_l0 11 rfl
theorem dX4_takeSign_24 : decode cX4_takeSign 24 = .ok (.iconst 2, 1) := dok_at gdX4_takeSign_l0 12 rfl
theorem dX4_takeSign_25 : decode cX4_takeSign 25 = .ok (.aload_n 0, 1) := dok_at gdX4_takeSign_l0 13 rfl
theorem dX4_takeSign_26 : decode cX4_takeSign 26 = .ok (.getfield 88, 3) := dok_at gdX4_takeSign_l0 14 rfl
theorem dX4_takeSign_29 : decode cX4_takeSign 29 = .ok (.invokevirtual 101, 3) := dok_at gdX4_takeSign_l0 15 rfl
theorem dX4_takeSign_32 : decode cX4_takeSign 32 = .ok (.return_, 1) := dok_at gdX4_takeSign_l0 16 rfl
def dX4_takeNumber_l0 : List (Nat × Instr × Nat) := [(0, .aload_n 0, 1), (1, .getfield 43, 3), (4, .ifCond .eq 5, 3), (7, .iload_n 1, 1), (8, .ireturn, 1), (9, .aload_n 0, 1), (10, .getfield 60, 3), (13, .iconst 2, 1), (14, .if_icmp .eq 14, 3), (17, .aload_n 0, 1), (18, .iconst 2, 1), (19, .aload_n 0, 1), (20, .getfield 88, 3), (23, .invokevirtual 101, 3), (26, .iload_n 1, 1), (27, .ireturn, 1), (28, .aload_n 0, 1), (29, .getfield 91, 3), (32, .iload_n 1, 1), (33, .if_icmp .lt 11, 3), (36, .aload_n 0, 1), (37, .getfield 91, 3), (40, .iload_n 2, 1), (41, .if_icmp .le 14, 3)]
theorem gdX4_takeNumber_l0 : dok cX4_takeNumber dX4_takeNumber_l0 = true := by decide +kernel
theorem dX4_takeNumber_0 : decode cX4_takeNumber 0 = .ok (.aload_n 0, 1) := dok_at gdX4_takeNumber_l0 0 rfl
theorem dX4_takeNumber_1 : decode cX4_takeNumber 1 = .ok (.getfield 43, 3) := dok_at gdX4_takeNumber_l0 1 rfl
theorem dX4_takeNumber_4 : decode cX4_takeNumber 4 = .ok (.ifCond .eq 5, 3) := dok_at gdX4_takeNumber_l0 2 rfl
theorem dX4_takeNumber_7 : decode cX4_takeNumber 7 = .ok (.iload_n 1, 1) := dok_at gdX4_takeNumber_l0 3 rfl
theorem dX4_takeNumber_8 : decode cX4_takeNumber 8 = .ok (.ireturn, 1) := dok_at gdX4_takeNumber_l0 4 rfl
theorem dX4_takeNumber_9 : decode cX4_takeNumber 9 = .ok (.aload_n 0, 1) := dok_at gdX4_takeNumber_l0 5 rfl
theorem dX4_takeNumber_10 : decode cX4_takeNumber 10 = .ok (.getfield 60, 3) := dok_at gdX4_takeNumber_l0 6 rfl
theorem dX4_takeNumber_13 : decode cX4_takeNumber 13 = .ok (.iconst 2, 1) := dok_at gdX4_takeNumber_l0 7 rfl
theorem dX4_takeNumber_14 : decode cX4_takeNumber 14 = .ok (.if_icmp .eq 14, 3) := dok_at gdX4_takeNumber_l0 8 rfl
theorem dX4_takeNumber_17 : decode cX4_takeNumber 17 = .ok (.aload_n 0, 1) := dok_at gdX4_takeNumber_l0 9 rfl
theorem dX4_takeNumber_18 : decode cX4_takeNumber 18 = .ok (.iconst 2, 1) := dok_at gdX4_takeNumber_l0 10 rfl
theorem dX4_takeNumber_19 : decode cX4_takeNumber 19 = .ok (.aload_n 0, 1) := dok_at gdX4_takeNumber_l0 11 rfl
theorem dX4_takeNumber_20 : decode cX4_takeNumber 20 = .ok (.getfield 88, 3) := dok_at gdX4_takeNumber_l0 12 rfl
theorem dX4_takeNumber_23 : decode cX4_takeNumber 23 = .ok (.invokevirtual 101, 3) := dok_at gdX4_takeNumber_l0 13 rfl
theorem dX4_takeNumber_26 : decode cX4_takeNumber 26 = .ok (.iload_n 1, 1) := dok_at gdX4_takeNumber_l0 14 rfl
theorem dX4_takeNumber_27 : decode cX4_takeNumber 27 = .ok (.ireturn, 1) := dok_at gdX4_takeNumber_l0 15 rfl
theorem dX4_takeNumber_28 : decode cX4_takeNumber 28 = .ok (.aload_n 0, 1) := dok_at gdX4_takeNumber_l0 16 rfl
theorem dX4_takeNumber_29 : decode cX4_takeNumber 29 = .ok (.getfield 91, 3) := dok_at gdX4_takeNumber_l0 17 rfl
theorem dX4_takeNumber_32 : decode cX4_takeNumber 32 = .ok (.iload_n 1, 1) := dok_at gdX4_takeNumber_l0 18 rfl
theorem dX4_takeNumber_33 : decode cX4_takeNumber 33 = .ok (.if_icmp .lt 11, 3) := dok_at gdX4_takeNumber_l0 19 rfl
theorem dX4_takeNumber_36 : decode cX4_takeNumber 36 = .ok (.aload_n 0, 1) := dok_at gdX4_takeNumber_l0 20 rfl
theorem dX4_takeNumber_37 : decode cX4_takeNumber 37 = .ok (.getfield 91, 3) := dok_at gdX4_takeNumber_l0 21 rfl
theorem dX4_takeNumber_40 : decode cX4_takeNumber 40 = .ok (.iload_n 2, 1) := dok_at gdX4_takeNumber_l0 22 rfl
theorem dX4_takeNumber_41 : decode cX4_takeNumber 41 = .ok (.if_icmp .le 14, 3) := dok_at gdX4_takeNumber_l0 23 rfl
def dX4_takeNumber_l44 : List (Nat × Instr × Nat) := [(44, .aload_n 0, 1), (45, .iconst 3, 1), (46, .aload_n 0, 1), (47, .getfield 88, 3), (50, .invokevirtual 101, 3), (53, .iload_n 1, 1), (54, .ireturn, 1), (55, .aload_n 0, 1), (56, .getfield 91, 3), (59, .istore_n 3, 1), (60, .aload_n 0, 1), (61, .invokevirtual 55, 3), (64, .iload_n 3, 1), (65, .ireturn, 1)]
theorem gdX4_takeNumber_l44 : dok cX4_takeNumber dX4_takeNumber_l44 = true := by decide +kernel
theorem dX4_takeNumber_44 : decode cX4_takeNumber 44 = .ok (.aload_n 0, 1) := dok_at gdX4_takeNumber_l44 0 rfl
theorem dX4_takeNumber_45 : decode cX4_takeNumber 45 = .ok (.iconst 3, 1) := dok_at gdX4_takeNumber_l44 1 rfl
theorem dX4_takeNumber_46 : decode cX4_takeNumber 46 = .ok (.aload_n 0, 1) := dok_at gdX4_takeNumber_l44 2 rfl
theorem dX4_takeNumber_47 : decode cX4_takeNumber 47 = .ok (.getfield 88, 3) := dok_at gdX4_takeNumber_l44 3 rfl
theorem dX4_takeNumber_50 : decode cX4_takeNumber 50 = .ok (.invokevirtual 101, 3) := dok_at gdX4_takeNumber_l44 4 rfl
theorem dX4_takeNumber_53 : decode cX4_takeNumber 53 = .ok (.iload_n 1, 1) := dok_at gdX4_takeNumber_l44 5 rfl
theorem dX4_takeNumber_54 : decode cX4_takeNumber 54 = .ok (.ireturn, 1) := dok_at gdX4_takeNumber_l44 6 rfl
theorem dX4_takeNumber_55 : decode cX4_takeNumber 55 = .ok (.aload_n 0, 1) := dok_at gdX4_takeNumber_l44 7 rfl
theorem dX4_takeNumber_56 : decode cX4_takeNumber 56 = .ok (.getfield 91, 3) := dok_at gdX4_takeNumber_l44 8 rfl
theorem dX4_takeNumber_59 : decode cX4_takeNumber 59 = .ok (.istore_n 3, 1) := dok_at gdX4_takeNumber_l44 9 rfl
theorem dX4_takeNumber_60 : decode cX4_takeNumber 60 = .ok (.aload_n 0, 1) := dok_at gdX4_takeNumber_l44 10 rfl
theorem dX4_takeNumber_61 : decode cX4_takeNumber 61 = .ok (.invokevirtual 55, 3) := dok_at gdX4_takeNumber_l44 11 rfl
theorem dX4_takeNumber_64 : decode cX4_takeNumber 64 = .ok (.iload_n 3, 1) := dok_at gdX4_takeNumber_l44 12 rfl
theorem dX4_takeNumber_65 : decode cX4_takeNumber 65 = .ok (.ireturn, 1) := dok_at gdX4_takeNumber_l44 13 rfl
def dX4_takeOnce_l0 : List (Nat × Instr × Nat) := [(0, .aload_n 0, 1), (1, .getfield 40, 3), (4, .iload_n 1, 1), (5, .iand, 1), (6, .ifCond .eq 13, 3), (9, .aload_n 0, 1), (10, .iconst 4, 1), (11, .aload_n 0, 1), (12, .getfield 88, 3), (15, .invokevirtual 101, 3), (18, .return_, 1), (19, .aload_n 0, 1), (20, .dup, 1), (21, .getfield 40, 3), (24, .iload_n 1, 1), (25, .ior, 1), (26, .putfield 40, 3), (29, .aload_n 0, 1), (30, .invokevirtual 55, 3), (33, .return_, 1)]
theorem gdX4_takeOnce_l0 : dok cX4_takeOnce dX4_takeOnce_l0 = true := by decide +kernel
theorem dX4_takeOnce_0 : decode cX4_takeOnce 0 = .ok (.aload_n 0, 1) := dok_at gdX4_takeOnce_l0 0 rfl
theorem dX4_takeOnce_1 : decode cX4_takeOnce 1 = .ok (.getfield 40, 3) := dok_at gdX4_takeOnce_l0 1 rfl
theorem dX4_takeOnce_4 : decode cX4_takeOnce 4 = .ok (.iload_n 1, 1) := dok_at gdX4_takeOnce_l0 2 rfl
theorem dX4_takeOnce_5 : decode cX4_takeOnce 5 = .ok (.iand, 1) := dok_at gdX4_takeOnce_l0 3 rfl
theorem dX4_takeOnce_6 : decode cX4_takeOnce 6 = .ok (.ifCond .eq 13, 3) := dok_at gdX4_takeOnce_l0 4 rfl
theorem dX4_takeOnce_9 : decode cX4_takeOnce 9 = .ok (.aload_n 0, 1) := dok_at gdX4_takeOnce_l0 5 rfl
theorem dX4_takeOnce_10 : decode cX4_takeOnce 10 = .ok (.iconst 4, 1) := dok_at gdX4_takeOnce_l0 6 rfl
theorem dX4_takeOnce_11 : decode cX4_takeOnce 11 = .ok (.aload_n 0, 1) := dok_at gdX4_takeOnce_l0 7 rfl
theorem dX4_takeOnce_12 : decode cX4_takeOnce 12 = .ok (.getfield 88, 3) := dok_at gdX4_takeOnce_l0 8 rfl
theorem dX4_takeOnce_15 : decode cX4_takeOnce 15 = .ok (.invokevirtual 101, 3) := dok_at gdX4_takeOnce_l0 9 rfl
theorem dX4_takeOnce_18 : decode cX4_takeOnce 18 = .ok (.return_, 1) := dok_at gdX4_takeOnce_l0 10 rfl
theorem dX4_takeOnce_19 : decode cX4_takeOnce 19 = .ok (.aload_n 0, 1) := dok_at gdX4_takeOnce_l0 11 rfl
theorem dX4_takeOnce_20 : decode cX4_takeOnce 20 = .ok (.dup, 1) := dok_at gdX4_takeOnce_l0 12 rfl
theorem dX4_takeOnce_21 : decode cX4_takeOnce 21 = .ok (.getfield 40, 3) := dok_at gdX4_takeOnce_l0 13 rfl
theorem dX4_takeOnce_24 : decode cX4_takeOnce 24 = .ok (.iload_n 1, 1) := dok_at gdX4_takeOnce_l0 14 rfl
theorem dX4_takeOnce_25 : decode cX4_takeOnce 25 = .ok (.ior, 1) := dok_at gdX4_takeOnce_l0 15 rfl
theorem dX4_takeOnce_26 : decode cX4_takeOnce 26 = .ok (.putfield 40, 3) := dok_at gdX4_takeOnce_l0 16 rfl
theorem dX4_takeOnce_29 : decode cX4_takeOnce 29 = .ok (.aload_n 0, 1) := dok_at gdX4_takeOnce_l0 17 rfl
theorem dX4_takeOnce_30 : decode cX4_takeOnce 30 = .ok (.invokevirtual 55, 3) := dok_at gdX4_takeOnce_l0 18 rfl
theorem dX4_takeOnce_33 : decode cX4_takeOnce 33 = .ok (.return_, 1) := dok_at gdX4_takeOnce_l0 19 rfl
def dX4_takeTurn_l0 : List (Nat × Instr × Nat) := [(0, .aload_n 0, 1), (1, .getfield 43, 3), (4, .ifCond .eq 4, 3), (7, .return_, 1), (8, .aload_n 0, 1), (9, .getfield 60, 3), (12, .iconst 1, 1), (13, .if_icmp .eq 15, 3), (16, .aload_n 0, 1), (17, .iconst 2, 1), (18, .aload_n 0, 1), (19, .getfield 88, 3), (22, .invokevirtual 101, 3), (25, .goto 27, 3), (28, .aload_n 0, 1), (29, .invokevirtual 117, 3), (32, .iload_n 1, 1), (33, .if_icmp .eq 15, 3), (36, .aload_n 0, 1), (37, .iconst 3, 1), (38, .aload_n 0, 1), (39, .getfield 88, 3), (42, .invokevirtual 101, 3), (45, .goto 7, 3)]
theorem gdX4_takeTurn_l0 : dok cX4_takeTurn dX4_takeTurn_l0 = true := by decide +kernel
theorem dX4_takeTurn_0 : decode cX4_takeTurn 0 = .ok (.aload_n 0, 1) := dok_at gdX4_takeTurn_l0 0 rfl
theorem dX4_takeTurn_1 : decode cX4_takeTurn 1 = .ok (.getfield 43, 3) := dok_at gdX4_takeTurn_l0 1 rfl
theorem dX4_takeTurn_4 : decode cX4_takeTurn 4 = .ok (.ifCond .eq 4, 3) := dok_at gdX4_takeTurn_l0 2 rfl
theorem dX4_takeTurn_7 : decode cX4_takeTurn 7 = .ok (.return_, 1) := dok_at gdX4_takeTurn_l0 3 rfl
theorem dX4_takeTurn_8 : decode cX4_takeTurn 8 = .ok (.aload_n 0, 1) := dok_at gdX4_takeTurn_l0 4 rfl
theorem dX4_takeTurn_9 : decode cX4_takeTurn 9 = .ok (.getfield 60, 3) := dok_at gdX4_takeTurn_l0 5 rfl
theorem dX4_takeTurn_12 : decode cX4_takeTurn 12 = .ok (.iconst 1, 1) := dok_at gdX4_takeTurn_l0 6 rfl
theorem dX4_takeTurn_13 : decode cX4_takeTurn 13 = .ok (.if_icmp .eq 15, 3) := dok_at gdX4_takeTurn_l0 7 rfl
theorem dX4_takeTurn_16 : decode cX4_takeTurn 16 = .ok (.aload_n 0, 1) := dok_at gdX4_takeTurn_l0 8 rfl
theorem dX4_takeTurn_17 : decode cX4_takeTurn 17 = .ok (.iconst 2, 1) := dok_at gdX4_takeTurn_l0 9 rfl
theorem dX4_takeTurn_18 : decode cX4_takeTurn 18 = .ok (.aload_n 0, 1) := dok_at gdX4_takeTurn_l0 10 rfl
theorem dX4_takeTurn_19 : decode cX4_takeTurn 19 = .ok (.getfield 88, 3) := dok_at gdX4_takeTurn_l0 11 rfl
theorem dX4_takeTurn_22 : decode cX4_takeTurn 22 = .ok (.invokevirtual 101, 3) := dok_at gdX4_takeTurn_l0 12 rfl
theorem dX4_takeTurn_25 : decode cX4_takeTurn 25 = .ok (.goto 27, 3) := dok_at gdX4_takeTurn_l0 13 rfl
theorem dX4_takeTurn_28 : decode cX4_takeTurn 28 = .ok (.aload_n 0, 1) := dok_at gdX4_takeTurn_l0 14 rfl
theorem dX4_takeTurn_29 : decode cX4_takeTurn 29 = .ok (.invokevirtual 117, 3) := dok_at gdX4_takeTurn_l0 15 rfl
theorem dX4_takeTurn_32 : decode cX4_takeTurn 32 = .ok (.iload_n 1, 1) := dok_at gdX4_takeTurn_l0 16 rfl
theorem dX4_takeTurn_33 : decode cX4_takeTurn 33 = .ok (.if_icmp .eq 15, 3) := dok_at gdX4_takeTurn_l0 17 rfl
theorem dX4_takeTurn_36 : decode cX4_takeTurn 36 = .ok (.aload_n 0, 1) := dok_at gdX4_takeTurn_l0 18 rfl
theorem dX4_takeTurn_37 : decode cX4_takeTurn 37 = .ok (.iconst 3, 1) := dok_at gdX4_takeTurn_l0 19 rfl
theorem dX4_takeTurn_38 : decode cX4_takeTurn 38 = .ok (.aload_n 0, 1) := dok_at gdX4_takeTurn_l0 20 rfl
theorem dX4_takeTurn_39 : decode cX4_takeTurn 39 = .ok (.getfield 88, 3) := dok_at gdX4_takeTurn_l0 21 rfl
theorem dX4_takeTurn_42 : decode cX4_takeTurn 42 = .ok (.invokevirtual 101, 3) := dok_at gdX4_takeTurn_l0 22 rfl
theorem dX4_takeTurn_45 : decode cX4_takeTurn 45 = .ok (.goto 7, 3) := dok_at gdX4_takeTurn_l0 23 rfl
def dX4_takeTurn_l48 : List (Nat × Instr × Nat) := [(48, .aload_n 0, 1), (49, .invokevirtual 55, 3), (52, .return_, 1)]
theorem gdX4_takeTurn_l48 : dok cX4_takeTurn dX4_takeTurn_l48 = true := by decide +kernel
theorem dX4_takeTurn_48 : decode cX4_takeTurn 48 = .ok (.aload_n 0, 1) := dok_at gdX4_takeTurn_l48 0 rfl
theorem dX4_takeTurn_49 : decode cX4_takeTurn 49 = .ok (.invokevirtual 55, 3) := dok_at gdX4_takeTurn_l48 1 rfl
theorem dX4_takeTurn_52 : decode cX4_takeTurn 52 = .ok (.return_, 1) := dok_at gdX4_takeTurn_l48 2 rfl
def dX4_readRule_l0 : List (Nat × Instr × Nat) := [(0, .aload_n 0, 1), (1, .ldc 120, 2), (3, .invokevirtual 65, 3), (6, .ifCond .eq 26, 3), (9, .aload_n 0, 1), (10, .iconst 1, 1), (11, .invokevirtual 122, 3), (14, .aload_n 0, 1), (15, .getfield 15, 3), (18, .aload_n 0, 1), (19, .iconst 1, 1), (20, .sipush 999, 3), (23, .invokevirtual 125, 3), (26, .putfield 129, 3), (29, .goto 57, 3), (32, .aload_n 0, 1), (33, .ldc 131, 2), (35, .invokevirtual 65, 3), (38, .ifCond .eq 39, 3), (41, .aload_n 0, 1), (42, .iconst 2, 1), (43, .invokevirtual 122, 3), (46, .aload_n 0, 1), (47, .getfield 15, 3)]
theorem gdX4_readRule_l0 : dok cX4_readRule dX4_readRule_l0 = true := by decide +kernel
theorem dX4_readRule_0 : decode cX4_readRule 0 = .ok (.aload_n 0, 1) := dok_at gdX4_readRule_l0 0 rfl
theorem dX4_readRule_1 : decode cX4_readRule 1 = .ok (.ldc 120, 2) := dok_at gdX4_readRule_l0 1 rfl
theorem dX4_readRule_3 : decode cX4_readRule 3 = .ok (.invokevirtual 65, 3) := dok_at gdX4_readRule_l0 2 rfl
theorem dX4_readRule_6 : decode cX4_readRule 6 = .ok (.ifCond .eq 26, 3) := dok_at gdX4_readRule_l0 3 rfl
theorem dX4_readRule_9 : decode cX4_readRule 9 = .ok (.aload_n 0, 1) := dok_at gdX4_readRule_l0 4 rfl
theorem dX4_readRule_10 : decode cX4_readRule 10 = .ok (.iconst 1, 1) := dok_at gdX4_readRule_l0 5 rfl
theorem dX4_readRule_11 : decode cX4_readRule 11 = .ok (.invokevirtual 122, 3) := dok_at gdX4_readRule_l0 6 rfl
theorem dX4_readRule_14 : decode cX4_readRule 14 = .ok (.aload_n 0, 1) := dok_at gdX4_readRule_l0 7 rfl
theorem dX4_readRule_15 : decode cX4_readRule 15 = .ok (.getfield 15, 3) := dok_at gdX4_readRule_l0 8 rfl
theorem dX4_readRule_18 : decode cX4_readRule 18 = .ok (.aload_n 0, 1) := dok_at gdX4_readRule_l0 9 rfl
theorem dX4_readRule_19 : decode cX4_readRule 19 = .ok (.iconst 1, 1) := dok_at gdX4_readRule_l0 10 rfl
theorem dX4_readRule_20 : decode cX4_readRule 20 = .ok (.sipush 999, 3) := dok_at gdX4_readRule_l0 11 rfl
theorem dX4_readRule_23 : decode cX4_readRule 23 = .ok (.invokevirtual 125, 3) := dok_at gdX4_readRule_l0 12 rfl
theorem dX4_readRule_26 : decode cX4_readRule 26 = .ok (.putfield 129, 3) := dok_at gdX4_readRule_l0 13 rfl
theorem dX4_readRule_29 : decode cX4_readRule 29 = .ok (.goto 57, 3) := dok_at gdX4_readRule_l0 14 rfl
theorem dX4_readRule_32 : decode cX4_readRule 32 = .ok (.aload_n 0, 1) := dok_at gdX4_readRule_l0 15 rfl
theorem dX4_readRule_33 : decode cX4_readRule 33 = .ok (.ldc 131, 2) := dok_at gdX4_readRule_l0 16 rfl
theorem dX4_readRule_35 : decode cX4_readRule 35 = .ok (.invokevirtual 65, 3) := dok_at gdX4_readRule_l0 17 rfl
theorem dX4_readRule_38 : decode cX4_readRule 38 = .ok (.ifCond .eq 39, 3) := dok_at gdX4_readRule_l0 18 rfl
theorem dX4_readRule_41 : decode cX4_readRule 41 = .ok (.aload_n 0, 1) := dok_at gdX4_readRule_l0 19 rfl
theorem dX4_readRule_42 : decode cX4_readRule 42 = .ok (.iconst 2, 1) := dok_at gdX4_readRule_l0 20 rfl
theorem dX4_readRule_43 : decode cX4_readRule 43 = .ok (.invokevirtual 122, 3) := dok_at gdX4_readRule_l0 21 rfl
theorem dX4_readRule_46 : decode cX4_readRule 46 = .ok (.aload_n 0, 1) := dok_at gdX4_readRule_l0 22 rfl
theorem dX4_readRule_47 : decode cX4_readRule 47 = .ok (.getfield 15, 3) := dok_at gdX4_readRule_l0 23 rfl
def dX4_readRule_l50 : List (Nat × Instr × Nat) := [(50, .aload_n 0, 1), (51, .iconst 0, 1), (52, .bipush 9, 2), (54, .invokevirtual 125, 3), (57, .putfield 133, 3), (60, .aload_n 0, 1), (61, .getfield 15, 3), (64, .aload_n 0, 1), (65, .iconst 1, 1), (66, .bipush 99, 2), (68, .invokevirtual 125, 3), (71, .putfield 135, 3), (74, .goto 12, 3), (77, .aload_n 0, 1), (78, .iconst 2, 1), (79, .aload_n 0, 1), (80, .getfield 88, 3), (83, .invokevirtual 101, 3), (86, .return_, 1)]
theorem gdX4_readRule_l50 : dok cX4_readRule dX4_readRule_l50 = true := by decide +kernel
theorem dX4_readRule_50 : decode cX4_readRule 50 = .ok (.aload_n 0, 1) := dok_at gdX4_readRule_l50 0 rfl
theorem dX4_readRule_51 : decode cX4_readRule 51 = .ok (.iconst 0, 1) := dok_at gdX4_readRule_l50 1 rfl
theorem dX4_readRule_52 : decode cX4_readRule 52 = .ok (.bipush 9, 2) := dok_at gdX4_readRule_l50 2 rfl
theorem dX4_readRule_54 : decode cX4_readRule 54 = .ok (.invokevirtual 125, 3) := dok_at gdX4_readRule_l50 3 rfl
theorem dX4_readRule_57 : decode cX4_readRule 57 = .ok (.putfield 133, 3) := dok_at gdX4_readRule_l50 4 rfl
theorem dX4_readRule_60 : decode cX4_readRule 60 = .ok (.aload_n 0, 1) := dok_at gdX4_readRule_l50 5 rfl
theorem dX4_readRule_61 : decode cX4_readRule 61 = .ok (.getfield 15, 3) := dok_at gdX4_readRule_l50 6 rfl
theorem dX4_readRule_64 : decode cX4_readRule 64 = .ok (.aload_n 0, 1) := dok_at gdX4_readRule_l50 7 rfl
theorem dX4_readRule_65 : decode cX4_readRule 65 = .ok (.iconst 1, 1) := dok_at gdX4_readRule_l50 8 rfl
theorem dX4_readRule_66 : decode cX4_readRule 66 = .ok (.bipush 99, 2) := dok_at gdX4_readRule_l50 9 rfl
theorem dX4_readRule_68 : decode cX4_readRule 68 = .ok (.invokevirtual 125, 3) := dok_at gdX4_readRule_l50 10 rfl
theorem dX4_readRule_71 : decode cX4_readRule 71 = .ok (.putfield 135, 3) := dok_at gdX4_readRule_l50 11 rfl
theorem dX4_readRule_74 : decode cX4_readRule 74 = .ok (.goto 12, 3) := dok_at gdX4_readRule_l50 12 rfl
theorem dX4_readRule_77 : decode cX4_readRule 77 = .ok (.aload_n 0, 1) := dok_at gdX4_readRule_l50 13 rfl
theorem dX4_readRule_78 : decode cX4_readRule 78 = .ok (.iconst 2, 1) := dok_at gdX4_readRule_l50 14 rfl
theorem dX4_readRule_79 : decode cX4_readRule 79 = .ok (.aload_n 0, 1) := dok_at gdX4_readRule_l50 15 rfl
theorem dX4_readRule_80 : decode cX4_readRule 80 = .ok (.getfield 88, 3) := dok_at gdX4_readRule_l50 16 rfl
theorem dX4_readRule_83 : decode cX4_readRule 83 = .ok (.invokevirtual 101, 3) := dok_at gdX4_readRule_l50 17 rfl
theorem dX4_readRule_86 : decode cX4_readRule 86 = .ok (.return_, 1) := dok_at gdX4_readRule_l50 18 rfl
def dX4_readRail_l0 : List (Nat × Instr × Nat) := [(0, .aload_n 0, 1), (1, .getfield 15, 3), (4, .getfield 138, 3), (7, .bipush 8, 2), (9, .if_icmp .lt 13, 3), (12, .aload_n 0, 1), (13, .iconst 5, 1), (14, .aload_n 0, 1), (15, .getfield 88, 3), (18, .invokevirtual 101, 3), (21, .return_, 1), (22, .aload_n 0, 1), (23, .getfield 15, 3), (26, .getfield 138, 3), (29, .istore_n 1, 1), (30, .aload_n 0, 1), (31, .getfield 15, 3), (34, .invokevirtual 141, 3), (37, .aload_n 0, 1), (38, .invokevirtual 55, 3), (41, .aload_n 0, 1), (42, .iload_n 1, 1), (43, .invokevirtual 144, 3), (46, .aload_n 0, 1)]
theorem gdX4_readRail_l0 : dok cX4_readRail dX4_readRail_l0 = true := by decide +kernel
theorem dX4_readRail_0 : decode cX4_readRail 0 = .ok (.aload_n 0, 1) := dok_at gdX4_readRail_l0 0 rfl
theorem dX4_readRail_1 : decode cX4_readRail 1 = .ok (.getfield 15, 3) := dok_at gdX4_readRail_l0 1 rfl
theorem dX4_readRail_4 : decode cX4_readRail 4 = .ok (.getfield 138, 3) := dok_at gdX4_readRail_l0 2 rfl
theorem dX4_readRail_7 : decode cX4_readRail 7 = .ok (.bipush 8, 2) := dok_at gdX4_readRail_l0 3 rfl
theorem dX4_readRail_9 : decode cX4_readRail 9 = .ok (.if_icmp .lt 13, 3) := dok_at gdX4_readRail_l0 4 rfl
theorem dX4_readRail_12 : decode cX4_readRail 12 = .ok (.aload_n 0, 1) := dok_at gdX4_readRail_l0 5 rfl
theorem dX4_readRail_13 : decode cX4_readRail 13 = .ok (.iconst 5, 1) := dok_at gdX4_readRail_l0 6 rfl
theorem dX4_readRail_14 : decode cX4_readRail 14 = .ok (.aload_n 0, 1) := dok_at gdX4_readRail_l0 7 rfl
theorem dX4_readRail_15 : decode cX4_readRail 15 = .ok (.getfield 88, 3) := dok_at gdX4_readRail_l0 8 rfl
theorem dX4_readRail_18 : decode cX4_readRail 18 = .ok (.invokevirtual 101, 3) := dok_at gdX4_readRail_l0 9 rfl
theorem dX4_readRail_21 : decode cX4_readRail 21 = .ok (.return_, 1) := dok_at gdX4_readRail_l0 10 rfl
theorem dX4_readRail_22 : decode cX4_readRail 22 = .ok (.aload_n 0, 1) := dok_at gdX4_readRail_l0 11 rfl
theorem dX4_readRail_23 : decode cX4_readRail 23 = .ok (.getfield 15, 3) := dok_at gdX4_readRail_l0 12 rfl
theorem dX4_readRail_26 : decode cX4_readRail 26 = .ok (.getfield 138, 3) := dok_at gdX4_readRail_l0 13 rfl
theorem dX4_readRail_29 : decode cX4_readRail 29 = .ok (.istore_n 1, 1) := dok_at gdX4_readRail_l0 14 rfl
theorem dX4_readRail_30 : decode cX4_readRail 30 = .ok (.aload_n 0, 1) := dok_at gdX4_readRail_l0 15 rfl
theorem dX4_readRail_31 : decode cX4_readRail 31 = .ok (.getfield 15, 3) := dok_at gdX4_readRail_l0 16 rfl
theorem dX4_readRail_34 : decode cX4_readRail 34 = .ok (.invokevirtual 141, 3) := dok_at gdX4_readRail_l0 17 rfl
theorem dX4_readRail_37 : decode cX4_readRail 37 = .ok (.aload_n 0, 1) := dok_at gdX4_readRail_l0 18 rfl
theorem dX4_readRail_38 : decode cX4_readRail 38 = .ok (.invokevirtual 55, 3) := dok_at gdX4_readRail_l0 19 rfl
theorem dX4_readRail_41 : decode cX4_readRail 41 = .ok (.aload_n 0, 1) := dok_at gdX4_readRail_l0 20 rfl
theorem dX4_readRail_42 : decode cX4_readRail 42 = .ok (.iload_n 1, 1) := dok_at gdX4_readRail_l0 21 rfl
theorem dX4_readRail_43 : decode cX4_readRail 43 = .ok (.invokevirtual 144, 3) := dok_at gdX4_readRail_l0 22 rfl
theorem dX4_readRail_46 : decode cX4_readRail 46 = .ok (.aload_n 0, 1) := dok_at gdX4_readRail_l0 23 rfl
def dX4_readRail_l47 : List (Nat × Instr × Nat) := [(47, .iconst 1, 1), (48, .bipush 9, 2), (50, .invokevirtual 125, 3), (53, .istore_n 2, 1), (54, .aload_n 0, 1), (55, .getfield 15, 3), (58, .iload_n 1, 1), (59, .iconst 0, 1), (60, .iload_n 2, 1), (61, .invokevirtual 147, 3), (64, .aload_n 0, 1), (65, .getfield 15, 3), (68, .iload_n 1, 1), (69, .iconst 1, 1), (70, .aload_n 0, 1), (71, .iload_n 2, 1), (72, .bipush 9, 2), (74, .invokevirtual 125, 3), (77, .invokevirtual 147, 3), (80, .aload_n 0, 1), (81, .dup, 1), (82, .getfield 40, 3), (85, .iconst 3, 1), (86, .iand, 1)]
theorem gdX4_readRail_l47 : dok cX4_readRail dX4_readRail_l47 = true := by decide +kernel
theorem dX4_readRail_47 : decode cX4_readRail 47 = .ok (.iconst 1, 1) := dok_at gdX4_readRail_l47 0 rfl
theorem dX4_readRail_48 : decode cX4_readRail 48 = .ok (.bipush 9, 2) := dok_at gdX4_readRail_l47 1 rfl
theorem dX4_readRail_50 : decode cX4_readRail 50 = .ok (.invokevirtual 125, 3) := dok_at gdX4_readRail_l47 2 rfl
theorem dX4_readRail_53 : decode cX4_readRail 53 = .ok (.istore_n 2, 1) := dok_at gdX4_readRail_l47 3 rfl
theorem dX4_readRail_54 : decode cX4_readRail 54 = .ok (.aload_n 0, 1) := dok_at gdX4_readRail_l47 4 rfl
theorem dX4_readRail_55 : decode cX4_readRail 55 = .ok (.getfield 15, 3) := dok_at gdX4_readRail_l47 5 rfl
theorem dX4_readRail_58 : decode cX4_readRail 58 = .ok (.iload_n 1, 1) := dok_at gdX4_readRail_l47 6 rfl
theorem dX4_readRail_59 : decode cX4_readRail 59 = .ok (.iconst 0, 1) := dok_at gdX4_readRail_l47 7 rfl
theorem dX4_readRail_60 : decode cX4_readRail 60 = .ok (.iload_n 2, 1) := dok_at gdX4_readRail_l47 8 rfl
theorem dX4_readRail_61 : decode cX4_readRail 61 = .ok (.invokevirtual 147, 3) := dok_at gdX4_readRail_l47 9 rfl
theorem dX4_readRail_64 : decode cX4_readRail 64 = .ok (.aload_n 0, 1) := dok_at gdX4_readRail_l47 10 rfl
theorem dX4_readRail_65 : decode cX4_readRail 65 = .ok (.getfield 15, 3) := dok_at gdX4_readRail_l47 11 rfl
theorem dX4_readRail_68 : decode cX4_readRail 68 = .ok (.iload_n 1, 1) := dok_at gdX4_readRail_l47 12 rfl
theorem dX4_readRail_69 : decode cX4_readRail 69 = .ok (.iconst 1, 1) := dok_at gdX4_readRail_l47 13 rfl
theorem dX4_readRail_70 : decode cX4_readRail 70 = .ok (.aload_n 0, 1) := dok_at gdX4_readRail_l47 14 rfl
theorem dX4_readRail_71 : decode cX4_readRail 71 = .ok (.iload_n 2, 1) := dok_at gdX4_readRail_l47 15 rfl
theorem dX4_readRail_72 : decode cX4_readRail 72 = .ok (.bipush 9, 2) := dok_at gdX4_readRail_l47 16 rfl
theorem dX4_readRail_74 : decode cX4_readRail 74 = .ok (.invokevirtual 125, 3) := dok_at gdX4_readRail_l47 17 rfl
theorem dX4_readRail_77 : decode cX4_readRail 77 = .ok (.invokevirtual 147, 3) := dok_at gdX4_readRail_l47 18 rfl
theorem dX4_readRail_80 : decode cX4_readRail 80 = .ok (.aload_n 0, 1) := dok_at gdX4_readRail_l47 19 rfl
theorem dX4_readRail_81 : decode cX4_readRail 81 = .ok (.dup, 1) := dok_at gdX4_readRail_l47 20 rfl
theorem dX4_readRail_82 : decode cX4_readRail 82 = .ok (.getfield 40, 3) := dok_at gdX4_readRail_l47 21 rfl
theorem dX4_readRail_85 : decode cX4_readRail 85 = .ok (.iconst 3, 1) := dok_at gdX4_readRail_l47 22 rfl
theorem dX4_readRail_86 : decode cX4_readRail 86 = .ok (.iand, 1) := dok_at gdX4_readRail_l47 23 rfl
def dX4_readRail_l87 : List (Nat × Instr × Nat) := [(87, .putfield 40, 3), (90, .iconst 0, 1), (91, .istore_n 3, 1), (92, .iload_n 3, 1), (93, .iconst 4, 1), (94, .if_icmp .gt 38, 3), (97, .aload_n 0, 1), (98, .getfield 43, 3), (101, .ifCond .ne 31, 3), (104, .aload_n 0, 1), (105, .getfield 60, 3), (108, .iconst 1, 1), (109, .if_icmp .ne 23, 3), (112, .aload_n 0, 1), (113, .ldc 151, 2), (115, .invokevirtual 65, 3), (118, .ifCond .ne 14, 3), (121, .aload_n 0, 1), (122, .iload_n 1, 1), (123, .invokevirtual 153, 3), (126, .iinc 3 1, 3), (129, .goto (-37), 3), (132, .aload_n 0, 1), (133, .getfield 43, 3)]
theorem gdX4_readRail_l87 : dok cX4_readRail dX4_readRail_l87 = true := by decide +kernel
theorem dX4_readRail_87 : decode cX4_readRail 87 = .ok (.putfield 40, 3) := dok_at gdX4_readRail_l87 0 rfl
theorem dX4_readRail_90 : decode cX4_readRail 90 = .ok (.iconst 0, 1) := dok_at gdX4_readRail_l87 1 rfl
theorem dX4_readRail_91 : decode cX4_readRail 91 = .ok (.istore_n 3, 1) := dok_at gdX4_readRail_l87 2 rfl
theorem dX4_readRail_92 : decode cX4_readRail 92 = .ok (.iload_n 3, 1) := dok_at gdX4_readRail_l87 3 rfl
theorem dX4_readRail_93 : decode cX4_readRail 93 = .ok (.iconst 4, 1) := dok_at gdX4_readRail_l87 4 rfl
theorem dX4_readRail_94 : decode cX4_readRail 94 = .ok (.if_icmp .gt 38, 3) := dok_at gdX4_readRail_l87 5 rfl
theorem dX4_readRail_97 : decode cX4_readRail 97 = .ok (.aload_n 0, 1) := dok_at gdX4_readRail_l87 6 rfl
theorem dX4_readRail_98 : decode cX4_readRail 98 = .ok (.getfield 43, 3) := dok_at gdX4_readRail_l87 7 rfl
theorem dX4_readRail_101 : decode cX4_readRail 101 = .ok (.ifCond .ne 31, 3) := dok_at gdX4_readRail_l87 8 rfl
theorem dX4_readRail_104 : decode cX4_readRail 104 = .ok (.aload_n 0, 1) := dok_at gdX4_readRail_l87 9 rfl
theorem dX4_readRail_105 : decode cX4_readRail 105 = .ok (.getfield 60, 3) := dok_at gdX4_readRail_l87 10 rfl
theorem dX4_readRail_108 : decode cX4_readRail 108 = .ok (.iconst 1, 1) := dok_at gdX4_readRail_l87 11 rfl
theorem dX4_readRail_109 : decode cX4_readRail 109 = .ok (.if_icmp .ne 23, 3) := dok_at gdX4_readRail_l87 12 rfl
theorem dX4_readRail_112 : decode cX4_readRail 112 = .ok (.aload_n 0, 1) := dok_at gdX4_readRail_l87 13 rfl
theorem dX4_readRail_113 : decode cX4_readRail 113 = .ok (.ldc 151, 2) := dok_at gdX4_readRail_l87 14 rfl
theorem dX4_readRail_115 : decode cX4_readRail 115 = .ok (.invokevirtual 65, 3) := dok_at gdX4_readRail_l87 15 rfl
theorem dX4_readRail_118 : decode cX4_readRail 118 = .ok (.ifCond .ne 14, 3) := dok_at gdX4_readRail_l87 16 rfl
theorem dX4_readRail_121 : decode cX4_readRail 121 = .ok (.aload_n 0, 1) := dok_at gdX4_readRail_l87 17 rfl
theorem dX4_readRail_122 : decode cX4_readRail 122 = .ok (.iload_n 1, 1) := dok_at gdX4_readRail_l87 18 rfl
theorem dX4_readRail_123 : decode cX4_readRail 123 = .ok (.invokevirtual 153, 3) := dok_at gdX4_readRail_l87 19 rfl
theorem dX4_readRail_126 : decode cX4_readRail 126 = .ok (.iinc 3 1, 3) := dok_at gdX4_readRail_l87 20 rfl
theorem dX4_readRail_129 : decode cX4_readRail 129 = .ok (.goto (-37), 3) := dok_at gdX4_readRail_l87 21 rfl
theorem dX4_readRail_132 : decode cX4_readRail 132 = .ok (.aload_n 0, 1) := dok_at gdX4_readRail_l87 22 rfl
theorem dX4_readRail_133 : decode cX4_readRail 133 = .ok (.getfield 43, 3) := dok_at gdX4_readRail_l87 23 rfl
def dX4_readRail_l136 : List (Nat × Instr × Nat) := [(136, .ifCond .ne 32, 3), (139, .aload_n 0, 1), (140, .ldc 151, 2), (142, .invokevirtual 65, 3), (145, .ifCond .eq 23, 3), (148, .aload_n 0, 1), (149, .invokevirtual 55, 3), (152, .aload_n 0, 1), (153, .getfield 15, 3), (156, .iload_n 1, 1), (157, .bipush 7, 2), (159, .iconst 0, 1), (160, .invokevirtual 147, 3), (163, .aload_n 0, 1), (164, .iload_n 1, 1), (165, .invokevirtual 156, 3), (168, .return_, 1)]
theorem gdX4_readRail_l136 : dok cX4_readRail dX4_readRail_l136 = true := by decide +kernel
theorem dX4_readRail_136 : decode cX4_readRail 136 = .ok (.ifCond .ne 32, 3) := dok_at gdX4_readRail_l136 0 rfl
theorem dX4_readRail_139 : decode cX4_readRail 139 = .ok (.aload_n 0, 1) := dok_at gdX4_readRail_l136 1 rfl
theorem dX4_readRail_140 : decode cX4_readRail 140 = .ok (.ldc 151, 2) := dok_at gdX4_readRail_l136 2 rfl
theorem dX4_readRail_142 : decode cX4_readRail 142 = .ok (.invokevirtual 65, 3) := dok_at gdX4_readRail_l136 3 rfl
theorem dX4_readRail_145 : decode cX4_readRail 145 = .ok (.ifCond .eq 23, 3) := dok_at gdX4_readRail_l136 4 rfl
theorem dX4_readRail_148 : decode cX4_readRail 148 = .ok (.aload_n 0, 1) := dok_at gdX4_readRail_l136 5 rfl
theorem dX4_readRail_149 : decode cX4_readRail 149 = .ok (.invokevirtual 55, 3) := dok_at gdX4_readRail_l136 6 rfl
theorem dX4_readRail_152 : decode cX4_readRail 152 = .ok (.aload_n 0, 1) := dok_at gdX4_readRail_l136 7 rfl
theorem dX4_readRail_153 : decode cX4_readRail 153 = .ok (.getfield 15, 3) := dok_at gdX4_readRail_l136 8 rfl
theorem dX4_readRail_156 : decode cX4_readRail 156 = .ok (.iload_n 1, 1) := dok_at gdX4_readRail_l136 9 rfl
theorem dX4_readRail_157 : decode cX4_readRail 157 = .ok (.bipush 7, 2) := dok_at gdX4_readRail_l136 10 rfl
theorem dX4_readRail_159 : decode cX4_readRail 159 = .ok (.iconst 0, 1) := dok_at gdX4_readRail_l136 11 rfl
theorem dX4_readRail_160 : decode cX4_readRail 160 = .ok (.invokevirtual 147, 3) := dok_at gdX4_readRail_l136 12 rfl
theorem dX4_readRail_163 : decode cX4_readRail 163 = .ok (.aload_n 0, 1) := dok_at gdX4_readRail_l136 13 rfl
theorem dX4_readRail_164 : decode cX4_readRail 164 = .ok (.iload_n 1, 1) := dok_at gdX4_readRail_l136 14 rfl
theorem dX4_readRail_165 : decode cX4_readRail 165 = .ok (.invokevirtual 156, 3) := dok_at gdX4_readRail_l136 15 rfl
theorem dX4_readRail_168 : decode cX4_readRail 168 = .ok (.return_, 1) := dok_at gdX4_readRail_l136 16 rfl
def dX4_readWith_l0 : List (Nat × Instr × Nat) := [(0, .aload_n 0, 1), (1, .ldc 159, 2), (3, .invokevirtual 65, 3), (6, .ifCond .eq 27, 3), (9, .aload_n 0, 1), (10, .iconst 4, 1), (11, .invokevirtual 122, 3), (14, .aload_n 0, 1), (15, .getfield 15, 3), (18, .iload_n 1, 1), (19, .iconst 2, 1), (20, .aload_n 0, 1), (21, .iconst 0, 1), (22, .bipush 9, 2), (24, .invokevirtual 125, 3), (27, .invokevirtual 147, 3), (30, .goto 131, 3), (33, .aload_n 0, 1), (34, .ldc 161, 2), (36, .invokevirtual 65, 3), (39, .ifCond .eq 44, 3), (42, .aload_n 0, 1), (43, .bipush 8, 2), (45, .invokevirtual 122, 3)]
theorem gdX4_readWith_l0 : dok cX4_readWith dX4_readWith_l0 = true := by decide +kernel
theorem dX4_readWith_0 : decode cX4_readWith 0 = .ok (.aload_n 0, 1) := dok_at gdX4_readWith_l0 0 rfl
theorem dX4_readWith_1 : decode cX4_readWith 1 = .ok (.ldc 159, 2) := dok_at gdX4_readWith_l0 1 rfl
theorem dX4_readWith_3 : decode cX4_readWith 3 = .ok (.invokevirtual 65, 3) := dok_at gdX4_readWith_l0 2 rfl
theorem dX4_readWith_6 : decode cX4_readWith 6 = .ok (.ifCond .eq 27, 3) := dok_at gdX4_readWith_l0 3 rfl
theorem dX4_readWith_9 : decode cX4_readWith 9 = .ok (.aload_n 0, 1) := dok_at gdX4_readWith_l0 4 rfl
theorem dX4_readWith_10 : decode cX4_readWith 10 = .ok (.iconst 4, 1) := dok_at gdX4_readWith_l0 5 rfl
theorem dX4_readWith_11 : decode cX4_readWith 11 = .ok (.invokevirtual 122, 3) := dok_at gdX4_readWith_l0 6 rfl
theorem dX4_readWith_14 : decode cX4_readWith 14 = .ok (.aload_n 0, 1) := dok_at gdX4_readWith_l0 7 rfl
theorem dX4_readWith_15 : decode cX4_readWith 15 = .ok (.getfield 15, 3) := dok_at gdX4_readWith_l0 8 rfl
theorem dX4_readWith_18 : decode cX4_readWith 18 = .ok (.iload_n 1, 1) := dok_at gdX4_readWith_l0 9 rfl
theorem dX4_readWith_19 : decode cX4_readWith 19 = .ok (.iconst 2, 1) := dok_at gdX4_readWith_l0 10 rfl
theorem dX4_readWith_20 : decode cX4_readWith 20 = .ok (.aload_n 0, 1) := dok_at gdX4_readWith_l0 11 rfl
theorem dX4_readWith_21 : decode cX4_readWith 21 = .ok (.iconst 0, 1) := dok_at gdX4_readWith_l0 12 rfl
theorem dX4_readWith_22 : decode cX4_readWith 22 = .ok (.bipush 9, 2) := dok_at gdX4_readWith_l0 13 rfl
theorem dX4_readWith_24 : decode cX4_readWith 24 = .ok (.invokevirtual 125, 3) := dok_at gdX4_readWith_l0 14 rfl
theorem dX4_readWith_27 : decode cX4_readWith 27 = .ok (.invokevirtual 147, 3) := dok_at gdX4_readWith_l0 15 rfl
theorem dX4_readWith_30 : decode cX4_readWith 30 = .ok (.goto 131, 3) := dok_at gdX4_readWith_l0 16 rfl
theorem dX4_readWith_33 : decode cX4_readWith 33 = .ok (.aload_n 0, 1) := dok_at gdX4_readWith_l0 17 rfl
theorem dX4_readWith_34 : decode cX4_readWith 34 = .ok (.ldc 161, 2) := dok_at gdX4_readWith_l0 18 rfl
theorem dX4_readWith_36 : decode cX4_readWith 36 = .ok (.invokevirtual 65, 3) := dok_at gdX4_readWith_l0 19 rfl
theorem dX4_readWith_39 : decode cX4_readWith 39 = .ok (.ifCond .eq 44, 3) := dok_at gdX4_readWith_l0 20 rfl
theorem dX4_readWith_42 : decode cX4_readWith 42 = .ok (.aload_n 0, 1) := dok_at gdX4_readWith_l0 21 rfl
theorem dX4_readWith_43 : decode cX4_readWith 43 = .ok (.bipush 8, 2) := dok_at gdX4_readWith_l0 22 rfl
theorem dX4_readWith_45 : decode cX4_readWith 45 = .ok (.invokevirtual 122, 3) := dok_at gdX4_readWith_l0 23 rfl
def dX4_readWith_l48 : List (Nat × Instr × Nat) := [(48, .aload_n 0, 1), (49, .getfield 15, 3), (52, .iload_n 1, 1), (53, .iconst 3, 1), (54, .aload_n 0, 1), (55, .iconst 0, 1), (56, .bipush 99, 2), (58, .invokevirtual 125, 3), (61, .invokevirtual 147, 3), (64, .aload_n 0, 1), (65, .getfield 15, 3), (68, .iload_n 1, 1), (69, .iconst 4, 1), (70, .aload_n 0, 1), (71, .iconst 0, 1), (72, .bipush 99, 2), (74, .invokevirtual 125, 3), (77, .invokevirtual 147, 3), (80, .goto 81, 3), (83, .aload_n 0, 1), (84, .ldc 163, 2), (86, .invokevirtual 65, 3), (89, .ifCond .eq 28, 3), (92, .aload_n 0, 1)]
theorem gdX4_readWith_l48 : dok cX4_readWith dX4_readWith_l48 = true := by decide +kernel
theorem dX4_readWith_48 : decode cX4_readWith 48 = .ok (.aload_n 0, 1) := dok_at gdX4_readWith_l48 0 rfl
theorem dX4_readWith_49 : decode cX4_readWith 49 = .ok (.getfield 15, 3) := dok_at gdX4_readWith_l48 1 rfl
theorem dX4_readWith_52 : decode cX4_readWith 52 = .ok (.iload_n 1, 1) := dok_at gdX4_readWith_l48 2 rfl
theorem dX4_readWith_53 : decode cX4_readWith 53 = .ok (.iconst 3, 1) := dok_at gdX4_readWith_l48 3 rfl
theorem dX4_readWith_54 : decode cX4_readWith 54 = .ok (.aload_n 0, 1) := dok_at gdX4_readWith_l48 4 rfl
theorem dX4_readWith_55 : decode cX4_readWith 55 = .ok (.iconst 0, 1) := dok_at gdX4_readWith_l48 5 rfl
theorem dX4_readWith_56 : decode cX4_readWith 56 = .ok (.bipush 99, 2) := dok_at gdX4_readWith_l48 6 rfl
theorem dX4_readWith_58 : decode cX4_readWith 58 = .ok (.invokevirtual 125, 3) := dok_at gdX4_readWith_l48 7 rfl
theorem dX4_readWith_61 : decode cX4_readWith 61 = .ok (.invokevirtual 147, 3) := dok_at gdX4_readWith_l48 8 rfl
theorem dX4_readWith_64 : decode cX4_readWith 64 = .ok (.aload_n 0, 1) := dok_at gdX4_readWith_l48 9 rfl
theorem dX4_readWith_65 : decode cX4_readWith 65 = .ok (.getfield 15, 3) := dok_at gdX4_readWith_l48 10 rfl
theorem dX4_readWith_68 : decode cX4_readWith 68 = .ok (.iload_n 1, 1) := dok_at gdX4_readWith_l48 11 rfl
theorem dX4_readWith_69 : decode cX4_readWith 69 = .ok (.iconst 4, 1) := dok_at gdX4_readWith_l48 12 rfl
theorem dX4_readWith_70 : decode cX4_readWith 70 = .ok (.aload_n 0, 1) := dok_at gdX4_readWith_l48 13 rfl
theorem dX4_readWith_71 : decode cX4_readWith 71 = .ok (.iconst 0, 1) := dok_at gdX4_readWith_l48 14 rfl
theorem dX4_readWith_72 : decode cX4_readWith 72 = .ok (.bipush 99, 2) := dok_at gdX4_readWith_l48 15 rfl
theorem dX4_readWith_74 : decode cX4_readWith 74 = .ok (.invokevirtual 125, 3) := dok_at gdX4_readWith_l48 16 rfl
theorem dX4_readWith_77 : decode cX4_readWith 77 = .ok (.invokevirtual 147, 3) := dok_at gdX4_readWith_l48 17 rfl
theorem dX4_readWith_80 : decode cX4_readWith 80 = .ok (.goto 81, 3) := dok_at gdX4_readWith_l48 18 rfl
theorem dX4_readWith_83 : decode cX4_readWith 83 = .ok (.aload_n 0, 1) := dok_at gdX4_readWith_l48 19 rfl
theorem dX4_readWith_84 : decode cX4_readWith 84 = .ok (.ldc 163, 2) := dok_at gdX4_readWith_l48 20 rfl
theorem dX4_readWith_86 : decode cX4_readWith 86 = .ok (.invokevirtual 65, 3) := dok_at gdX4_readWith_l48 21 rfl
theorem dX4_readWith_89 : decode cX4_readWith 89 = .ok (.ifCond .eq 28, 3) := dok_at gdX4_readWith_l48 22 rfl
theorem dX4_readWith_92 : decode cX4_readWith 92 = .ok (.aload_n 0, 1) := dok_at gdX4_readWith_l48 23 rfl
def dX4_readWith_l93 : List (Nat × Instr × Nat) := [(93, .bipush 16, 2), (95, .invokevirtual 122, 3), (98, .aload_n 0, 1), (99, .getfield 15, 3), (102, .iload_n 1, 1), (103, .iconst 5, 1), (104, .aload_n 0, 1), (105, .iconst 0, 1), (106, .bipush 9, 2), (108, .invokevirtual 125, 3), (111, .invokevirtual 147, 3), (114, .goto 47, 3), (117, .aload_n 0, 1), (118, .ldc 165, 2), (120, .invokevirtual 65, 3), (123, .ifCond .eq 29, 3), (126, .aload_n 0, 1), (127, .bipush 32, 2), (129, .invokevirtual 122, 3), (132, .aload_n 0, 1), (133, .getfield 15, 3), (136, .iload_n 1, 1), (137, .bipush 6, 2), (139, .aload_n 0, 1)]
theorem gdX4_readWith_l93 : dok cX4_readWith dX4_readWith_l93 = true := by decide +kernel
theorem dX4_readWith_93 : decode cX4_readWith 93 = .ok (.bipush 16, 2) := dok_at gdX4_readWith_l93 0 rfl
theorem dX4_readWith_95 : decode cX4_readWith 95 = .ok (.invokevirtual 122, 3) := dok_at gdX4_readWith_l93 1 rfl
theorem dX4_readWith_98 : decode cX4_readWith 98 = .ok (.aload_n 0, 1) := dok_at gdX4_readWith_l93 2 rfl
theorem dX4_readWith_99 : decode cX4_readWith 99 = .ok (.getfield 15, 3) := dok_at gdX4_readWith_l93 3 rfl
theorem dX4_readWith_102 : decode cX4_readWith 102 = .ok (.iload_n 1, 1) := dok_at gdX4_readWith_l93 4 rfl
theorem dX4_readWith_103 : decode cX4_readWith 103 = .ok (.iconst 5, 1) := dok_at gdX4_readWith_l93 5 rfl
theorem dX4_readWith_104 : decode cX4_readWith 104 = .ok (.aload_n 0, 1) := dok_at gdX4_readWith_l93 6 rfl
theorem dX4_readWith_105 : decode cX4_readWith 105 = .ok (.iconst 0, 1) := dok_at gdX4_readWith_l93 7 rfl
theorem dX4_readWith_106 : decode cX4_readWith 106 = .ok (.bipush 9, 2) := dok_at gdX4_readWith_l93 8 rfl
theorem dX4_readWith_108 : decode cX4_readWith 108 = .ok (.invokevirtual 125, 3) := dok_at gdX4_readWith_l93 9 rfl
theorem dX4_readWith_111 : decode cX4_readWith 111 = .ok (.invokevirtual 147, 3) := dok_at gdX4_readWith_l93 10 rfl
theorem dX4_readWith_114 : decode cX4_readWith 114 = .ok (.goto 47, 3) := dok_at gdX4_readWith_l93 11 rfl
theorem dX4_readWith_117 : decode cX4_readWith 117 = .ok (.aload_n 0, 1) := dok_at gdX4_readWith_l93 12 rfl
theorem dX4_readWith_118 : decode cX4_readWith 118 = .ok (.ldc 165, 2) := dok_at gdX4_readWith_l93 13 rfl
theorem dX4_readWith_120 : decode cX4_readWith 120 = .ok (.invokevirtual 65, 3) := dok_at gdX4_readWith_l93 14 rfl
theorem dX4_readWith_123 : decode cX4_readWith 123 = .ok (.ifCond .eq 29, 3) := dok_at gdX4_readWith_l93 15 rfl
theorem dX4_readWith_126 : decode cX4_readWith 126 = .ok (.aload_n 0, 1) := dok_at gdX4_readWith_l93 16 rfl
theorem dX4_readWith_127 : decode cX4_readWith 127 = .ok (.bipush 32, 2) := dok_at gdX4_readWith_l93 17 rfl
theorem dX4_readWith_129 : decode cX4_readWith 129 = .ok (.invokevirtual 122, 3) := dok_at gdX4_readWith_l93 18 rfl
theorem dX4_readWith_132 : decode cX4_readWith 132 = .ok (.aload_n 0, 1) := dok_at gdX4_readWith_l93 19 rfl
theorem dX4_readWith_133 : decode cX4_readWith 133 = .ok (.getfield 15, 3) := dok_at gdX4_readWith_l93 20 rfl
theorem dX4_readWith_136 : decode cX4_readWith 136 = .ok (.iload_n 1, 1) := dok_at gdX4_readWith_l93 21 rfl
theorem dX4_readWith_137 : decode cX4_readWith 137 = .ok (.bipush 6, 2) := dok_at gdX4_readWith_l93 22 rfl
theorem dX4_readWith_139 : decode cX4_readWith 139 = .ok (.aload_n 0, 1) := dok_at gdX4_readWith_l93 23 rfl
def dX4_readWith_l140 : List (Nat × Instr × Nat) := [(140, .iconst 1, 1), (141, .bipush 99, 2), (143, .invokevirtual 125, 3), (146, .invokevirtual 147, 3), (149, .goto 12, 3), (152, .aload_n 0, 1), (153, .iconst 2, 1), (154, .aload_n 0, 1), (155, .getfield 88, 3), (158, .invokevirtual 101, 3), (161, .return_, 1)]
theorem gdX4_readWith_l140 : dok cX4_readWith dX4_readWith_l140 = true := by decide +kernel
theorem dX4_readWith_140 : decode cX4_readWith 140 = .ok (.iconst 1, 1) := dok_at gdX4_readWith_l140 0 rfl
theorem dX4_readWith_141 : decode cX4_readWith 141 = .ok (.bipush 99, 2) := dok_at gdX4_readWith_l140 1 rfl
theorem dX4_readWith_143 : decode cX4_readWith 143 = .ok (.invokevirtual 125, 3) := dok_at gdX4_readWith_l140 2 rfl
theorem dX4_readWith_146 : decode cX4_readWith 146 = .ok (.invokevirtual 147, 3) := dok_at gdX4_readWith_l140 3 rfl
theorem dX4_readWith_149 : decode cX4_readWith 149 = .ok (.goto 12, 3) := dok_at gdX4_readWith_l140 4 rfl
theorem dX4_readWith_152 : decode cX4_readWith 152 = .ok (.aload_n 0, 1) := dok_at gdX4_readWith_l140 5 rfl
theorem dX4_readWith_153 : decode cX4_readWith 153 = .ok (.iconst 2, 1) := dok_at gdX4_readWith_l140 6 rfl
theorem dX4_readWith_154 : decode cX4_readWith 154 = .ok (.aload_n 0, 1) := dok_at gdX4_readWith_l140 7 rfl
theorem dX4_readWith_155 : decode cX4_readWith 155 = .ok (.getfield 88, 3) := dok_at gdX4_readWith_l140 8 rfl
theorem dX4_readWith_158 : decode cX4_readWith 158 = .ok (.invokevirtual 101, 3) := dok_at gdX4_readWith_l140 9 rfl
theorem dX4_readWith_161 : decode cX4_readWith 161 = .ok (.return_, 1) := dok_at gdX4_readWith_l140 10 rfl
def dX4_readFormula_l0 : List (Nat × Instr × Nat) := [(0, .aload_n 0, 1), (1, .iconst 0, 1), (2, .invokevirtual 167, 3), (5, .iconst 1, 1), (6, .istore_n 2, 1), (7, .iconst 1, 1), (8, .istore_n 3, 1), (9, .iconst 0, 1), (10, .istore 4, 2), (12, .iload 4, 2), (14, .sipush 400, 3), (17, .if_icmp .gt 102, 3), (20, .aload_n 0, 1), (21, .getfield 43, 3), (24, .ifCond .ne 95, 3), (27, .iload_n 3, 1), (28, .ifCond .eq 91, 3), (31, .iload_n 2, 1), (32, .ifCond .eq 12, 3), (35, .aload_n 0, 1), (36, .iload_n 1, 1), (37, .invokevirtual 170, 3), (40, .istore_n 2, 1), (41, .goto 72, 3)]
theorem gdX4_readFormula_l0 : dok cX4_readFormula dX4_readFormula_l0 = true := by decide +kernel
theorem dX4_readFormula_0 : decode cX4_readFormula 0 = .ok (.aload_n 0, 1) := dok_at gdX4_readFormula_l0 0 rfl
theorem dX4_readFormula_1 : decode cX4_readFormula 1 = .ok (.iconst 0, 1) := dok_at gdX4_readFormula_l0 1 rfl
theorem dX4_readFormula_2 : decode cX4_readFormula 2 = .ok (.invokevirtual 167, 3) := dok_at gdX4_readFormula_l0 2 rfl
theorem dX4_readFormula_5 : decode cX4_readFormula 5 = .ok (.iconst 1, 1) := dok_at gdX4_readFormula_l0 3 rfl
theorem dX4_readFormula_6 : decode cX4_readFormula 6 = .ok (.istore_n 2, 1) := dok_at gdX4_readFormula_l0 4 rfl
theorem dX4_readFormula_7 : decode cX4_readFormula 7 = .ok (.iconst 1, 1) := dok_at gdX4_readFormula_l0 5 rfl
theorem dX4_readFormula_8 : decode cX4_readFormula 8 = .ok (.istore_n 3, 1) := dok_at gdX4_readFormula_l0 6 rfl
theorem dX4_readFormula_9 : decode cX4_readFormula 9 = .ok (.iconst 0, 1) := dok_at gdX4_readFormula_l0 7 rfl
theorem dX4_readFormula_10 : decode cX4_readFormula 10 = .ok (.istore 4, 2) := dok_at gdX4_readFormula_l0 8 rfl
theorem dX4_readFormula_12 : decode cX4_readFormula 12 = .ok (.iload 4, 2) := dok_at gdX4_readFormula_l0 9 rfl
theorem dX4_readFormula_14 : decode cX4_readFormula 14 = .ok (.sipush 400, 3) := dok_at gdX4_readFormula_l0 10 rfl
theorem dX4_readFormula_17 : decode cX4_readFormula 17 = .ok (.if_icmp .gt 102, 3) := dok_at gdX4_readFormula_l0 11 rfl
theorem dX4_readFormula_20 : decode cX4_readFormula 20 = .ok (.aload_n 0, 1) := dok_at gdX4_readFormula_l0 12 rfl
theorem dX4_readFormula_21 : decode cX4_readFormula 21 = .ok (.getfield 43, 3) := dok_at gdX4_readFormula_l0 13 rfl
theorem dX4_readFormula_24 : decode cX4_readFormula 24 = .ok (.ifCond .ne 95, 3) := dok_at gdX4_readFormula_l0 14 rfl
theorem dX4_readFormula_27 : decode cX4_readFormula 27 = .ok (.iload_n 3, 1) := dok_at gdX4_readFormula_l0 15 rfl
theorem dX4_readFormula_28 : decode cX4_readFormula 28 = .ok (.ifCond .eq 91, 3) := dok_at gdX4_readFormula_l0 16 rfl
theorem dX4_readFormula_31 : decode cX4_readFormula 31 = .ok (.iload_n 2, 1) := dok_at gdX4_readFormula_l0 17 rfl
theorem dX4_readFormula_32 : decode cX4_readFormula 32 = .ok (.ifCond .eq 12, 3) := dok_at gdX4_readFormula_l0 18 rfl
theorem dX4_readFormula_35 : decode cX4_readFormula 35 = .ok (.aload_n 0, 1) := dok_at gdX4_readFormula_l0 19 rfl
theorem dX4_readFormula_36 : decode cX4_readFormula 36 = .ok (.iload_n 1, 1) := dok_at gdX4_readFormula_l0 20 rfl
theorem dX4_readFormula_37 : decode cX4_readFormula 37 = .ok (.invokevirtual 170, 3) := dok_at gdX4_readFormula_l0 21 rfl
theorem dX4_readFormula_40 : decode cX4_readFormula 40 = .ok (.istore_n 2, 1) := dok_at gdX4_readFormula_l0 22 rfl
theorem dX4_readFormula_41 : decode cX4_readFormula 41 = .ok (.goto 72, 3) := dok_at gdX4_readFormula_l0 23 rfl
def dX4_readFormula_l44 : List (Nat × Instr × Nat) := [(44, .aload_n 0, 1), (45, .bipush 38, 2), (47, .invokevirtual 113, 3), (50, .ifCond .eq 12, 3), (53, .iconst 1, 1), (54, .istore_n 2, 1), (55, .aload_n 0, 1), (56, .invokevirtual 55, 3), (59, .goto 54, 3), (62, .aload_n 0, 1), (63, .bipush 124, 2), (65, .invokevirtual 113, 3), (68, .ifCond .eq 16, 3), (71, .aload_n 0, 1), (72, .invokevirtual 173, 3), (75, .iconst 1, 1), (76, .istore_n 2, 1), (77, .aload_n 0, 1), (78, .invokevirtual 55, 3), (81, .goto 32, 3), (84, .aload_n 0, 1), (85, .bipush 41, 2), (87, .invokevirtual 113, 3), (90, .ifCond .eq 21, 3)]
theorem gdX4_readFormula_l44 : dok cX4_readFormula dX4_readFormula_l44 = true := by decide +kernel
theorem dX4_readFormula_44 : decode cX4_readFormula 44 = .ok (.aload_n 0, 1) := dok_at gdX4_readFormula_l44 0 rfl
theorem dX4_readFormula_45 : decode cX4_readFormula 45 = .ok (.bipush 38, 2) := dok_at gdX4_readFormula_l44 1 rfl
theorem dX4_readFormula_47 : decode cX4_readFormula 47 = .ok (.invokevirtual 113, 3) := dok_at gdX4_readFormula_l44 2 rfl
theorem dX4_readFormula_50 : decode cX4_readFormula 50 = .ok (.ifCond .eq 12, 3) := dok_at gdX4_readFormula_l44 3 rfl
theorem dX4_readFormula_53 : decode cX4_readFormula 53 = .ok (.iconst 1, 1) := dok_at gdX4_readFormula_l44 4 rfl
theorem dX4_readFormula_54 : decode cX4_readFormula 54 = .ok (.istore_n 2, 1) := dok_at gdX4_readFormula_l44 5 rfl
theorem dX4_readFormula_55 : decode cX4_readFormula 55 = .ok (.aload_n 0, 1) := dok_at gdX4_readFormula_l44 6 rfl
theorem dX4_readFormula_56 : decode cX4_readFormula 56 = .ok (.invokevirtual 55, 3) := dok_at gdX4_readFormula_l44 7 rfl
theorem dX4_readFormula_59 : decode cX4_readFormula 59 = .ok (.goto 54, 3) := dok_at gdX4_readFormula_l44 8 rfl
theorem dX4_readFormula_62 : decode cX4_readFormula 62 = .ok (.aload_n 0, 1) := dok_at gdX4_readFormula_l44 9 rfl
theorem dX4_readFormula_63 : decode cX4_readFormula 63 = .ok (.bipush 124, 2) := dok_at gdX4_readFormula_l44 10 rfl
theorem dX4_readFormula_65 : decode cX4_readFormula 65 = .ok (.invokevirtual 113, 3) := dok_at gdX4_readFormula_l44 11 rfl
theorem dX4_readFormula_68 : decode cX4_readFormula 68 = .ok (.ifCond .eq 16, 3) := dok_at gdX4_readFormula_l44 12 rfl
theorem dX4_readFormula_71 : decode cX4_readFormula 71 = .ok (.aload_n 0, 1) := dok_at gdX4_readFormula_l44 13 rfl
theorem dX4_readFormula_72 : decode cX4_readFormula 72 = .ok (.invokevirtual 173, 3) := dok_at gdX4_readFormula_l44 14 rfl
theorem dX4_readFormula_75 : decode cX4_readFormula 75 = .ok (.iconst 1, 1) := dok_at gdX4_readFormula_l44 15 rfl
theorem dX4_readFormula_76 : decode cX4_readFormula 76 = .ok (.istore_n 2, 1) := dok_at gdX4_readFormula_l44 16 rfl
theorem dX4_readFormula_77 : decode cX4_readFormula 77 = .ok (.aload_n 0, 1) := dok_at gdX4_readFormula_l44 17 rfl
theorem dX4_readFormula_78 : decode cX4_readFormula 78 = .ok (.invokevirtual 55, 3) := dok_at gdX4_readFormula_l44 18 rfl
theorem dX4_readFormula_81 : decode cX4_readFormula 81 = .ok (.goto 32, 3) := dok_at gdX4_readFormula_l44 19 rfl
theorem dX4_readFormula_84 : decode cX4_readFormula 84 = .ok (.aload_n 0, 1) := dok_at gdX4_readFormula_l44 20 rfl
theorem dX4_readFormula_85 : decode cX4_readFormula 85 = .ok (.bipush 41, 2) := dok_at gdX4_readFormula_l44 21 rfl
theorem dX4_readFormula_87 : decode cX4_readFormula 87 = .ok (.invokevirtual 113, 3) := dok_at gdX4_readFormula_l44 22 rfl
theorem dX4_readFormula_90 : decode cX4_readFormula 90 = .ok (.ifCond .eq 21, 3) := dok_at gdX4_readFormula_l44 23 rfl
def dX4_readFormula_l93 : List (Nat × Instr × Nat) := [(93, .aload_n 0, 1), (94, .getfield 176, 3), (97, .ifCond .le 14, 3), (100, .aload_n 0, 1), (101, .invokevirtual 179, 3), (104, .aload_n 0, 1), (105, .invokevirtual 55, 3), (108, .goto 5, 3), (111, .iconst 0, 1), (112, .istore_n 3, 1), (113, .iinc 4 1, 3), (116, .goto (-104), 3), (119, .aload_n 0, 1), (120, .getfield 43, 3), (123, .ifCond .ne 19, 3), (126, .aload_n 0, 1), (127, .getfield 176, 3), (130, .ifCond .le 12, 3), (133, .aload_n 0, 1), (134, .iconst 2, 1), (135, .aload_n 0, 1), (136, .getfield 88, 3), (139, .invokevirtual 101, 3), (142, .aload_n 0, 1)]
theorem gdX4_readFormula_l93 : dok cX4_readFormula dX4_readFormula_l93 = true := by decide +kernel
theorem dX4_readFormula_93 : decode cX4_readFormula 93 = .ok (.aload_n 0, 1) := dok_at gdX4_readFormula_l93 0 rfl
theorem dX4_readFormula_94 : decode cX4_readFormula 94 = .ok (.getfield 176, 3) := dok_at gdX4_readFormula_l93 1 rfl
theorem dX4_readFormula_97 : decode cX4_readFormula 97 = .ok (.ifCond .le 14, 3) := dok_at gdX4_readFormula_l93 2 rfl
theorem dX4_readFormula_100 : decode cX4_readFormula 100 = .ok (.aload_n 0, 1) := dok_at gdX4_readFormula_l93 3 rfl
theorem dX4_readFormula_101 : decode cX4_readFormula 101 = .ok (.invokevirtual 179, 3) := dok_at gdX4_readFormula_l93 4 rfl
theorem dX4_readFormula_104 : decode cX4_readFormula 104 = .ok (.aload_n 0, 1) := dok_at gdX4_readFormula_l93 5 rfl
theorem dX4_readFormula_105 : decode cX4_readFormula 105 = .ok (.invokevirtual 55, 3) := dok_at gdX4_readFormula_l93 6 rfl
theorem dX4_readFormula_108 : decode cX4_readFormula 108 = .ok (.goto 5, 3) := dok_at gdX4_readFormula_l93 7 rfl
theorem dX4_readFormula_111 : decode cX4_readFormula 111 = .ok (.iconst 0, 1) := dok_at gdX4_readFormula_l93 8 rfl
theorem dX4_readFormula_112 : decode cX4_readFormula 112 = .ok (.istore_n 3, 1) := dok_at gdX4_readFormula_l93 9 rfl
theorem dX4_readFormula_113 : decode cX4_readFormula 113 = .ok (.iinc 4 1, 3) := dok_at gdX4_readFormula_l93 10 rfl
theorem dX4_readFormula_116 : decode cX4_readFormula 116 = .ok (.goto (-104), 3) := dok_at gdX4_readFormula_l93 11 rfl
theorem dX4_readFormula_119 : decode cX4_readFormula 119 = .ok (.aload_n 0, 1) := dok_at gdX4_readFormula_l93 12 rfl
theorem dX4_readFormula_120 : decode cX4_readFormula 120 = .ok (.getfield 43, 3) := dok_at gdX4_readFormula_l93 13 rfl
theorem dX4_readFormula_123 : decode cX4_readFormula 123 = .ok (.ifCond .ne 19, 3) := dok_at gdX4_readFormula_l93 14 rfl
theorem dX4_readFormula_126 : decode cX4_readFormula 126 = .ok (.aload_n 0, 1) := dok_at gdX4_readFormula_l93 15 rfl
theorem dX4_readFormula_127 : decode cX4_readFormula 127 = .ok (.getfield 176, 3) := dok_at gdX4_readFormula_l93 16 rfl
theorem dX4_readFormula_130 : decode cX4_readFormula 130 = .ok (.ifCond .le 12, 3) := dok_at gdX4_readFormula_l93 17 rfl
theorem dX4_readFormula_133 : decode cX4_readFormula 133 = .ok (.aload_n 0, 1) := dok_at gdX4_readFormula_l93 18 rfl
theorem dX4_readFormula_134 : decode cX4_readFormula 134 = .ok (.iconst 2, 1) := dok_at gdX4_readFormula_l93 19 rfl
theorem dX4_readFormula_135 : decode cX4_readFormula 135 = .ok (.aload_n 0, 1) := dok_at gdX4_readFormula_l93 20 rfl
theorem dX4_readFormula_136 : decode cX4_readFormula 136 = .ok (.getfield 88, 3) := dok_at gdX4_readFormula_l93 21 rfl
theorem dX4_readFormula_139 : decode cX4_readFormula 139 = .ok (.invokevirtual 101, 3) := dok_at gdX4_readFormula_l93 22 rfl
theorem dX4_readFormula_142 : decode cX4_readFormula 142 = .ok (.aload_n 0, 1) := dok_at gdX4_readFormula_l93 23 rfl
def dX4_readFormula_l143 : List (Nat × Instr × Nat) := [(143, .invokevirtual 173, 3), (146, .aload_n 0, 1), (147, .getfield 27, 3), (150, .iconst 0, 1), (151, .aaload, 1), (152, .iconst 0, 1), (153, .aload_n 0, 1), (154, .getfield 15, 3), (157, .getfield 182, 3), (160, .iload_n 1, 1), (161, .bipush 8, 2), (163, .imul, 1), (164, .bipush 8, 2), (166, .invokestatic 186, 3), (169, .return_, 1)]
theorem gdX4_readFormula_l143 : dok cX4_readFormula dX4_readFormula_l143 = true := by decide +kernel
theorem dX4_readFormula_143 : decode cX4_readFormula 143 = .ok (.invokevirtual 173, 3) := dok_at gdX4_readFormula_l143 0 rfl
theorem dX4_readFormula_146 : decode cX4_readFormula 146 = .ok (.aload_n 0, 1) := dok_at gdX4_readFormula_l143 1 rfl
theorem dX4_readFormula_147 : decode cX4_readFormula 147 = .ok (.getfield 27, 3) := dok_at gdX4_readFormula_l143 2 rfl
theorem dX4_readFormula_150 : decode cX4_readFormula 150 = .ok (.iconst 0, 1) := dok_at gdX4_readFormula_l143 3 rfl
theorem dX4_readFormula_151 : decode cX4_readFormula 151 = .ok (.aaload, 1) := dok_at gdX4_readFormula_l143 4 rfl
theorem dX4_readFormula_152 : decode cX4_readFormula 152 = .ok (.iconst 0, 1) := dok_at gdX4_readFormula_l143 5 rfl
theorem dX4_readFormula_153 : decode cX4_readFormula 153 = .ok (.aload_n 0, 1) := dok_at gdX4_readFormula_l143 6 rfl
theorem dX4_readFormula_154 : decode cX4_readFormula 154 = .ok (.getfield 15, 3) := dok_at gdX4_readFormula_l143 7 rfl
theorem dX4_readFormula_157 : decode cX4_readFormula 157 = .ok (.getfield 182, 3) := dok_at gdX4_readFormula_l143 8 rfl
theorem dX4_readFormula_160 : decode cX4_readFormula 160 = .ok (.iload_n 1, 1) := dok_at gdX4_readFormula_l143 9 rfl
theorem dX4_readFormula_161 : decode cX4_readFormula 161 = .ok (.bipush 8, 2) := dok_at gdX4_readFormula_l143 10 rfl
theorem dX4_readFormula_163 : decode cX4_readFormula 163 = .ok (.imul, 1) := dok_at gdX4_readFormula_l143 11 rfl
theorem dX4_readFormula_164 : decode cX4_readFormula 164 = .ok (.bipush 8, 2) := dok_at gdX4_readFormula_l143 12 rfl
theorem dX4_readFormula_166 : decode cX4_readFormula 166 = .ok (.invokestatic 186, 3) := dok_at gdX4_readFormula_l143 13 rfl
theorem dX4_readFormula_169 : decode cX4_readFormula 169 = .ok (.return_, 1) := dok_at gdX4_readFormula_l143 14 rfl
def dX4_takeUnit_l0 : List (Nat × Instr × Nat) := [(0, .aload_n 0, 1), (1, .bipush 40, 2), (3, .invokevirtual 113, 3), (6, .ifCond .eq 39, 3), (9, .aload_n 0, 1), (10, .getfield 176, 3), (13, .bipush 6, 2), (15, .if_icmp .lt 14, 3), (18, .aload_n 0, 1), (19, .iconst 5, 1), (20, .aload_n 0, 1), (21, .getfield 88, 3), (24, .invokevirtual 101, 3), (27, .iconst 1, 1), (28, .ireturn, 1), (29, .aload_n 0, 1), (30, .aload_n 0, 1), (31, .getfield 176, 3), (34, .iconst 1, 1), (35, .iadd, 1), (36, .invokevirtual 167, 3), (39, .aload_n 0, 1), (40, .invokevirtual 55, 3), (43, .iconst 1, 1)]
theorem gdX4_takeUnit_l0 : dok cX4_takeUnit dX4_takeUnit_l0 = true := by decide +kernel
theorem dX4_takeUnit_0 : decode cX4_takeUnit 0 = .ok (.aload_n 0, 1) := dok_at gdX4_takeUnit_l0 0 rfl
theorem dX4_takeUnit_1 : decode cX4_takeUnit 1 = .ok (.bipush 40, 2) := dok_at gdX4_takeUnit_l0 1 rfl
theorem dX4_takeUnit_3 : decode cX4_takeUnit 3 = .ok (.invokevirtual 113, 3) := dok_at gdX4_takeUnit_l0 2 rfl
theorem dX4_takeUnit_6 : decode cX4_takeUnit 6 = .ok (.ifCond .eq 39, 3) := dok_at gdX4_takeUnit_l0 3 rfl
theorem dX4_takeUnit_9 : decode cX4_takeUnit 9 = .ok (.aload_n 0, 1) := dok_at gdX4_takeUnit_l0 4 rfl
theorem dX4_takeUnit_10 : decode cX4_takeUnit 10 = .ok (.getfield 176, 3) := dok_at gdX4_takeUnit_l0 5 rfl
theorem dX4_takeUnit_13 : decode cX4_takeUnit 13 = .ok (.bipush 6, 2) := dok_at gdX4_takeUnit_l0 6 rfl
theorem dX4_takeUnit_15 : decode cX4_takeUnit 15 = .ok (.if_icmp .lt 14, 3) := dok_at gdX4_takeUnit_l0 7 rfl
theorem dX4_takeUnit_18 : decode cX4_takeUnit 18 = .ok (.aload_n 0, 1) := dok_at gdX4_takeUnit_l0 8 rfl
theorem dX4_takeUnit_19 : decode cX4_takeUnit 19 = .ok (.iconst 5, 1) := dok_at gdX4_takeUnit_l0 9 rfl
theorem dX4_takeUnit_20 : decode cX4_takeUnit 20 = .ok (.aload_n 0, 1) := dok_at gdX4_takeUnit_l0 10 rfl
theorem dX4_takeUnit_21 : decode cX4_takeUnit 21 = .ok (.getfield 88, 3) := dok_at gdX4_takeUnit_l0 11 rfl
theorem dX4_takeUnit_24 : decode cX4_takeUnit 24 = .ok (.invokevirtual 101, 3) := dok_at gdX4_takeUnit_l0 12 rfl
theorem dX4_takeUnit_27 : decode cX4_takeUnit 27 = .ok (.iconst 1, 1) := dok_at gdX4_takeUnit_l0 13 rfl
theorem dX4_takeUnit_28 : decode cX4_takeUnit 28 = .ok (.ireturn, 1) := dok_at gdX4_takeUnit_l0 14 rfl
theorem dX4_takeUnit_29 : decode cX4_takeUnit 29 = .ok (.aload_n 0, 1) := dok_at gdX4_takeUnit_l0 15 rfl
theorem dX4_takeUnit_30 : decode cX4_takeUnit 30 = .ok (.aload_n 0, 1) := dok_at gdX4_takeUnit_l0 16 rfl
theorem dX4_takeUnit_31 : decode cX4_takeUnit 31 = .ok (.getfield 176, 3) := dok_at gdX4_takeUnit_l0 17 rfl
theorem dX4_takeUnit_34 : decode cX4_takeUnit 34 = .ok (.iconst 1, 1) := dok_at gdX4_takeUnit_l0 18 rfl
theorem dX4_takeUnit_35 : decode cX4_takeUnit 35 = .ok (.iadd, 1) := dok_at gdX4_takeUnit_l0 19 rfl
theorem dX4_takeUnit_36 : decode cX4_takeUnit 36 = .ok (.invokevirtual 167, 3) := dok_at gdX4_takeUnit_l0 20 rfl
theorem dX4_takeUnit_39 : decode cX4_takeUnit 39 = .ok (.aload_n 0, 1) := dok_at gdX4_takeUnit_l0 21 rfl
theorem dX4_takeUnit_40 : decode cX4_takeUnit 40 = .ok (.invokevirtual 55, 3) := dok_at gdX4_takeUnit_l0 22 rfl
theorem dX4_takeUnit_43 : decode cX4_takeUnit 43 = .ok (.iconst 1, 1) := dok_at gdX4_takeUnit_l0 23 rfl
def dX4_takeUnit_l44 : List (Nat × Instr × Nat) := [(44, .ireturn, 1), (45, .aload_n 0, 1), (46, .getfield 60, 3), (49, .iconst 1, 1), (50, .if_icmp .eq 15, 3), (53, .aload_n 0, 1), (54, .iconst 2, 1), (55, .aload_n 0, 1), (56, .getfield 88, 3), (59, .invokevirtual 101, 3), (62, .goto 68, 3), (65, .aload_n 0, 1), (66, .ldc 192, 2), (68, .invokevirtual 65, 3), (71, .ifCond .eq 17, 3), (74, .aload_n 0, 1), (75, .iload_n 1, 1), (76, .bipush 8, 2), (78, .invokevirtual 194, 3), (81, .aload_n 0, 1), (82, .invokevirtual 55, 3), (85, .goto 45, 3), (88, .aload_n 0, 1), (89, .invokevirtual 117, 3)]
theorem gdX4_takeUnit_l44 : dok cX4_takeUnit dX4_takeUnit_l44 = true := by decide +kernel
theorem dX4_takeUnit_44 : decode cX4_takeUnit 44 = .ok (.ireturn, 1) := dok_at gdX4_takeUnit_l44 0 rfl
theorem dX4_takeUnit_45 : decode cX4_takeUnit 45 = .ok (.aload_n 0, 1) := dok_at gdX4_takeUnit_l44 1 rfl
theorem dX4_takeUnit_46 : decode cX4_takeUnit 46 = .ok (.getfield 60, 3) := dok_at gdX4_takeUnit_l44 2 rfl
theorem dX4_takeUnit_49 : decode cX4_takeUnit 49 = .ok (.iconst 1, 1) := dok_at gdX4_takeUnit_l44 3 rfl
theorem dX4_takeUnit_50 : decode cX4_takeUnit 50 = .ok (.if_icmp .eq 15, 3) := dok_at gdX4_takeUnit_l44 4 rfl
theorem dX4_takeUnit_53 : decode cX4_takeUnit 53 = .ok (.aload_n 0, 1) := dok_at gdX4_takeUnit_l44 5 rfl
theorem dX4_takeUnit_54 : decode cX4_takeUnit 54 = .ok (.iconst 2, 1) := dok_at gdX4_takeUnit_l44 6 rfl
theorem dX4_takeUnit_55 : decode cX4_takeUnit 55 = .ok (.aload_n 0, 1) := dok_at gdX4_takeUnit_l44 7 rfl
theorem dX4_takeUnit_56 : decode cX4_takeUnit 56 = .ok (.getfield 88, 3) := dok_at gdX4_takeUnit_l44 8 rfl
theorem dX4_takeUnit_59 : decode cX4_takeUnit 59 = .ok (.invokevirtual 101, 3) := dok_at gdX4_takeUnit_l44 9 rfl
theorem dX4_takeUnit_62 : decode cX4_takeUnit 62 = .ok (.goto 68, 3) := dok_at gdX4_takeUnit_l44 10 rfl
theorem dX4_takeUnit_65 : decode cX4_takeUnit 65 = .ok (.aload_n 0, 1) := dok_at gdX4_takeUnit_l44 11 rfl
theorem dX4_takeUnit_66 : decode cX4_takeUnit 66 = .ok (.ldc 192, 2) := dok_at gdX4_takeUnit_l44 12 rfl
theorem dX4_takeUnit_68 : decode cX4_takeUnit 68 = .ok (.invokevirtual 65, 3) := dok_at gdX4_takeUnit_l44 13 rfl
theorem dX4_takeUnit_71 : decode cX4_takeUnit 71 = .ok (.ifCond .eq 17, 3) := dok_at gdX4_takeUnit_l44 14 rfl
theorem dX4_takeUnit_74 : decode cX4_takeUnit 74 = .ok (.aload_n 0, 1) := dok_at gdX4_takeUnit_l44 15 rfl
theorem dX4_takeUnit_75 : decode cX4_takeUnit 75 = .ok (.iload_n 1, 1) := dok_at gdX4_takeUnit_l44 16 rfl
theorem dX4_takeUnit_76 : decode cX4_takeUnit 76 = .ok (.bipush 8, 2) := dok_at gdX4_takeUnit_l44 17 rfl
theorem dX4_takeUnit_78 : decode cX4_takeUnit 78 = .ok (.invokevirtual 194, 3) := dok_at gdX4_takeUnit_l44 18 rfl
theorem dX4_takeUnit_81 : decode cX4_takeUnit 81 = .ok (.aload_n 0, 1) := dok_at gdX4_takeUnit_l44 19 rfl
theorem dX4_takeUnit_82 : decode cX4_takeUnit 82 = .ok (.invokevirtual 55, 3) := dok_at gdX4_takeUnit_l44 20 rfl
theorem dX4_takeUnit_85 : decode cX4_takeUnit 85 = .ok (.goto 45, 3) := dok_at gdX4_takeUnit_l44 21 rfl
theorem dX4_takeUnit_88 : decode cX4_takeUnit 88 = .ok (.aload_n 0, 1) := dok_at gdX4_takeUnit_l44 22 rfl
theorem dX4_takeUnit_89 : decode cX4_takeUnit 89 = .ok (.invokevirtual 117, 3) := dok_at gdX4_takeUnit_l44 23 rfl
def dX4_takeUnit_l92 : List (Nat × Instr × Nat) := [(92, .bipush (-4), 2), (94, .if_icmp .ne 15, 3), (97, .aload_n 0, 1), (98, .iconst 3, 1), (99, .aload_n 0, 1), (100, .getfield 88, 3), (103, .invokevirtual 101, 3), (106, .goto 24, 3), (109, .aload_n 0, 1), (110, .aload_n 0, 1), (111, .invokevirtual 117, 3), (114, .invokevirtual 197, 3), (117, .aload_n 0, 1), (118, .iload_n 1, 1), (119, .aload_n 0, 1), (120, .invokevirtual 117, 3), (123, .invokevirtual 194, 3), (126, .aload_n 0, 1), (127, .invokevirtual 55, 3), (130, .iconst 0, 1), (131, .ireturn, 1)]
theorem gdX4_takeUnit_l92 : dok cX4_takeUnit dX4_takeUnit_l92 = true := by decide +kernel
theorem dX4_takeUnit_92 : decode cX4_takeUnit 92 = .ok (.bipush (-4), 2) := dok_at gdX4_takeUnit_l92 0 rfl
theorem dX4_takeUnit_94 : decode cX4_takeUnit 94 = .ok (.if_icmp .ne 15, 3) := dok_at gdX4_takeUnit_l92 1 rfl
theorem dX4_takeUnit_97 : decode cX4_takeUnit 97 = .ok (.aload_n 0, 1) := dok_at gdX4_takeUnit_l92 2 rfl
theorem dX4_takeUnit_98 : decode cX4_takeUnit 98 = .ok (.iconst 3, 1) := dok_at gdX4_takeUnit_l92 3 rfl
theorem dX4_takeUnit_99 : decode cX4_takeUnit 99 = .ok (.aload_n 0, 1) := dok_at gdX4_takeUnit_l92 4 rfl
theorem dX4_takeUnit_100 : decode cX4_takeUnit 100 = .ok (.getfield 88, 3) := dok_at gdX4_takeUnit_l92 5 rfl
theorem dX4_takeUnit_103 : decode cX4_takeUnit 103 = .ok (.invokevirtual 101, 3) := dok_at gdX4_takeUnit_l92 6 rfl
theorem dX4_takeUnit_106 : decode cX4_takeUnit 106 = .ok (.goto 24, 3) := dok_at gdX4_takeUnit_l92 7 rfl
theorem dX4_takeUnit_109 : decode cX4_takeUnit 109 = .ok (.aload_n 0, 1) := dok_at gdX4_takeUnit_l92 8 rfl
theorem dX4_takeUnit_110 : decode cX4_takeUnit 110 = .ok (.aload_n 0, 1) := dok_at gdX4_takeUnit_l92 9 rfl
theorem dX4_takeUnit_111 : decode cX4_takeUnit 111 = .ok (.invokevirtual 117, 3) := dok_at gdX4_takeUnit_l92 10 rfl
theorem dX4_takeUnit_114 : decode cX4_takeUnit 114 = .ok (.invokevirtual 197, 3) := dok_at gdX4_takeUnit_l92 11 rfl
theorem dX4_takeUnit_117 : decode cX4_takeUnit 117 = .ok (.aload_n 0, 1) := dok_at gdX4_takeUnit_l92 12 rfl
theorem dX4_takeUnit_118 : decode cX4_takeUnit 118 = .ok (.iload_n 1, 1) := dok_at gdX4_takeUnit_l92 13 rfl
theorem dX4_takeUnit_119 : decode cX4_takeUnit 119 = .ok (.aload_n 0, 1) := dok_at gdX4_takeUnit_l92 14 rfl
theorem dX4_takeUnit_120 : decode cX4_takeUnit 120 = .ok (.invokevirtual 117, 3) := dok_at gdX4_takeUnit_l92 15 rfl
theorem dX4_takeUnit_123 : decode cX4_takeUnit 123 = .ok (.invokevirtual 194, 3) := dok_at gdX4_takeUnit_l92 16 rfl
theorem dX4_takeUnit_126 : decode cX4_takeUnit 126 = .ok (.aload_n 0, 1) := dok_at gdX4_takeUnit_l92 17 rfl
theorem dX4_takeUnit_127 : decode cX4_takeUnit 127 = .ok (.invokevirtual 55, 3) := dok_at gdX4_takeUnit_l92 18 rfl
theorem dX4_takeUnit_130 : decode cX4_takeUnit 130 = .ok (.iconst 0, 1) := dok_at gdX4_takeUnit_l92 19 rfl
theorem dX4_takeUnit_131 : decode cX4_takeUnit 131 = .ok (.ireturn, 1) := dok_at gdX4_takeUnit_l92 20 rfl
def dX4_openDepth_l0 : List (Nat × Instr × Nat) := [(0, .aload_n 0, 1), (1, .iload_n 1, 1), (2, .putfield 176, 3), (5, .aload_n 0, 1), (6, .getfield 27, 3), (9, .iload_n 1, 1), (10, .aaload, 1), (11, .lconst 0, 1), (12, .invokestatic 200, 3), (15, .aload_n 0, 1), (16, .getfield 30, 3), (19, .iload_n 1, 1), (20, .aaload, 1), (21, .ldc2_w 203, 3), (24, .invokestatic 200, 3), (27, .return_, 1)]
theorem gdX4_openDepth_l0 : dok cX4_openDepth dX4_openDepth_l0 = true := by decide +kernel
theorem dX4_openDepth_0 : decode cX4_openDepth 0 = .ok (.aload_n 0, 1) := dok_at gdX4_openDepth_l0 0 rfl
theorem dX4_openDepth_1 : decode cX4_openDepth 1 = .ok (.iload_n 1, 1) := dok_at gdX4_openDepth_l0 1 rfl
theorem dX4_openDepth_2 : decode cX4_openDepth 2 = .ok (.putfield 176, 3) := dok_at gdX4_openDepth_l0 2 rfl
theorem dX4_openDepth_5 : decode cX4_openDepth 5 = .ok (.aload_n 0, 1) := dok_at gdX4_openDepth_l0 3 rfl
theorem dX4_openDepth_6 : decode cX4_openDepth 6 = .ok (.getfield 27, 3) := dok_at gdX4_openDepth_l0 4 rfl
theorem dX4_openDepth_9 : decode cX4_openDepth 9 = .ok (.iload_n 1, 1) := dok_at gdX4_openDepth_l0 5 rfl
theorem dX4_openDepth_10 : decode cX4_openDepth 10 = .ok (.aaload, 1) := dok_at gdX4_openDepth_l0 6 rfl
theorem dX4_openDepth_11 : decode cX4_openDepth 11 = .ok (.lconst 0, 1) := dok_at gdX4_openDepth_l0 7 rfl
theorem dX4_openDepth_12 : decode cX4_openDepth 12 = .ok (.invokestatic 200, 3) := dok_at gdX4_openDepth_l0 8 rfl
theorem dX4_openDepth_15 : decode cX4_openDepth 15 = .ok (.aload_n 0, 1) := dok_at gdX4_openDepth_l0 9 rfl
theorem dX4_openDepth_16 : decode cX4_openDepth 16 = .ok (.getfield 30, 3) := dok_at gdX4_openDepth_l0 10 rfl
theorem dX4_openDepth_19 : decode cX4_openDepth 19 = .ok (.iload_n 1, 1) := dok_at gdX4_openDepth_l0 11 rfl
theorem dX4_openDepth_20 : decode cX4_openDepth 20 = .ok (.aaload, 1) := dok_at gdX4_openDepth_l0 12 rfl
theorem dX4_openDepth_21 : decode cX4_openDepth 21 = .ok (.ldc2_w 203, 3) := dok_at gdX4_openDepth_l0 13 rfl
theorem dX4_openDepth_24 : decode cX4_openDepth 24 = .ok (.invokestatic 200, 3) := dok_at gdX4_openDepth_l0 14 rfl
theorem dX4_openDepth_27 : decode cX4_openDepth 27 = .ok (.return_, 1) := dok_at gdX4_openDepth_l0 15 rfl
def dX4_closeDepth_l0 : List (Nat × Instr × Nat) := [(0, .aload_n 0, 1), (1, .invokevirtual 173, 3), (4, .iconst 0, 1), (5, .istore_n 1, 1), (6, .iload_n 1, 1), (7, .bipush 8, 2), (9, .if_icmp .ge 36, 3), (12, .aload_n 0, 1), (13, .getfield 30, 3), (16, .aload_n 0, 1), (17, .getfield 176, 3), (20, .iconst 1, 1), (21, .isub, 1), (22, .aaload, 1), (23, .iload_n 1, 1), (24, .dup2, 1), (25, .laload, 1), (26, .aload_n 0, 1), (27, .getfield 27, 3), (30, .aload_n 0, 1), (31, .getfield 176, 3), (34, .aaload, 1), (35, .iload_n 1, 1), (36, .laload, 1)]
theorem gdX4_closeDepth_l0 : dok cX4_closeDepth dX4_closeDepth_l0 = true := by decide +kernel
theorem dX4_closeDepth_0 : decode cX4_closeDepth 0 = .ok (.aload_n 0, 1) := dok_at gdX4_closeDepth_l0 0 rfl
theorem dX4_closeDepth_1 : decode cX4_closeDepth 1 = .ok (.invokevirtual 173, 3) := dok_at gdX4_closeDepth_l0 1 rfl
theorem dX4_closeDepth_4 : decode cX4_closeDepth 4 = .ok (.iconst 0, 1) := dok_at gdX4_closeDepth_l0 2 rfl
theorem dX4_closeDepth_5 : decode cX4_closeDepth 5 = .ok (.istore_n 1, 1) := dok_at gdX4_closeDepth_l0 3 rfl
theorem dX4_closeDepth_6 : decode cX4_closeDepth 6 = .ok (.iload_n 1, 1) := dok_at gdX4_closeDepth_l0 4 rfl
theorem dX4_closeDepth_7 : decode cX4_closeDepth 7 = .ok (.bipush 8, 2) := dok_at gdX4_closeDepth_l0 5 rfl
theorem dX4_closeDepth_9 : decode cX4_closeDepth 9 = .ok (.if_icmp .ge 36, 3) := dok_at gdX4_closeDepth_l0 6 rfl
theorem dX4_closeDepth_12 : decode cX4_closeDepth 12 = .ok (.aload_n 0, 1) := dok_at gdX4_closeDepth_l0 7 rfl
theorem dX4_closeDepth_13 : decode cX4_closeDepth 13 = .ok (.getfield 30, 3) := dok_at gdX4_closeDepth_l0 8 rfl
theorem dX4_closeDepth_16 : decode cX4_closeDepth 16 = .ok (.aload_n 0, 1) := dok_at gdX4_closeDepth_l0 9 rfl
theorem dX4_closeDepth_17 : decode cX4_closeDepth 17 = .ok (.getfield 176, 3) := dok_at gdX4_closeDepth_l0 10 rfl
theorem dX4_closeDepth_20 : decode cX4_closeDepth 20 = .ok (.iconst 1, 1) := dok_at gdX4_closeDepth_l0 11 rfl
theorem dX4_closeDepth_21 : decode cX4_closeDepth 21 = .ok (.isub, 1) := dok_at gdX4_closeDepth_l0 12 rfl
theorem dX4_closeDepth_22 : decode cX4_closeDepth 22 = .ok (.aaload, 1) := dok_at gdX4_closeDepth_l0 13 rfl
theorem dX4_closeDepth_23 : decode cX4_closeDepth 23 = .ok (.iload_n 1, 1) := dok_at gdX4_closeDepth_l0 14 rfl
theorem dX4_closeDepth_24 : decode cX4_closeDepth 24 = .ok (.dup2, 1) := dok_at gdX4_closeDepth_l0 15 rfl
theorem dX4_closeDepth_25 : decode cX4_closeDepth 25 = .ok (.laload, 1) := dok_at gdX4_closeDepth_l0 16 rfl
theorem dX4_closeDepth_26 : decode cX4_closeDepth 26 = .ok (.aload_n 0, 1) := dok_at gdX4_closeDepth_l0 17 rfl
theorem dX4_closeDepth_27 : decode cX4_closeDepth 27 = .ok (.getfield 27, 3) := dok_at gdX4_closeDepth_l0 18 rfl
theorem dX4_closeDepth_30 : decode cX4_closeDepth 30 = .ok (.aload_n 0, 1) := dok_at gdX4_closeDepth_l0 19 rfl
theorem dX4_closeDepth_31 : decode cX4_closeDepth 31 = .ok (.getfield 176, 3) := dok_at gdX4_closeDepth_l0 20 rfl
theorem dX4_closeDepth_34 : decode cX4_closeDepth 34 = .ok (.aaload, 1) := dok_at gdX4_closeDepth_l0 21 rfl
theorem dX4_closeDepth_35 : decode cX4_closeDepth 35 = .ok (.iload_n 1, 1) := dok_at gdX4_closeDepth_l0 22 rfl
theorem dX4_closeDepth_36 : decode cX4_closeDepth 36 = .ok (.laload, 1) := dok_at gdX4_closeDepth_l0 23 rfl
def dX4_closeDepth_l37 : List (Nat × Instr × Nat) := [(37, .land, 1), (38, .lastore, 1), (39, .iinc 1 1, 3), (42, .goto (-36), 3), (45, .aload_n 0, 1), (46, .dup, 1), (47, .getfield 176, 3), (50, .iconst 1, 1), (51, .isub, 1), (52, .putfield 176, 3), (55, .return_, 1)]
theorem gdX4_closeDepth_l37 : dok cX4_closeDepth dX4_closeDepth_l37 = true := by decide +kernel
theorem dX4_closeDepth_37 : decode cX4_closeDepth 37 = .ok (.land, 1) := dok_at gdX4_closeDepth_l37 0 rfl
theorem dX4_closeDepth_38 : decode cX4_closeDepth 38 = .ok (.lastore, 1) := dok_at gdX4_closeDepth_l37 1 rfl
theorem dX4_closeDepth_39 : decode cX4_closeDepth 39 = .ok (.iinc 1 1, 3) := dok_at gdX4_closeDepth_l37 2 rfl
theorem dX4_closeDepth_42 : decode cX4_closeDepth 42 = .ok (.goto (-36), 3) := dok_at gdX4_closeDepth_l37 3 rfl
theorem dX4_closeDepth_45 : decode cX4_closeDepth 45 = .ok (.aload_n 0, 1) := dok_at gdX4_closeDepth_l37 4 rfl
theorem dX4_closeDepth_46 : decode cX4_closeDepth 46 = .ok (.dup, 1) := dok_at gdX4_closeDepth_l37 5 rfl
theorem dX4_closeDepth_47 : decode cX4_closeDepth 47 = .ok (.getfield 176, 3) := dok_at gdX4_closeDepth_l37 6 rfl
theorem dX4_closeDepth_50 : decode cX4_closeDepth 50 = .ok (.iconst 1, 1) := dok_at gdX4_closeDepth_l37 7 rfl
theorem dX4_closeDepth_51 : decode cX4_closeDepth 51 = .ok (.isub, 1) := dok_at gdX4_closeDepth_l37 8 rfl
theorem dX4_closeDepth_52 : decode cX4_closeDepth 52 = .ok (.putfield 176, 3) := dok_at gdX4_closeDepth_l37 9 rfl
theorem dX4_closeDepth_55 : decode cX4_closeDepth 55 = .ok (.return_, 1) := dok_at gdX4_closeDepth_l37 10 rfl
def dX4_joinAny_l0 : List (Nat × Instr × Nat) := [(0, .iconst 0, 1), (1, .istore_n 1, 1), (2, .iload_n 1, 1), (3, .bipush 8, 2), (5, .if_icmp .ge 48, 3), (8, .aload_n 0, 1), (9, .getfield 27, 3), (12, .aload_n 0, 1), (13, .getfield 176, 3), (16, .aaload, 1), (17, .iload_n 1, 1), (18, .dup2, 1), (19, .laload, 1), (20, .aload_n 0, 1), (21, .getfield 30, 3), (24, .aload_n 0, 1), (25, .getfield 176, 3), (28, .aaload, 1), (29, .iload_n 1, 1), (30, .laload, 1), (31, .lor, 1), (32, .lastore, 1), (33, .aload_n 0, 1), (34, .getfield 30, 3)]
theorem gdX4_joinAny_l0 : dok cX4_joinAny dX4_joinAny_l0 = true := by decide +kernel
theorem dX4_joinAny_0 : decode cX4_joinAny 0 = .ok (.iconst 0, 1) := dok_at gdX4_joinAny_l0 0 rfl
theorem dX4_joinAny_1 : decode cX4_joinAny 1 = .ok (.istore_n 1, 1) := dok_at gdX4_joinAny_l0 1 rfl
theorem dX4_joinAny_2 : decode cX4_joinAny 2 = .ok (.iload_n 1, 1) := dok_at gdX4_joinAny_l0 2 rfl
theorem dX4_joinAny_3 : decode cX4_joinAny 3 = .ok (.bipush 8, 2) := dok_at gdX4_joinAny_l0 3 rfl
theorem dX4_joinAny_5 : decode cX4_joinAny 5 = .ok (.if_icmp .ge 48, 3) := dok_at gdX4_joinAny_l0 4 rfl
theorem dX4_joinAny_8 : decode cX4_joinAny 8 = .ok (.aload_n 0, 1) := dok_at gdX4_joinAny_l0 5 rfl
theorem dX4_joinAny_9 : decode cX4_joinAny 9 = .ok (.getfield 27, 3) := dok_at gdX4_joinAny_l0 6 rfl
theorem dX4_joinAny_12 : decode cX4_joinAny 12 = .ok (.aload_n 0, 1) := dok_at gdX4_joinAny_l0 7 rfl
theorem dX4_joinAny_13 : decode cX4_joinAny 13 = .ok (.getfield 176, 3) := dok_at gdX4_joinAny_l0 8 rfl
theorem dX4_joinAny_16 : decode cX4_joinAny 16 = .ok (.aaload, 1) := dok_at gdX4_joinAny_l0 9 rfl
theorem dX4_joinAny_17 : decode cX4_joinAny 17 = .ok (.iload_n 1, 1) := dok_at gdX4_joinAny_l0 10 rfl
theorem dX4_joinAny_18 : decode cX4_joinAny 18 = .ok (.dup2, 1) := dok_at gdX4_joinAny_l0 11 rfl
theorem dX4_joinAny_19 : decode cX4_joinAny 19 = .ok (.laload, 1) := dok_at gdX4_joinAny_l0 12 rfl
theorem dX4_joinAny_20 : decode cX4_joinAny 20 = .ok (.aload_n 0, 1) := dok_at gdX4_joinAny_l0 13 rfl
theorem dX4_joinAny_21 : decode cX4_joinAny 21 = .ok (.getfield 30, 3) := dok_at gdX4_joinAny_l0 14 rfl
theorem dX4_joinAny_24 : decode cX4_joinAny 24 = .ok (.aload_n 0, 1) := dok_at gdX4_joinAny_l0 15 rfl
theorem dX4_joinAny_25 : decode cX4_joinAny 25 = .ok (.getfield 176, 3) := dok_at gdX4_joinAny_l0 16 rfl
theorem dX4_joinAny_28 : decode cX4_joinAny 28 = .ok (.aaload, 1) := dok_at gdX4_joinAny_l0 17 rfl
theorem dX4_joinAny_29 : decode cX4_joinAny 29 = .ok (.iload_n 1, 1) := dok_at gdX4_joinAny_l0 18 rfl
theorem dX4_joinAny_30 : decode cX4_joinAny 30 = .ok (.laload, 1) := dok_at gdX4_joinAny_l0 19 rfl
theorem dX4_joinAny_31 : decode cX4_joinAny 31 = .ok (.lor, 1) := dok_at gdX4_joinAny_l0 20 rfl
theorem dX4_joinAny_32 : decode cX4_joinAny 32 = .ok (.lastore, 1) := dok_at gdX4_joinAny_l0 21 rfl
theorem dX4_joinAny_33 : decode cX4_joinAny 33 = .ok (.aload_n 0, 1) := dok_at gdX4_joinAny_l0 22 rfl
theorem dX4_joinAny_34 : decode cX4_joinAny 34 = .ok (.getfield 30, 3) := dok_at gdX4_joinAny_l0 23 rfl
def dX4_joinAny_l37 : List (Nat × Instr × Nat) := [(37, .aload_n 0, 1), (38, .getfield 176, 3), (41, .aaload, 1), (42, .iload_n 1, 1), (43, .ldc2_w 203, 3), (46, .lastore, 1), (47, .iinc 1 1, 3), (50, .goto (-48), 3), (53, .return_, 1)]
theorem gdX4_joinAny_l37 : dok cX4_joinAny dX4_joinAny_l37 = true := by decide +kernel
theorem dX4_joinAny_37 : decode cX4_joinAny 37 = .ok (.aload_n 0, 1) := dok_at gdX4_joinAny_l37 0 rfl
theorem dX4_joinAny_38 : decode cX4_joinAny 38 = .ok (.getfield 176, 3) := dok_at gdX4_joinAny_l37 1 rfl
theorem dX4_joinAny_41 : decode cX4_joinAny 41 = .ok (.aaload, 1) := dok_at gdX4_joinAny_l37 2 rfl
theorem dX4_joinAny_42 : decode cX4_joinAny 42 = .ok (.iload_n 1, 1) := dok_at gdX4_joinAny_l37 3 rfl
theorem dX4_joinAny_43 : decode cX4_joinAny 43 = .ok (.ldc2_w 203, 3) := dok_at gdX4_joinAny_l37 4 rfl
theorem dX4_joinAny_46 : decode cX4_joinAny 46 = .ok (.lastore, 1) := dok_at gdX4_joinAny_l37 5 rfl
theorem dX4_joinAny_47 : decode cX4_joinAny 47 = .ok (.iinc 1 1, 3) := dok_at gdX4_joinAny_l37 6 rfl
theorem dX4_joinAny_50 : decode cX4_joinAny 50 = .ok (.goto (-48), 3) := dok_at gdX4_joinAny_l37 7 rfl
theorem dX4_joinAny_53 : decode cX4_joinAny 53 = .ok (.return_, 1) := dok_at gdX4_joinAny_l37 8 rfl
def dX4_joinPart_l0 : List (Nat × Instr × Nat) := [(0, .aload_n 0, 1), (1, .getfield 15, 3), (4, .iload_n 1, 1), (5, .bipush 7, 2), (7, .aload_n 0, 1), (8, .getfield 15, 3), (11, .iload_n 1, 1), (12, .bipush 7, 2), (14, .invokevirtual 205, 3), (17, .iconst 1, 1), (18, .iload_n 2, 1), (19, .ishl, 1), (20, .ior, 1), (21, .invokevirtual 147, 3), (24, .iconst 0, 1), (25, .istore_n 3, 1), (26, .iload_n 3, 1), (27, .bipush 8, 2), (29, .if_icmp .ge 64, 3), (32, .iload_n 2, 1), (33, .getstatic 208, 3), (36, .arraylength, 1), (37, .if_icmp .ge 25, 3), (40, .aload_n 0, 1)]
theorem gdX4_joinPart_l0 : dok cX4_joinPart dX4_joinPart_l0 = true := by decide +kernel
theorem dX4_joinPart_0 : decode cX4_joinPart 0 = .ok (.aload_n 0, 1) := dok_at gdX4_joinPart_l0 0 rfl
theorem dX4_joinPart_1 : decode cX4_joinPart 1 = .ok (.getfield 15, 3) := dok_at gdX4_joinPart_l0 1 rfl
theorem dX4_joinPart_4 : decode cX4_joinPart 4 = .ok (.iload_n 1, 1) := dok_at gdX4_joinPart_l0 2 rfl
theorem dX4_joinPart_5 : decode cX4_joinPart 5 = .ok (.bipush 7, 2) := dok_at gdX4_joinPart_l0 3 rfl
theorem dX4_joinPart_7 : decode cX4_joinPart 7 = .ok (.aload_n 0, 1) := dok_at gdX4_joinPart_l0 4 rfl
theorem dX4_joinPart_8 : decode cX4_joinPart 8 = .ok (.getfield 15, 3) := dok_at gdX4_joinPart_l0 5 rfl
theorem dX4_joinPart_11 : decode cX4_joinPart 11 = .ok (.iload_n 1, 1) := dok_at gdX4_joinPart_l0 6 rfl
theorem dX4_joinPart_12 : decode cX4_joinPart 12 = .ok (.bipush 7, 2) := dok_at gdX4_joinPart_l0 7 rfl
theorem dX4_joinPart_14 : decode cX4_joinPart 14 = .ok (.invokevirtual 205, 3) := dok_at gdX4_joinPart_l0 8 rfl
theorem dX4_joinPart_17 : decode cX4_joinPart 17 = .ok (.iconst 1, 1) := dok_at gdX4_joinPart_l0 9 rfl
theorem dX4_joinPart_18 : decode cX4_joinPart 18 = .ok (.iload_n 2, 1) := dok_at gdX4_joinPart_l0 10 rfl
theorem dX4_joinPart_19 : decode cX4_joinPart 19 = .ok (.ishl, 1) := dok_at gdX4_joinPart_l0 11 rfl
theorem dX4_joinPart_20 : decode cX4_joinPart 20 = .ok (.ior, 1) := dok_at gdX4_joinPart_l0 12 rfl
theorem dX4_joinPart_21 : decode cX4_joinPart 21 = .ok (.invokevirtual 147, 3) := dok_at gdX4_joinPart_l0 13 rfl
theorem dX4_joinPart_24 : decode cX4_joinPart 24 = .ok (.iconst 0, 1) := dok_at gdX4_joinPart_l0 14 rfl
theorem dX4_joinPart_25 : decode cX4_joinPart 25 = .ok (.istore_n 3, 1) := dok_at gdX4_joinPart_l0 15 rfl
theorem dX4_joinPart_26 : decode cX4_joinPart 26 = .ok (.iload_n 3, 1) := dok_at gdX4_joinPart_l0 16 rfl
theorem dX4_joinPart_27 : decode cX4_joinPart 27 = .ok (.bipush 8, 2) := dok_at gdX4_joinPart_l0 17 rfl
theorem dX4_joinPart_29 : decode cX4_joinPart 29 = .ok (.if_icmp .ge 64, 3) := dok_at gdX4_joinPart_l0 18 rfl
theorem dX4_joinPart_32 : decode cX4_joinPart 32 = .ok (.iload_n 2, 1) := dok_at gdX4_joinPart_l0 19 rfl
theorem dX4_joinPart_33 : decode cX4_joinPart 33 = .ok (.getstatic 208, 3) := dok_at gdX4_joinPart_l0 20 rfl
theorem dX4_joinPart_36 : decode cX4_joinPart 36 = .ok (.arraylength, 1) := dok_at gdX4_joinPart_l0 21 rfl
theorem dX4_joinPart_37 : decode cX4_joinPart 37 = .ok (.if_icmp .ge 25, 3) := dok_at gdX4_joinPart_l0 22 rfl
theorem dX4_joinPart_40 : decode cX4_joinPart 40 = .ok (.aload_n 0, 1) := dok_at gdX4_joinPart_l0 23 rfl
def dX4_joinPart_l41 : List (Nat × Instr × Nat) := [(41, .getfield 30, 3), (44, .aload_n 0, 1), (45, .getfield 176, 3), (48, .aaload, 1), (49, .iload_n 3, 1), (50, .dup2, 1), (51, .laload, 1), (52, .getstatic 208, 3), (55, .iload_n 2, 1), (56, .laload, 1), (57, .land, 1), (58, .lastore, 1), (59, .goto 28, 3), (62, .iload_n 3, 1), (63, .iload_n 2, 1), (64, .getstatic 208, 3), (67, .arraylength, 1), (68, .isub, 1), (69, .ishr, 1), (70, .iconst 1, 1), (71, .iand, 1), (72, .ifCond .ne 15, 3), (75, .aload_n 0, 1), (76, .getfield 30, 3)]
theorem gdX4_joinPart_l41 : dok cX4_joinPart dX4_joinPart_l41 = true := by decide +kernel
theorem dX4_joinPart_41 : decode cX4_joinPart 41 = .ok (.getfield 30, 3) := dok_at gdX4_joinPart_l41 0 rfl
theorem dX4_joinPart_44 : decode cX4_joinPart 44 = .ok (.aload_n 0, 1) := dok_at gdX4_joinPart_l41 1 rfl
theorem dX4_joinPart_45 : decode cX4_joinPart 45 = .ok (.getfield 176, 3) := dok_at gdX4_joinPart_l41 2 rfl
theorem dX4_joinPart_48 : decode cX4_joinPart 48 = .ok (.aaload, 1) := dok_at gdX4_joinPart_l41 3 rfl
theorem dX4_joinPart_49 : decode cX4_joinPart 49 = .ok (.iload_n 3, 1) := dok_at gdX4_joinPart_l41 4 rfl
theorem dX4_joinPart_50 : decode cX4_joinPart 50 = .ok (.dup2, 1) := dok_at gdX4_joinPart_l41 5 rfl
theorem dX4_joinPart_51 : decode cX4_joinPart 51 = .ok (.laload, 1) := dok_at gdX4_joinPart_l41 6 rfl
theorem dX4_joinPart_52 : decode cX4_joinPart 52 = .ok (.getstatic 208, 3) := dok_at gdX4_joinPart_l41 7 rfl
theorem dX4_joinPart_55 : decode cX4_joinPart 55 = .ok (.iload_n 2, 1) := dok_at gdX4_joinPart_l41 8 rfl
theorem dX4_joinPart_56 : decode cX4_joinPart 56 = .ok (.laload, 1) := dok_at gdX4_joinPart_l41 9 rfl
theorem dX4_joinPart_57 : decode cX4_joinPart 57 = .ok (.land, 1) := dok_at gdX4_joinPart_l41 10 rfl
theorem dX4_joinPart_58 : decode cX4_joinPart 58 = .ok (.lastore, 1) := dok_at gdX4_joinPart_l41 11 rfl
theorem dX4_joinPart_59 : decode cX4_joinPart 59 = .ok (.goto 28, 3) := dok_at gdX4_joinPart_l41 12 rfl
theorem dX4_joinPart_62 : decode cX4_joinPart 62 = .ok (.iload_n 3, 1) := dok_at gdX4_joinPart_l41 13 rfl
theorem dX4_joinPart_63 : decode cX4_joinPart 63 = .ok (.iload_n 2, 1) := dok_at gdX4_joinPart_l41 14 rfl
theorem dX4_joinPart_64 : decode cX4_joinPart 64 = .ok (.getstatic 208, 3) := dok_at gdX4_joinPart_l41 15 rfl
theorem dX4_joinPart_67 : decode cX4_joinPart 67 = .ok (.arraylength, 1) := dok_at gdX4_joinPart_l41 16 rfl
theorem dX4_joinPart_68 : decode cX4_joinPart 68 = .ok (.isub, 1) := dok_at gdX4_joinPart_l41 17 rfl
theorem dX4_joinPart_69 : decode cX4_joinPart 69 = .ok (.ishr, 1) := dok_at gdX4_joinPart_l41 18 rfl
theorem dX4_joinPart_70 : decode cX4_joinPart 70 = .ok (.iconst 1, 1) := dok_at gdX4_joinPart_l41 19 rfl
theorem dX4_joinPart_71 : decode cX4_joinPart 71 = .ok (.iand, 1) := dok_at gdX4_joinPart_l41 20 rfl
theorem dX4_joinPart_72 : decode cX4_joinPart 72 = .ok (.ifCond .ne 15, 3) := dok_at gdX4_joinPart_l41 21 rfl
theorem dX4_joinPart_75 : decode cX4_joinPart 75 = .ok (.aload_n 0, 1) := dok_at gdX4_joinPart_l41 22 rfl
theorem dX4_joinPart_76 : decode cX4_joinPart 76 = .ok (.getfield 30, 3) := dok_at gdX4_joinPart_l41 23 rfl
def dX4_joinPart_l79 : List (Nat × Instr × Nat) := [(79, .aload_n 0, 1), (80, .getfield 176, 3), (83, .aaload, 1), (84, .iload_n 3, 1), (85, .lconst 0, 1), (86, .lastore, 1), (87, .iinc 3 1, 3), (90, .goto (-64), 3), (93, .return_, 1)]
theorem gdX4_joinPart_l79 : dok cX4_joinPart dX4_joinPart_l79 = true := by decide +kernel
theorem dX4_joinPart_79 : decode cX4_joinPart 79 = .ok (.aload_n 0, 1) := dok_at gdX4_joinPart_l79 0 rfl
theorem dX4_joinPart_80 : decode cX4_joinPart 80 = .ok (.getfield 176, 3) := dok_at gdX4_joinPart_l79 1 rfl
theorem dX4_joinPart_83 : decode cX4_joinPart 83 = .ok (.aaload, 1) := dok_at gdX4_joinPart_l79 2 rfl
theorem dX4_joinPart_84 : decode cX4_joinPart 84 = .ok (.iload_n 3, 1) := dok_at gdX4_joinPart_l79 3 rfl
theorem dX4_joinPart_85 : decode cX4_joinPart 85 = .ok (.lconst 0, 1) := dok_at gdX4_joinPart_l79 4 rfl
theorem dX4_joinPart_86 : decode cX4_joinPart 86 = .ok (.lastore, 1) := dok_at gdX4_joinPart_l79 5 rfl
theorem dX4_joinPart_87 : decode cX4_joinPart 87 = .ok (.iinc 3 1, 3) := dok_at gdX4_joinPart_l79 6 rfl
theorem dX4_joinPart_90 : decode cX4_joinPart 90 = .ok (.goto (-64), 3) := dok_at gdX4_joinPart_l79 7 rfl
theorem dX4_joinPart_93 : decode cX4_joinPart 93 = .ok (.return_, 1) := dok_at gdX4_joinPart_l79 8 rfl
def dX4_noteUse_l0 : List (Nat × Instr × Nat) := [(0, .aload_n 0, 1), (1, .getfield 19, 3), (4, .iload_n 1, 1), (5, .iaload, 1), (6, .bipush (-4), 2), (8, .if_icmp .ne 13, 3), (11, .aload_n 0, 1), (12, .getfield 19, 3), (15, .iload_n 1, 1), (16, .aload_n 0, 1), (17, .getfield 88, 3), (20, .iastore, 1), (21, .return_, 1)]
theorem gdX4_noteUse_l0 : dok cX4_noteUse dX4_noteUse_l0 = true := by decide +kernel
theorem dX4_noteUse_0 : decode cX4_noteUse 0 = .ok (.aload_n 0, 1) := dok_at gdX4_noteUse_l0 0 rfl
theorem dX4_noteUse_1 : decode cX4_noteUse 1 = .ok (.getfield 19, 3) := dok_at gdX4_noteUse_l0 1 rfl
theorem dX4_noteUse_4 : decode cX4_noteUse 4 = .ok (.iload_n 1, 1) := dok_at gdX4_noteUse_l0 2 rfl
theorem dX4_noteUse_5 : decode cX4_noteUse 5 = .ok (.iaload, 1) := dok_at gdX4_noteUse_l0 3 rfl
theorem dX4_noteUse_6 : decode cX4_noteUse 6 = .ok (.bipush (-4), 2) := dok_at gdX4_noteUse_l0 4 rfl
theorem dX4_noteUse_8 : decode cX4_noteUse 8 = .ok (.if_icmp .ne 13, 3) := dok_at gdX4_noteUse_l0 5 rfl
theorem dX4_noteUse_11 : decode cX4_noteUse 11 = .ok (.aload_n 0, 1) := dok_at gdX4_noteUse_l0 6 rfl
theorem dX4_noteUse_12 : decode cX4_noteUse 12 = .ok (.getfield 19, 3) := dok_at gdX4_noteUse_l0 7 rfl
theorem dX4_noteUse_15 : decode cX4_noteUse 15 = .ok (.iload_n 1, 1) := dok_at gdX4_noteUse_l0 8 rfl
theorem dX4_noteUse_16 : decode cX4_noteUse 16 = .ok (.aload_n 0, 1) := dok_at gdX4_noteUse_l0 9 rfl
theorem dX4_noteUse_17 : decode cX4_noteUse 17 = .ok (.getfield 88, 3) := dok_at gdX4_noteUse_l0 10 rfl
theorem dX4_noteUse_20 : decode cX4_noteUse 20 = .ok (.iastore, 1) := dok_at gdX4_noteUse_l0 11 rfl
theorem dX4_noteUse_21 : decode cX4_noteUse 21 = .ok (.return_, 1) := dok_at gdX4_noteUse_l0 12 rfl
def dX4_findNotTold_l0 : List (Nat × Instr × Nat) := [(0, .sipush 400, 3), (3, .istore_n 1, 1), (4, .aload_n 0, 1), (5, .getfield 15, 3), (8, .getfield 138, 3), (11, .istore_n 2, 1), (12, .iload_n 2, 1), (13, .bipush 8, 2), (15, .if_icmp .ge 31, 3), (18, .aload_n 0, 1), (19, .getfield 19, 3), (22, .iload_n 2, 1), (23, .iaload, 1), (24, .bipush (-4), 2), (26, .if_icmp .eq 14, 3), (29, .iload_n 1, 1), (30, .aload_n 0, 1), (31, .getfield 19, 3), (34, .iload_n 2, 1), (35, .iaload, 1), (36, .invokestatic 211, 3), (39, .istore_n 1, 1), (40, .iinc 2 1, 3), (43, .goto (-31), 3)]
theorem gdX4_findNotTold_l0 : dok cX4_findNotTold dX4_findNotTold_l0 = true := by decide +kernel
theorem dX4_findNotTold_0 : decode cX4_findNotTold 0 = .ok (.sipush 400, 3) := dok_at gdX4_findNotTold_l0 0 rfl
theorem dX4_findNotTold_3 : decode cX4_findNotTold 3 = .ok (.istore_n 1, 1) := dok_at gdX4_findNotTold_l0 1 rfl
theorem dX4_findNotTold_4 : decode cX4_findNotTold 4 = .ok (.aload_n 0, 1) := dok_at gdX4_findNotTold_l0 2 rfl
theorem dX4_findNotTold_5 : decode cX4_findNotTold 5 = .ok (.getfield 15, 3) := dok_at gdX4_findNotTold_l0 3 rfl
theorem dX4_findNotTold_8 : decode cX4_findNotTold 8 = .ok (.getfield 138, 3) := dok_at gdX4_findNotTold_l0 4 rfl
theorem dX4_findNotTold_11 : decode cX4_findNotTold 11 = .ok (.istore_n 2, 1) := dok_at gdX4_findNotTold_l0 5 rfl
theorem dX4_findNotTold_12 : decode cX4_findNotTold 12 = .ok (.iload_n 2, 1) := dok_at gdX4_findNotTold_l0 6 rfl
theorem dX4_findNotTold_13 : decode cX4_findNotTold 13 = .ok (.bipush 8, 2) := dok_at gdX4_findNotTold_l0 7 rfl
theorem dX4_findNotTold_15 : decode cX4_findNotTold 15 = .ok (.if_icmp .ge 31, 3) := dok_at gdX4_findNotTold_l0 8 rfl
theorem dX4_findNotTold_18 : decode cX4_findNotTold 18 = .ok (.aload_n 0, 1) := dok_at gdX4_findNotTold_l0 9 rfl
theorem dX4_findNotTold_19 : decode cX4_findNotTold 19 = .ok (.getfield 19, 3) := dok_at gdX4_findNotTold_l0 10 rfl
theorem dX4_findNotTold_22 : decode cX4_findNotTold 22 = .ok (.iload_n 2, 1) := dok_at gdX4_findNotTold_l0 11 rfl
theorem dX4_findNotTold_23 : decode cX4_findNotTold 23 = .ok (.iaload, 1) := dok_at gdX4_findNotTold_l0 12 rfl
theorem dX4_findNotTold_24 : decode cX4_findNotTold 24 = .ok (.bipush (-4), 2) := dok_at gdX4_findNotTold_l0 13 rfl
theorem dX4_findNotTold_26 : decode cX4_findNotTold 26 = .ok (.if_icmp .eq 14, 3) := dok_at gdX4_findNotTold_l0 14 rfl
theorem dX4_findNotTold_29 : decode cX4_findNotTold 29 = .ok (.iload_n 1, 1) := dok_at gdX4_findNotTold_l0 15 rfl
theorem dX4_findNotTold_30 : decode cX4_findNotTold 30 = .ok (.aload_n 0, 1) := dok_at gdX4_findNotTold_l0 16 rfl
theorem dX4_findNotTold_31 : decode cX4_findNotTold 31 = .ok (.getfield 19, 3) := dok_at gdX4_findNotTold_l0 17 rfl
theorem dX4_findNotTold_34 : decode cX4_findNotTold 34 = .ok (.iload_n 2, 1) := dok_at gdX4_findNotTold_l0 18 rfl
theorem dX4_findNotTold_35 : decode cX4_findNotTold 35 = .ok (.iaload, 1) := dok_at gdX4_findNotTold_l0 19 rfl
theorem dX4_findNotTold_36 : decode cX4_findNotTold 36 = .ok (.invokestatic 211, 3) := dok_at gdX4_findNotTold_l0 20 rfl
theorem dX4_findNotTold_39 : decode cX4_findNotTold 39 = .ok (.istore_n 1, 1) := dok_at gdX4_findNotTold_l0 21 rfl
theorem dX4_findNotTold_40 : decode cX4_findNotTold 40 = .ok (.iinc 2 1, 3) := dok_at gdX4_findNotTold_l0 22 rfl
theorem dX4_findNotTold_43 : decode cX4_findNotTold 43 = .ok (.goto (-31), 3) := dok_at gdX4_findNotTold_l0 23 rfl
def dX4_findNotTold_l46 : List (Nat × Instr × Nat) := [(46, .iload_n 1, 1), (47, .sipush 400, 3), (50, .if_icmp .ge 10, 3), (53, .aload_n 0, 1), (54, .bipush 6, 2), (56, .iload_n 1, 1), (57, .invokevirtual 101, 3), (60, .return_, 1)]
theorem gdX4_findNotTold_l46 : dok cX4_findNotTold dX4_findNotTold_l46 = true := by decide +kernel
theorem dX4_findNotTold_46 : decode cX4_findNotTold 46 = .ok (.iload_n 1, 1) := dok_at gdX4_findNotTold_l46 0 rfl
theorem dX4_findNotTold_47 : decode cX4_findNotTold 47 = .ok (.sipush 400, 3) := dok_at gdX4_findNotTold_l46 1 rfl
theorem dX4_findNotTold_50 : decode cX4_findNotTold 50 = .ok (.if_icmp .ge 10, 3) := dok_at gdX4_findNotTold_l46 2 rfl
theorem dX4_findNotTold_53 : decode cX4_findNotTold 53 = .ok (.aload_n 0, 1) := dok_at gdX4_findNotTold_l46 3 rfl
theorem dX4_findNotTold_54 : decode cX4_findNotTold 54 = .ok (.bipush 6, 2) := dok_at gdX4_findNotTold_l46 4 rfl
theorem dX4_findNotTold_56 : decode cX4_findNotTold 56 = .ok (.iload_n 1, 1) := dok_at gdX4_findNotTold_l46 5 rfl
theorem dX4_findNotTold_57 : decode cX4_findNotTold 57 = .ok (.invokevirtual 101, 3) := dok_at gdX4_findNotTold_l46 6 rfl
theorem dX4_findNotTold_60 : decode cX4_findNotTold 60 = .ok (.return_, 1) := dok_at gdX4_findNotTold_l46 7 rfl
def dX5_init_l0 : List (Nat × Instr × Nat) := [(0, .aload_n 0, 1), (1, .invokespecial 3, 3), (4, .aload_n 0, 1), (5, .new 9, 3), (8, .dup, 1), (9, .invokespecial 11, 3), (12, .putfield 12, 3), (15, .aload_n 0, 1), (16, .bipush 8, 2), (18, .newarray .int, 2), (20, .putfield 18, 3), (23, .aload_n 0, 1), (24, .bipush 8, 2), (26, .newarray .int, 2), (28, .putfield 22, 3), (31, .aload_n 0, 1), (32, .bipush 8, 2), (34, .newarray .int, 2), (36, .putfield 25, 3), (39, .aload_n 0, 1), (40, .bipush 8, 2), (42, .newarray .int, 2), (44, .putfield 28, 3), (47, .aload_n 0, 1)]
theorem gdX5_init_l0 : dok cX5_init dX5_init_l0 = true := by decide +kernel
theorem dX5_init_0 : decode cX5_init 0 = .ok (.aload_n 0, 1) := dok_at gdX5_init_l0 0 rfl
theorem dX5_init_1 : decode cX5_init 1 = .ok (.invokespecial 3, 3) := dok_at gdX5_init_l0 1 rfl
theorem dX5_init_4 : decode cX5_init 4 = .ok (.aload_n 0, 1) := dok_at gdX5_init_l0 2 rfl
theorem dX5_init_5 : decode cX5_init 5 = .ok (.new 9, 3) := dok_at gdX5_init_l0 3 rfl
theorem dX5_init_8 : decode cX5_init 8 = .ok (.dup, 1) := dok_at gdX5_init_l0 4 rfl
theorem dX5_init_9 : decode cX5_init 9 = .ok (.invokespecial 11, 3) := dok_at gdX5_init_l0 5 rfl
theorem dX5_init_12 : decode cX5_init 12 = .ok (.putfield 12, 3) := dok_at gdX5_init_l0 6 rfl
theorem dX5_init_15 : decode cX5_init 15 = .ok (.aload_n 0, 1) := dok_at gdX5_init_l0 7 rfl
theorem dX5_init_16 : decode cX5_init 16 = .ok (.bipush 8, 2) := dok_at gdX5_init_l0 8 rfl
theorem dX5_init_18 : decode cX5_init 18 = .ok (.newarray .int, 2) := dok_at gdX5_init_l0 9 rfl
theorem dX5_init_20 : decode cX5_init 20 = .ok (.putfield 18, 3) := dok_at gdX5_init_l0 10 rfl
theorem dX5_init_23 : decode cX5_init 23 = .ok (.aload_n 0, 1) := dok_at gdX5_init_l0 11 rfl
theorem dX5_init_24 : decode cX5_init 24 = .ok (.bipush 8, 2) := dok_at gdX5_init_l0 12 rfl
theorem dX5_init_26 : decode cX5_init 26 = .ok (.newarray .int, 2) := dok_at gdX5_init_l0 13 rfl
theorem dX5_init_28 : decode cX5_init 28 = .ok (.putfield 22, 3) := dok_at gdX5_init_l0 14 rfl
theorem dX5_init_31 : decode cX5_init 31 = .ok (.aload_n 0, 1) := dok_at gdX5_init_l0 15 rfl
theorem dX5_init_32 : decode cX5_init 32 = .ok (.bipush 8, 2) := dok_at gdX5_init_l0 16 rfl
theorem dX5_init_34 : decode cX5_init 34 = .ok (.newarray .int, 2) := dok_at gdX5_init_l0 17 rfl
theorem dX5_init_36 : decode cX5_init 36 = .ok (.putfield 25, 3) := dok_at gdX5_init_l0 18 rfl
theorem dX5_init_39 : decode cX5_init 39 = .ok (.aload_n 0, 1) := dok_at gdX5_init_l0 19 rfl
theorem dX5_init_40 : decode cX5_init 40 = .ok (.bipush 8, 2) := dok_at gdX5_init_l0 20 rfl
theorem dX5_init_42 : decode cX5_init 42 = .ok (.newarray .int, 2) := dok_at gdX5_init_l0 21 rfl
theorem dX5_init_44 : decode cX5_init 44 = .ok (.putfield 28, 3) := dok_at gdX5_init_l0 22 rfl
theorem dX5_init_47 : decode cX5_init 47 = .ok (.aload_n 0, 1) := dok_at gdX5_init_l0 23 rfl
def dX5_init_l48 : List (Nat × Instr × Nat) := [(48, .bipush 8, 2), (50, .newarray .int, 2), (52, .putfield 31, 3), (55, .aload_n 0, 1), (56, .iconst 0, 1), (57, .putfield 34, 3), (60, .aload_n 0, 1), (61, .iconst 0, 1), (62, .putfield 38, 3), (65, .return_, 1)]
theorem gdX5_init_l48 : dok cX5_init dX5_init_l48 = true := by decide +kernel
theorem dX5_init_48 : decode cX5_init 48 = .ok (.bipush 8, 2) := dok_at gdX5_init_l48 0 rfl
theorem dX5_init_50 : decode cX5_init 50 = .ok (.newarray .int, 2) := dok_at gdX5_init_l48 1 rfl
theorem dX5_init_52 : decode cX5_init 52 = .ok (.putfield 31, 3) := dok_at gdX5_init_l48 2 rfl
theorem dX5_init_55 : decode cX5_init 55 = .ok (.aload_n 0, 1) := dok_at gdX5_init_l48 3 rfl
theorem dX5_init_56 : decode cX5_init 56 = .ok (.iconst 0, 1) := dok_at gdX5_init_l48 4 rfl
theorem dX5_init_57 : decode cX5_init 57 = .ok (.putfield 34, 3) := dok_at gdX5_init_l48 5 rfl
theorem dX5_init_60 : decode cX5_init 60 = .ok (.aload_n 0, 1) := dok_at gdX5_init_l48 6 rfl
theorem dX5_init_61 : decode cX5_init 61 = .ok (.iconst 0, 1) := dok_at gdX5_init_l48 7 rfl
theorem dX5_init_62 : decode cX5_init 62 = .ok (.putfield 38, 3) := dok_at gdX5_init_l48 8 rfl
theorem dX5_init_65 : decode cX5_init 65 = .ok (.return_, 1) := dok_at gdX5_init_l48 9 rfl
def dX5_reset_l0 : List (Nat × Instr × Nat) := [(0, .aload_n 0, 1), (1, .getfield 12, 3), (4, .iconst 0, 1), (5, .putfield 42, 3), (8, .iconst 0, 1), (9, .istore_n 2, 1), (10, .iload_n 2, 1), (11, .bipush 8, 2), (13, .if_icmp .ge 49, 3), (16, .aload_n 0, 1), (17, .getfield 18, 3), (20, .iload_n 2, 1), (21, .iconst 0, 1), (22, .iastore, 1), (23, .aload_n 0, 1), (24, .getfield 22, 3), (27, .iload_n 2, 1), (28, .iconst 0, 1), (29, .iastore, 1), (30, .aload_n 0, 1), (31, .getfield 25, 3), (34, .iload_n 2, 1), (35, .iconst 0, 1), (36, .iastore, 1)]
theorem gdX5_reset_l0 : dok cX5_reset dX5_reset_l0 = true := by decide +kernel
theorem dX5_reset_0 : decode cX5_reset 0 = .ok (.aload_n 0, 1) := dok_at gdX5_reset_l0 0 rfl
theorem dX5_reset_1 : decode cX5_reset 1 = .ok (.getfield 12, 3) := dok_at gdX5_reset_l0 1 rfl
theorem dX5_reset_4 : decode cX5_reset 4 = .ok (.iconst 0, 1) := dok_at gdX5_reset_l0 2 rfl
theorem dX5_reset_5 : decode cX5_reset 5 = .ok (.putfield 42, 3) := dok_at gdX5_reset_l0 3 rfl
theorem dX5_reset_8 : decode cX5_reset 8 = .ok (.iconst 0, 1) := dok_at gdX5_reset_l0 4 rfl
theorem dX5_reset_9 : decode cX5_reset 9 = .ok (.istore_n 2, 1) := dok_at gdX5_reset_l0 5 rfl
theorem dX5_reset_10 : decode cX5_reset 10 = .ok (.iload_n 2, 1) := dok_at gdX5_reset_l0 6 rfl
theorem dX5_reset_11 : decode cX5_reset 11 = .ok (.bipush 8, 2) := dok_at gdX5_reset_l0 7 rfl
theorem dX5_reset_13 : decode cX5_reset 13 = .ok (.if_icmp .ge 49, 3) := dok_at gdX5_reset_l0 8 rfl
theorem dX5_reset_16 : decode cX5_reset 16 = .ok (.aload_n 0, 1) := dok_at gdX5_reset_l0 9 rfl
theorem dX5_reset_17 : decode cX5_reset 17 = .ok (.getfield 18, 3) := dok_at gdX5_reset_l0 10 rfl
theorem dX5_reset_20 : decode cX5_reset 20 = .ok (.iload_n 2, 1) := dok_at gdX5_reset_l0 11 rfl
theorem dX5_reset_21 : decode cX5_reset 21 = .ok (.iconst 0, 1) := dok_at gdX5_reset_l0 12 rfl
theorem dX5_reset_22 : decode cX5_reset 22 = .ok (.iastore, 1) := dok_at gdX5_reset_l0 13 rfl
theorem dX5_reset_23 : decode cX5_reset 23 = .ok (.aload_n 0, 1) := dok_at gdX5_reset_l0 14 rfl
theorem dX5_reset_24 : decode cX5_reset 24 = .ok (.getfield 22, 3) := dok_at gdX5_reset_l0 15 rfl
theorem dX5_reset_27 : decode cX5_reset 27 = .ok (.iload_n 2, 1) := dok_at gdX5_reset_l0 16 rfl
theorem dX5_reset_28 : decode cX5_reset 28 = .ok (.iconst 0, 1) := dok_at gdX5_reset_l0 17 rfl
theorem dX5_reset_29 : decode cX5_reset 29 = .ok (.iastore, 1) := dok_at gdX5_reset_l0 18 rfl
theorem dX5_reset_30 : decode cX5_reset 30 = .ok (.aload_n 0, 1) := dok_at gdX5_reset_l0 19 rfl
theorem dX5_reset_31 : decode cX5_reset 31 = .ok (.getfield 25, 3) := dok_at gdX5_reset_l0 20 rfl
theorem dX5_reset_34 : decode cX5_reset 34 = .ok (.iload_n 2, 1) := dok_at gdX5_reset_l0 21 rfl
theorem dX5_reset_35 : decode cX5_reset 35 = .ok (.iconst 0, 1) := dok_at gdX5_reset_l0 22 rfl
theorem dX5_reset_36 : decode cX5_reset 36 = .ok (.iastore, 1) := dok_at gdX5_reset_l0 23 rfl
def dX5_reset_l37 : List (Nat × Instr × Nat) := [(37, .aload_n 0, 1), (38, .getfield 28, 3), (41, .iload_n 2, 1), (42, .aload_n 1, 1), (43, .iload_n 2, 1), (44, .iconst 0, 1), (45, .invokevirtual 47, 3), (48, .iastore, 1), (49, .aload_n 0, 1), (50, .getfield 31, 3), (53, .iload_n 2, 1), (54, .iconst 0, 1), (55, .iastore, 1), (56, .iinc 2 1, 3), (59, .goto (-49), 3), (62, .aload_n 0, 1), (63, .iconst 0, 1), (64, .putfield 34, 3), (67, .aload_n 0, 1), (68, .iconst 0, 1), (69, .putfield 38, 3), (72, .aload_n 0, 1), (73, .iconst 0, 1), (74, .putfield 51, 3)]
theorem gdX5_reset_l37 : dok cX5_reset dX5_reset_l37 = true := by decide +kernel
theorem dX5_reset_37 : decode cX5_reset 37 = .ok (.aload_n 0, 1) := dok_at gdX5_reset_l37 0 rfl
theorem dX5_reset_38 : decode cX5_reset 38 = .ok (.getfield 28, 3) := dok_at gdX5_reset_l37 1 rfl
theorem dX5_reset_41 : decode cX5_reset 41 = .ok (.iload_n 2, 1) := dok_at gdX5_reset_l37 2 rfl
theorem dX5_reset_42 : decode cX5_reset 42 = .ok (.aload_n 1, 1) := dok_at gdX5_reset_l37 3 rfl
theorem dX5_reset_43 : decode cX5_reset 43 = .ok (.iload_n 2, 1) := dok_at gdX5_reset_l37 4 rfl
theorem dX5_reset_44 : decode cX5_reset 44 = .ok (.iconst 0, 1) := dok_at gdX5_reset_l37 5 rfl
theorem dX5_reset_45 : decode cX5_reset 45 = .ok (.invokevirtual 47, 3) := dok_at gdX5_reset_l37 6 rfl
theorem dX5_reset_48 : decode cX5_reset 48 = .ok (.iastore, 1) := dok_at gdX5_reset_l37 7 rfl
theorem dX5_reset_49 : decode cX5_reset 49 = .ok (.aload_n 0, 1) := dok_at gdX5_reset_l37 8 rfl
theorem dX5_reset_50 : decode cX5_reset 50 = .ok (.getfield 31, 3) := dok_at gdX5_reset_l37 9 rfl
theorem dX5_reset_53 : decode cX5_reset 53 = .ok (.iload_n 2, 1) := dok_at gdX5_reset_l37 10 rfl
theorem dX5_reset_54 : decode cX5_reset 54 = .ok (.iconst 0, 1) := dok_at gdX5_reset_l37 11 rfl
theorem dX5_reset_55 : decode cX5_reset 55 = .ok (.iastore, 1) := dok_at gdX5_reset_l37 12 rfl
theorem dX5_reset_56 : decode cX5_reset 56 = .ok (.iinc 2 1, 3) := dok_at gdX5_reset_l37 13 rfl
theorem dX5_reset_59 : decode cX5_reset 59 = .ok (.goto (-49), 3) := dok_at gdX5_reset_l37 14 rfl
theorem dX5_reset_62 : decode cX5_reset 62 = .ok (.aload_n 0, 1) := dok_at gdX5_reset_l37 15 rfl
theorem dX5_reset_63 : decode cX5_reset 63 = .ok (.iconst 0, 1) := dok_at gdX5_reset_l37 16 rfl
theorem dX5_reset_64 : decode cX5_reset 64 = .ok (.putfield 34, 3) := dok_at gdX5_reset_l37 17 rfl
theorem dX5_reset_67 : decode cX5_reset 67 = .ok (.aload_n 0, 1) := dok_at gdX5_reset_l37 18 rfl
theorem dX5_reset_68 : decode cX5_reset 68 = .ok (.iconst 0, 1) := dok_at gdX5_reset_l37 19 rfl
theorem dX5_reset_69 : decode cX5_reset 69 = .ok (.putfield 38, 3) := dok_at gdX5_reset_l37 20 rfl
theorem dX5_reset_72 : decode cX5_reset 72 = .ok (.aload_n 0, 1) := dok_at gdX5_reset_l37 21 rfl
theorem dX5_reset_73 : decode cX5_reset 73 = .ok (.iconst 0, 1) := dok_at gdX5_reset_l37 22 rfl
theorem dX5_reset_74 : decode cX5_reset 74 = .ok (.putfield 51, 3) := dok_at gdX5_reset_l37 23 rfl
def dX5_reset_l77 : List (Nat × Instr × Nat) := [(77, .aload_n 0, 1), (78, .iconst 0, 1), (79, .putfield 54, 3), (82, .aload_n 0, 1), (83, .aload_n 1, 1), (84, .getfield 57, 3), (87, .putfield 60, 3), (90, .aload_n 0, 1), (91, .iconst 0, 1), (92, .putfield 63, 3), (95, .aload_n 0, 1), (96, .iconst 0, 1), (97, .putfield 66, 3), (100, .aload_n 0, 1), (101, .iconst 0, 1), (102, .putfield 69, 3), (105, .return_, 1)]
theorem gdX5_reset_l77 : dok cX5_reset dX5_reset_l77 = true := by decide +kernel
theorem dX5_reset_77 : decode cX5_reset 77 = .ok (.aload_n 0, 1) := dok_at gdX5_reset_l77 0 rfl
theorem dX5_reset_78 : decode cX5_reset 78 = .ok (.iconst 0, 1) := dok_at gdX5_reset_l77 1 rfl
theorem dX5_reset_79 : decode cX5_reset 79 = .ok (.putfield 54, 3) := dok_at gdX5_reset_l77 2 rfl
theorem dX5_reset_82 : decode cX5_reset 82 = .ok (.aload_n 0, 1) := dok_at gdX5_reset_l77 3 rfl
theorem dX5_reset_83 : decode cX5_reset 83 = .ok (.aload_n 1, 1) := dok_at gdX5_reset_l77 4 rfl
theorem dX5_reset_84 : decode cX5_reset 84 = .ok (.getfield 57, 3) := dok_at gdX5_reset_l77 5 rfl
theorem dX5_reset_87 : decode cX5_reset 87 = .ok (.putfield 60, 3) := dok_at gdX5_reset_l77 6 rfl
theorem dX5_reset_90 : decode cX5_reset 90 = .ok (.aload_n 0, 1) := dok_at gdX5_reset_l77 7 rfl
theorem dX5_reset_91 : decode cX5_reset 91 = .ok (.iconst 0, 1) := dok_at gdX5_reset_l77 8 rfl
theorem dX5_reset_92 : decode cX5_reset 92 = .ok (.putfield 63, 3) := dok_at gdX5_reset_l77 9 rfl
theorem dX5_reset_95 : decode cX5_reset 95 = .ok (.aload_n 0, 1) := dok_at gdX5_reset_l77 10 rfl
theorem dX5_reset_96 : decode cX5_reset 96 = .ok (.iconst 0, 1) := dok_at gdX5_reset_l77 11 rfl
theorem dX5_reset_97 : decode cX5_reset 97 = .ok (.putfield 66, 3) := dok_at gdX5_reset_l77 12 rfl
theorem dX5_reset_100 : decode cX5_reset 100 = .ok (.aload_n 0, 1) := dok_at gdX5_reset_l77 13 rfl
theorem dX5_reset_101 : decode cX5_reset 101 = .ok (.iconst 0, 1) := dok_at gdX5_reset_l77 14 rfl
theorem dX5_reset_102 : decode cX5_reset 102 = .ok (.putfield 69, 3) := dok_at gdX5_reset_l77 15 rfl
theorem dX5_reset_105 : decode cX5_reset 105 = .ok (.return_, 1) := dok_at gdX5_reset_l77 16 rfl
def dX5_turnKey_l0 : List (Nat × Instr × Nat) := [(0, .aload_n 0, 1), (1, .iload_n 2, 1), (2, .putfield 38, 3), (5, .iload_n 2, 1), (6, .ifCond .ne 25, 3), (9, .aload_n 0, 1), (10, .aload_n 1, 1), (11, .getfield 57, 3), (14, .putfield 60, 3), (17, .aload_n 0, 1), (18, .getfield 54, 3), (21, .bipush (-4), 2), (23, .if_icmp .ne 8, 3), (26, .aload_n 0, 1), (27, .iconst 0, 1), (28, .putfield 54, 3), (31, .return_, 1)]
theorem gdX5_turnKey_l0 : dok cX5_turnKey dX5_turnKey_l0 = true := by decide +kernel
theorem dX5_turnKey_0 : decode cX5_turnKey 0 = .ok (.aload_n 0, 1) := dok_at gdX5_turnKey_l0 0 rfl
theorem dX5_turnKey_1 : decode cX5_turnKey 1 = .ok (.iload_n 2, 1) := dok_at gdX5_turnKey_l0 1 rfl
theorem dX5_turnKey_2 : decode cX5_turnKey 2 = .ok (.putfield 38, 3) := dok_at gdX5_turnKey_l0 2 rfl
theorem dX5_turnKey_5 : decode cX5_turnKey 5 = .ok (.iload_n 2, 1) := dok_at gdX5_turnKey_l0 3 rfl
theorem dX5_turnKey_6 : decode cX5_turnKey 6 = .ok (.ifCond .ne 25, 3) := dok_at gdX5_turnKey_l0 4 rfl
theorem dX5_turnKey_9 : decode cX5_turnKey 9 = .ok (.aload_n 0, 1) := dok_at gdX5_turnKey_l0 5 rfl
theorem dX5_turnKey_10 : decode cX5_turnKey 10 = .ok (.aload_n 1, 1) := dok_at gdX5_turnKey_l0 6 rfl
theorem dX5_turnKey_11 : decode cX5_turnKey 11 = .ok (.getfield 57, 3) := dok_at gdX5_turnKey_l0 7 rfl
theorem dX5_turnKey_14 : decode cX5_turnKey 14 = .ok (.putfield 60, 3) := dok_at gdX5_turnKey_l0 8 rfl
theorem dX5_turnKey_17 : decode cX5_turnKey 17 = .ok (.aload_n 0, 1) := dok_at gdX5_turnKey_l0 9 rfl
theorem dX5_turnKey_18 : decode cX5_turnKey 18 = .ok (.getfield 54, 3) := dok_at gdX5_turnKey_l0 10 rfl
theorem dX5_turnKey_21 : decode cX5_turnKey 21 = .ok (.bipush (-4), 2) := dok_at gdX5_turnKey_l0 11 rfl
theorem dX5_turnKey_23 : decode cX5_turnKey 23 = .ok (.if_icmp .ne 8, 3) := dok_at gdX5_turnKey_l0 12 rfl
theorem dX5_turnKey_26 : decode cX5_turnKey 26 = .ok (.aload_n 0, 1) := dok_at gdX5_turnKey_l0 13 rfl
theorem dX5_turnKey_27 : decode cX5_turnKey 27 = .ok (.iconst 0, 1) := dok_at gdX5_turnKey_l0 14 rfl
theorem dX5_turnKey_28 : decode cX5_turnKey 28 = .ok (.putfield 54, 3) := dok_at gdX5_turnKey_l0 15 rfl
theorem dX5_turnKey_31 : decode cX5_turnKey 31 = .ok (.return_, 1) := dok_at gdX5_turnKey_l0 16 rfl
def dX5_railsThatAre_l0 : List (Nat × Instr × Nat) := [(0, .iconst 0, 1), (1, .istore_n 2, 1), (2, .iconst 0, 1), (3, .istore_n 3, 1), (4, .iload_n 3, 1), (5, .bipush 8, 2), (7, .if_icmp .ge 25, 3), (10, .aload_n 0, 1), (11, .getfield 18, 3), (14, .iload_n 3, 1), (15, .iaload, 1), (16, .iload_n 1, 1), (17, .if_icmp .ne 9, 3), (20, .iload_n 2, 1), (21, .iconst 1, 1), (22, .iload_n 3, 1), (23, .ishl, 1), (24, .ior, 1), (25, .istore_n 2, 1), (26, .iinc 3 1, 3), (29, .goto (-25), 3), (32, .iload_n 2, 1), (33, .ireturn, 1)]
theorem gdX5_railsThatAre_l0 : dok cX5_railsThatAre dX5_railsThatAre_l0 = true := by decide +kernel
theorem dX5_railsThatAre_0 : decode cX5_railsThatAre 0 = .ok (.iconst 0, 1) := dok_at gdX5_railsThatAre_l0 0 rfl
theorem dX5_railsThatAre_1 : decode cX5_railsThatAre 1 = .ok (.istore_n 2, 1) := dok_at gdX5_railsThatAre_l0 1 rfl
theorem dX5_railsThatAre_2 : decode cX5_railsThatAre 2 = .ok (.iconst 0, 1) := dok_at gdX5_railsThatAre_l0 2 rfl
theorem dX5_railsThatAre_3 : decode cX5_railsThatAre 3 = .ok (.istore_n 3, 1) := dok_at gdX5_railsThatAre_l0 3 rfl
theorem dX5_railsThatAre_4 : decode cX5_railsThatAre 4 = .ok (.iload_n 3, 1) := dok_at gdX5_railsThatAre_l0 4 rfl
theorem dX5_railsThatAre_5 : decode cX5_railsThatAre 5 = .ok (.bipush 8, 2) := dok_at gdX5_railsThatAre_l0 5 rfl
theorem dX5_railsThatAre_7 : decode cX5_railsThatAre 7 = .ok (.if_icmp .ge 25, 3) := dok_at gdX5_railsThatAre_l0 6 rfl
theorem dX5_railsThatAre_10 : decode cX5_railsThatAre 10 = .ok (.aload_n 0, 1) := dok_at gdX5_railsThatAre_l0 7 rfl
theorem dX5_railsThatAre_11 : decode cX5_railsThatAre 11 = .ok (.getfield 18, 3) := dok_at gdX5_railsThatAre_l0 8 rfl
theorem dX5_railsThatAre_14 : decode cX5_railsThatAre 14 = .ok (.iload_n 3, 1) := dok_at gdX5_railsThatAre_l0 9 rfl
theorem dX5_railsThatAre_15 : decode cX5_railsThatAre 15 = .ok (.iaload, 1) := dok_at gdX5_railsThatAre_l0 10 rfl
theorem dX5_railsThatAre_16 : decode cX5_railsThatAre 16 = .ok (.iload_n 1, 1) := dok_at gdX5_railsThatAre_l0 11 rfl
theorem dX5_railsThatAre_17 : decode cX5_railsThatAre 17 = .ok (.if_icmp .ne 9, 3) := dok_at gdX5_railsThatAre_l0 12 rfl
theorem dX5_railsThatAre_20 : decode cX5_railsThatAre 20 = .ok (.iload_n 2, 1) := dok_at gdX5_railsThatAre_l0 13 rfl
theorem dX5_railsThatAre_21 : decode cX5_railsThatAre 21 = .ok (.iconst 1, 1) := dok_at gdX5_railsThatAre_l0 14 rfl
theorem dX5_railsThatAre_22 : decode cX5_railsThatAre 22 = .ok (.iload_n 3, 1) := dok_at gdX5_railsThatAre_l0 15 rfl
theorem dX5_railsThatAre_23 : decode cX5_railsThatAre 23 = .ok (.ishl, 1) := dok_at gdX5_railsThatAre_l0 16 rfl
theorem dX5_railsThatAre_24 : decode cX5_railsThatAre 24 = .ok (.ior, 1) := dok_at gdX5_railsThatAre_l0 17 rfl
theorem dX5_railsThatAre_25 : decode cX5_railsThatAre 25 = .ok (.istore_n 2, 1) := dok_at gdX5_railsThatAre_l0 18 rfl
theorem dX5_railsThatAre_26 : decode cX5_railsThatAre 26 = .ok (.iinc 3 1, 3) := dok_at gdX5_railsThatAre_l0 19 rfl
theorem dX5_railsThatAre_29 : decode cX5_railsThatAre 29 = .ok (.goto (-25), 3) := dok_at gdX5_railsThatAre_l0 20 rfl
theorem dX5_railsThatAre_32 : decode cX5_railsThatAre 32 = .ok (.iload_n 2, 1) := dok_at gdX5_railsThatAre_l0 21 rfl
theorem dX5_railsThatAre_33 : decode cX5_railsThatAre 33 = .ok (.ireturn, 1) := dok_at gdX5_railsThatAre_l0 22 rfl
def dX5_passTick_l0 : List (Nat × Instr × Nat) := [(0, .aload_n 0, 1), (1, .aload_n 1, 1), (2, .invokevirtual 72, 3), (5, .aload_n 0, 1), (6, .aload_n 0, 1), (7, .aload_n 1, 1), (8, .invokevirtual 76, 3), (11, .putfield 66, 3), (14, .aload_n 0, 1), (15, .aload_n 0, 1), (16, .getfield 69, 3), (19, .aload_n 0, 1), (20, .getfield 66, 3), (23, .invokestatic 80, 3), (26, .putfield 69, 3), (29, .aload_n 0, 1), (30, .aload_n 1, 1), (31, .invokevirtual 85, 3), (34, .istore_n 2, 1), (35, .iload_n 2, 1), (36, .ifCond .eq 14, 3), (39, .aload_n 0, 1), (40, .aload_n 1, 1), (41, .iload_n 2, 1)]
theorem gdX5_passTick_l0 : dok cX5_passTick dX5_passTick_l0 = true := by decide +kernel
theorem dX5_passTick_0 : decode cX5_passTick 0 = .ok (.aload_n 0, 1) := dok_at gdX5_passTick_l0 0 rfl
theorem dX5_passTick_1 : decode cX5_passTick 1 = .ok (.aload_n 1, 1) := dok_at gdX5_passTick_l0 1 rfl
theorem dX5_passTick_2 : decode cX5_passTick 2 = .ok (.invokevirtual 72, 3) := dok_at gdX5_passTick_l0 2 rfl
theorem dX5_passTick_5 : decode cX5_passTick 5 = .ok (.aload_n 0, 1) := dok_at gdX5_passTick_l0 3 rfl
theorem dX5_passTick_6 : decode cX5_passTick 6 = .ok (.aload_n 0, 1) := dok_at gdX5_passTick_l0 4 rfl
theorem dX5_passTick_7 : decode cX5_passTick 7 = .ok (.aload_n 1, 1) := dok_at gdX5_passTick_l0 5 rfl
theorem dX5_passTick_8 : decode cX5_passTick 8 = .ok (.invokevirtual 76, 3) := dok_at gdX5_passTick_l0 6 rfl
theorem dX5_passTick_11 : decode cX5_passTick 11 = .ok (.putfield 66, 3) := dok_at gdX5_passTick_l0 7 rfl
theorem dX5_passTick_14 : decode cX5_passTick 14 = .ok (.aload_n 0, 1) := dok_at gdX5_passTick_l0 8 rfl
theorem dX5_passTick_15 : decode cX5_passTick 15 = .ok (.aload_n 0, 1) := dok_at gdX5_passTick_l0 9 rfl
theorem dX5_passTick_16 : decode cX5_passTick 16 = .ok (.getfield 69, 3) := dok_at gdX5_passTick_l0 10 rfl
theorem dX5_passTick_19 : decode cX5_passTick 19 = .ok (.aload_n 0, 1) := dok_at gdX5_passTick_l0 11 rfl
theorem dX5_passTick_20 : decode cX5_passTick 20 = .ok (.getfield 66, 3) := dok_at gdX5_passTick_l0 12 rfl
theorem dX5_passTick_23 : decode cX5_passTick 23 = .ok (.invokestatic 80, 3) := dok_at gdX5_passTick_l0 13 rfl
theorem dX5_passTick_26 : decode cX5_passTick 26 = .ok (.putfield 69, 3) := dok_at gdX5_passTick_l0 14 rfl
theorem dX5_passTick_29 : decode cX5_passTick 29 = .ok (.aload_n 0, 1) := dok_at gdX5_passTick_l0 15 rfl
theorem dX5_passTick_30 : decode cX5_passTick 30 = .ok (.aload_n 1, 1) := dok_at gdX5_passTick_l0 16 rfl
theorem dX5_passTick_31 : decode cX5_passTick 31 = .ok (.invokevirtual 85, 3) := dok_at gdX5_passTick_l0 17 rfl
theorem dX5_passTick_34 : decode cX5_passTick 34 = .ok (.istore_n 2, 1) := dok_at gdX5_passTick_l0 18 rfl
theorem dX5_passTick_35 : decode cX5_passTick 35 = .ok (.iload_n 2, 1) := dok_at gdX5_passTick_l0 19 rfl
theorem dX5_passTick_36 : decode cX5_passTick 36 = .ok (.ifCond .eq 14, 3) := dok_at gdX5_passTick_l0 20 rfl
theorem dX5_passTick_39 : decode cX5_passTick 39 = .ok (.aload_n 0, 1) := dok_at gdX5_passTick_l0 21 rfl
theorem dX5_passTick_40 : decode cX5_passTick 40 = .ok (.aload_n 1, 1) := dok_at gdX5_passTick_l0 22 rfl
theorem dX5_passTick_41 : decode cX5_passTick 41 = .ok (.iload_n 2, 1) := dok_at gdX5_passTick_l0 23 rfl
def dX5_passTick_l42 : List (Nat × Instr × Nat) := [(42, .invokevirtual 88, 3), (45, .aload_n 0, 1), (46, .aload_n 1, 1), (47, .invokevirtual 72, 3), (50, .aload_n 0, 1), (51, .aload_n 1, 1), (52, .invokevirtual 92, 3), (55, .return_, 1)]
theorem gdX5_passTick_l42 : dok cX5_passTick dX5_passTick_l42 = true := by decide +kernel
theorem dX5_passTick_42 : decode cX5_passTick 42 = .ok (.invokevirtual 88, 3) := dok_at gdX5_passTick_l42 0 rfl
theorem dX5_passTick_45 : decode cX5_passTick 45 = .ok (.aload_n 0, 1) := dok_at gdX5_passTick_l42 1 rfl
theorem dX5_passTick_46 : decode cX5_passTick 46 = .ok (.aload_n 1, 1) := dok_at gdX5_passTick_l42 2 rfl
theorem dX5_passTick_47 : decode cX5_passTick 47 = .ok (.invokevirtual 72, 3) := dok_at gdX5_passTick_l42 3 rfl
theorem dX5_passTick_50 : decode cX5_passTick 50 = .ok (.aload_n 0, 1) := dok_at gdX5_passTick_l42 4 rfl
theorem dX5_passTick_51 : decode cX5_passTick 51 = .ok (.aload_n 1, 1) := dok_at gdX5_passTick_l42 5 rfl
theorem dX5_passTick_52 : decode cX5_passTick 52 = .ok (.invokevirtual 92, 3) := dok_at gdX5_passTick_l42 6 rfl
theorem dX5_passTick_55 : decode cX5_passTick 55 = .ok (.return_, 1) := dok_at gdX5_passTick_l42 7 rfl
def dX5_settle_l0 : List (Nat × Instr × Nat) := [(0, .iconst 1, 1), (1, .istore_n 2, 1), (2, .iconst 0, 1), (3, .istore_n 3, 1), (4, .iload_n 3, 1), (5, .sipush 1000, 3), (8, .if_icmp .ge 24, 3), (11, .iload_n 2, 1), (12, .ifCond .eq 20, 3), (15, .aload_n 0, 1), (16, .aload_n 1, 1), (17, .aload_n 0, 1), (18, .aload_n 1, 1), (19, .invokevirtual 95, 3), (22, .invokevirtual 98, 3), (25, .istore_n 2, 1), (26, .iinc 3 1, 3), (29, .goto (-25), 3), (32, .return_, 1)]
theorem gdX5_settle_l0 : dok cX5_settle dX5_settle_l0 = true := by decide +kernel
theorem dX5_settle_0 : decode cX5_settle 0 = .ok (.iconst 1, 1) := dok_at gdX5_settle_l0 0 rfl
theorem dX5_settle_1 : decode cX5_settle 1 = .ok (.istore_n 2, 1) := dok_at gdX5_settle_l0 1 rfl
theorem dX5_settle_2 : decode cX5_settle 2 = .ok (.iconst 0, 1) := dok_at gdX5_settle_l0 2 rfl
theorem dX5_settle_3 : decode cX5_settle 3 = .ok (.istore_n 3, 1) := dok_at gdX5_settle_l0 3 rfl
theorem dX5_settle_4 : decode cX5_settle 4 = .ok (.iload_n 3, 1) := dok_at gdX5_settle_l0 4 rfl
theorem dX5_settle_5 : decode cX5_settle 5 = .ok (.sipush 1000, 3) := dok_at gdX5_settle_l0 5 rfl
theorem dX5_settle_8 : decode cX5_settle 8 = .ok (.if_icmp .ge 24, 3) := dok_at gdX5_settle_l0 6 rfl
theorem dX5_settle_11 : decode cX5_settle 11 = .ok (.iload_n 2, 1) := dok_at gdX5_settle_l0 7 rfl
theorem dX5_settle_12 : decode cX5_settle 12 = .ok (.ifCond .eq 20, 3) := dok_at gdX5_settle_l0 8 rfl
theorem dX5_settle_15 : decode cX5_settle 15 = .ok (.aload_n 0, 1) := dok_at gdX5_settle_l0 9 rfl
theorem dX5_settle_16 : decode cX5_settle 16 = .ok (.aload_n 1, 1) := dok_at gdX5_settle_l0 10 rfl
theorem dX5_settle_17 : decode cX5_settle 17 = .ok (.aload_n 0, 1) := dok_at gdX5_settle_l0 11 rfl
theorem dX5_settle_18 : decode cX5_settle 18 = .ok (.aload_n 1, 1) := dok_at gdX5_settle_l0 12 rfl
theorem dX5_settle_19 : decode cX5_settle 19 = .ok (.invokevirtual 95, 3) := dok_at gdX5_settle_l0 13 rfl
theorem dX5_settle_22 : decode cX5_settle 22 = .ok (.invokevirtual 98, 3) := dok_at gdX5_settle_l0 14 rfl
theorem dX5_settle_25 : decode cX5_settle 25 = .ok (.istore_n 2, 1) := dok_at gdX5_settle_l0 15 rfl
theorem dX5_settle_26 : decode cX5_settle 26 = .ok (.iinc 3 1, 3) := dok_at gdX5_settle_l0 16 rfl
theorem dX5_settle_29 : decode cX5_settle 29 = .ok (.goto (-25), 3) := dok_at gdX5_settle_l0 17 rfl
theorem dX5_settle_32 : decode cX5_settle 32 = .ok (.return_, 1) := dok_at gdX5_settle_l0 18 rfl
def dX5_railsThatMay_l0 : List (Nat × Instr × Nat) := [(0, .aload_n 0, 1), (1, .getfield 54, 3), (4, .ifCond .eq 5, 3), (7, .iconst 0, 1), (8, .ireturn, 1), (9, .aload_n 0, 1), (10, .iconst 3, 1), (11, .invokevirtual 102, 3), (14, .aload_n 0, 1), (15, .getfield 38, 3), (18, .ifCond .eq 9, 3), (21, .sipush 256, 3), (24, .goto 4, 3), (27, .iconst 0, 1), (28, .ior, 1), (29, .istore_n 2, 1), (30, .iconst 0, 1), (31, .istore_n 3, 1), (32, .iconst 0, 1), (33, .istore 4, 2), (35, .iload 4, 2), (37, .aload_n 1, 1), (38, .getfield 106, 3), (41, .if_icmp .ge 26, 3)]
theorem gdX5_railsThatMay_l0 : dok cX5_railsThatMay dX5_railsThatMay_l0 = true := by decide +kernel
theorem dX5_railsThatMay_0 : decode cX5_railsThatMay 0 = .ok (.aload_n 0, 1) := dok_at gdX5_railsThatMay_l0 0 rfl
theorem dX5_railsThatMay_1 : decode cX5_railsThatMay 1 = .ok (.getfield 54, 3) := dok_at gdX5_railsThatMay_l0 1 rfl
theorem dX5_railsThatMay_4 : decode cX5_railsThatMay 4 = .ok (.ifCond .eq 5, 3) := dok_at gdX5_railsThatMay_l0 2 rfl
theorem dX5_railsThatMay_7 : decode cX5_railsThatMay 7 = .ok (.iconst 0, 1) := dok_at gdX5_railsThatMay_l0 3 rfl
theorem dX5_railsThatMay_8 : decode cX5_railsThatMay 8 = .ok (.ireturn, 1) := dok_at gdX5_railsThatMay_l0 4 rfl
theorem dX5_railsThatMay_9 : decode cX5_railsThatMay 9 = .ok (.aload_n 0, 1) := dok_at gdX5_railsThatMay_l0 5 rfl
theorem dX5_railsThatMay_10 : decode cX5_railsThatMay 10 = .ok (.iconst 3, 1) := dok_at gdX5_railsThatMay_l0 6 rfl
theorem dX5_railsThatMay_11 : decode cX5_railsThatMay 11 = .ok (.invokevirtual 102, 3) := dok_at gdX5_railsThatMay_l0 7 rfl
theorem dX5_railsThatMay_14 : decode cX5_railsThatMay 14 = .ok (.aload_n 0, 1) := dok_at gdX5_railsThatMay_l0 8 rfl
theorem dX5_railsThatMay_15 : decode cX5_railsThatMay 15 = .ok (.getfield 38, 3) := dok_at gdX5_railsThatMay_l0 9 rfl
theorem dX5_railsThatMay_18 : decode cX5_railsThatMay 18 = .ok (.ifCond .eq 9, 3) := dok_at gdX5_railsThatMay_l0 10 rfl
theorem dX5_railsThatMay_21 : decode cX5_railsThatMay 21 = .ok (.sipush 256, 3) := dok_at gdX5_railsThatMay_l0 11 rfl
theorem dX5_railsThatMay_24 : decode cX5_railsThatMay 24 = .ok (.goto 4, 3) := dok_at gdX5_railsThatMay_l0 12 rfl
theorem dX5_railsThatMay_27 : decode cX5_railsThatMay 27 = .ok (.iconst 0, 1) := dok_at gdX5_railsThatMay_l0 13 rfl
theorem dX5_railsThatMay_28 : decode cX5_railsThatMay 28 = .ok (.ior, 1) := dok_at gdX5_railsThatMay_l0 14 rfl
theorem dX5_railsThatMay_29 : decode cX5_railsThatMay 29 = .ok (.istore_n 2, 1) := dok_at gdX5_railsThatMay_l0 15 rfl
theorem dX5_railsThatMay_30 : decode cX5_railsThatMay 30 = .ok (.iconst 0, 1) := dok_at gdX5_railsThatMay_l0 16 rfl
theorem dX5_railsThatMay_31 : decode cX5_railsThatMay 31 = .ok (.istore_n 3, 1) := dok_at gdX5_railsThatMay_l0 17 rfl
theorem dX5_railsThatMay_32 : decode cX5_railsThatMay 32 = .ok (.iconst 0, 1) := dok_at gdX5_railsThatMay_l0 18 rfl
theorem dX5_railsThatMay_33 : decode cX5_railsThatMay 33 = .ok (.istore 4, 2) := dok_at gdX5_railsThatMay_l0 19 rfl
theorem dX5_railsThatMay_35 : decode cX5_railsThatMay 35 = .ok (.iload 4, 2) := dok_at gdX5_railsThatMay_l0 20 rfl
theorem dX5_railsThatMay_37 : decode cX5_railsThatMay 37 = .ok (.aload_n 1, 1) := dok_at gdX5_railsThatMay_l0 21 rfl
theorem dX5_railsThatMay_38 : decode cX5_railsThatMay 38 = .ok (.getfield 106, 3) := dok_at gdX5_railsThatMay_l0 22 rfl
theorem dX5_railsThatMay_41 : decode cX5_railsThatMay 41 = .ok (.if_icmp .ge 26, 3) := dok_at gdX5_railsThatMay_l0 23 rfl
def dX5_railsThatMay_l44 : List (Nat × Instr × Nat) := [(44, .aload_n 1, 1), (45, .iload 4, 2), (47, .iload_n 2, 1), (48, .invokevirtual 109, 3), (51, .ifCond .eq 10, 3), (54, .iload_n 3, 1), (55, .iconst 1, 1), (56, .iload 4, 2), (58, .ishl, 1), (59, .ior, 1), (60, .istore_n 3, 1), (61, .iinc 4 1, 3), (64, .goto (-29), 3), (67, .iload_n 3, 1), (68, .ireturn, 1)]
theorem gdX5_railsThatMay_l44 : dok cX5_railsThatMay dX5_railsThatMay_l44 = true := by decide +kernel
theorem dX5_railsThatMay_44 : decode cX5_railsThatMay 44 = .ok (.aload_n 1, 1) := dok_at gdX5_railsThatMay_l44 0 rfl
theorem dX5_railsThatMay_45 : decode cX5_railsThatMay 45 = .ok (.iload 4, 2) := dok_at gdX5_railsThatMay_l44 1 rfl
theorem dX5_railsThatMay_47 : decode cX5_railsThatMay 47 = .ok (.iload_n 2, 1) := dok_at gdX5_railsThatMay_l44 2 rfl
theorem dX5_railsThatMay_48 : decode cX5_railsThatMay 48 = .ok (.invokevirtual 109, 3) := dok_at gdX5_railsThatMay_l44 3 rfl
theorem dX5_railsThatMay_51 : decode cX5_railsThatMay 51 = .ok (.ifCond .eq 10, 3) := dok_at gdX5_railsThatMay_l44 4 rfl
theorem dX5_railsThatMay_54 : decode cX5_railsThatMay 54 = .ok (.iload_n 3, 1) := dok_at gdX5_railsThatMay_l44 5 rfl
theorem dX5_railsThatMay_55 : decode cX5_railsThatMay 55 = .ok (.iconst 1, 1) := dok_at gdX5_railsThatMay_l44 6 rfl
theorem dX5_railsThatMay_56 : decode cX5_railsThatMay 56 = .ok (.iload 4, 2) := dok_at gdX5_railsThatMay_l44 7 rfl
theorem dX5_railsThatMay_58 : decode cX5_railsThatMay 58 = .ok (.ishl, 1) := dok_at gdX5_railsThatMay_l44 8 rfl
theorem dX5_railsThatMay_59 : decode cX5_railsThatMay 59 = .ok (.ior, 1) := dok_at gdX5_railsThatMay_l44 9 rfl
theorem dX5_railsThatMay_60 : decode cX5_railsThatMay 60 = .ok (.istore_n 3, 1) := dok_at gdX5_railsThatMay_l44 10 rfl
theorem dX5_railsThatMay_61 : decode cX5_railsThatMay 61 = .ok (.iinc 4 1, 3) := dok_at gdX5_railsThatMay_l44 11 rfl
theorem dX5_railsThatMay_64 : decode cX5_railsThatMay 64 = .ok (.goto (-29), 3) := dok_at gdX5_railsThatMay_l44 12 rfl
theorem dX5_railsThatMay_67 : decode cX5_railsThatMay 67 = .ok (.iload_n 3, 1) := dok_at gdX5_railsThatMay_l44 13 rfl
theorem dX5_railsThatMay_68 : decode cX5_railsThatMay 68 = .ok (.ireturn, 1) := dok_at gdX5_railsThatMay_l44 14 rfl
def dX5_changeRails_l0 : List (Nat × Instr × Nat) := [(0, .iconst 0, 1), (1, .istore_n 3, 1), (2, .iconst 0, 1), (3, .istore 4, 2), (5, .iload 4, 2), (7, .aload_n 1, 1), (8, .getfield 106, 3), (11, .if_icmp .ge 55, 3), (14, .aload_n 0, 1), (15, .aload_n 1, 1), (16, .iload 4, 2), (18, .iload_n 2, 1), (19, .iload 4, 2), (21, .ishr, 1), (22, .iconst 1, 1), (23, .iand, 1), (24, .iconst 1, 1), (25, .if_icmp .ne 7, 3), (28, .iconst 1, 1), (29, .goto 4, 3), (32, .iconst 0, 1), (33, .invokevirtual 113, 3), (36, .istore 5, 2), (38, .iload 5, 2)]
theorem gdX5_changeRails_l0 : dok cX5_changeRails dX5_changeRails_l0 = true := by decide +kernel
theorem dX5_changeRails_0 : decode cX5_changeRails 0 = .ok (.iconst 0, 1) := dok_at gdX5_changeRails_l0 0 rfl
theorem dX5_changeRails_1 : decode cX5_changeRails 1 = .ok (.istore_n 3, 1) := dok_at gdX5_changeRails_l0 1 rfl
theorem dX5_changeRails_2 : decode cX5_changeRails 2 = .ok (.iconst 0, 1) := dok_at gdX5_changeRails_l0 2 rfl
theorem dX5_changeRails_3 : decode cX5_changeRails 3 = .ok (.istore 4, 2) := dok_at gdX5_changeRails_l0 3 rfl
theorem dX5_changeRails_5 : decode cX5_changeRails 5 = .ok (.iload 4, 2) := dok_at gdX5_changeRails_l0 4 rfl
theorem dX5_changeRails_7 : decode cX5_changeRails 7 = .ok (.aload_n 1, 1) := dok_at gdX5_changeRails_l0 5 rfl
theorem dX5_changeRails_8 : decode cX5_changeRails 8 = .ok (.getfield 106, 3) := dok_at gdX5_changeRails_l0 6 rfl
theorem dX5_changeRails_11 : decode cX5_changeRails 11 = .ok (.if_icmp .ge 55, 3) := dok_at gdX5_changeRails_l0 7 rfl
theorem dX5_changeRails_14 : decode cX5_changeRails 14 = .ok (.aload_n 0, 1) := dok_at gdX5_changeRails_l0 8 rfl
theorem dX5_changeRails_15 : decode cX5_changeRails 15 = .ok (.aload_n 1, 1) := dok_at gdX5_changeRails_l0 9 rfl
theorem dX5_changeRails_16 : decode cX5_changeRails 16 = .ok (.iload 4, 2) := dok_at gdX5_changeRails_l0 10 rfl
theorem dX5_changeRails_18 : decode cX5_changeRails 18 = .ok (.iload_n 2, 1) := dok_at gdX5_changeRails_l0 11 rfl
theorem dX5_changeRails_19 : decode cX5_changeRails 19 = .ok (.iload 4, 2) := dok_at gdX5_changeRails_l0 12 rfl
theorem dX5_changeRails_21 : decode cX5_changeRails 21 = .ok (.ishr, 1) := dok_at gdX5_changeRails_l0 13 rfl
theorem dX5_changeRails_22 : decode cX5_changeRails 22 = .ok (.iconst 1, 1) := dok_at gdX5_changeRails_l0 14 rfl
theorem dX5_changeRails_23 : decode cX5_changeRails 23 = .ok (.iand, 1) := dok_at gdX5_changeRails_l0 15 rfl
theorem dX5_changeRails_24 : decode cX5_changeRails 24 = .ok (.iconst 1, 1) := dok_at gdX5_changeRails_l0 16 rfl
theorem dX5_changeRails_25 : decode cX5_changeRails 25 = .ok (.if_icmp .ne 7, 3) := dok_at gdX5_changeRails_l0 17 rfl
theorem dX5_changeRails_28 : decode cX5_changeRails 28 = .ok (.iconst 1, 1) := dok_at gdX5_changeRails_l0 18 rfl
theorem dX5_changeRails_29 : decode cX5_changeRails 29 = .ok (.goto 4, 3) := dok_at gdX5_changeRails_l0 19 rfl
theorem dX5_changeRails_32 : decode cX5_changeRails 32 = .ok (.iconst 0, 1) := dok_at gdX5_changeRails_l0 20 rfl
theorem dX5_changeRails_33 : decode cX5_changeRails 33 = .ok (.invokevirtual 113, 3) := dok_at gdX5_changeRails_l0 21 rfl
theorem dX5_changeRails_36 : decode cX5_changeRails 36 = .ok (.istore 5, 2) := dok_at gdX5_changeRails_l0 22 rfl
theorem dX5_changeRails_38 : decode cX5_changeRails 38 = .ok (.iload 5, 2) := dok_at gdX5_changeRails_l0 23 rfl
def dX5_changeRails_l40 : List (Nat × Instr × Nat) := [(40, .aload_n 0, 1), (41, .getfield 18, 3), (44, .iload 4, 2), (46, .iaload, 1), (47, .if_icmp .eq 13, 3), (50, .aload_n 0, 1), (51, .iload 4, 2), (53, .iload 5, 2), (55, .invokevirtual 117, 3), (58, .iconst 1, 1), (59, .istore_n 3, 1), (60, .iinc 4 1, 3), (63, .goto (-58), 3), (66, .iload_n 3, 1), (67, .ireturn, 1)]
theorem gdX5_changeRails_l40 : dok cX5_changeRails dX5_changeRails_l40 = true := by decide +kernel
theorem dX5_changeRails_40 : decode cX5_changeRails 40 = .ok (.aload_n 0, 1) := dok_at gdX5_changeRails_l40 0 rfl
theorem dX5_changeRails_41 : decode cX5_changeRails 41 = .ok (.getfield 18, 3) := dok_at gdX5_changeRails_l40 1 rfl
theorem dX5_changeRails_44 : decode cX5_changeRails 44 = .ok (.iload 4, 2) := dok_at gdX5_changeRails_l40 2 rfl
theorem dX5_changeRails_46 : decode cX5_changeRails 46 = .ok (.iaload, 1) := dok_at gdX5_changeRails_l40 3 rfl
theorem dX5_changeRails_47 : decode cX5_changeRails 47 = .ok (.if_icmp .eq 13, 3) := dok_at gdX5_changeRails_l40 4 rfl
theorem dX5_changeRails_50 : decode cX5_changeRails 50 = .ok (.aload_n 0, 1) := dok_at gdX5_changeRails_l40 5 rfl
theorem dX5_changeRails_51 : decode cX5_changeRails 51 = .ok (.iload 4, 2) := dok_at gdX5_changeRails_l40 6 rfl
theorem dX5_changeRails_53 : decode cX5_changeRails 53 = .ok (.iload 5, 2) := dok_at gdX5_changeRails_l40 7 rfl
theorem dX5_changeRails_55 : decode cX5_changeRails 55 = .ok (.invokevirtual 117, 3) := dok_at gdX5_changeRails_l40 8 rfl
theorem dX5_changeRails_58 : decode cX5_changeRails 58 = .ok (.iconst 1, 1) := dok_at gdX5_changeRails_l40 9 rfl
theorem dX5_changeRails_59 : decode cX5_changeRails 59 = .ok (.istore_n 3, 1) := dok_at gdX5_changeRails_l40 10 rfl
theorem dX5_changeRails_60 : decode cX5_changeRails 60 = .ok (.iinc 4 1, 3) := dok_at gdX5_changeRails_l40 11 rfl
theorem dX5_changeRails_63 : decode cX5_changeRails 63 = .ok (.goto (-58), 3) := dok_at gdX5_changeRails_l40 12 rfl
theorem dX5_changeRails_66 : decode cX5_changeRails 66 = .ok (.iload_n 3, 1) := dok_at gdX5_changeRails_l40 13 rfl
theorem dX5_changeRails_67 : decode cX5_changeRails 67 = .ok (.ireturn, 1) := dok_at gdX5_changeRails_l40 14 rfl
def dX5_nextState_l0 : List (Nat × Instr × Nat) := [(0, .aload_n 0, 1), (1, .getfield 34, 3), (4, .iload_n 2, 1), (5, .ishr, 1), (6, .iconst 1, 1), (7, .iand, 1), (8, .ifCond .ne 7, 3), (11, .iconst 1, 1), (12, .goto 4, 3), (15, .iconst 0, 1), (16, .istore 4, 2), (18, .aload_n 0, 1), (19, .getfield 18, 3), (22, .iload_n 2, 1), (23, .iaload, 1), (24, .tableswitch 116 0 3 #[32, 42, 69, 101], 32), (56, .iload_n 3, 1), (57, .ifCond .eq 7, 3), (60, .iconst 1, 1), (61, .goto 4, 3), (64, .iconst 0, 1), (65, .ireturn, 1), (66, .iload_n 3, 1), (67, .ifCond .ne 5, 3)]
theorem gdX5_nextState_l0 : dok cX5_nextState dX5_nextState_l0 = true := by decide +kernel
theorem dX5_nextState_0 : decode cX5_nextState 0 = .ok (.aload_n 0, 1) := dok_at gdX5_nextState_l0 0 rfl
theorem dX5_nextState_1 : decode cX5_nextState 1 = .ok (.getfield 34, 3) := dok_at gdX5_nextState_l0 1 rfl
theorem dX5_nextState_4 : decode cX5_nextState 4 = .ok (.iload_n 2, 1) := dok_at gdX5_nextState_l0 2 rfl
theorem dX5_nextState_5 : decode cX5_nextState 5 = .ok (.ishr, 1) := dok_at gdX5_nextState_l0 3 rfl
theorem dX5_nextState_6 : decode cX5_nextState 6 = .ok (.iconst 1, 1) := dok_at gdX5_nextState_l0 4 rfl
theorem dX5_nextState_7 : decode cX5_nextState 7 = .ok (.iand, 1) := dok_at gdX5_nextState_l0 5 rfl
theorem dX5_nextState_8 : decode cX5_nextState 8 = .ok (.ifCond .ne 7, 3) := dok_at gdX5_nextState_l0 6 rfl
theorem dX5_nextState_11 : decode cX5_nextState 11 = .ok (.iconst 1, 1) := dok_at gdX5_nextState_l0 7 rfl
theorem dX5_nextState_12 : decode cX5_nextState 12 = .ok (.goto 4, 3) := dok_at gdX5_nextState_l0 8 rfl
theorem dX5_nextState_15 : decode cX5_nextState 15 = .ok (.iconst 0, 1) := dok_at gdX5_nextState_l0 9 rfl
theorem dX5_nextState_16 : decode cX5_nextState 16 = .ok (.istore 4, 2) := dok_at gdX5_nextState_l0 10 rfl
theorem dX5_nextState_18 : decode cX5_nextState 18 = .ok (.aload_n 0, 1) := dok_at gdX5_nextState_l0 11 rfl
theorem dX5_nextState_19 : decode cX5_nextState 19 = .ok (.getfield 18, 3) := dok_at gdX5_nextState_l0 12 rfl
theorem dX5_nextState_22 : decode cX5_nextState 22 = .ok (.iload_n 2, 1) := dok_at gdX5_nextState_l0 13 rfl
theorem dX5_nextState_23 : decode cX5_nextState 23 = .ok (.iaload, 1) := dok_at gdX5_nextState_l0 14 rfl
theorem dX5_nextState_24 : decode cX5_nextState 24 = .ok (.tableswitch 116 0 3 #[32, 42, 69, 101], 32) := dok_at gdX5_nextState_l0 15 rfl
theorem dX5_nextState_56 : decode cX5_nextState 56 = .ok (.iload_n 3, 1) := dok_at gdX5_nextState_l0 16 rfl
theorem dX5_nextState_57 : decode cX5_nextState 57 = .ok (.ifCond .eq 7, 3) := dok_at gdX5_nextState_l0 17 rfl
theorem dX5_nextState_60 : decode cX5_nextState 60 = .ok (.iconst 1, 1) := dok_at gdX5_nextState_l0 18 rfl
theorem dX5_nextState_61 : decode cX5_nextState 61 = .ok (.goto 4, 3) := dok_at gdX5_nextState_l0 19 rfl
theorem dX5_nextState_64 : decode cX5_nextState 64 = .ok (.iconst 0, 1) := dok_at gdX5_nextState_l0 20 rfl
theorem dX5_nextState_65 : decode cX5_nextState 65 = .ok (.ireturn, 1) := dok_at gdX5_nextState_l0 21 rfl
theorem dX5_nextState_66 : decode cX5_nextState 66 = .ok (.iload_n 3, 1) := dok_at gdX5_nextState_l0 22 rfl
theorem dX5_nextState_67 : decode cX5_nextState 67 = .ok (.ifCond .ne 5, 3) := dok_at gdX5_nextState_l0 23 rfl
def dX5_nextState_l70 : List (Nat × Instr × Nat) := [(70, .iconst 0, 1), (71, .ireturn, 1), (72, .aload_n 0, 1), (73, .getfield 22, 3), (76, .iload_n 2, 1), (77, .iaload, 1), (78, .aload_n 1, 1), (79, .iload_n 2, 1), (80, .iconst 5, 1), (81, .invokevirtual 47, 3), (84, .if_icmp .lt 7, 3), (87, .iconst 2, 1), (88, .goto 4, 3), (91, .iconst 1, 1), (92, .ireturn, 1), (93, .iload_n 3, 1), (94, .ifCond .ne 5, 3), (97, .iconst 4, 1), (98, .ireturn, 1), (99, .iload 4, 2), (101, .ifCond .eq 22, 3), (104, .aload_n 0, 1), (105, .getfield 22, 3), (108, .iload_n 2, 1)]
theorem gdX5_nextState_l70 : dok cX5_nextState dX5_nextState_l70 = true := by decide +kernel
theorem dX5_nextState_70 : decode cX5_nextState 70 = .ok (.iconst 0, 1) := dok_at gdX5_nextState_l70 0 rfl
theorem dX5_nextState_71 : decode cX5_nextState 71 = .ok (.ireturn, 1) := dok_at gdX5_nextState_l70 1 rfl
theorem dX5_nextState_72 : decode cX5_nextState 72 = .ok (.aload_n 0, 1) := dok_at gdX5_nextState_l70 2 rfl
theorem dX5_nextState_73 : decode cX5_nextState 73 = .ok (.getfield 22, 3) := dok_at gdX5_nextState_l70 3 rfl
theorem dX5_nextState_76 : decode cX5_nextState 76 = .ok (.iload_n 2, 1) := dok_at gdX5_nextState_l70 4 rfl
theorem dX5_nextState_77 : decode cX5_nextState 77 = .ok (.iaload, 1) := dok_at gdX5_nextState_l70 5 rfl
theorem dX5_nextState_78 : decode cX5_nextState 78 = .ok (.aload_n 1, 1) := dok_at gdX5_nextState_l70 6 rfl
theorem dX5_nextState_79 : decode cX5_nextState 79 = .ok (.iload_n 2, 1) := dok_at gdX5_nextState_l70 7 rfl
theorem dX5_nextState_80 : decode cX5_nextState 80 = .ok (.iconst 5, 1) := dok_at gdX5_nextState_l70 8 rfl
theorem dX5_nextState_81 : decode cX5_nextState 81 = .ok (.invokevirtual 47, 3) := dok_at gdX5_nextState_l70 9 rfl
theorem dX5_nextState_84 : decode cX5_nextState 84 = .ok (.if_icmp .lt 7, 3) := dok_at gdX5_nextState_l70 10 rfl
theorem dX5_nextState_87 : decode cX5_nextState 87 = .ok (.iconst 2, 1) := dok_at gdX5_nextState_l70 11 rfl
theorem dX5_nextState_88 : decode cX5_nextState 88 = .ok (.goto 4, 3) := dok_at gdX5_nextState_l70 12 rfl
theorem dX5_nextState_91 : decode cX5_nextState 91 = .ok (.iconst 1, 1) := dok_at gdX5_nextState_l70 13 rfl
theorem dX5_nextState_92 : decode cX5_nextState 92 = .ok (.ireturn, 1) := dok_at gdX5_nextState_l70 14 rfl
theorem dX5_nextState_93 : decode cX5_nextState 93 = .ok (.iload_n 3, 1) := dok_at gdX5_nextState_l70 15 rfl
theorem dX5_nextState_94 : decode cX5_nextState 94 = .ok (.ifCond .ne 5, 3) := dok_at gdX5_nextState_l70 16 rfl
theorem dX5_nextState_97 : decode cX5_nextState 97 = .ok (.iconst 4, 1) := dok_at gdX5_nextState_l70 17 rfl
theorem dX5_nextState_98 : decode cX5_nextState 98 = .ok (.ireturn, 1) := dok_at gdX5_nextState_l70 18 rfl
theorem dX5_nextState_99 : decode cX5_nextState 99 = .ok (.iload 4, 2) := dok_at gdX5_nextState_l70 19 rfl
theorem dX5_nextState_101 : decode cX5_nextState 101 = .ok (.ifCond .eq 22, 3) := dok_at gdX5_nextState_l70 20 rfl
theorem dX5_nextState_104 : decode cX5_nextState 104 = .ok (.aload_n 0, 1) := dok_at gdX5_nextState_l70 21 rfl
theorem dX5_nextState_105 : decode cX5_nextState 105 = .ok (.getfield 22, 3) := dok_at gdX5_nextState_l70 22 rfl
theorem dX5_nextState_108 : decode cX5_nextState 108 = .ok (.iload_n 2, 1) := dok_at gdX5_nextState_l70 23 rfl
def dX5_nextState_l109 : List (Nat × Instr × Nat) := [(109, .iaload, 1), (110, .aload_n 0, 1), (111, .getfield 28, 3), (114, .iload_n 2, 1), (115, .iaload, 1), (116, .if_icmp .lt 7, 3), (119, .iconst 3, 1), (120, .goto 4, 3), (123, .iconst 2, 1), (124, .ireturn, 1), (125, .iload_n 3, 1), (126, .ifCond .eq 12, 3), (129, .iload 4, 2), (131, .ifCond .eq 7, 3), (134, .iconst 3, 1), (135, .goto 4, 3), (138, .iconst 4, 1), (139, .ireturn, 1), (140, .aload_n 0, 1), (141, .getfield 22, 3), (144, .iload_n 2, 1), (145, .iaload, 1), (146, .aload_n 1, 1), (147, .iload_n 2, 1)]
theorem gdX5_nextState_l109 : dok cX5_nextState dX5_nextState_l109 = true := by decide +kernel
theorem dX5_nextState_109 : decode cX5_nextState 109 = .ok (.iaload, 1) := dok_at gdX5_nextState_l109 0 rfl
theorem dX5_nextState_110 : decode cX5_nextState 110 = .ok (.aload_n 0, 1) := dok_at gdX5_nextState_l109 1 rfl
theorem dX5_nextState_111 : decode cX5_nextState 111 = .ok (.getfield 28, 3) := dok_at gdX5_nextState_l109 2 rfl
theorem dX5_nextState_114 : decode cX5_nextState 114 = .ok (.iload_n 2, 1) := dok_at gdX5_nextState_l109 3 rfl
theorem dX5_nextState_115 : decode cX5_nextState 115 = .ok (.iaload, 1) := dok_at gdX5_nextState_l109 4 rfl
theorem dX5_nextState_116 : decode cX5_nextState 116 = .ok (.if_icmp .lt 7, 3) := dok_at gdX5_nextState_l109 5 rfl
theorem dX5_nextState_119 : decode cX5_nextState 119 = .ok (.iconst 3, 1) := dok_at gdX5_nextState_l109 6 rfl
theorem dX5_nextState_120 : decode cX5_nextState 120 = .ok (.goto 4, 3) := dok_at gdX5_nextState_l109 7 rfl
theorem dX5_nextState_123 : decode cX5_nextState 123 = .ok (.iconst 2, 1) := dok_at gdX5_nextState_l109 8 rfl
theorem dX5_nextState_124 : decode cX5_nextState 124 = .ok (.ireturn, 1) := dok_at gdX5_nextState_l109 9 rfl
theorem dX5_nextState_125 : decode cX5_nextState 125 = .ok (.iload_n 3, 1) := dok_at gdX5_nextState_l109 10 rfl
theorem dX5_nextState_126 : decode cX5_nextState 126 = .ok (.ifCond .eq 12, 3) := dok_at gdX5_nextState_l109 11 rfl
theorem dX5_nextState_129 : decode cX5_nextState 129 = .ok (.iload 4, 2) := dok_at gdX5_nextState_l109 12 rfl
theorem dX5_nextState_131 : decode cX5_nextState 131 = .ok (.ifCond .eq 7, 3) := dok_at gdX5_nextState_l109 13 rfl
theorem dX5_nextState_134 : decode cX5_nextState 134 = .ok (.iconst 3, 1) := dok_at gdX5_nextState_l109 14 rfl
theorem dX5_nextState_135 : decode cX5_nextState 135 = .ok (.goto 4, 3) := dok_at gdX5_nextState_l109 15 rfl
theorem dX5_nextState_138 : decode cX5_nextState 138 = .ok (.iconst 4, 1) := dok_at gdX5_nextState_l109 16 rfl
theorem dX5_nextState_139 : decode cX5_nextState 139 = .ok (.ireturn, 1) := dok_at gdX5_nextState_l109 17 rfl
theorem dX5_nextState_140 : decode cX5_nextState 140 = .ok (.aload_n 0, 1) := dok_at gdX5_nextState_l109 18 rfl
theorem dX5_nextState_141 : decode cX5_nextState 141 = .ok (.getfield 22, 3) := dok_at gdX5_nextState_l109 19 rfl
theorem dX5_nextState_144 : decode cX5_nextState 144 = .ok (.iload_n 2, 1) := dok_at gdX5_nextState_l109 20 rfl
theorem dX5_nextState_145 : decode cX5_nextState 145 = .ok (.iaload, 1) := dok_at gdX5_nextState_l109 21 rfl
theorem dX5_nextState_146 : decode cX5_nextState 146 = .ok (.aload_n 1, 1) := dok_at gdX5_nextState_l109 22 rfl
theorem dX5_nextState_147 : decode cX5_nextState 147 = .ok (.iload_n 2, 1) := dok_at gdX5_nextState_l109 23 rfl
def dX5_nextState_l148 : List (Nat × Instr × Nat) := [(148, .iconst 2, 1), (149, .invokevirtual 47, 3), (152, .if_icmp .lt 7, 3), (155, .iconst 0, 1), (156, .goto 4, 3), (159, .iconst 4, 1), (160, .ireturn, 1)]
theorem gdX5_nextState_l148 : dok cX5_nextState dX5_nextState_l148 = true := by decide +kernel
theorem dX5_nextState_148 : decode cX5_nextState 148 = .ok (.iconst 2, 1) := dok_at gdX5_nextState_l148 0 rfl
theorem dX5_nextState_149 : decode cX5_nextState 149 = .ok (.invokevirtual 47, 3) := dok_at gdX5_nextState_l148 1 rfl
theorem dX5_nextState_152 : decode cX5_nextState 152 = .ok (.if_icmp .lt 7, 3) := dok_at gdX5_nextState_l148 2 rfl
theorem dX5_nextState_155 : decode cX5_nextState 155 = .ok (.iconst 0, 1) := dok_at gdX5_nextState_l148 3 rfl
theorem dX5_nextState_156 : decode cX5_nextState 156 = .ok (.goto 4, 3) := dok_at gdX5_nextState_l148 4 rfl
theorem dX5_nextState_159 : decode cX5_nextState 159 = .ok (.iconst 4, 1) := dok_at gdX5_nextState_l148 5 rfl
theorem dX5_nextState_160 : decode cX5_nextState 160 = .ok (.ireturn, 1) := dok_at gdX5_nextState_l148 6 rfl
def dX5_become_l0 : List (Nat × Instr × Nat) := [(0, .aload_n 0, 1), (1, .getfield 18, 3), (4, .iload_n 1, 1), (5, .iload_n 2, 1), (6, .iastore, 1), (7, .aload_n 0, 1), (8, .getfield 22, 3), (11, .iload_n 1, 1), (12, .iconst 0, 1), (13, .iastore, 1), (14, .iload_n 2, 1), (15, .iconst 1, 1), (16, .if_icmp .ne 10, 3), (19, .aload_n 0, 1), (20, .getfield 25, 3), (23, .iload_n 1, 1), (24, .iconst 0, 1), (25, .iastore, 1), (26, .iload_n 2, 1), (27, .iconst 3, 1), (28, .if_icmp .ne 13, 3), (31, .aload_n 0, 1), (32, .getfield 31, 3), (35, .iload_n 1, 1)]
theorem gdX5_become_l0 : dok cX5_become dX5_become_l0 = true := by decide +kernel
theorem dX5_become_0 : decode cX5_become 0 = .ok (.aload_n 0, 1) := dok_at gdX5_become_l0 0 rfl
theorem dX5_become_1 : decode cX5_become 1 = .ok (.getfield 18, 3) := dok_at gdX5_become_l0 1 rfl
theorem dX5_become_4 : decode cX5_become 4 = .ok (.iload_n 1, 1) := dok_at gdX5_become_l0 2 rfl
theorem dX5_become_5 : decode cX5_become 5 = .ok (.iload_n 2, 1) := dok_at gdX5_become_l0 3 rfl
theorem dX5_become_6 : decode cX5_become 6 = .ok (.iastore, 1) := dok_at gdX5_become_l0 4 rfl
theorem dX5_become_7 : decode cX5_become 7 = .ok (.aload_n 0, 1) := dok_at gdX5_become_l0 5 rfl
theorem dX5_become_8 : decode cX5_become 8 = .ok (.getfield 22, 3) := dok_at gdX5_become_l0 6 rfl
theorem dX5_become_11 : decode cX5_become 11 = .ok (.iload_n 1, 1) := dok_at gdX5_become_l0 7 rfl
theorem dX5_become_12 : decode cX5_become 12 = .ok (.iconst 0, 1) := dok_at gdX5_become_l0 8 rfl
theorem dX5_become_13 : decode cX5_become 13 = .ok (.iastore, 1) := dok_at gdX5_become_l0 9 rfl
theorem dX5_become_14 : decode cX5_become 14 = .ok (.iload_n 2, 1) := dok_at gdX5_become_l0 10 rfl
theorem dX5_become_15 : decode cX5_become 15 = .ok (.iconst 1, 1) := dok_at gdX5_become_l0 11 rfl
theorem dX5_become_16 : decode cX5_become 16 = .ok (.if_icmp .ne 10, 3) := dok_at gdX5_become_l0 12 rfl
theorem dX5_become_19 : decode cX5_become 19 = .ok (.aload_n 0, 1) := dok_at gdX5_become_l0 13 rfl
theorem dX5_become_20 : decode cX5_become 20 = .ok (.getfield 25, 3) := dok_at gdX5_become_l0 14 rfl
theorem dX5_become_23 : decode cX5_become 23 = .ok (.iload_n 1, 1) := dok_at gdX5_become_l0 15 rfl
theorem dX5_become_24 : decode cX5_become 24 = .ok (.iconst 0, 1) := dok_at gdX5_become_l0 16 rfl
theorem dX5_become_25 : decode cX5_become 25 = .ok (.iastore, 1) := dok_at gdX5_become_l0 17 rfl
theorem dX5_become_26 : decode cX5_become 26 = .ok (.iload_n 2, 1) := dok_at gdX5_become_l0 18 rfl
theorem dX5_become_27 : decode cX5_become 27 = .ok (.iconst 3, 1) := dok_at gdX5_become_l0 19 rfl
theorem dX5_become_28 : decode cX5_become 28 = .ok (.if_icmp .ne 13, 3) := dok_at gdX5_become_l0 20 rfl
theorem dX5_become_31 : decode cX5_become 31 = .ok (.aload_n 0, 1) := dok_at gdX5_become_l0 21 rfl
theorem dX5_become_32 : decode cX5_become 32 = .ok (.getfield 31, 3) := dok_at gdX5_become_l0 22 rfl
theorem dX5_become_35 : decode cX5_become 35 = .ok (.iload_n 1, 1) := dok_at gdX5_become_l0 23 rfl
def dX5_become_l36 : List (Nat × Instr × Nat) := [(36, .dup2, 1), (37, .iaload, 1), (38, .iconst 1, 1), (39, .iadd, 1), (40, .iastore, 1), (41, .aload_n 0, 1), (42, .getfield 12, 3), (45, .aload_n 0, 1), (46, .getfield 51, 3), (49, .iload_n 1, 1), (50, .iload_n 2, 1), (51, .invokevirtual 121, 3), (54, .return_, 1)]
theorem gdX5_become_l36 : dok cX5_become dX5_become_l36 = true := by decide +kernel
theorem dX5_become_36 : decode cX5_become 36 = .ok (.dup2, 1) := dok_at gdX5_become_l36 0 rfl
theorem dX5_become_37 : decode cX5_become 37 = .ok (.iaload, 1) := dok_at gdX5_become_l36 1 rfl
theorem dX5_become_38 : decode cX5_become 38 = .ok (.iconst 1, 1) := dok_at gdX5_become_l36 2 rfl
theorem dX5_become_39 : decode cX5_become 39 = .ok (.iadd, 1) := dok_at gdX5_become_l36 3 rfl
theorem dX5_become_40 : decode cX5_become 40 = .ok (.iastore, 1) := dok_at gdX5_become_l36 4 rfl
theorem dX5_become_41 : decode cX5_become 41 = .ok (.aload_n 0, 1) := dok_at gdX5_become_l36 5 rfl
theorem dX5_become_42 : decode cX5_become 42 = .ok (.getfield 12, 3) := dok_at gdX5_become_l36 6 rfl
theorem dX5_become_45 : decode cX5_become 45 = .ok (.aload_n 0, 1) := dok_at gdX5_become_l36 7 rfl
theorem dX5_become_46 : decode cX5_become 46 = .ok (.getfield 51, 3) := dok_at gdX5_become_l36 8 rfl
theorem dX5_become_49 : decode cX5_become 49 = .ok (.iload_n 1, 1) := dok_at gdX5_become_l36 9 rfl
theorem dX5_become_50 : decode cX5_become 50 = .ok (.iload_n 2, 1) := dok_at gdX5_become_l36 10 rfl
theorem dX5_become_51 : decode cX5_become 51 = .ok (.invokevirtual 121, 3) := dok_at gdX5_become_l36 11 rfl
theorem dX5_become_54 : decode cX5_become 54 = .ok (.return_, 1) := dok_at gdX5_become_l36 12 rfl
def dX5_sumDraw_l0 : List (Nat × Instr × Nat) := [(0, .iconst 0, 1), (1, .istore_n 2, 1), (2, .iconst 0, 1), (3, .istore_n 3, 1), (4, .iload_n 3, 1), (5, .aload_n 1, 1), (6, .getfield 106, 3), (9, .if_icmp .ge 50, 3), (12, .aload_n 0, 1), (13, .getfield 18, 3), (16, .iload_n 3, 1), (17, .iaload, 1), (18, .iconst 3, 1), (19, .if_icmp .ne 15, 3), (22, .iload_n 2, 1), (23, .aload_n 1, 1), (24, .iload_n 3, 1), (25, .iconst 3, 1), (26, .invokevirtual 47, 3), (29, .iadd, 1), (30, .istore_n 2, 1), (31, .goto 22, 3), (34, .aload_n 0, 1), (35, .getfield 18, 3)]
theorem gdX5_sumDraw_l0 : dok cX5_sumDraw dX5_sumDraw_l0 = true := by decide +kernel
theorem dX5_sumDraw_0 : decode cX5_sumDraw 0 = .ok (.iconst 0, 1) := dok_at gdX5_sumDraw_l0 0 rfl
theorem dX5_sumDraw_1 : decode cX5_sumDraw 1 = .ok (.istore_n 2, 1) := dok_at gdX5_sumDraw_l0 1 rfl
theorem dX5_sumDraw_2 : decode cX5_sumDraw 2 = .ok (.iconst 0, 1) := dok_at gdX5_sumDraw_l0 2 rfl
theorem dX5_sumDraw_3 : decode cX5_sumDraw 3 = .ok (.istore_n 3, 1) := dok_at gdX5_sumDraw_l0 3 rfl
theorem dX5_sumDraw_4 : decode cX5_sumDraw 4 = .ok (.iload_n 3, 1) := dok_at gdX5_sumDraw_l0 4 rfl
theorem dX5_sumDraw_5 : decode cX5_sumDraw 5 = .ok (.aload_n 1, 1) := dok_at gdX5_sumDraw_l0 5 rfl
theorem dX5_sumDraw_6 : decode cX5_sumDraw 6 = .ok (.getfield 106, 3) := dok_at gdX5_sumDraw_l0 6 rfl
theorem dX5_sumDraw_9 : decode cX5_sumDraw 9 = .ok (.if_icmp .ge 50, 3) := dok_at gdX5_sumDraw_l0 7 rfl
theorem dX5_sumDraw_12 : decode cX5_sumDraw 12 = .ok (.aload_n 0, 1) := dok_at gdX5_sumDraw_l0 8 rfl
theorem dX5_sumDraw_13 : decode cX5_sumDraw 13 = .ok (.getfield 18, 3) := dok_at gdX5_sumDraw_l0 9 rfl
theorem dX5_sumDraw_16 : decode cX5_sumDraw 16 = .ok (.iload_n 3, 1) := dok_at gdX5_sumDraw_l0 10 rfl
theorem dX5_sumDraw_17 : decode cX5_sumDraw 17 = .ok (.iaload, 1) := dok_at gdX5_sumDraw_l0 11 rfl
theorem dX5_sumDraw_18 : decode cX5_sumDraw 18 = .ok (.iconst 3, 1) := dok_at gdX5_sumDraw_l0 12 rfl
theorem dX5_sumDraw_19 : decode cX5_sumDraw 19 = .ok (.if_icmp .ne 15, 3) := dok_at gdX5_sumDraw_l0 13 rfl
theorem dX5_sumDraw_22 : decode cX5_sumDraw 22 = .ok (.iload_n 2, 1) := dok_at gdX5_sumDraw_l0 14 rfl
theorem dX5_sumDraw_23 : decode cX5_sumDraw 23 = .ok (.aload_n 1, 1) := dok_at gdX5_sumDraw_l0 15 rfl
theorem dX5_sumDraw_24 : decode cX5_sumDraw 24 = .ok (.iload_n 3, 1) := dok_at gdX5_sumDraw_l0 16 rfl
theorem dX5_sumDraw_25 : decode cX5_sumDraw 25 = .ok (.iconst 3, 1) := dok_at gdX5_sumDraw_l0 17 rfl
theorem dX5_sumDraw_26 : decode cX5_sumDraw 26 = .ok (.invokevirtual 47, 3) := dok_at gdX5_sumDraw_l0 18 rfl
theorem dX5_sumDraw_29 : decode cX5_sumDraw 29 = .ok (.iadd, 1) := dok_at gdX5_sumDraw_l0 19 rfl
theorem dX5_sumDraw_30 : decode cX5_sumDraw 30 = .ok (.istore_n 2, 1) := dok_at gdX5_sumDraw_l0 20 rfl
theorem dX5_sumDraw_31 : decode cX5_sumDraw 31 = .ok (.goto 22, 3) := dok_at gdX5_sumDraw_l0 21 rfl
theorem dX5_sumDraw_34 : decode cX5_sumDraw 34 = .ok (.aload_n 0, 1) := dok_at gdX5_sumDraw_l0 22 rfl
theorem dX5_sumDraw_35 : decode cX5_sumDraw 35 = .ok (.getfield 18, 3) := dok_at gdX5_sumDraw_l0 23 rfl
def dX5_sumDraw_l38 : List (Nat × Instr × Nat) := [(38, .iload_n 3, 1), (39, .iaload, 1), (40, .iconst 2, 1), (41, .if_icmp .ne 12, 3), (44, .iload_n 2, 1), (45, .aload_n 1, 1), (46, .iload_n 3, 1), (47, .iconst 4, 1), (48, .invokevirtual 47, 3), (51, .iadd, 1), (52, .istore_n 2, 1), (53, .iinc 3 1, 3), (56, .goto (-52), 3), (59, .iload_n 2, 1), (60, .ireturn, 1)]
theorem gdX5_sumDraw_l38 : dok cX5_sumDraw dX5_sumDraw_l38 = true := by decide +kernel
theorem dX5_sumDraw_38 : decode cX5_sumDraw 38 = .ok (.iload_n 3, 1) := dok_at gdX5_sumDraw_l38 0 rfl
theorem dX5_sumDraw_39 : decode cX5_sumDraw 39 = .ok (.iaload, 1) := dok_at gdX5_sumDraw_l38 1 rfl
theorem dX5_sumDraw_40 : decode cX5_sumDraw 40 = .ok (.iconst 2, 1) := dok_at gdX5_sumDraw_l38 2 rfl
theorem dX5_sumDraw_41 : decode cX5_sumDraw 41 = .ok (.if_icmp .ne 12, 3) := dok_at gdX5_sumDraw_l38 3 rfl
theorem dX5_sumDraw_44 : decode cX5_sumDraw 44 = .ok (.iload_n 2, 1) := dok_at gdX5_sumDraw_l38 4 rfl
theorem dX5_sumDraw_45 : decode cX5_sumDraw 45 = .ok (.aload_n 1, 1) := dok_at gdX5_sumDraw_l38 5 rfl
theorem dX5_sumDraw_46 : decode cX5_sumDraw 46 = .ok (.iload_n 3, 1) := dok_at gdX5_sumDraw_l38 6 rfl
theorem dX5_sumDraw_47 : decode cX5_sumDraw 47 = .ok (.iconst 4, 1) := dok_at gdX5_sumDraw_l38 7 rfl
theorem dX5_sumDraw_48 : decode cX5_sumDraw 48 = .ok (.invokevirtual 47, 3) := dok_at gdX5_sumDraw_l38 8 rfl
theorem dX5_sumDraw_51 : decode cX5_sumDraw 51 = .ok (.iadd, 1) := dok_at gdX5_sumDraw_l38 9 rfl
theorem dX5_sumDraw_52 : decode cX5_sumDraw 52 = .ok (.istore_n 2, 1) := dok_at gdX5_sumDraw_l38 10 rfl
theorem dX5_sumDraw_53 : decode cX5_sumDraw 53 = .ok (.iinc 3 1, 3) := dok_at gdX5_sumDraw_l38 11 rfl
theorem dX5_sumDraw_56 : decode cX5_sumDraw 56 = .ok (.goto (-52), 3) := dok_at gdX5_sumDraw_l38 12 rfl
theorem dX5_sumDraw_59 : decode cX5_sumDraw 59 = .ok (.iload_n 2, 1) := dok_at gdX5_sumDraw_l38 13 rfl
theorem dX5_sumDraw_60 : decode cX5_sumDraw 60 = .ok (.ireturn, 1) := dok_at gdX5_sumDraw_l38 14 rfl
def dX5_whyTrip_l0 : List (Nat × Instr × Nat) := [(0, .aload_n 0, 1), (1, .getfield 66, 3), (4, .aload_n 1, 1), (5, .getfield 125, 3), (8, .if_icmp .le 5, 3), (11, .iconst 1, 1), (12, .ireturn, 1), (13, .iconst 0, 1), (14, .istore_n 2, 1), (15, .iload_n 2, 1), (16, .aload_n 1, 1), (17, .getfield 106, 3), (20, .if_icmp .ge 65, 3), (23, .aload_n 1, 1), (24, .iload_n 2, 1), (25, .bipush 6, 2), (27, .invokevirtual 47, 3), (30, .istore_n 3, 1), (31, .aload_n 0, 1), (32, .getfield 18, 3), (35, .iload_n 2, 1), (36, .iaload, 1), (37, .iconst 1, 1), (38, .if_icmp .eq 13, 3)]
theorem gdX5_whyTrip_l0 : dok cX5_whyTrip dX5_whyTrip_l0 = true := by decide +kernel
theorem dX5_whyTrip_0 : decode cX5_whyTrip 0 = .ok (.aload_n 0, 1) := dok_at gdX5_whyTrip_l0 0 rfl
theorem dX5_whyTrip_1 : decode cX5_whyTrip 1 = .ok (.getfield 66, 3) := dok_at gdX5_whyTrip_l0 1 rfl
theorem dX5_whyTrip_4 : decode cX5_whyTrip 4 = .ok (.aload_n 1, 1) := dok_at gdX5_whyTrip_l0 2 rfl
theorem dX5_whyTrip_5 : decode cX5_whyTrip 5 = .ok (.getfield 125, 3) := dok_at gdX5_whyTrip_l0 3 rfl
theorem dX5_whyTrip_8 : decode cX5_whyTrip 8 = .ok (.if_icmp .le 5, 3) := dok_at gdX5_whyTrip_l0 4 rfl
theorem dX5_whyTrip_11 : decode cX5_whyTrip 11 = .ok (.iconst 1, 1) := dok_at gdX5_whyTrip_l0 5 rfl
theorem dX5_whyTrip_12 : decode cX5_whyTrip 12 = .ok (.ireturn, 1) := dok_at gdX5_whyTrip_l0 6 rfl
theorem dX5_whyTrip_13 : decode cX5_whyTrip 13 = .ok (.iconst 0, 1) := dok_at gdX5_whyTrip_l0 7 rfl
theorem dX5_whyTrip_14 : decode cX5_whyTrip 14 = .ok (.istore_n 2, 1) := dok_at gdX5_whyTrip_l0 8 rfl
theorem dX5_whyTrip_15 : decode cX5_whyTrip 15 = .ok (.iload_n 2, 1) := dok_at gdX5_whyTrip_l0 9 rfl
theorem dX5_whyTrip_16 : decode cX5_whyTrip 16 = .ok (.aload_n 1, 1) := dok_at gdX5_whyTrip_l0 10 rfl
theorem dX5_whyTrip_17 : decode cX5_whyTrip 17 = .ok (.getfield 106, 3) := dok_at gdX5_whyTrip_l0 11 rfl
theorem dX5_whyTrip_20 : decode cX5_whyTrip 20 = .ok (.if_icmp .ge 65, 3) := dok_at gdX5_whyTrip_l0 12 rfl
theorem dX5_whyTrip_23 : decode cX5_whyTrip 23 = .ok (.aload_n 1, 1) := dok_at gdX5_whyTrip_l0 13 rfl
theorem dX5_whyTrip_24 : decode cX5_whyTrip 24 = .ok (.iload_n 2, 1) := dok_at gdX5_whyTrip_l0 14 rfl
theorem dX5_whyTrip_25 : decode cX5_whyTrip 25 = .ok (.bipush 6, 2) := dok_at gdX5_whyTrip_l0 15 rfl
theorem dX5_whyTrip_27 : decode cX5_whyTrip 27 = .ok (.invokevirtual 47, 3) := dok_at gdX5_whyTrip_l0 16 rfl
theorem dX5_whyTrip_30 : decode cX5_whyTrip 30 = .ok (.istore_n 3, 1) := dok_at gdX5_whyTrip_l0 17 rfl
theorem dX5_whyTrip_31 : decode cX5_whyTrip 31 = .ok (.aload_n 0, 1) := dok_at gdX5_whyTrip_l0 18 rfl
theorem dX5_whyTrip_32 : decode cX5_whyTrip 32 = .ok (.getfield 18, 3) := dok_at gdX5_whyTrip_l0 19 rfl
theorem dX5_whyTrip_35 : decode cX5_whyTrip 35 = .ok (.iload_n 2, 1) := dok_at gdX5_whyTrip_l0 20 rfl
theorem dX5_whyTrip_36 : decode cX5_whyTrip 36 = .ok (.iaload, 1) := dok_at gdX5_whyTrip_l0 21 rfl
theorem dX5_whyTrip_37 : decode cX5_whyTrip 37 = .ok (.iconst 1, 1) := dok_at gdX5_whyTrip_l0 22 rfl
theorem dX5_whyTrip_38 : decode cX5_whyTrip 38 = .ok (.if_icmp .eq 13, 3) := dok_at gdX5_whyTrip_l0 23 rfl
def dX5_whyTrip_l41 : List (Nat × Instr × Nat) := [(41, .aload_n 0, 1), (42, .getfield 18, 3), (45, .iload_n 2, 1), (46, .iaload, 1), (47, .iconst 2, 1), (48, .if_icmp .ne 7, 3), (51, .iconst 1, 1), (52, .goto 4, 3), (55, .iconst 0, 1), (56, .istore 4, 2), (58, .iload_n 3, 1), (59, .ifCond .le 20, 3), (62, .iload 4, 2), (64, .ifCond .eq 15, 3), (67, .aload_n 0, 1), (68, .getfield 25, 3), (71, .iload_n 2, 1), (72, .iaload, 1), (73, .iload_n 3, 1), (74, .if_icmp .lt 5, 3), (77, .iconst 2, 1), (78, .ireturn, 1), (79, .iinc 2 1, 3), (82, .goto (-67), 3)]
theorem gdX5_whyTrip_l41 : dok cX5_whyTrip dX5_whyTrip_l41 = true := by decide +kernel
theorem dX5_whyTrip_41 : decode cX5_whyTrip 41 = .ok (.aload_n 0, 1) := dok_at gdX5_whyTrip_l41 0 rfl
theorem dX5_whyTrip_42 : decode cX5_whyTrip 42 = .ok (.getfield 18, 3) := dok_at gdX5_whyTrip_l41 1 rfl
theorem dX5_whyTrip_45 : decode cX5_whyTrip 45 = .ok (.iload_n 2, 1) := dok_at gdX5_whyTrip_l41 2 rfl
theorem dX5_whyTrip_46 : decode cX5_whyTrip 46 = .ok (.iaload, 1) := dok_at gdX5_whyTrip_l41 3 rfl
theorem dX5_whyTrip_47 : decode cX5_whyTrip 47 = .ok (.iconst 2, 1) := dok_at gdX5_whyTrip_l41 4 rfl
theorem dX5_whyTrip_48 : decode cX5_whyTrip 48 = .ok (.if_icmp .ne 7, 3) := dok_at gdX5_whyTrip_l41 5 rfl
theorem dX5_whyTrip_51 : decode cX5_whyTrip 51 = .ok (.iconst 1, 1) := dok_at gdX5_whyTrip_l41 6 rfl
theorem dX5_whyTrip_52 : decode cX5_whyTrip 52 = .ok (.goto 4, 3) := dok_at gdX5_whyTrip_l41 7 rfl
theorem dX5_whyTrip_55 : decode cX5_whyTrip 55 = .ok (.iconst 0, 1) := dok_at gdX5_whyTrip_l41 8 rfl
theorem dX5_whyTrip_56 : decode cX5_whyTrip 56 = .ok (.istore 4, 2) := dok_at gdX5_whyTrip_l41 9 rfl
theorem dX5_whyTrip_58 : decode cX5_whyTrip 58 = .ok (.iload_n 3, 1) := dok_at gdX5_whyTrip_l41 10 rfl
theorem dX5_whyTrip_59 : decode cX5_whyTrip 59 = .ok (.ifCond .le 20, 3) := dok_at gdX5_whyTrip_l41 11 rfl
theorem dX5_whyTrip_62 : decode cX5_whyTrip 62 = .ok (.iload 4, 2) := dok_at gdX5_whyTrip_l41 12 rfl
theorem dX5_whyTrip_64 : decode cX5_whyTrip 64 = .ok (.ifCond .eq 15, 3) := dok_at gdX5_whyTrip_l41 13 rfl
theorem dX5_whyTrip_67 : decode cX5_whyTrip 67 = .ok (.aload_n 0, 1) := dok_at gdX5_whyTrip_l41 14 rfl
theorem dX5_whyTrip_68 : decode cX5_whyTrip 68 = .ok (.getfield 25, 3) := dok_at gdX5_whyTrip_l41 15 rfl
theorem dX5_whyTrip_71 : decode cX5_whyTrip 71 = .ok (.iload_n 2, 1) := dok_at gdX5_whyTrip_l41 16 rfl
theorem dX5_whyTrip_72 : decode cX5_whyTrip 72 = .ok (.iaload, 1) := dok_at gdX5_whyTrip_l41 17 rfl
theorem dX5_whyTrip_73 : decode cX5_whyTrip 73 = .ok (.iload_n 3, 1) := dok_at gdX5_whyTrip_l41 18 rfl
theorem dX5_whyTrip_74 : decode cX5_whyTrip 74 = .ok (.if_icmp .lt 5, 3) := dok_at gdX5_whyTrip_l41 19 rfl
theorem dX5_whyTrip_77 : decode cX5_whyTrip 77 = .ok (.iconst 2, 1) := dok_at gdX5_whyTrip_l41 20 rfl
theorem dX5_whyTrip_78 : decode cX5_whyTrip 78 = .ok (.ireturn, 1) := dok_at gdX5_whyTrip_l41 21 rfl
theorem dX5_whyTrip_79 : decode cX5_whyTrip 79 = .ok (.iinc 2 1, 3) := dok_at gdX5_whyTrip_l41 22 rfl
theorem dX5_whyTrip_82 : decode cX5_whyTrip 82 = .ok (.goto (-67), 3) := dok_at gdX5_whyTrip_l41 23 rfl
def dX5_whyTrip_l85 : List (Nat × Instr × Nat) := [(85, .iconst 0, 1), (86, .ireturn, 1)]
theorem gdX5_whyTrip_l85 : dok cX5_whyTrip dX5_whyTrip_l85 = true := by decide +kernel
theorem dX5_whyTrip_85 : decode cX5_whyTrip 85 = .ok (.iconst 0, 1) := dok_at gdX5_whyTrip_l85 0 rfl
theorem dX5_whyTrip_86 : decode cX5_whyTrip 86 = .ok (.ireturn, 1) := dok_at gdX5_whyTrip_l85 1 rfl
def dX5_trip_l0 : List (Nat × Instr × Nat) := [(0, .aload_n 0, 1), (1, .dup, 1), (2, .getfield 63, 3), (5, .iconst 1, 1), (6, .iadd, 1), (7, .putfield 63, 3), (10, .aload_n 0, 1), (11, .getfield 12, 3), (14, .aload_n 0, 1), (15, .getfield 51, 3), (18, .bipush (-4), 2), (20, .iconst 5, 1), (21, .iload_n 2, 1), (22, .iadd, 1), (23, .invokevirtual 121, 3), (26, .aload_n 0, 1), (27, .getfield 60, 3), (30, .ifCond .le 24, 3), (33, .aload_n 0, 1), (34, .dup, 1), (35, .getfield 60, 3), (38, .iconst 1, 1), (39, .isub, 1), (40, .putfield 60, 3)]
theorem gdX5_trip_l0 : dok cX5_trip dX5_trip_l0 = true := by decide +kernel
theorem dX5_trip_0 : decode cX5_trip 0 = .ok (.aload_n 0, 1) := dok_at gdX5_trip_l0 0 rfl
theorem dX5_trip_1 : decode cX5_trip 1 = .ok (.dup, 1) := dok_at gdX5_trip_l0 1 rfl
theorem dX5_trip_2 : decode cX5_trip 2 = .ok (.getfield 63, 3) := dok_at gdX5_trip_l0 2 rfl
theorem dX5_trip_5 : decode cX5_trip 5 = .ok (.iconst 1, 1) := dok_at gdX5_trip_l0 3 rfl
theorem dX5_trip_6 : decode cX5_trip 6 = .ok (.iadd, 1) := dok_at gdX5_trip_l0 4 rfl
theorem dX5_trip_7 : decode cX5_trip 7 = .ok (.putfield 63, 3) := dok_at gdX5_trip_l0 5 rfl
theorem dX5_trip_10 : decode cX5_trip 10 = .ok (.aload_n 0, 1) := dok_at gdX5_trip_l0 6 rfl
theorem dX5_trip_11 : decode cX5_trip 11 = .ok (.getfield 12, 3) := dok_at gdX5_trip_l0 7 rfl
theorem dX5_trip_14 : decode cX5_trip 14 = .ok (.aload_n 0, 1) := dok_at gdX5_trip_l0 8 rfl
theorem dX5_trip_15 : decode cX5_trip 15 = .ok (.getfield 51, 3) := dok_at gdX5_trip_l0 9 rfl
theorem dX5_trip_18 : decode cX5_trip 18 = .ok (.bipush (-4), 2) := dok_at gdX5_trip_l0 10 rfl
theorem dX5_trip_20 : decode cX5_trip 20 = .ok (.iconst 5, 1) := dok_at gdX5_trip_l0 11 rfl
theorem dX5_trip_21 : decode cX5_trip 21 = .ok (.iload_n 2, 1) := dok_at gdX5_trip_l0 12 rfl
theorem dX5_trip_22 : decode cX5_trip 22 = .ok (.iadd, 1) := dok_at gdX5_trip_l0 13 rfl
theorem dX5_trip_23 : decode cX5_trip 23 = .ok (.invokevirtual 121, 3) := dok_at gdX5_trip_l0 14 rfl
theorem dX5_trip_26 : decode cX5_trip 26 = .ok (.aload_n 0, 1) := dok_at gdX5_trip_l0 15 rfl
theorem dX5_trip_27 : decode cX5_trip 27 = .ok (.getfield 60, 3) := dok_at gdX5_trip_l0 16 rfl
theorem dX5_trip_30 : decode cX5_trip 30 = .ok (.ifCond .le 24, 3) := dok_at gdX5_trip_l0 17 rfl
theorem dX5_trip_33 : decode cX5_trip 33 = .ok (.aload_n 0, 1) := dok_at gdX5_trip_l0 18 rfl
theorem dX5_trip_34 : decode cX5_trip 34 = .ok (.dup, 1) := dok_at gdX5_trip_l0 19 rfl
theorem dX5_trip_35 : decode cX5_trip 35 = .ok (.getfield 60, 3) := dok_at gdX5_trip_l0 20 rfl
theorem dX5_trip_38 : decode cX5_trip 38 = .ok (.iconst 1, 1) := dok_at gdX5_trip_l0 21 rfl
theorem dX5_trip_39 : decode cX5_trip 39 = .ok (.isub, 1) := dok_at gdX5_trip_l0 22 rfl
theorem dX5_trip_40 : decode cX5_trip 40 = .ok (.putfield 60, 3) := dok_at gdX5_trip_l0 23 rfl
def dX5_trip_l43 : List (Nat × Instr × Nat) := [(43, .aload_n 0, 1), (44, .aload_n 1, 1), (45, .getfield 128, 3), (48, .putfield 54, 3), (51, .goto 9, 3), (54, .aload_n 0, 1), (55, .bipush (-4), 2), (57, .putfield 54, 3), (60, .return_, 1)]
theorem gdX5_trip_l43 : dok cX5_trip dX5_trip_l43 = true := by decide +kernel
theorem dX5_trip_43 : decode cX5_trip 43 = .ok (.aload_n 0, 1) := dok_at gdX5_trip_l43 0 rfl
theorem dX5_trip_44 : decode cX5_trip 44 = .ok (.aload_n 1, 1) := dok_at gdX5_trip_l43 1 rfl
theorem dX5_trip_45 : decode cX5_trip 45 = .ok (.getfield 128, 3) := dok_at gdX5_trip_l43 2 rfl
theorem dX5_trip_48 : decode cX5_trip 48 = .ok (.putfield 54, 3) := dok_at gdX5_trip_l43 3 rfl
theorem dX5_trip_51 : decode cX5_trip 51 = .ok (.goto 9, 3) := dok_at gdX5_trip_l43 4 rfl
theorem dX5_trip_54 : decode cX5_trip 54 = .ok (.aload_n 0, 1) := dok_at gdX5_trip_l43 5 rfl
theorem dX5_trip_55 : decode cX5_trip 55 = .ok (.bipush (-4), 2) := dok_at gdX5_trip_l43 6 rfl
theorem dX5_trip_57 : decode cX5_trip 57 = .ok (.putfield 54, 3) := dok_at gdX5_trip_l43 7 rfl
theorem dX5_trip_60 : decode cX5_trip 60 = .ok (.return_, 1) := dok_at gdX5_trip_l43 8 rfl
def dX5_growOlder_l0 : List (Nat × Instr × Nat) := [(0, .iconst 0, 1), (1, .istore_n 2, 1), (2, .iload_n 2, 1), (3, .aload_n 1, 1), (4, .getfield 106, 3), (7, .if_icmp .ge 29, 3), (10, .aload_n 0, 1), (11, .getfield 22, 3), (14, .iload_n 2, 1), (15, .dup2, 1), (16, .iaload, 1), (17, .iconst 1, 1), (18, .iadd, 1), (19, .iastore, 1), (20, .aload_n 0, 1), (21, .getfield 25, 3), (24, .iload_n 2, 1), (25, .dup2, 1), (26, .iaload, 1), (27, .iconst 1, 1), (28, .iadd, 1), (29, .iastore, 1), (30, .iinc 2 1, 3), (33, .goto (-31), 3)]
theorem gdX5_growOlder_l0 : dok cX5_growOlder dX5_growOlder_l0 = true := by decide +kernel
theorem dX5_growOlder_0 : decode cX5_growOlder 0 = .ok (.iconst 0, 1) := dok_at gdX5_growOlder_l0 0 rfl
theorem dX5_growOlder_1 : decode cX5_growOlder 1 = .ok (.istore_n 2, 1) := dok_at gdX5_growOlder_l0 1 rfl
theorem dX5_growOlder_2 : decode cX5_growOlder 2 = .ok (.iload_n 2, 1) := dok_at gdX5_growOlder_l0 2 rfl
theorem dX5_growOlder_3 : decode cX5_growOlder 3 = .ok (.aload_n 1, 1) := dok_at gdX5_growOlder_l0 3 rfl
theorem dX5_growOlder_4 : decode cX5_growOlder 4 = .ok (.getfield 106, 3) := dok_at gdX5_growOlder_l0 4 rfl
theorem dX5_growOlder_7 : decode cX5_growOlder 7 = .ok (.if_icmp .ge 29, 3) := dok_at gdX5_growOlder_l0 5 rfl
theorem dX5_growOlder_10 : decode cX5_growOlder 10 = .ok (.aload_n 0, 1) := dok_at gdX5_growOlder_l0 6 rfl
theorem dX5_growOlder_11 : decode cX5_growOlder 11 = .ok (.getfield 22, 3) := dok_at gdX5_growOlder_l0 7 rfl
theorem dX5_growOlder_14 : decode cX5_growOlder 14 = .ok (.iload_n 2, 1) := dok_at gdX5_growOlder_l0 8 rfl
theorem dX5_growOlder_15 : decode cX5_growOlder 15 = .ok (.dup2, 1) := dok_at gdX5_growOlder_l0 9 rfl
theorem dX5_growOlder_16 : decode cX5_growOlder 16 = .ok (.iaload, 1) := dok_at gdX5_growOlder_l0 10 rfl
theorem dX5_growOlder_17 : decode cX5_growOlder 17 = .ok (.iconst 1, 1) := dok_at gdX5_growOlder_l0 11 rfl
theorem dX5_growOlder_18 : decode cX5_growOlder 18 = .ok (.iadd, 1) := dok_at gdX5_growOlder_l0 12 rfl
theorem dX5_growOlder_19 : decode cX5_growOlder 19 = .ok (.iastore, 1) := dok_at gdX5_growOlder_l0 13 rfl
theorem dX5_growOlder_20 : decode cX5_growOlder 20 = .ok (.aload_n 0, 1) := dok_at gdX5_growOlder_l0 14 rfl
theorem dX5_growOlder_21 : decode cX5_growOlder 21 = .ok (.getfield 25, 3) := dok_at gdX5_growOlder_l0 15 rfl
theorem dX5_growOlder_24 : decode cX5_growOlder 24 = .ok (.iload_n 2, 1) := dok_at gdX5_growOlder_l0 16 rfl
theorem dX5_growOlder_25 : decode cX5_growOlder 25 = .ok (.dup2, 1) := dok_at gdX5_growOlder_l0 17 rfl
theorem dX5_growOlder_26 : decode cX5_growOlder 26 = .ok (.iaload, 1) := dok_at gdX5_growOlder_l0 18 rfl
theorem dX5_growOlder_27 : decode cX5_growOlder 27 = .ok (.iconst 1, 1) := dok_at gdX5_growOlder_l0 19 rfl
theorem dX5_growOlder_28 : decode cX5_growOlder 28 = .ok (.iadd, 1) := dok_at gdX5_growOlder_l0 20 rfl
theorem dX5_growOlder_29 : decode cX5_growOlder 29 = .ok (.iastore, 1) := dok_at gdX5_growOlder_l0 21 rfl
theorem dX5_growOlder_30 : decode cX5_growOlder 30 = .ok (.iinc 2 1, 3) := dok_at gdX5_growOlder_l0 22 rfl
theorem dX5_growOlder_33 : decode cX5_growOlder 33 = .ok (.goto (-31), 3) := dok_at gdX5_growOlder_l0 23 rfl
def dX5_growOlder_l36 : List (Nat × Instr × Nat) := [(36, .aload_n 0, 1), (37, .dup, 1), (38, .getfield 51, 3), (41, .iconst 1, 1), (42, .iadd, 1), (43, .putfield 51, 3), (46, .aload_n 0, 1), (47, .getfield 54, 3), (50, .ifCond .le 13, 3), (53, .aload_n 0, 1), (54, .dup, 1), (55, .getfield 54, 3), (58, .iconst 1, 1), (59, .isub, 1), (60, .putfield 54, 3), (63, .return_, 1)]
theorem gdX5_growOlder_l36 : dok cX5_growOlder dX5_growOlder_l36 = true := by decide +kernel
theorem dX5_growOlder_36 : decode cX5_growOlder 36 = .ok (.aload_n 0, 1) := dok_at gdX5_growOlder_l36 0 rfl
theorem dX5_growOlder_37 : decode cX5_growOlder 37 = .ok (.dup, 1) := dok_at gdX5_growOlder_l36 1 rfl
theorem dX5_growOlder_38 : decode cX5_growOlder 38 = .ok (.getfield 51, 3) := dok_at gdX5_growOlder_l36 2 rfl
theorem dX5_growOlder_41 : decode cX5_growOlder 41 = .ok (.iconst 1, 1) := dok_at gdX5_growOlder_l36 3 rfl
theorem dX5_growOlder_42 : decode cX5_growOlder 42 = .ok (.iadd, 1) := dok_at gdX5_growOlder_l36 4 rfl
theorem dX5_growOlder_43 : decode cX5_growOlder 43 = .ok (.putfield 51, 3) := dok_at gdX5_growOlder_l36 5 rfl
theorem dX5_growOlder_46 : decode cX5_growOlder 46 = .ok (.aload_n 0, 1) := dok_at gdX5_growOlder_l36 6 rfl
theorem dX5_growOlder_47 : decode cX5_growOlder 47 = .ok (.getfield 54, 3) := dok_at gdX5_growOlder_l36 7 rfl
theorem dX5_growOlder_50 : decode cX5_growOlder 50 = .ok (.ifCond .le 13, 3) := dok_at gdX5_growOlder_l36 8 rfl
theorem dX5_growOlder_53 : decode cX5_growOlder 53 = .ok (.aload_n 0, 1) := dok_at gdX5_growOlder_l36 9 rfl
theorem dX5_growOlder_54 : decode cX5_growOlder 54 = .ok (.dup, 1) := dok_at gdX5_growOlder_l36 10 rfl
theorem dX5_growOlder_55 : decode cX5_growOlder 55 = .ok (.getfield 54, 3) := dok_at gdX5_growOlder_l36 11 rfl
theorem dX5_growOlder_58 : decode cX5_growOlder 58 = .ok (.iconst 1, 1) := dok_at gdX5_growOlder_l36 12 rfl
theorem dX5_growOlder_59 : decode cX5_growOlder 59 = .ok (.isub, 1) := dok_at gdX5_growOlder_l36 13 rfl
theorem dX5_growOlder_60 : decode cX5_growOlder 60 = .ok (.putfield 54, 3) := dok_at gdX5_growOlder_l36 14 rfl
theorem dX5_growOlder_63 : decode cX5_growOlder 63 = .ok (.return_, 1) := dok_at gdX5_growOlder_l36 15 rfl
def dX6_init_l0 : List (Nat × Instr × Nat) := [(0, .aload_n 0, 1), (1, .invokespecial 3, 3), (4, .aload_n 0, 1), (5, .iconst 4, 1), (6, .bipush 40, 2), (8, .multianewarray 11 2, 4), (12, .putfield 13, 3), (15, .aload_n 0, 1), (16, .iconst 4, 1), (17, .newarray .int, 2), (19, .putfield 16, 3), (22, .aload_n 0, 1), (23, .iconst 4, 1), (24, .newarray .int, 2), (26, .putfield 20, 3), (29, .aload_n 0, 1), (30, .getfield 20, 3), (33, .bipush (-4), 2), (35, .invokestatic 23, 3), (38, .return_, 1)]
theorem gdX6_init_l0 : dok cX6_init dX6_init_l0 = true := by decide +kernel
theorem dX6_init_0 : decode cX6_init 0 = .ok (.aload_n 0, 1) := dok_at gdX6_init_l0 0 rfl
theorem dX6_init_1 : decode cX6_init 1 = .ok (.invokespecial 3, 3) := dok_at gdX6_init_l0 1 rfl
theorem dX6_init_4 : decode cX6_init 4 = .ok (.aload_n 0, 1) := dok_at gdX6_init_l0 2 rfl
theorem dX6_init_5 : decode cX6_init 5 = .ok (.iconst 4, 1) := dok_at gdX6_init_l0 3 rfl
theorem dX6_init_6 : decode cX6_init 6 = .ok (.bipush 40, 2) := dok_at gdX6_init_l0 4 rfl
theorem dX6_init_8 : decode cX6_init 8 = .ok (.multianewarray 11 2, 4) := dok_at gdX6_init_l0 5 rfl
theorem dX6_init_12 : decode cX6_init 12 = .ok (.putfield 13, 3) := dok_at gdX6_init_l0 6 rfl
theorem dX6_init_15 : decode cX6_init 15 = .ok (.aload_n 0, 1) := dok_at gdX6_init_l0 7 rfl
theorem dX6_init_16 : decode cX6_init 16 = .ok (.iconst 4, 1) := dok_at gdX6_init_l0 8 rfl
theorem dX6_init_17 : decode cX6_init 17 = .ok (.newarray .int, 2) := dok_at gdX6_init_l0 9 rfl
theorem dX6_init_19 : decode cX6_init 19 = .ok (.putfield 16, 3) := dok_at gdX6_init_l0 10 rfl
theorem dX6_init_22 : decode cX6_init 22 = .ok (.aload_n 0, 1) := dok_at gdX6_init_l0 11 rfl
theorem dX6_init_23 : decode cX6_init 23 = .ok (.iconst 4, 1) := dok_at gdX6_init_l0 12 rfl
theorem dX6_init_24 : decode cX6_init 24 = .ok (.newarray .int, 2) := dok_at gdX6_init_l0 13 rfl
theorem dX6_init_26 : decode cX6_init 26 = .ok (.putfield 20, 3) := dok_at gdX6_init_l0 14 rfl
theorem dX6_init_29 : decode cX6_init 29 = .ok (.aload_n 0, 1) := dok_at gdX6_init_l0 15 rfl
theorem dX6_init_30 : decode cX6_init 30 = .ok (.getfield 20, 3) := dok_at gdX6_init_l0 16 rfl
theorem dX6_init_33 : decode cX6_init 33 = .ok (.bipush (-4), 2) := dok_at gdX6_init_l0 17 rfl
theorem dX6_init_35 : decode cX6_init 35 = .ok (.invokestatic 23, 3) := dok_at gdX6_init_l0 18 rfl
theorem dX6_init_38 : decode cX6_init 38 = .ok (.return_, 1) := dok_at gdX6_init_l0 19 rfl
def dX6_hasPlace_l0 : List (Nat × Instr × Nat) := [(0, .iload_n 0, 1), (1, .ifCond .lt 12, 3), (4, .iload_n 0, 1), (5, .iconst 4, 1), (6, .if_icmp .ge 7, 3), (9, .iconst 1, 1), (10, .goto 4, 3), (13, .iconst 0, 1), (14, .ireturn, 1)]
theorem gdX6_hasPlace_l0 : dok cX6_hasPlace dX6_hasPlace_l0 = true := by decide +kernel
theorem dX6_hasPlace_0 : decode cX6_hasPlace 0 = .ok (.iload_n 0, 1) := dok_at gdX6_hasPlace_l0 0 rfl
theorem dX6_hasPlace_1 : decode cX6_hasPlace 1 = .ok (.ifCond .lt 12, 3) := dok_at gdX6_hasPlace_l0 1 rfl
theorem dX6_hasPlace_4 : decode cX6_hasPlace 4 = .ok (.iload_n 0, 1) := dok_at gdX6_hasPlace_l0 2 rfl
theorem dX6_hasPlace_5 : decode cX6_hasPlace 5 = .ok (.iconst 4, 1) := dok_at gdX6_hasPlace_l0 3 rfl
theorem dX6_hasPlace_6 : decode cX6_hasPlace 6 = .ok (.if_icmp .ge 7, 3) := dok_at gdX6_hasPlace_l0 4 rfl
theorem dX6_hasPlace_9 : decode cX6_hasPlace 9 = .ok (.iconst 1, 1) := dok_at gdX6_hasPlace_l0 5 rfl
theorem dX6_hasPlace_10 : decode cX6_hasPlace 10 = .ok (.goto 4, 3) := dok_at gdX6_hasPlace_l0 6 rfl
theorem dX6_hasPlace_13 : decode cX6_hasPlace 13 = .ok (.iconst 0, 1) := dok_at gdX6_hasPlace_l0 7 rfl
theorem dX6_hasPlace_14 : decode cX6_hasPlace 14 = .ok (.ireturn, 1) := dok_at gdX6_hasPlace_l0 8 rfl
def dX6_isLane_l0 : List (Nat × Instr × Nat) := [(0, .iload_n 0, 1), (1, .ifCond .lt 12, 3), (4, .iload_n 0, 1), (5, .iconst 2, 1), (6, .if_icmp .gt 7, 3), (9, .iconst 1, 1), (10, .goto 4, 3), (13, .iconst 0, 1), (14, .ireturn, 1)]
theorem gdX6_isLane_l0 : dok cX6_isLane dX6_isLane_l0 = true := by decide +kernel
theorem dX6_isLane_0 : decode cX6_isLane 0 = .ok (.iload_n 0, 1) := dok_at gdX6_isLane_l0 0 rfl
theorem dX6_isLane_1 : decode cX6_isLane 1 = .ok (.ifCond .lt 12, 3) := dok_at gdX6_isLane_l0 1 rfl
theorem dX6_isLane_4 : decode cX6_isLane 4 = .ok (.iload_n 0, 1) := dok_at gdX6_isLane_l0 2 rfl
theorem dX6_isLane_5 : decode cX6_isLane 5 = .ok (.iconst 2, 1) := dok_at gdX6_isLane_l0 3 rfl
theorem dX6_isLane_6 : decode cX6_isLane 6 = .ok (.if_icmp .gt 7, 3) := dok_at gdX6_isLane_l0 4 rfl
theorem dX6_isLane_9 : decode cX6_isLane 9 = .ok (.iconst 1, 1) := dok_at gdX6_isLane_l0 5 rfl
theorem dX6_isLane_10 : decode cX6_isLane 10 = .ok (.goto 4, 3) := dok_at gdX6_isLane_l0 6 rfl
theorem dX6_isLane_13 : decode cX6_isLane 13 = .ok (.iconst 0, 1) := dok_at gdX6_isLane_l0 7 rfl
theorem dX6_isLane_14 : decode cX6_isLane 14 = .ok (.ireturn, 1) := dok_at gdX6_isLane_l0 8 rfl
def dX6_renew_l0 : List (Nat × Instr × Nat) := [(0, .aload_n 0, 1), (1, .getfield 16, 3), (4, .iload_n 1, 1), (5, .iload_n 2, 1), (6, .iastore, 1), (7, .aload_n 0, 1), (8, .getfield 20, 3), (11, .iload_n 1, 1), (12, .iload_n 3, 1), (13, .iastore, 1), (14, .aload_n 0, 1), (15, .getfield 13, 3), (18, .iload_n 1, 1), (19, .aaload, 1), (20, .iconst 0, 1), (21, .invokestatic 23, 3), (24, .return_, 1)]
theorem gdX6_renew_l0 : dok cX6_renew dX6_renew_l0 = true := by decide +kernel
theorem dX6_renew_0 : decode cX6_renew 0 = .ok (.aload_n 0, 1) := dok_at gdX6_renew_l0 0 rfl
theorem dX6_renew_1 : decode cX6_renew 1 = .ok (.getfield 16, 3) := dok_at gdX6_renew_l0 1 rfl
theorem dX6_renew_4 : decode cX6_renew 4 = .ok (.iload_n 1, 1) := dok_at gdX6_renew_l0 2 rfl
theorem dX6_renew_5 : decode cX6_renew 5 = .ok (.iload_n 2, 1) := dok_at gdX6_renew_l0 3 rfl
theorem dX6_renew_6 : decode cX6_renew 6 = .ok (.iastore, 1) := dok_at gdX6_renew_l0 4 rfl
theorem dX6_renew_7 : decode cX6_renew 7 = .ok (.aload_n 0, 1) := dok_at gdX6_renew_l0 5 rfl
theorem dX6_renew_8 : decode cX6_renew 8 = .ok (.getfield 20, 3) := dok_at gdX6_renew_l0 6 rfl
theorem dX6_renew_11 : decode cX6_renew 11 = .ok (.iload_n 1, 1) := dok_at gdX6_renew_l0 7 rfl
theorem dX6_renew_12 : decode cX6_renew 12 = .ok (.iload_n 3, 1) := dok_at gdX6_renew_l0 8 rfl
theorem dX6_renew_13 : decode cX6_renew 13 = .ok (.iastore, 1) := dok_at gdX6_renew_l0 9 rfl
theorem dX6_renew_14 : decode cX6_renew 14 = .ok (.aload_n 0, 1) := dok_at gdX6_renew_l0 10 rfl
theorem dX6_renew_15 : decode cX6_renew 15 = .ok (.getfield 13, 3) := dok_at gdX6_renew_l0 11 rfl
theorem dX6_renew_18 : decode cX6_renew 18 = .ok (.iload_n 1, 1) := dok_at gdX6_renew_l0 12 rfl
theorem dX6_renew_19 : decode cX6_renew 19 = .ok (.aaload, 1) := dok_at gdX6_renew_l0 13 rfl
theorem dX6_renew_20 : decode cX6_renew 20 = .ok (.iconst 0, 1) := dok_at gdX6_renew_l0 14 rfl
theorem dX6_renew_21 : decode cX6_renew 21 = .ok (.invokestatic 23, 3) := dok_at gdX6_renew_l0 15 rfl
theorem dX6_renew_24 : decode cX6_renew 24 = .ok (.return_, 1) := dok_at gdX6_renew_l0 16 rfl
def dX6_put_l0 : List (Nat × Instr × Nat) := [(0, .aload_n 0, 1), (1, .getfield 16, 3), (4, .iload_n 1, 1), (5, .iaload, 1), (6, .lookupswitch 52 #[(0, 26), (1, 39)], 26), (32, .aload_n 0, 1), (33, .getfield 13, 3), (36, .iload_n 1, 1), (37, .aaload, 1), (38, .iload_n 2, 1), (39, .iload_n 3, 1), (40, .i2b, 1), (41, .iastore, 1), (42, .goto 25, 3), (45, .aload_n 0, 1), (46, .getfield 13, 3), (49, .iload_n 1, 1), (50, .aaload, 1), (51, .iload_n 2, 1), (52, .iload_n 3, 1), (53, .i2s, 1), (54, .iastore, 1), (55, .goto 12, 3), (58, .aload_n 0, 1)]
theorem gdX6_put_l0 : dok cX6_put dX6_put_l0 = true := by decide +kernel
theorem dX6_put_0 : decode cX6_put 0 = .ok (.aload_n 0, 1) := dok_at gdX6_put_l0 0 rfl
theorem dX6_put_1 : decode cX6_put 1 = .ok (.getfield 16, 3) := dok_at gdX6_put_l0 1 rfl
theorem dX6_put_4 : decode cX6_put 4 = .ok (.iload_n 1, 1) := dok_at gdX6_put_l0 2 rfl
theorem dX6_put_5 : decode cX6_put 5 = .ok (.iaload, 1) := dok_at gdX6_put_l0 3 rfl
theorem dX6_put_6 : decode cX6_put 6 = .ok (.lookupswitch 52 #[(0, 26), (1, 39)], 26) := dok_at gdX6_put_l0 4 rfl
theorem dX6_put_32 : decode cX6_put 32 = .ok (.aload_n 0, 1) := dok_at gdX6_put_l0 5 rfl
theorem dX6_put_33 : decode cX6_put 33 = .ok (.getfield 13, 3) := dok_at gdX6_put_l0 6 rfl
theorem dX6_put_36 : decode cX6_put 36 = .ok (.iload_n 1, 1) := dok_at gdX6_put_l0 7 rfl
theorem dX6_put_37 : decode cX6_put 37 = .ok (.aaload, 1) := dok_at gdX6_put_l0 8 rfl
theorem dX6_put_38 : decode cX6_put 38 = .ok (.iload_n 2, 1) := dok_at gdX6_put_l0 9 rfl
theorem dX6_put_39 : decode cX6_put 39 = .ok (.iload_n 3, 1) := dok_at gdX6_put_l0 10 rfl
theorem dX6_put_40 : decode cX6_put 40 = .ok (.i2b, 1) := dok_at gdX6_put_l0 11 rfl
theorem dX6_put_41 : decode cX6_put 41 = .ok (.iastore, 1) := dok_at gdX6_put_l0 12 rfl
theorem dX6_put_42 : decode cX6_put 42 = .ok (.goto 25, 3) := dok_at gdX6_put_l0 13 rfl
theorem dX6_put_45 : decode cX6_put 45 = .ok (.aload_n 0, 1) := dok_at gdX6_put_l0 14 rfl
theorem dX6_put_46 : decode cX6_put 46 = .ok (.getfield 13, 3) := dok_at gdX6_put_l0 15 rfl
theorem dX6_put_49 : decode cX6_put 49 = .ok (.iload_n 1, 1) := dok_at gdX6_put_l0 16 rfl
theorem dX6_put_50 : decode cX6_put 50 = .ok (.aaload, 1) := dok_at gdX6_put_l0 17 rfl
theorem dX6_put_51 : decode cX6_put 51 = .ok (.iload_n 2, 1) := dok_at gdX6_put_l0 18 rfl
theorem dX6_put_52 : decode cX6_put 52 = .ok (.iload_n 3, 1) := dok_at gdX6_put_l0 19 rfl
theorem dX6_put_53 : decode cX6_put 53 = .ok (.i2s, 1) := dok_at gdX6_put_l0 20 rfl
theorem dX6_put_54 : decode cX6_put 54 = .ok (.iastore, 1) := dok_at gdX6_put_l0 21 rfl
theorem dX6_put_55 : decode cX6_put 55 = .ok (.goto 12, 3) := dok_at gdX6_put_l0 22 rfl
theorem dX6_put_58 : decode cX6_put 58 = .ok (.aload_n 0, 1) := dok_at gdX6_put_l0 23 rfl
def dX6_put_l59 : List (Nat × Instr × Nat) := [(59, .getfield 13, 3), (62, .iload_n 1, 1), (63, .aaload, 1), (64, .iload_n 2, 1), (65, .iload_n 3, 1), (66, .iastore, 1), (67, .return_, 1)]
theorem gdX6_put_l59 : dok cX6_put dX6_put_l59 = true := by decide +kernel
theorem dX6_put_59 : decode cX6_put 59 = .ok (.getfield 13, 3) := dok_at gdX6_put_l59 0 rfl
theorem dX6_put_62 : decode cX6_put 62 = .ok (.iload_n 1, 1) := dok_at gdX6_put_l59 1 rfl
theorem dX6_put_63 : decode cX6_put 63 = .ok (.aaload, 1) := dok_at gdX6_put_l59 2 rfl
theorem dX6_put_64 : decode cX6_put 64 = .ok (.iload_n 2, 1) := dok_at gdX6_put_l59 3 rfl
theorem dX6_put_65 : decode cX6_put 65 = .ok (.iload_n 3, 1) := dok_at gdX6_put_l59 4 rfl
theorem dX6_put_66 : decode cX6_put 66 = .ok (.iastore, 1) := dok_at gdX6_put_l59 5 rfl
theorem dX6_put_67 : decode cX6_put 67 = .ok (.return_, 1) := dok_at gdX6_put_l59 6 rfl
def dX7_init_l0 : List (Nat × Instr × Nat) := [(0, .aload_n 0, 1), (1, .invokespecial 3, 3), (4, .aload_n 0, 1), (5, .aload_n 1, 1), (6, .putfield 9, 3), (9, .aload_n 0, 1), (10, .bipush 8, 2), (12, .newarray .int, 2), (14, .putfield 15, 3), (17, .aload_n 0, 1), (18, .iconst 0, 1), (19, .putfield 19, 3), (22, .aload_n 0, 1), (23, .bipush (-4), 2), (25, .putfield 23, 3), (28, .return_, 1)]
theorem gdX7_init_l0 : dok cX7_init dX7_init_l0 = true := by decide +kernel
theorem dX7_init_0 : decode cX7_init 0 = .ok (.aload_n 0, 1) := dok_at gdX7_init_l0 0 rfl
theorem dX7_init_1 : decode cX7_init 1 = .ok (.invokespecial 3, 3) := dok_at gdX7_init_l0 1 rfl
theorem dX7_init_4 : decode cX7_init 4 = .ok (.aload_n 0, 1) := dok_at gdX7_init_l0 2 rfl
theorem dX7_init_5 : decode cX7_init 5 = .ok (.aload_n 1, 1) := dok_at gdX7_init_l0 3 rfl
theorem dX7_init_6 : decode cX7_init 6 = .ok (.putfield 9, 3) := dok_at gdX7_init_l0 4 rfl
theorem dX7_init_9 : decode cX7_init 9 = .ok (.aload_n 0, 1) := dok_at gdX7_init_l0 5 rfl
theorem dX7_init_10 : decode cX7_init 10 = .ok (.bipush 8, 2) := dok_at gdX7_init_l0 6 rfl
theorem dX7_init_12 : decode cX7_init 12 = .ok (.newarray .int, 2) := dok_at gdX7_init_l0 7 rfl
theorem dX7_init_14 : decode cX7_init 14 = .ok (.putfield 15, 3) := dok_at gdX7_init_l0 8 rfl
theorem dX7_init_17 : decode cX7_init 17 = .ok (.aload_n 0, 1) := dok_at gdX7_init_l0 9 rfl
theorem dX7_init_18 : decode cX7_init 18 = .ok (.iconst 0, 1) := dok_at gdX7_init_l0 10 rfl
theorem dX7_init_19 : decode cX7_init 19 = .ok (.putfield 19, 3) := dok_at gdX7_init_l0 11 rfl
theorem dX7_init_22 : decode cX7_init 22 = .ok (.aload_n 0, 1) := dok_at gdX7_init_l0 12 rfl
theorem dX7_init_23 : decode cX7_init 23 = .ok (.bipush (-4), 2) := dok_at gdX7_init_l0 13 rfl
theorem dX7_init_25 : decode cX7_init 25 = .ok (.putfield 23, 3) := dok_at gdX7_init_l0 14 rfl
theorem dX7_init_28 : decode cX7_init 28 = .ok (.return_, 1) := dok_at gdX7_init_l0 15 rfl
def dX7_findRow_l0 : List (Nat × Instr × Nat) := [(0, .aload_n 0, 1), (1, .getfield 19, 3), (4, .ifCond .eq 4, 3), (7, .return_, 1), (8, .aload_n 0, 1), (9, .iconst 1, 1), (10, .putfield 19, 3), (13, .aload_n 0, 1), (14, .bipush (-4), 2), (16, .putfield 23, 3), (19, .aload_n 0, 1), (20, .getfield 15, 3), (23, .iconst 0, 1), (24, .invokestatic 27, 3), (27, .aload_n 0, 1), (28, .getfield 9, 3), (31, .getfield 33, 3), (34, .iconst 0, 1), (35, .invokestatic 27, 3), (38, .aload_n 0, 1), (39, .getfield 9, 3), (42, .aload_n 3, 1), (43, .invokevirtual 38, 3), (46, .aload_n 0, 1)]
theorem gdX7_findRow_l0 : dok cX7_findRow dX7_findRow_l0 = true := by decide +kernel
theorem dX7_findRow_0 : decode cX7_findRow 0 = .ok (.aload_n 0, 1) := dok_at gdX7_findRow_l0 0 rfl
theorem dX7_findRow_1 : decode cX7_findRow 1 = .ok (.getfield 19, 3) := dok_at gdX7_findRow_l0 1 rfl
theorem dX7_findRow_4 : decode cX7_findRow 4 = .ok (.ifCond .eq 4, 3) := dok_at gdX7_findRow_l0 2 rfl
theorem dX7_findRow_7 : decode cX7_findRow 7 = .ok (.return_, 1) := dok_at gdX7_findRow_l0 3 rfl
theorem dX7_findRow_8 : decode cX7_findRow 8 = .ok (.aload_n 0, 1) := dok_at gdX7_findRow_l0 4 rfl
theorem dX7_findRow_9 : decode cX7_findRow 9 = .ok (.iconst 1, 1) := dok_at gdX7_findRow_l0 5 rfl
theorem dX7_findRow_10 : decode cX7_findRow 10 = .ok (.putfield 19, 3) := dok_at gdX7_findRow_l0 6 rfl
theorem dX7_findRow_13 : decode cX7_findRow 13 = .ok (.aload_n 0, 1) := dok_at gdX7_findRow_l0 7 rfl
theorem dX7_findRow_14 : decode cX7_findRow 14 = .ok (.bipush (-4), 2) := dok_at gdX7_findRow_l0 8 rfl
theorem dX7_findRow_16 : decode cX7_findRow 16 = .ok (.putfield 23, 3) := dok_at gdX7_findRow_l0 9 rfl
theorem dX7_findRow_19 : decode cX7_findRow 19 = .ok (.aload_n 0, 1) := dok_at gdX7_findRow_l0 10 rfl
theorem dX7_findRow_20 : decode cX7_findRow 20 = .ok (.getfield 15, 3) := dok_at gdX7_findRow_l0 11 rfl
theorem dX7_findRow_23 : decode cX7_findRow 23 = .ok (.iconst 0, 1) := dok_at gdX7_findRow_l0 12 rfl
theorem dX7_findRow_24 : decode cX7_findRow 24 = .ok (.invokestatic 27, 3) := dok_at gdX7_findRow_l0 13 rfl
theorem dX7_findRow_27 : decode cX7_findRow 27 = .ok (.aload_n 0, 1) := dok_at gdX7_findRow_l0 14 rfl
theorem dX7_findRow_28 : decode cX7_findRow 28 = .ok (.getfield 9, 3) := dok_at gdX7_findRow_l0 15 rfl
theorem dX7_findRow_31 : decode cX7_findRow 31 = .ok (.getfield 33, 3) := dok_at gdX7_findRow_l0 16 rfl
theorem dX7_findRow_34 : decode cX7_findRow 34 = .ok (.iconst 0, 1) := dok_at gdX7_findRow_l0 17 rfl
theorem dX7_findRow_35 : decode cX7_findRow 35 = .ok (.invokestatic 27, 3) := dok_at gdX7_findRow_l0 18 rfl
theorem dX7_findRow_38 : decode cX7_findRow 38 = .ok (.aload_n 0, 1) := dok_at gdX7_findRow_l0 19 rfl
theorem dX7_findRow_39 : decode cX7_findRow 39 = .ok (.getfield 9, 3) := dok_at gdX7_findRow_l0 20 rfl
theorem dX7_findRow_42 : decode cX7_findRow 42 = .ok (.aload_n 3, 1) := dok_at gdX7_findRow_l0 21 rfl
theorem dX7_findRow_43 : decode cX7_findRow 43 = .ok (.invokevirtual 38, 3) := dok_at gdX7_findRow_l0 22 rfl
theorem dX7_findRow_46 : decode cX7_findRow 46 = .ok (.aload_n 0, 1) := dok_at gdX7_findRow_l0 23 rfl
def dX7_findRow_l47 : List (Nat × Instr × Nat) := [(47, .getfield 9, 3), (50, .aload_n 1, 1), (51, .iload_n 2, 1), (52, .invokevirtual 42, 3), (55, .aload_n 0, 1), (56, .getfield 9, 3), (59, .getfield 46, 3), (62, .istore 4, 2), (64, .iload 4, 2), (66, .ifCond .ne 4, 3), (69, .return_, 1), (70, .aload_n 0, 1), (71, .getfield 9, 3), (74, .getfield 49, 3), (77, .istore 5, 2), (79, .iconst 1, 1), (80, .istore 6, 2), (82, .iconst 0, 1), (83, .istore 7, 2), (85, .iload 7, 2), (87, .sipush 4096, 3), (90, .if_icmp .ge 69, 3), (93, .iload 6, 2), (95, .ifCond .eq 64, 3)]
theorem gdX7_findRow_l47 : dok cX7_findRow dX7_findRow_l47 = true := by decide +kernel
theorem dX7_findRow_47 : decode cX7_findRow 47 = .ok (.getfield 9, 3) := dok_at gdX7_findRow_l47 0 rfl
theorem dX7_findRow_50 : decode cX7_findRow 50 = .ok (.aload_n 1, 1) := dok_at gdX7_findRow_l47 1 rfl
theorem dX7_findRow_51 : decode cX7_findRow 51 = .ok (.iload_n 2, 1) := dok_at gdX7_findRow_l47 2 rfl
theorem dX7_findRow_52 : decode cX7_findRow 52 = .ok (.invokevirtual 42, 3) := dok_at gdX7_findRow_l47 3 rfl
theorem dX7_findRow_55 : decode cX7_findRow 55 = .ok (.aload_n 0, 1) := dok_at gdX7_findRow_l47 4 rfl
theorem dX7_findRow_56 : decode cX7_findRow 56 = .ok (.getfield 9, 3) := dok_at gdX7_findRow_l47 5 rfl
theorem dX7_findRow_59 : decode cX7_findRow 59 = .ok (.getfield 46, 3) := dok_at gdX7_findRow_l47 6 rfl
theorem dX7_findRow_62 : decode cX7_findRow 62 = .ok (.istore 4, 2) := dok_at gdX7_findRow_l47 7 rfl
theorem dX7_findRow_64 : decode cX7_findRow 64 = .ok (.iload 4, 2) := dok_at gdX7_findRow_l47 8 rfl
theorem dX7_findRow_66 : decode cX7_findRow 66 = .ok (.ifCond .ne 4, 3) := dok_at gdX7_findRow_l47 9 rfl
theorem dX7_findRow_69 : decode cX7_findRow 69 = .ok (.return_, 1) := dok_at gdX7_findRow_l47 10 rfl
theorem dX7_findRow_70 : decode cX7_findRow 70 = .ok (.aload_n 0, 1) := dok_at gdX7_findRow_l47 11 rfl
theorem dX7_findRow_71 : decode cX7_findRow 71 = .ok (.getfield 9, 3) := dok_at gdX7_findRow_l47 12 rfl
theorem dX7_findRow_74 : decode cX7_findRow 74 = .ok (.getfield 49, 3) := dok_at gdX7_findRow_l47 13 rfl
theorem dX7_findRow_77 : decode cX7_findRow 77 = .ok (.istore 5, 2) := dok_at gdX7_findRow_l47 14 rfl
theorem dX7_findRow_79 : decode cX7_findRow 79 = .ok (.iconst 1, 1) := dok_at gdX7_findRow_l47 15 rfl
theorem dX7_findRow_80 : decode cX7_findRow 80 = .ok (.istore 6, 2) := dok_at gdX7_findRow_l47 16 rfl
theorem dX7_findRow_82 : decode cX7_findRow 82 = .ok (.iconst 0, 1) := dok_at gdX7_findRow_l47 17 rfl
theorem dX7_findRow_83 : decode cX7_findRow 83 = .ok (.istore 7, 2) := dok_at gdX7_findRow_l47 18 rfl
theorem dX7_findRow_85 : decode cX7_findRow 85 = .ok (.iload 7, 2) := dok_at gdX7_findRow_l47 19 rfl
theorem dX7_findRow_87 : decode cX7_findRow 87 = .ok (.sipush 4096, 3) := dok_at gdX7_findRow_l47 20 rfl
theorem dX7_findRow_90 : decode cX7_findRow 90 = .ok (.if_icmp .ge 69, 3) := dok_at gdX7_findRow_l47 21 rfl
theorem dX7_findRow_93 : decode cX7_findRow 93 = .ok (.iload 6, 2) := dok_at gdX7_findRow_l47 22 rfl
theorem dX7_findRow_95 : decode cX7_findRow 95 = .ok (.ifCond .eq 64, 3) := dok_at gdX7_findRow_l47 23 rfl
def dX7_findRow_l98 : List (Nat × Instr × Nat) := [(98, .aload_n 0, 1), (99, .getfield 23, 3), (102, .iload 5, 2), (104, .if_icmp .eq 55, 3), (107, .aload_n 0, 1), (108, .getfield 9, 3), (111, .aload_n 1, 1), (112, .iload 4, 2), (114, .invokevirtual 42, 3), (117, .aload_n 0, 1), (118, .getfield 23, 3), (121, .bipush (-4), 2), (123, .if_icmp .eq 17, 3), (126, .aload_n 0, 1), (127, .getfield 9, 3), (130, .getfield 49, 3), (133, .aload_n 0, 1), (134, .getfield 23, 3), (137, .if_icmp .ge 8, 3), (140, .aload_n 0, 1), (141, .aload_n 1, 1), (142, .invokevirtual 50, 3), (145, .aload_n 0, 1), (146, .iload 4, 2)]
theorem gdX7_findRow_l98 : dok cX7_findRow dX7_findRow_l98 = true := by decide +kernel
theorem dX7_findRow_98 : decode cX7_findRow 98 = .ok (.aload_n 0, 1) := dok_at gdX7_findRow_l98 0 rfl
theorem dX7_findRow_99 : decode cX7_findRow 99 = .ok (.getfield 23, 3) := dok_at gdX7_findRow_l98 1 rfl
theorem dX7_findRow_102 : decode cX7_findRow 102 = .ok (.iload 5, 2) := dok_at gdX7_findRow_l98 2 rfl
theorem dX7_findRow_104 : decode cX7_findRow 104 = .ok (.if_icmp .eq 55, 3) := dok_at gdX7_findRow_l98 3 rfl
theorem dX7_findRow_107 : decode cX7_findRow 107 = .ok (.aload_n 0, 1) := dok_at gdX7_findRow_l98 4 rfl
theorem dX7_findRow_108 : decode cX7_findRow 108 = .ok (.getfield 9, 3) := dok_at gdX7_findRow_l98 5 rfl
theorem dX7_findRow_111 : decode cX7_findRow 111 = .ok (.aload_n 1, 1) := dok_at gdX7_findRow_l98 6 rfl
theorem dX7_findRow_112 : decode cX7_findRow 112 = .ok (.iload 4, 2) := dok_at gdX7_findRow_l98 7 rfl
theorem dX7_findRow_114 : decode cX7_findRow 114 = .ok (.invokevirtual 42, 3) := dok_at gdX7_findRow_l98 8 rfl
theorem dX7_findRow_117 : decode cX7_findRow 117 = .ok (.aload_n 0, 1) := dok_at gdX7_findRow_l98 9 rfl
theorem dX7_findRow_118 : decode cX7_findRow 118 = .ok (.getfield 23, 3) := dok_at gdX7_findRow_l98 10 rfl
theorem dX7_findRow_121 : decode cX7_findRow 121 = .ok (.bipush (-4), 2) := dok_at gdX7_findRow_l98 11 rfl
theorem dX7_findRow_123 : decode cX7_findRow 123 = .ok (.if_icmp .eq 17, 3) := dok_at gdX7_findRow_l98 12 rfl
theorem dX7_findRow_126 : decode cX7_findRow 126 = .ok (.aload_n 0, 1) := dok_at gdX7_findRow_l98 13 rfl
theorem dX7_findRow_127 : decode cX7_findRow 127 = .ok (.getfield 9, 3) := dok_at gdX7_findRow_l98 14 rfl
theorem dX7_findRow_130 : decode cX7_findRow 130 = .ok (.getfield 49, 3) := dok_at gdX7_findRow_l98 15 rfl
theorem dX7_findRow_133 : decode cX7_findRow 133 = .ok (.aload_n 0, 1) := dok_at gdX7_findRow_l98 16 rfl
theorem dX7_findRow_134 : decode cX7_findRow 134 = .ok (.getfield 23, 3) := dok_at gdX7_findRow_l98 17 rfl
theorem dX7_findRow_137 : decode cX7_findRow 137 = .ok (.if_icmp .ge 8, 3) := dok_at gdX7_findRow_l98 18 rfl
theorem dX7_findRow_140 : decode cX7_findRow 140 = .ok (.aload_n 0, 1) := dok_at gdX7_findRow_l98 19 rfl
theorem dX7_findRow_141 : decode cX7_findRow 141 = .ok (.aload_n 1, 1) := dok_at gdX7_findRow_l98 20 rfl
theorem dX7_findRow_142 : decode cX7_findRow 142 = .ok (.invokevirtual 50, 3) := dok_at gdX7_findRow_l98 21 rfl
theorem dX7_findRow_145 : decode cX7_findRow 145 = .ok (.aload_n 0, 1) := dok_at gdX7_findRow_l98 22 rfl
theorem dX7_findRow_146 : decode cX7_findRow 146 = .ok (.iload 4, 2) := dok_at gdX7_findRow_l98 23 rfl
def dX7_findRow_l148 : List (Nat × Instr × Nat) := [(148, .invokevirtual 54, 3), (151, .istore 6, 2), (153, .iinc 7 1, 3), (156, .goto (-71), 3), (159, .return_, 1)]
theorem gdX7_findRow_l148 : dok cX7_findRow dX7_findRow_l148 = true := by decide +kernel
theorem dX7_findRow_148 : decode cX7_findRow 148 = .ok (.invokevirtual 54, 3) := dok_at gdX7_findRow_l148 0 rfl
theorem dX7_findRow_151 : decode cX7_findRow 151 = .ok (.istore 6, 2) := dok_at gdX7_findRow_l148 1 rfl
theorem dX7_findRow_153 : decode cX7_findRow 153 = .ok (.iinc 7 1, 3) := dok_at gdX7_findRow_l148 2 rfl
theorem dX7_findRow_156 : decode cX7_findRow 156 = .ok (.goto (-71), 3) := dok_at gdX7_findRow_l148 3 rfl
theorem dX7_findRow_159 : decode cX7_findRow 159 = .ok (.return_, 1) := dok_at gdX7_findRow_l148 4 rfl
def dX7_keepIfBelowLimit_l0 : List (Nat × Instr × Nat) := [(0, .aload_n 0, 1), (1, .getfield 9, 3), (4, .aload_n 1, 1), (5, .invokevirtual 58, 3), (8, .aload_n 0, 1), (9, .getfield 9, 3), (12, .getfield 61, 3), (15, .aload_n 1, 1), (16, .getfield 64, 3), (19, .if_icmp .gt 32, 3), (22, .aload_n 0, 1), (23, .aload_n 0, 1), (24, .getfield 9, 3), (27, .getfield 49, 3), (30, .putfield 23, 3), (33, .aload_n 0, 1), (34, .getfield 9, 3), (37, .getfield 33, 3), (40, .iconst 0, 1), (41, .aload_n 0, 1), (42, .getfield 15, 3), (45, .iconst 0, 1), (46, .bipush 8, 2), (48, .invokestatic 69, 3)]
theorem gdX7_keepIfBelowLimit_l0 : dok cX7_keepIfBelowLimit dX7_keepIfBelowLimit_l0 = true := by decide +kernel
theorem dX7_keepIfBelowLimit_0 : decode cX7_keepIfBelowLimit 0 = .ok (.aload_n 0, 1) := dok_at gdX7_keepIfBelowLimit_l0 0 rfl
theorem dX7_keepIfBelowLimit_1 : decode cX7_keepIfBelowLimit 1 = .ok (.getfield 9, 3) := dok_at gdX7_keepIfBelowLimit_l0 1 rfl
theorem dX7_keepIfBelowLimit_4 : decode cX7_keepIfBelowLimit 4 = .ok (.aload_n 1, 1) := dok_at gdX7_keepIfBelowLimit_l0 2 rfl
theorem dX7_keepIfBelowLimit_5 : decode cX7_keepIfBelowLimit 5 = .ok (.invokevirtual 58, 3) := dok_at gdX7_keepIfBelowLimit_l0 3 rfl
theorem dX7_keepIfBelowLimit_8 : decode cX7_keepIfBelowLimit 8 = .ok (.aload_n 0, 1) := dok_at gdX7_keepIfBelowLimit_l0 4 rfl
theorem dX7_keepIfBelowLimit_9 : decode cX7_keepIfBelowLimit 9 = .ok (.getfield 9, 3) := dok_at gdX7_keepIfBelowLimit_l0 5 rfl
theorem dX7_keepIfBelowLimit_12 : decode cX7_keepIfBelowLimit 12 = .ok (.getfield 61, 3) := dok_at gdX7_keepIfBelowLimit_l0 6 rfl
theorem dX7_keepIfBelowLimit_15 : decode cX7_keepIfBelowLimit 15 = .ok (.aload_n 1, 1) := dok_at gdX7_keepIfBelowLimit_l0 7 rfl
theorem dX7_keepIfBelowLimit_16 : decode cX7_keepIfBelowLimit 16 = .ok (.getfield 64, 3) := dok_at gdX7_keepIfBelowLimit_l0 8 rfl
theorem dX7_keepIfBelowLimit_19 : decode cX7_keepIfBelowLimit 19 = .ok (.if_icmp .gt 32, 3) := dok_at gdX7_keepIfBelowLimit_l0 9 rfl
theorem dX7_keepIfBelowLimit_22 : decode cX7_keepIfBelowLimit 22 = .ok (.aload_n 0, 1) := dok_at gdX7_keepIfBelowLimit_l0 10 rfl
theorem dX7_keepIfBelowLimit_23 : decode cX7_keepIfBelowLimit 23 = .ok (.aload_n 0, 1) := dok_at gdX7_keepIfBelowLimit_l0 11 rfl
theorem dX7_keepIfBelowLimit_24 : decode cX7_keepIfBelowLimit 24 = .ok (.getfield 9, 3) := dok_at gdX7_keepIfBelowLimit_l0 12 rfl
theorem dX7_keepIfBelowLimit_27 : decode cX7_keepIfBelowLimit 27 = .ok (.getfield 49, 3) := dok_at gdX7_keepIfBelowLimit_l0 13 rfl
theorem dX7_keepIfBelowLimit_30 : decode cX7_keepIfBelowLimit 30 = .ok (.putfield 23, 3) := dok_at gdX7_keepIfBelowLimit_l0 14 rfl
theorem dX7_keepIfBelowLimit_33 : decode cX7_keepIfBelowLimit 33 = .ok (.aload_n 0, 1) := dok_at gdX7_keepIfBelowLimit_l0 15 rfl
theorem dX7_keepIfBelowLimit_34 : decode cX7_keepIfBelowLimit 34 = .ok (.getfield 9, 3) := dok_at gdX7_keepIfBelowLimit_l0 16 rfl
theorem dX7_keepIfBelowLimit_37 : decode cX7_keepIfBelowLimit 37 = .ok (.getfield 33, 3) := dok_at gdX7_keepIfBelowLimit_l0 17 rfl
theorem dX7_keepIfBelowLimit_40 : decode cX7_keepIfBelowLimit 40 = .ok (.iconst 0, 1) := dok_at gdX7_keepIfBelowLimit_l0 18 rfl
theorem dX7_keepIfBelowLimit_41 : decode cX7_keepIfBelowLimit 41 = .ok (.aload_n 0, 1) := dok_at gdX7_keepIfBelowLimit_l0 19 rfl
theorem dX7_keepIfBelowLimit_42 : decode cX7_keepIfBelowLimit 42 = .ok (.getfield 15, 3) := dok_at gdX7_keepIfBelowLimit_l0 20 rfl
theorem dX7_keepIfBelowLimit_45 : decode cX7_keepIfBelowLimit 45 = .ok (.iconst 0, 1) := dok_at gdX7_keepIfBelowLimit_l0 21 rfl
theorem dX7_keepIfBelowLimit_46 : decode cX7_keepIfBelowLimit 46 = .ok (.bipush 8, 2) := dok_at gdX7_keepIfBelowLimit_l0 22 rfl
theorem dX7_keepIfBelowLimit_48 : decode cX7_keepIfBelowLimit 48 = .ok (.invokestatic 69, 3) := dok_at gdX7_keepIfBelowLimit_l0 23 rfl
def dX7_keepIfBelowLimit_l51 : List (Nat × Instr × Nat) := [(51, .return_, 1)]
theorem gdX7_keepIfBelowLimit_l51 : dok cX7_keepIfBelowLimit dX7_keepIfBelowLimit_l51 = true := by decide +kernel
theorem dX7_keepIfBelowLimit_51 : decode cX7_keepIfBelowLimit 51 = .ok (.return_, 1) := dok_at gdX7_keepIfBelowLimit_l51 0 rfl
def dX7_nextRow_l0 : List (Nat × Instr × Nat) := [(0, .bipush 7, 2), (2, .istore_n 2, 1), (3, .iload_n 2, 1), (4, .ifCond .lt 58, 3), (7, .iload_n 1, 1), (8, .iload_n 2, 1), (9, .ishr, 1), (10, .iconst 1, 1), (11, .iand, 1), (12, .ifCond .ne 6, 3), (15, .goto 41, 3), (18, .aload_n 0, 1), (19, .getfield 9, 3), (22, .getfield 33, 3), (25, .iload_n 2, 1), (26, .iaload, 1), (27, .iconst 3, 1), (28, .if_icmp .ge 18, 3), (31, .aload_n 0, 1), (32, .getfield 9, 3), (35, .getfield 33, 3), (38, .iload_n 2, 1), (39, .dup2, 1), (40, .iaload, 1)]
theorem gdX7_nextRow_l0 : dok cX7_nextRow dX7_nextRow_l0 = true := by decide +kernel
theorem dX7_nextRow_0 : decode cX7_nextRow 0 = .ok (.bipush 7, 2) := dok_at gdX7_nextRow_l0 0 rfl
theorem dX7_nextRow_2 : decode cX7_nextRow 2 = .ok (.istore_n 2, 1) := dok_at gdX7_nextRow_l0 1 rfl
theorem dX7_nextRow_3 : decode cX7_nextRow 3 = .ok (.iload_n 2, 1) := dok_at gdX7_nextRow_l0 2 rfl
theorem dX7_nextRow_4 : decode cX7_nextRow 4 = .ok (.ifCond .lt 58, 3) := dok_at gdX7_nextRow_l0 3 rfl
theorem dX7_nextRow_7 : decode cX7_nextRow 7 = .ok (.iload_n 1, 1) := dok_at gdX7_nextRow_l0 4 rfl
theorem dX7_nextRow_8 : decode cX7_nextRow 8 = .ok (.iload_n 2, 1) := dok_at gdX7_nextRow_l0 5 rfl
theorem dX7_nextRow_9 : decode cX7_nextRow 9 = .ok (.ishr, 1) := dok_at gdX7_nextRow_l0 6 rfl
theorem dX7_nextRow_10 : decode cX7_nextRow 10 = .ok (.iconst 1, 1) := dok_at gdX7_nextRow_l0 7 rfl
theorem dX7_nextRow_11 : decode cX7_nextRow 11 = .ok (.iand, 1) := dok_at gdX7_nextRow_l0 8 rfl
theorem dX7_nextRow_12 : decode cX7_nextRow 12 = .ok (.ifCond .ne 6, 3) := dok_at gdX7_nextRow_l0 9 rfl
theorem dX7_nextRow_15 : decode cX7_nextRow 15 = .ok (.goto 41, 3) := dok_at gdX7_nextRow_l0 10 rfl
theorem dX7_nextRow_18 : decode cX7_nextRow 18 = .ok (.aload_n 0, 1) := dok_at gdX7_nextRow_l0 11 rfl
theorem dX7_nextRow_19 : decode cX7_nextRow 19 = .ok (.getfield 9, 3) := dok_at gdX7_nextRow_l0 12 rfl
theorem dX7_nextRow_22 : decode cX7_nextRow 22 = .ok (.getfield 33, 3) := dok_at gdX7_nextRow_l0 13 rfl
theorem dX7_nextRow_25 : decode cX7_nextRow 25 = .ok (.iload_n 2, 1) := dok_at gdX7_nextRow_l0 14 rfl
theorem dX7_nextRow_26 : decode cX7_nextRow 26 = .ok (.iaload, 1) := dok_at gdX7_nextRow_l0 15 rfl
theorem dX7_nextRow_27 : decode cX7_nextRow 27 = .ok (.iconst 3, 1) := dok_at gdX7_nextRow_l0 16 rfl
theorem dX7_nextRow_28 : decode cX7_nextRow 28 = .ok (.if_icmp .ge 18, 3) := dok_at gdX7_nextRow_l0 17 rfl
theorem dX7_nextRow_31 : decode cX7_nextRow 31 = .ok (.aload_n 0, 1) := dok_at gdX7_nextRow_l0 18 rfl
theorem dX7_nextRow_32 : decode cX7_nextRow 32 = .ok (.getfield 9, 3) := dok_at gdX7_nextRow_l0 19 rfl
theorem dX7_nextRow_35 : decode cX7_nextRow 35 = .ok (.getfield 33, 3) := dok_at gdX7_nextRow_l0 20 rfl
theorem dX7_nextRow_38 : decode cX7_nextRow 38 = .ok (.iload_n 2, 1) := dok_at gdX7_nextRow_l0 21 rfl
theorem dX7_nextRow_39 : decode cX7_nextRow 39 = .ok (.dup2, 1) := dok_at gdX7_nextRow_l0 22 rfl
theorem dX7_nextRow_40 : decode cX7_nextRow 40 = .ok (.iaload, 1) := dok_at gdX7_nextRow_l0 23 rfl
def dX7_nextRow_l41 : List (Nat × Instr × Nat) := [(41, .iconst 1, 1), (42, .iadd, 1), (43, .iastore, 1), (44, .iconst 1, 1), (45, .ireturn, 1), (46, .aload_n 0, 1), (47, .getfield 9, 3), (50, .getfield 33, 3), (53, .iload_n 2, 1), (54, .iconst 0, 1), (55, .iastore, 1), (56, .iinc 2 (-1), 3), (59, .goto (-56), 3), (62, .iconst 0, 1), (63, .ireturn, 1)]
theorem gdX7_nextRow_l41 : dok cX7_nextRow dX7_nextRow_l41 = true := by decide +kernel
theorem dX7_nextRow_41 : decode cX7_nextRow 41 = .ok (.iconst 1, 1) := dok_at gdX7_nextRow_l41 0 rfl
theorem dX7_nextRow_42 : decode cX7_nextRow 42 = .ok (.iadd, 1) := dok_at gdX7_nextRow_l41 1 rfl
theorem dX7_nextRow_43 : decode cX7_nextRow 43 = .ok (.iastore, 1) := dok_at gdX7_nextRow_l41 2 rfl
theorem dX7_nextRow_44 : decode cX7_nextRow 44 = .ok (.iconst 1, 1) := dok_at gdX7_nextRow_l41 3 rfl
theorem dX7_nextRow_45 : decode cX7_nextRow 45 = .ok (.ireturn, 1) := dok_at gdX7_nextRow_l41 4 rfl
theorem dX7_nextRow_46 : decode cX7_nextRow 46 = .ok (.aload_n 0, 1) := dok_at gdX7_nextRow_l41 5 rfl
theorem dX7_nextRow_47 : decode cX7_nextRow 47 = .ok (.getfield 9, 3) := dok_at gdX7_nextRow_l41 6 rfl
theorem dX7_nextRow_50 : decode cX7_nextRow 50 = .ok (.getfield 33, 3) := dok_at gdX7_nextRow_l41 7 rfl
theorem dX7_nextRow_53 : decode cX7_nextRow 53 = .ok (.iload_n 2, 1) := dok_at gdX7_nextRow_l41 8 rfl
theorem dX7_nextRow_54 : decode cX7_nextRow 54 = .ok (.iconst 0, 1) := dok_at gdX7_nextRow_l41 9 rfl
theorem dX7_nextRow_55 : decode cX7_nextRow 55 = .ok (.iastore, 1) := dok_at gdX7_nextRow_l41 10 rfl
theorem dX7_nextRow_56 : decode cX7_nextRow 56 = .ok (.iinc 2 (-1), 3) := dok_at gdX7_nextRow_l41 11 rfl
theorem dX7_nextRow_59 : decode cX7_nextRow 59 = .ok (.goto (-56), 3) := dok_at gdX7_nextRow_l41 12 rfl
theorem dX7_nextRow_62 : decode cX7_nextRow 62 = .ok (.iconst 0, 1) := dok_at gdX7_nextRow_l41 13 rfl
theorem dX7_nextRow_63 : decode cX7_nextRow 63 = .ok (.ireturn, 1) := dok_at gdX7_nextRow_l41 14 rfl
def dX8_init_l0 : List (Nat × Instr × Nat) := [(0, .aload_n 0, 1), (1, .invokespecial 1, 3), (4, .aload_n 0, 1), (5, .sipush 400, 3), (8, .newarray .int, 2), (10, .putfield 9, 3), (13, .aload_n 0, 1), (14, .iconst 0, 1), (15, .putfield 13, 3), (18, .return_, 1)]
theorem gdX8_init_l0 : dok cX8_init dX8_init_l0 = true := by decide +kernel
theorem dX8_init_0 : decode cX8_init 0 = .ok (.aload_n 0, 1) := dok_at gdX8_init_l0 0 rfl
theorem dX8_init_1 : decode cX8_init 1 = .ok (.invokespecial 1, 3) := dok_at gdX8_init_l0 1 rfl
theorem dX8_init_4 : decode cX8_init 4 = .ok (.aload_n 0, 1) := dok_at gdX8_init_l0 2 rfl
theorem dX8_init_5 : decode cX8_init 5 = .ok (.sipush 400, 3) := dok_at gdX8_init_l0 3 rfl
theorem dX8_init_8 : decode cX8_init 8 = .ok (.newarray .int, 2) := dok_at gdX8_init_l0 4 rfl
theorem dX8_init_10 : decode cX8_init 10 = .ok (.putfield 9, 3) := dok_at gdX8_init_l0 5 rfl
theorem dX8_init_13 : decode cX8_init 13 = .ok (.aload_n 0, 1) := dok_at gdX8_init_l0 6 rfl
theorem dX8_init_14 : decode cX8_init 14 = .ok (.iconst 0, 1) := dok_at gdX8_init_l0 7 rfl
theorem dX8_init_15 : decode cX8_init 15 = .ok (.putfield 13, 3) := dok_at gdX8_init_l0 8 rfl
theorem dX8_init_18 : decode cX8_init 18 = .ok (.return_, 1) := dok_at gdX8_init_l0 9 rfl
def dX8_push_l0 : List (Nat × Instr × Nat) := [(0, .aload_n 0, 1), (1, .getfield 13, 3), (4, .bipush 8, 2), (6, .iadd, 1), (7, .sipush 400, 3), (10, .if_icmp .le 5, 3), (13, .iconst 0, 1), (14, .ireturn, 1), (15, .bipush 56, 2), (17, .istore_n 3, 1), (18, .iload_n 3, 1), (19, .ifCond .lt 36, 3), (22, .aload_n 0, 1), (23, .getfield 9, 3), (26, .aload_n 0, 1), (27, .getfield 13, 3), (30, .lload_n 1, 1), (31, .iload_n 3, 1), (32, .lushr, 1), (33, .l2i, 1), (34, .sipush 255, 3), (37, .iand, 1), (38, .iastore, 1), (39, .aload_n 0, 1)]
theorem gdX8_push_l0 : dok cX8_push dX8_push_l0 = true := by decide +kernel
theorem dX8_push_0 : decode cX8_push 0 = .ok (.aload_n 0, 1) := dok_at gdX8_push_l0 0 rfl
theorem dX8_push_1 : decode cX8_push 1 = .ok (.getfield 13, 3) := dok_at gdX8_push_l0 1 rfl
theorem dX8_push_4 : decode cX8_push 4 = .ok (.bipush 8, 2) := dok_at gdX8_push_l0 2 rfl
theorem dX8_push_6 : decode cX8_push 6 = .ok (.iadd, 1) := dok_at gdX8_push_l0 3 rfl
theorem dX8_push_7 : decode cX8_push 7 = .ok (.sipush 400, 3) := dok_at gdX8_push_l0 4 rfl
theorem dX8_push_10 : decode cX8_push 10 = .ok (.if_icmp .le 5, 3) := dok_at gdX8_push_l0 5 rfl
theorem dX8_push_13 : decode cX8_push 13 = .ok (.iconst 0, 1) := dok_at gdX8_push_l0 6 rfl
theorem dX8_push_14 : decode cX8_push 14 = .ok (.ireturn, 1) := dok_at gdX8_push_l0 7 rfl
theorem dX8_push_15 : decode cX8_push 15 = .ok (.bipush 56, 2) := dok_at gdX8_push_l0 8 rfl
theorem dX8_push_17 : decode cX8_push 17 = .ok (.istore_n 3, 1) := dok_at gdX8_push_l0 9 rfl
theorem dX8_push_18 : decode cX8_push 18 = .ok (.iload_n 3, 1) := dok_at gdX8_push_l0 10 rfl
theorem dX8_push_19 : decode cX8_push 19 = .ok (.ifCond .lt 36, 3) := dok_at gdX8_push_l0 11 rfl
theorem dX8_push_22 : decode cX8_push 22 = .ok (.aload_n 0, 1) := dok_at gdX8_push_l0 12 rfl
theorem dX8_push_23 : decode cX8_push 23 = .ok (.getfield 9, 3) := dok_at gdX8_push_l0 13 rfl
theorem dX8_push_26 : decode cX8_push 26 = .ok (.aload_n 0, 1) := dok_at gdX8_push_l0 14 rfl
theorem dX8_push_27 : decode cX8_push 27 = .ok (.getfield 13, 3) := dok_at gdX8_push_l0 15 rfl
theorem dX8_push_30 : decode cX8_push 30 = .ok (.lload_n 1, 1) := dok_at gdX8_push_l0 16 rfl
theorem dX8_push_31 : decode cX8_push 31 = .ok (.iload_n 3, 1) := dok_at gdX8_push_l0 17 rfl
theorem dX8_push_32 : decode cX8_push 32 = .ok (.lushr, 1) := dok_at gdX8_push_l0 18 rfl
theorem dX8_push_33 : decode cX8_push 33 = .ok (.l2i, 1) := dok_at gdX8_push_l0 19 rfl
theorem dX8_push_34 : decode cX8_push 34 = .ok (.sipush 255, 3) := dok_at gdX8_push_l0 20 rfl
theorem dX8_push_37 : decode cX8_push 37 = .ok (.iand, 1) := dok_at gdX8_push_l0 21 rfl
theorem dX8_push_38 : decode cX8_push 38 = .ok (.iastore, 1) := dok_at gdX8_push_l0 22 rfl
theorem dX8_push_39 : decode cX8_push 39 = .ok (.aload_n 0, 1) := dok_at gdX8_push_l0 23 rfl
def dX8_push_l40 : List (Nat × Instr × Nat) := [(40, .dup, 1), (41, .getfield 13, 3), (44, .iconst 1, 1), (45, .iadd, 1), (46, .putfield 13, 3), (49, .iinc 3 (-8), 3), (52, .goto (-34), 3), (55, .iconst 1, 1), (56, .ireturn, 1)]
theorem gdX8_push_l40 : dok cX8_push dX8_push_l40 = true := by decide +kernel
theorem dX8_push_40 : decode cX8_push 40 = .ok (.dup, 1) := dok_at gdX8_push_l40 0 rfl
theorem dX8_push_41 : decode cX8_push 41 = .ok (.getfield 13, 3) := dok_at gdX8_push_l40 1 rfl
theorem dX8_push_44 : decode cX8_push 44 = .ok (.iconst 1, 1) := dok_at gdX8_push_l40 2 rfl
theorem dX8_push_45 : decode cX8_push 45 = .ok (.iadd, 1) := dok_at gdX8_push_l40 3 rfl
theorem dX8_push_46 : decode cX8_push 46 = .ok (.putfield 13, 3) := dok_at gdX8_push_l40 4 rfl
theorem dX8_push_49 : decode cX8_push 49 = .ok (.iinc 3 (-8), 3) := dok_at gdX8_push_l40 5 rfl
theorem dX8_push_52 : decode cX8_push 52 = .ok (.goto (-34), 3) := dok_at gdX8_push_l40 6 rfl
theorem dX8_push_55 : decode cX8_push 55 = .ok (.iconst 1, 1) := dok_at gdX8_push_l40 7 rfl
theorem dX8_push_56 : decode cX8_push 56 = .ok (.ireturn, 1) := dok_at gdX8_push_l40 8 rfl
def dX9_init_l0 : List (Nat × Instr × Nat) := [(0, .aload_n 0, 1), (1, .invokespecial 3, 3), (4, .aload_n 0, 1), (5, .aload_n 1, 1), (6, .putfield 9, 3), (9, .aload_n 0, 1), (10, .bipush 64, 2), (12, .newarray .int, 2), (14, .putfield 15, 3), (17, .aload_n 0, 1), (18, .bipush 64, 2), (20, .newarray .boolean, 2), (22, .putfield 19, 3), (25, .aload_n 0, 1), (26, .iconst 0, 1), (27, .putfield 23, 3), (30, .return_, 1)]
theorem gdX9_init_l0 : dok cX9_init dX9_init_l0 = true := by decide +kernel
theorem dX9_init_0 : decode cX9_init 0 = .ok (.aload_n 0, 1) := dok_at gdX9_init_l0 0 rfl
theorem dX9_init_1 : decode cX9_init 1 = .ok (.invokespecial 3, 3) := dok_at gdX9_init_l0 1 rfl
theorem dX9_init_4 : decode cX9_init 4 = .ok (.aload_n 0, 1) := dok_at gdX9_init_l0 2 rfl
theorem dX9_init_5 : decode cX9_init 5 = .ok (.aload_n 1, 1) := dok_at gdX9_init_l0 3 rfl
theorem dX9_init_6 : decode cX9_init 6 = .ok (.putfield 9, 3) := dok_at gdX9_init_l0 4 rfl
theorem dX9_init_9 : decode cX9_init 9 = .ok (.aload_n 0, 1) := dok_at gdX9_init_l0 5 rfl
theorem dX9_init_10 : decode cX9_init 10 = .ok (.bipush 64, 2) := dok_at gdX9_init_l0 6 rfl
theorem dX9_init_12 : decode cX9_init 12 = .ok (.newarray .int, 2) := dok_at gdX9_init_l0 7 rfl
theorem dX9_init_14 : decode cX9_init 14 = .ok (.putfield 15, 3) := dok_at gdX9_init_l0 8 rfl
theorem dX9_init_17 : decode cX9_init 17 = .ok (.aload_n 0, 1) := dok_at gdX9_init_l0 9 rfl
theorem dX9_init_18 : decode cX9_init 18 = .ok (.bipush 64, 2) := dok_at gdX9_init_l0 10 rfl
theorem dX9_init_20 : decode cX9_init 20 = .ok (.newarray .boolean, 2) := dok_at gdX9_init_l0 11 rfl
theorem dX9_init_22 : decode cX9_init 22 = .ok (.putfield 19, 3) := dok_at gdX9_init_l0 12 rfl
theorem dX9_init_25 : decode cX9_init 25 = .ok (.aload_n 0, 1) := dok_at gdX9_init_l0 13 rfl
theorem dX9_init_26 : decode cX9_init 26 = .ok (.iconst 0, 1) := dok_at gdX9_init_l0 14 rfl
theorem dX9_init_27 : decode cX9_init 27 = .ok (.putfield 23, 3) := dok_at gdX9_init_l0 15 rfl
theorem dX9_init_30 : decode cX9_init 30 = .ok (.return_, 1) := dok_at gdX9_init_l0 16 rfl
def dX9_forget_l0 : List (Nat × Instr × Nat) := [(0, .aload_n 0, 1), (1, .iconst 0, 1), (2, .putfield 23, 3), (5, .iconst 0, 1), (6, .istore_n 1, 1), (7, .iload_n 1, 1), (8, .bipush 64, 2), (10, .if_icmp .ge 16, 3), (13, .aload_n 0, 1), (14, .getfield 19, 3), (17, .iload_n 1, 1), (18, .iconst 0, 1), (19, .bastore, 1), (20, .iinc 1 1, 3), (23, .goto (-16), 3), (26, .return_, 1)]
theorem gdX9_forget_l0 : dok cX9_forget dX9_forget_l0 = true := by decide +kernel
theorem dX9_forget_0 : decode cX9_forget 0 = .ok (.aload_n 0, 1) := dok_at gdX9_forget_l0 0 rfl
theorem dX9_forget_1 : decode cX9_forget 1 = .ok (.iconst 0, 1) := dok_at gdX9_forget_l0 1 rfl
theorem dX9_forget_2 : decode cX9_forget 2 = .ok (.putfield 23, 3) := dok_at gdX9_forget_l0 2 rfl
theorem dX9_forget_5 : decode cX9_forget 5 = .ok (.iconst 0, 1) := dok_at gdX9_forget_l0 3 rfl
theorem dX9_forget_6 : decode cX9_forget 6 = .ok (.istore_n 1, 1) := dok_at gdX9_forget_l0 4 rfl
theorem dX9_forget_7 : decode cX9_forget 7 = .ok (.iload_n 1, 1) := dok_at gdX9_forget_l0 5 rfl
theorem dX9_forget_8 : decode cX9_forget 8 = .ok (.bipush 64, 2) := dok_at gdX9_forget_l0 6 rfl
theorem dX9_forget_10 : decode cX9_forget 10 = .ok (.if_icmp .ge 16, 3) := dok_at gdX9_forget_l0 7 rfl
theorem dX9_forget_13 : decode cX9_forget 13 = .ok (.aload_n 0, 1) := dok_at gdX9_forget_l0 8 rfl
theorem dX9_forget_14 : decode cX9_forget 14 = .ok (.getfield 19, 3) := dok_at gdX9_forget_l0 9 rfl
theorem dX9_forget_17 : decode cX9_forget 17 = .ok (.iload_n 1, 1) := dok_at gdX9_forget_l0 10 rfl
theorem dX9_forget_18 : decode cX9_forget 18 = .ok (.iconst 0, 1) := dok_at gdX9_forget_l0 11 rfl
theorem dX9_forget_19 : decode cX9_forget 19 = .ok (.bastore, 1) := dok_at gdX9_forget_l0 12 rfl
theorem dX9_forget_20 : decode cX9_forget 20 = .ok (.iinc 1 1, 3) := dok_at gdX9_forget_l0 13 rfl
theorem dX9_forget_23 : decode cX9_forget 23 = .ok (.goto (-16), 3) := dok_at gdX9_forget_l0 14 rfl
theorem dX9_forget_26 : decode cX9_forget 26 = .ok (.return_, 1) := dok_at gdX9_forget_l0 15 rfl
def dX9_mostBehind_l0 : List (Nat × Instr × Nat) := [(0, .iload_n 3, 1), (1, .bipush 8, 2), (3, .imul, 1), (4, .iload 4, 2), (6, .iadd, 1), (7, .istore 5, 2), (9, .aload_n 0, 1), (10, .getfield 19, 3), (13, .iload 5, 2), (15, .baload, 1), (16, .ifCond .eq 11, 3), (19, .aload_n 0, 1), (20, .getfield 15, 3), (23, .iload 5, 2), (25, .iaload, 1), (26, .ireturn, 1), (27, .aload_n 1, 1), (28, .iconst 1, 1), (29, .iload_n 3, 1), (30, .ishl, 1), (31, .iconst 1, 1), (32, .iload 4, 2), (34, .ishl, 1), (35, .ior, 1)]
theorem gdX9_mostBehind_l0 : dok cX9_mostBehind dX9_mostBehind_l0 = true := by decide +kernel
theorem dX9_mostBehind_0 : decode cX9_mostBehind 0 = .ok (.iload_n 3, 1) := dok_at gdX9_mostBehind_l0 0 rfl
theorem dX9_mostBehind_1 : decode cX9_mostBehind 1 = .ok (.bipush 8, 2) := dok_at gdX9_mostBehind_l0 1 rfl
theorem dX9_mostBehind_3 : decode cX9_mostBehind 3 = .ok (.imul, 1) := dok_at gdX9_mostBehind_l0 2 rfl
theorem dX9_mostBehind_4 : decode cX9_mostBehind 4 = .ok (.iload 4, 2) := dok_at gdX9_mostBehind_l0 3 rfl
theorem dX9_mostBehind_6 : decode cX9_mostBehind 6 = .ok (.iadd, 1) := dok_at gdX9_mostBehind_l0 4 rfl
theorem dX9_mostBehind_7 : decode cX9_mostBehind 7 = .ok (.istore 5, 2) := dok_at gdX9_mostBehind_l0 5 rfl
theorem dX9_mostBehind_9 : decode cX9_mostBehind 9 = .ok (.aload_n 0, 1) := dok_at gdX9_mostBehind_l0 6 rfl
theorem dX9_mostBehind_10 : decode cX9_mostBehind 10 = .ok (.getfield 19, 3) := dok_at gdX9_mostBehind_l0 7 rfl
theorem dX9_mostBehind_13 : decode cX9_mostBehind 13 = .ok (.iload 5, 2) := dok_at gdX9_mostBehind_l0 8 rfl
theorem dX9_mostBehind_15 : decode cX9_mostBehind 15 = .ok (.baload, 1) := dok_at gdX9_mostBehind_l0 9 rfl
theorem dX9_mostBehind_16 : decode cX9_mostBehind 16 = .ok (.ifCond .eq 11, 3) := dok_at gdX9_mostBehind_l0 10 rfl
theorem dX9_mostBehind_19 : decode cX9_mostBehind 19 = .ok (.aload_n 0, 1) := dok_at gdX9_mostBehind_l0 11 rfl
theorem dX9_mostBehind_20 : decode cX9_mostBehind 20 = .ok (.getfield 15, 3) := dok_at gdX9_mostBehind_l0 12 rfl
theorem dX9_mostBehind_23 : decode cX9_mostBehind 23 = .ok (.iload 5, 2) := dok_at gdX9_mostBehind_l0 13 rfl
theorem dX9_mostBehind_25 : decode cX9_mostBehind 25 = .ok (.iaload, 1) := dok_at gdX9_mostBehind_l0 14 rfl
theorem dX9_mostBehind_26 : decode cX9_mostBehind 26 = .ok (.ireturn, 1) := dok_at gdX9_mostBehind_l0 15 rfl
theorem dX9_mostBehind_27 : decode cX9_mostBehind 27 = .ok (.aload_n 1, 1) := dok_at gdX9_mostBehind_l0 16 rfl
theorem dX9_mostBehind_28 : decode cX9_mostBehind 28 = .ok (.iconst 1, 1) := dok_at gdX9_mostBehind_l0 17 rfl
theorem dX9_mostBehind_29 : decode cX9_mostBehind 29 = .ok (.iload_n 3, 1) := dok_at gdX9_mostBehind_l0 18 rfl
theorem dX9_mostBehind_30 : decode cX9_mostBehind 30 = .ok (.ishl, 1) := dok_at gdX9_mostBehind_l0 19 rfl
theorem dX9_mostBehind_31 : decode cX9_mostBehind 31 = .ok (.iconst 1, 1) := dok_at gdX9_mostBehind_l0 20 rfl
theorem dX9_mostBehind_32 : decode cX9_mostBehind 32 = .ok (.iload 4, 2) := dok_at gdX9_mostBehind_l0 21 rfl
theorem dX9_mostBehind_34 : decode cX9_mostBehind 34 = .ok (.ishl, 1) := dok_at gdX9_mostBehind_l0 22 rfl
theorem dX9_mostBehind_35 : decode cX9_mostBehind 35 = .ok (.ior, 1) := dok_at gdX9_mostBehind_l0 23 rfl
def dX9_mostBehind_l36 : List (Nat × Instr × Nat) := [(36, .invokevirtual 27, 3), (39, .aload_n 1, 1), (40, .iload_n 2, 1), (41, .invokevirtual 33, 3), (44, .iand, 1), (45, .istore 6, 2), (47, .aload_n 0, 1), (48, .aload_n 1, 1), (49, .invokevirtual 36, 3), (52, .sipush (-144), 3), (55, .istore 7, 2), (57, .iconst 1, 1), (58, .istore 8, 2), (60, .iconst 0, 1), (61, .istore 9, 2), (63, .iload 9, 2), (65, .sipush 20000, 3), (68, .if_icmp .ge 60, 3), (71, .iload 8, 2), (73, .ifCond .eq 55, 3), (76, .aload_n 0, 1), (77, .getfield 9, 3), (80, .aload_n 1, 1), (81, .iload 6, 2)]
theorem gdX9_mostBehind_l36 : dok cX9_mostBehind dX9_mostBehind_l36 = true := by decide +kernel
theorem dX9_mostBehind_36 : decode cX9_mostBehind 36 = .ok (.invokevirtual 27, 3) := dok_at gdX9_mostBehind_l36 0 rfl
theorem dX9_mostBehind_39 : decode cX9_mostBehind 39 = .ok (.aload_n 1, 1) := dok_at gdX9_mostBehind_l36 1 rfl
theorem dX9_mostBehind_40 : decode cX9_mostBehind 40 = .ok (.iload_n 2, 1) := dok_at gdX9_mostBehind_l36 2 rfl
theorem dX9_mostBehind_41 : decode cX9_mostBehind 41 = .ok (.invokevirtual 33, 3) := dok_at gdX9_mostBehind_l36 3 rfl
theorem dX9_mostBehind_44 : decode cX9_mostBehind 44 = .ok (.iand, 1) := dok_at gdX9_mostBehind_l36 4 rfl
theorem dX9_mostBehind_45 : decode cX9_mostBehind 45 = .ok (.istore 6, 2) := dok_at gdX9_mostBehind_l36 5 rfl
theorem dX9_mostBehind_47 : decode cX9_mostBehind 47 = .ok (.aload_n 0, 1) := dok_at gdX9_mostBehind_l36 6 rfl
theorem dX9_mostBehind_48 : decode cX9_mostBehind 48 = .ok (.aload_n 1, 1) := dok_at gdX9_mostBehind_l36 7 rfl
theorem dX9_mostBehind_49 : decode cX9_mostBehind 49 = .ok (.invokevirtual 36, 3) := dok_at gdX9_mostBehind_l36 8 rfl
theorem dX9_mostBehind_52 : decode cX9_mostBehind 52 = .ok (.sipush (-144), 3) := dok_at gdX9_mostBehind_l36 9 rfl
theorem dX9_mostBehind_55 : decode cX9_mostBehind 55 = .ok (.istore 7, 2) := dok_at gdX9_mostBehind_l36 10 rfl
theorem dX9_mostBehind_57 : decode cX9_mostBehind 57 = .ok (.iconst 1, 1) := dok_at gdX9_mostBehind_l36 11 rfl
theorem dX9_mostBehind_58 : decode cX9_mostBehind 58 = .ok (.istore 8, 2) := dok_at gdX9_mostBehind_l36 12 rfl
theorem dX9_mostBehind_60 : decode cX9_mostBehind 60 = .ok (.iconst 0, 1) := dok_at gdX9_mostBehind_l36 13 rfl
theorem dX9_mostBehind_61 : decode cX9_mostBehind 61 = .ok (.istore 9, 2) := dok_at gdX9_mostBehind_l36 14 rfl
theorem dX9_mostBehind_63 : decode cX9_mostBehind 63 = .ok (.iload 9, 2) := dok_at gdX9_mostBehind_l36 15 rfl
theorem dX9_mostBehind_65 : decode cX9_mostBehind 65 = .ok (.sipush 20000, 3) := dok_at gdX9_mostBehind_l36 16 rfl
theorem dX9_mostBehind_68 : decode cX9_mostBehind 68 = .ok (.if_icmp .ge 60, 3) := dok_at gdX9_mostBehind_l36 17 rfl
theorem dX9_mostBehind_71 : decode cX9_mostBehind 71 = .ok (.iload 8, 2) := dok_at gdX9_mostBehind_l36 18 rfl
theorem dX9_mostBehind_73 : decode cX9_mostBehind 73 = .ok (.ifCond .eq 55, 3) := dok_at gdX9_mostBehind_l36 19 rfl
theorem dX9_mostBehind_76 : decode cX9_mostBehind 76 = .ok (.aload_n 0, 1) := dok_at gdX9_mostBehind_l36 20 rfl
theorem dX9_mostBehind_77 : decode cX9_mostBehind 77 = .ok (.getfield 9, 3) := dok_at gdX9_mostBehind_l36 21 rfl
theorem dX9_mostBehind_80 : decode cX9_mostBehind 80 = .ok (.aload_n 1, 1) := dok_at gdX9_mostBehind_l36 22 rfl
theorem dX9_mostBehind_81 : decode cX9_mostBehind 81 = .ok (.iload 6, 2) := dok_at gdX9_mostBehind_l36 23 rfl
def dX9_mostBehind_l83 : List (Nat × Instr × Nat) := [(83, .invokevirtual 42, 3), (86, .iload 7, 2), (88, .aload_n 0, 1), (89, .getfield 9, 3), (92, .getfield 46, 3), (95, .iload_n 3, 1), (96, .iaload, 1), (97, .aload_n 0, 1), (98, .getfield 9, 3), (101, .getfield 46, 3), (104, .iload 4, 2), (106, .iaload, 1), (107, .isub, 1), (108, .invokestatic 49, 3), (111, .istore 7, 2), (113, .aload_n 0, 1), (114, .aload_n 1, 1), (115, .iload 6, 2), (117, .invokevirtual 55, 3), (120, .istore 8, 2), (122, .iinc 9 1, 3), (125, .goto (-62), 3), (128, .aload_n 0, 1), (129, .getfield 15, 3)]
theorem gdX9_mostBehind_l83 : dok cX9_mostBehind dX9_mostBehind_l83 = true := by decide +kernel
theorem dX9_mostBehind_83 : decode cX9_mostBehind 83 = .ok (.invokevirtual 42, 3) := dok_at gdX9_mostBehind_l83 0 rfl
theorem dX9_mostBehind_86 : decode cX9_mostBehind 86 = .ok (.iload 7, 2) := dok_at gdX9_mostBehind_l83 1 rfl
theorem dX9_mostBehind_88 : decode cX9_mostBehind 88 = .ok (.aload_n 0, 1) := dok_at gdX9_mostBehind_l83 2 rfl
theorem dX9_mostBehind_89 : decode cX9_mostBehind 89 = .ok (.getfield 9, 3) := dok_at gdX9_mostBehind_l83 3 rfl
theorem dX9_mostBehind_92 : decode cX9_mostBehind 92 = .ok (.getfield 46, 3) := dok_at gdX9_mostBehind_l83 4 rfl
theorem dX9_mostBehind_95 : decode cX9_mostBehind 95 = .ok (.iload_n 3, 1) := dok_at gdX9_mostBehind_l83 5 rfl
theorem dX9_mostBehind_96 : decode cX9_mostBehind 96 = .ok (.iaload, 1) := dok_at gdX9_mostBehind_l83 6 rfl
theorem dX9_mostBehind_97 : decode cX9_mostBehind 97 = .ok (.aload_n 0, 1) := dok_at gdX9_mostBehind_l83 7 rfl
theorem dX9_mostBehind_98 : decode cX9_mostBehind 98 = .ok (.getfield 9, 3) := dok_at gdX9_mostBehind_l83 8 rfl
theorem dX9_mostBehind_101 : decode cX9_mostBehind 101 = .ok (.getfield 46, 3) := dok_at gdX9_mostBehind_l83 9 rfl
theorem dX9_mostBehind_104 : decode cX9_mostBehind 104 = .ok (.iload 4, 2) := dok_at gdX9_mostBehind_l83 10 rfl
theorem dX9_mostBehind_106 : decode cX9_mostBehind 106 = .ok (.iaload, 1) := dok_at gdX9_mostBehind_l83 11 rfl
theorem dX9_mostBehind_107 : decode cX9_mostBehind 107 = .ok (.isub, 1) := dok_at gdX9_mostBehind_l83 12 rfl
theorem dX9_mostBehind_108 : decode cX9_mostBehind 108 = .ok (.invokestatic 49, 3) := dok_at gdX9_mostBehind_l83 13 rfl
theorem dX9_mostBehind_111 : decode cX9_mostBehind 111 = .ok (.istore 7, 2) := dok_at gdX9_mostBehind_l83 14 rfl
theorem dX9_mostBehind_113 : decode cX9_mostBehind 113 = .ok (.aload_n 0, 1) := dok_at gdX9_mostBehind_l83 15 rfl
theorem dX9_mostBehind_114 : decode cX9_mostBehind 114 = .ok (.aload_n 1, 1) := dok_at gdX9_mostBehind_l83 16 rfl
theorem dX9_mostBehind_115 : decode cX9_mostBehind 115 = .ok (.iload 6, 2) := dok_at gdX9_mostBehind_l83 17 rfl
theorem dX9_mostBehind_117 : decode cX9_mostBehind 117 = .ok (.invokevirtual 55, 3) := dok_at gdX9_mostBehind_l83 18 rfl
theorem dX9_mostBehind_120 : decode cX9_mostBehind 120 = .ok (.istore 8, 2) := dok_at gdX9_mostBehind_l83 19 rfl
theorem dX9_mostBehind_122 : decode cX9_mostBehind 122 = .ok (.iinc 9 1, 3) := dok_at gdX9_mostBehind_l83 20 rfl
theorem dX9_mostBehind_125 : decode cX9_mostBehind 125 = .ok (.goto (-62), 3) := dok_at gdX9_mostBehind_l83 21 rfl
theorem dX9_mostBehind_128 : decode cX9_mostBehind 128 = .ok (.aload_n 0, 1) := dok_at gdX9_mostBehind_l83 22 rfl
theorem dX9_mostBehind_129 : decode cX9_mostBehind 129 = .ok (.getfield 15, 3) := dok_at gdX9_mostBehind_l83 23 rfl
def dX9_mostBehind_l132 : List (Nat × Instr × Nat) := [(132, .iload 5, 2), (134, .iload 7, 2), (136, .iastore, 1), (137, .aload_n 0, 1), (138, .getfield 19, 3), (141, .iload 5, 2), (143, .iconst 1, 1), (144, .bastore, 1), (145, .iload 7, 2), (147, .ireturn, 1)]
theorem gdX9_mostBehind_l132 : dok cX9_mostBehind dX9_mostBehind_l132 = true := by decide +kernel
theorem dX9_mostBehind_132 : decode cX9_mostBehind 132 = .ok (.iload 5, 2) := dok_at gdX9_mostBehind_l132 0 rfl
theorem dX9_mostBehind_134 : decode cX9_mostBehind 134 = .ok (.iload 7, 2) := dok_at gdX9_mostBehind_l132 1 rfl
theorem dX9_mostBehind_136 : decode cX9_mostBehind 136 = .ok (.iastore, 1) := dok_at gdX9_mostBehind_l132 2 rfl
theorem dX9_mostBehind_137 : decode cX9_mostBehind 137 = .ok (.aload_n 0, 1) := dok_at gdX9_mostBehind_l132 3 rfl
theorem dX9_mostBehind_138 : decode cX9_mostBehind 138 = .ok (.getfield 19, 3) := dok_at gdX9_mostBehind_l132 4 rfl
theorem dX9_mostBehind_141 : decode cX9_mostBehind 141 = .ok (.iload 5, 2) := dok_at gdX9_mostBehind_l132 5 rfl
theorem dX9_mostBehind_143 : decode cX9_mostBehind 143 = .ok (.iconst 1, 1) := dok_at gdX9_mostBehind_l132 6 rfl
theorem dX9_mostBehind_144 : decode cX9_mostBehind 144 = .ok (.bastore, 1) := dok_at gdX9_mostBehind_l132 7 rfl
theorem dX9_mostBehind_145 : decode cX9_mostBehind 145 = .ok (.iload 7, 2) := dok_at gdX9_mostBehind_l132 8 rfl
theorem dX9_mostBehind_147 : decode cX9_mostBehind 147 = .ok (.ireturn, 1) := dok_at gdX9_mostBehind_l132 9 rfl
def dX9_findPeaks_l0 : List (Nat × Instr × Nat) := [(0, .aload_n 0, 1), (1, .getfield 23, 3), (4, .ifCond .eq 4, 3), (7, .return_, 1), (8, .aload_n 1, 1), (9, .iload_n 2, 1), (10, .invokevirtual 33, 3), (13, .istore_n 3, 1), (14, .aload_n 0, 1), (15, .aload_n 1, 1), (16, .invokevirtual 36, 3), (19, .aload_n 0, 1), (20, .getfield 9, 3), (23, .aload_n 1, 1), (24, .iload_n 3, 1), (25, .invokevirtual 42, 3), (28, .aload_n 0, 1), (29, .getfield 9, 3), (32, .aload_n 1, 1), (33, .invokevirtual 59, 3), (36, .aload_n 0, 1), (37, .aload_n 0, 1), (38, .getfield 9, 3), (41, .getfield 62, 3)]
theorem gdX9_findPeaks_l0 : dok cX9_findPeaks dX9_findPeaks_l0 = true := by decide +kernel
theorem dX9_findPeaks_0 : decode cX9_findPeaks 0 = .ok (.aload_n 0, 1) := dok_at gdX9_findPeaks_l0 0 rfl
theorem dX9_findPeaks_1 : decode cX9_findPeaks 1 = .ok (.getfield 23, 3) := dok_at gdX9_findPeaks_l0 1 rfl
theorem dX9_findPeaks_4 : decode cX9_findPeaks 4 = .ok (.ifCond .eq 4, 3) := dok_at gdX9_findPeaks_l0 2 rfl
theorem dX9_findPeaks_7 : decode cX9_findPeaks 7 = .ok (.return_, 1) := dok_at gdX9_findPeaks_l0 3 rfl
theorem dX9_findPeaks_8 : decode cX9_findPeaks 8 = .ok (.aload_n 1, 1) := dok_at gdX9_findPeaks_l0 4 rfl
theorem dX9_findPeaks_9 : decode cX9_findPeaks 9 = .ok (.iload_n 2, 1) := dok_at gdX9_findPeaks_l0 5 rfl
theorem dX9_findPeaks_10 : decode cX9_findPeaks 10 = .ok (.invokevirtual 33, 3) := dok_at gdX9_findPeaks_l0 6 rfl
theorem dX9_findPeaks_13 : decode cX9_findPeaks 13 = .ok (.istore_n 3, 1) := dok_at gdX9_findPeaks_l0 7 rfl
theorem dX9_findPeaks_14 : decode cX9_findPeaks 14 = .ok (.aload_n 0, 1) := dok_at gdX9_findPeaks_l0 8 rfl
theorem dX9_findPeaks_15 : decode cX9_findPeaks 15 = .ok (.aload_n 1, 1) := dok_at gdX9_findPeaks_l0 9 rfl
theorem dX9_findPeaks_16 : decode cX9_findPeaks 16 = .ok (.invokevirtual 36, 3) := dok_at gdX9_findPeaks_l0 10 rfl
theorem dX9_findPeaks_19 : decode cX9_findPeaks 19 = .ok (.aload_n 0, 1) := dok_at gdX9_findPeaks_l0 11 rfl
theorem dX9_findPeaks_20 : decode cX9_findPeaks 20 = .ok (.getfield 9, 3) := dok_at gdX9_findPeaks_l0 12 rfl
theorem dX9_findPeaks_23 : decode cX9_findPeaks 23 = .ok (.aload_n 1, 1) := dok_at gdX9_findPeaks_l0 13 rfl
theorem dX9_findPeaks_24 : decode cX9_findPeaks 24 = .ok (.iload_n 3, 1) := dok_at gdX9_findPeaks_l0 14 rfl
theorem dX9_findPeaks_25 : decode cX9_findPeaks 25 = .ok (.invokevirtual 42, 3) := dok_at gdX9_findPeaks_l0 15 rfl
theorem dX9_findPeaks_28 : decode cX9_findPeaks 28 = .ok (.aload_n 0, 1) := dok_at gdX9_findPeaks_l0 16 rfl
theorem dX9_findPeaks_29 : decode cX9_findPeaks 29 = .ok (.getfield 9, 3) := dok_at gdX9_findPeaks_l0 17 rfl
theorem dX9_findPeaks_32 : decode cX9_findPeaks 32 = .ok (.aload_n 1, 1) := dok_at gdX9_findPeaks_l0 18 rfl
theorem dX9_findPeaks_33 : decode cX9_findPeaks 33 = .ok (.invokevirtual 59, 3) := dok_at gdX9_findPeaks_l0 19 rfl
theorem dX9_findPeaks_36 : decode cX9_findPeaks 36 = .ok (.aload_n 0, 1) := dok_at gdX9_findPeaks_l0 20 rfl
theorem dX9_findPeaks_37 : decode cX9_findPeaks 37 = .ok (.aload_n 0, 1) := dok_at gdX9_findPeaks_l0 21 rfl
theorem dX9_findPeaks_38 : decode cX9_findPeaks 38 = .ok (.getfield 9, 3) := dok_at gdX9_findPeaks_l0 22 rfl
theorem dX9_findPeaks_41 : decode cX9_findPeaks 41 = .ok (.getfield 62, 3) := dok_at gdX9_findPeaks_l0 23 rfl
def dX9_findPeaks_l44 : List (Nat × Instr × Nat) := [(44, .putfield 66, 3), (47, .aload_n 0, 1), (48, .aload_n 0, 1), (49, .getfield 9, 3), (52, .getfield 62, 3), (55, .putfield 69, 3), (58, .aload_n 0, 1), (59, .aload_n 1, 1), (60, .iload_n 3, 1), (61, .invokevirtual 55, 3), (64, .istore 4, 2), (66, .iconst 1, 1), (67, .istore 5, 2), (69, .iload 5, 2), (71, .sipush 20000, 3), (74, .if_icmp .ge 75, 3), (77, .iload 4, 2), (79, .ifCond .eq 70, 3), (82, .aload_n 0, 1), (83, .getfield 9, 3), (86, .aload_n 1, 1), (87, .iload_n 3, 1), (88, .invokevirtual 42, 3), (91, .aload_n 0, 1)]
theorem gdX9_findPeaks_l44 : dok cX9_findPeaks dX9_findPeaks_l44 = true := by decide +kernel
theorem dX9_findPeaks_44 : decode cX9_findPeaks 44 = .ok (.putfield 66, 3) := dok_at gdX9_findPeaks_l44 0 rfl
theorem dX9_findPeaks_47 : decode cX9_findPeaks 47 = .ok (.aload_n 0, 1) := dok_at gdX9_findPeaks_l44 1 rfl
theorem dX9_findPeaks_48 : decode cX9_findPeaks 48 = .ok (.aload_n 0, 1) := dok_at gdX9_findPeaks_l44 2 rfl
theorem dX9_findPeaks_49 : decode cX9_findPeaks 49 = .ok (.getfield 9, 3) := dok_at gdX9_findPeaks_l44 3 rfl
theorem dX9_findPeaks_52 : decode cX9_findPeaks 52 = .ok (.getfield 62, 3) := dok_at gdX9_findPeaks_l44 4 rfl
theorem dX9_findPeaks_55 : decode cX9_findPeaks 55 = .ok (.putfield 69, 3) := dok_at gdX9_findPeaks_l44 5 rfl
theorem dX9_findPeaks_58 : decode cX9_findPeaks 58 = .ok (.aload_n 0, 1) := dok_at gdX9_findPeaks_l44 6 rfl
theorem dX9_findPeaks_59 : decode cX9_findPeaks 59 = .ok (.aload_n 1, 1) := dok_at gdX9_findPeaks_l44 7 rfl
theorem dX9_findPeaks_60 : decode cX9_findPeaks 60 = .ok (.iload_n 3, 1) := dok_at gdX9_findPeaks_l44 8 rfl
theorem dX9_findPeaks_61 : decode cX9_findPeaks 61 = .ok (.invokevirtual 55, 3) := dok_at gdX9_findPeaks_l44 9 rfl
theorem dX9_findPeaks_64 : decode cX9_findPeaks 64 = .ok (.istore 4, 2) := dok_at gdX9_findPeaks_l44 10 rfl
theorem dX9_findPeaks_66 : decode cX9_findPeaks 66 = .ok (.iconst 1, 1) := dok_at gdX9_findPeaks_l44 11 rfl
theorem dX9_findPeaks_67 : decode cX9_findPeaks 67 = .ok (.istore 5, 2) := dok_at gdX9_findPeaks_l44 12 rfl
theorem dX9_findPeaks_69 : decode cX9_findPeaks 69 = .ok (.iload 5, 2) := dok_at gdX9_findPeaks_l44 13 rfl
theorem dX9_findPeaks_71 : decode cX9_findPeaks 71 = .ok (.sipush 20000, 3) := dok_at gdX9_findPeaks_l44 14 rfl
theorem dX9_findPeaks_74 : decode cX9_findPeaks 74 = .ok (.if_icmp .ge 75, 3) := dok_at gdX9_findPeaks_l44 15 rfl
theorem dX9_findPeaks_77 : decode cX9_findPeaks 77 = .ok (.iload 4, 2) := dok_at gdX9_findPeaks_l44 16 rfl
theorem dX9_findPeaks_79 : decode cX9_findPeaks 79 = .ok (.ifCond .eq 70, 3) := dok_at gdX9_findPeaks_l44 17 rfl
theorem dX9_findPeaks_82 : decode cX9_findPeaks 82 = .ok (.aload_n 0, 1) := dok_at gdX9_findPeaks_l44 18 rfl
theorem dX9_findPeaks_83 : decode cX9_findPeaks 83 = .ok (.getfield 9, 3) := dok_at gdX9_findPeaks_l44 19 rfl
theorem dX9_findPeaks_86 : decode cX9_findPeaks 86 = .ok (.aload_n 1, 1) := dok_at gdX9_findPeaks_l44 20 rfl
theorem dX9_findPeaks_87 : decode cX9_findPeaks 87 = .ok (.iload_n 3, 1) := dok_at gdX9_findPeaks_l44 21 rfl
theorem dX9_findPeaks_88 : decode cX9_findPeaks 88 = .ok (.invokevirtual 42, 3) := dok_at gdX9_findPeaks_l44 22 rfl
theorem dX9_findPeaks_91 : decode cX9_findPeaks 91 = .ok (.aload_n 0, 1) := dok_at gdX9_findPeaks_l44 23 rfl
def dX9_findPeaks_l92 : List (Nat × Instr × Nat) := [(92, .getfield 9, 3), (95, .aload_n 1, 1), (96, .invokevirtual 59, 3), (99, .aload_n 0, 1), (100, .aload_n 0, 1), (101, .getfield 66, 3), (104, .aload_n 0, 1), (105, .getfield 9, 3), (108, .getfield 62, 3), (111, .invokestatic 49, 3), (114, .putfield 66, 3), (117, .aload_n 0, 1), (118, .aload_n 0, 1), (119, .getfield 69, 3), (122, .aload_n 0, 1), (123, .getfield 9, 3), (126, .getfield 62, 3), (129, .invokestatic 72, 3), (132, .putfield 69, 3), (135, .aload_n 0, 1), (136, .aload_n 1, 1), (137, .iload_n 3, 1), (138, .invokevirtual 55, 3), (141, .istore 4, 2)]
theorem gdX9_findPeaks_l92 : dok cX9_findPeaks dX9_findPeaks_l92 = true := by decide +kernel
theorem dX9_findPeaks_92 : decode cX9_findPeaks 92 = .ok (.getfield 9, 3) := dok_at gdX9_findPeaks_l92 0 rfl
theorem dX9_findPeaks_95 : decode cX9_findPeaks 95 = .ok (.aload_n 1, 1) := dok_at gdX9_findPeaks_l92 1 rfl
theorem dX9_findPeaks_96 : decode cX9_findPeaks 96 = .ok (.invokevirtual 59, 3) := dok_at gdX9_findPeaks_l92 2 rfl
theorem dX9_findPeaks_99 : decode cX9_findPeaks 99 = .ok (.aload_n 0, 1) := dok_at gdX9_findPeaks_l92 3 rfl
theorem dX9_findPeaks_100 : decode cX9_findPeaks 100 = .ok (.aload_n 0, 1) := dok_at gdX9_findPeaks_l92 4 rfl
theorem dX9_findPeaks_101 : decode cX9_findPeaks 101 = .ok (.getfield 66, 3) := dok_at gdX9_findPeaks_l92 5 rfl
theorem dX9_findPeaks_104 : decode cX9_findPeaks 104 = .ok (.aload_n 0, 1) := dok_at gdX9_findPeaks_l92 6 rfl
theorem dX9_findPeaks_105 : decode cX9_findPeaks 105 = .ok (.getfield 9, 3) := dok_at gdX9_findPeaks_l92 7 rfl
theorem dX9_findPeaks_108 : decode cX9_findPeaks 108 = .ok (.getfield 62, 3) := dok_at gdX9_findPeaks_l92 8 rfl
theorem dX9_findPeaks_111 : decode cX9_findPeaks 111 = .ok (.invokestatic 49, 3) := dok_at gdX9_findPeaks_l92 9 rfl
theorem dX9_findPeaks_114 : decode cX9_findPeaks 114 = .ok (.putfield 66, 3) := dok_at gdX9_findPeaks_l92 10 rfl
theorem dX9_findPeaks_117 : decode cX9_findPeaks 117 = .ok (.aload_n 0, 1) := dok_at gdX9_findPeaks_l92 11 rfl
theorem dX9_findPeaks_118 : decode cX9_findPeaks 118 = .ok (.aload_n 0, 1) := dok_at gdX9_findPeaks_l92 12 rfl
theorem dX9_findPeaks_119 : decode cX9_findPeaks 119 = .ok (.getfield 69, 3) := dok_at gdX9_findPeaks_l92 13 rfl
theorem dX9_findPeaks_122 : decode cX9_findPeaks 122 = .ok (.aload_n 0, 1) := dok_at gdX9_findPeaks_l92 14 rfl
theorem dX9_findPeaks_123 : decode cX9_findPeaks 123 = .ok (.getfield 9, 3) := dok_at gdX9_findPeaks_l92 15 rfl
theorem dX9_findPeaks_126 : decode cX9_findPeaks 126 = .ok (.getfield 62, 3) := dok_at gdX9_findPeaks_l92 16 rfl
theorem dX9_findPeaks_129 : decode cX9_findPeaks 129 = .ok (.invokestatic 72, 3) := dok_at gdX9_findPeaks_l92 17 rfl
theorem dX9_findPeaks_132 : decode cX9_findPeaks 132 = .ok (.putfield 69, 3) := dok_at gdX9_findPeaks_l92 18 rfl
theorem dX9_findPeaks_135 : decode cX9_findPeaks 135 = .ok (.aload_n 0, 1) := dok_at gdX9_findPeaks_l92 19 rfl
theorem dX9_findPeaks_136 : decode cX9_findPeaks 136 = .ok (.aload_n 1, 1) := dok_at gdX9_findPeaks_l92 20 rfl
theorem dX9_findPeaks_137 : decode cX9_findPeaks 137 = .ok (.iload_n 3, 1) := dok_at gdX9_findPeaks_l92 21 rfl
theorem dX9_findPeaks_138 : decode cX9_findPeaks 138 = .ok (.invokevirtual 55, 3) := dok_at gdX9_findPeaks_l92 22 rfl
theorem dX9_findPeaks_141 : decode cX9_findPeaks 141 = .ok (.istore 4, 2) := dok_at gdX9_findPeaks_l92 23 rfl
def dX9_findPeaks_l143 : List (Nat × Instr × Nat) := [(143, .iinc 5 1, 3), (146, .goto (-77), 3), (149, .aload_n 0, 1), (150, .iconst 1, 1), (151, .putfield 23, 3), (154, .return_, 1)]
theorem gdX9_findPeaks_l143 : dok cX9_findPeaks dX9_findPeaks_l143 = true := by decide +kernel
theorem dX9_findPeaks_143 : decode cX9_findPeaks 143 = .ok (.iinc 5 1, 3) := dok_at gdX9_findPeaks_l143 0 rfl
theorem dX9_findPeaks_146 : decode cX9_findPeaks 146 = .ok (.goto (-77), 3) := dok_at gdX9_findPeaks_l143 1 rfl
theorem dX9_findPeaks_149 : decode cX9_findPeaks 149 = .ok (.aload_n 0, 1) := dok_at gdX9_findPeaks_l143 2 rfl
theorem dX9_findPeaks_150 : decode cX9_findPeaks 150 = .ok (.iconst 1, 1) := dok_at gdX9_findPeaks_l143 3 rfl
theorem dX9_findPeaks_151 : decode cX9_findPeaks 151 = .ok (.putfield 23, 3) := dok_at gdX9_findPeaks_l143 4 rfl
theorem dX9_findPeaks_154 : decode cX9_findPeaks 154 = .ok (.return_, 1) := dok_at gdX9_findPeaks_l143 5 rfl
def dX9_start_l0 : List (Nat × Instr × Nat) := [(0, .aload_n 0, 1), (1, .getfield 9, 3), (4, .aload_n 1, 1), (5, .invokevirtual 75, 3), (8, .aload_n 0, 1), (9, .getfield 9, 3), (12, .aload_n 1, 1), (13, .iconst 0, 1), (14, .invokevirtual 78, 3), (17, .return_, 1)]
theorem gdX9_start_l0 : dok cX9_start dX9_start_l0 = true := by decide +kernel
theorem dX9_start_0 : decode cX9_start 0 = .ok (.aload_n 0, 1) := dok_at gdX9_start_l0 0 rfl
theorem dX9_start_1 : decode cX9_start 1 = .ok (.getfield 9, 3) := dok_at gdX9_start_l0 1 rfl
theorem dX9_start_4 : decode cX9_start 4 = .ok (.aload_n 1, 1) := dok_at gdX9_start_l0 2 rfl
theorem dX9_start_5 : decode cX9_start 5 = .ok (.invokevirtual 75, 3) := dok_at gdX9_start_l0 3 rfl
theorem dX9_start_8 : decode cX9_start 8 = .ok (.aload_n 0, 1) := dok_at gdX9_start_l0 4 rfl
theorem dX9_start_9 : decode cX9_start 9 = .ok (.getfield 9, 3) := dok_at gdX9_start_l0 5 rfl
theorem dX9_start_12 : decode cX9_start 12 = .ok (.aload_n 1, 1) := dok_at gdX9_start_l0 6 rfl
theorem dX9_start_13 : decode cX9_start 13 = .ok (.iconst 0, 1) := dok_at gdX9_start_l0 7 rfl
theorem dX9_start_14 : decode cX9_start 14 = .ok (.invokevirtual 78, 3) := dok_at gdX9_start_l0 8 rfl
theorem dX9_start_17 : decode cX9_start 17 = .ok (.return_, 1) := dok_at gdX9_start_l0 9 rfl
def dX9_nextWay_l0 : List (Nat × Instr × Nat) := [(0, .iconst 0, 1), (1, .istore_n 3, 1), (2, .iload_n 3, 1), (3, .aload_n 1, 1), (4, .getfield 81, 3), (7, .if_icmp .ge 68, 3), (10, .iload_n 2, 1), (11, .iload_n 3, 1), (12, .ishr, 1), (13, .iconst 1, 1), (14, .iand, 1), (15, .ifCond .ne 6, 3), (18, .goto 51, 3), (21, .aload_n 0, 1), (22, .getfield 9, 3), (25, .getfield 84, 3), (28, .iload_n 3, 1), (29, .iaload, 1), (30, .aload_n 1, 1), (31, .iload_n 3, 1), (32, .iconst 1, 1), (33, .invokevirtual 87, 3), (36, .if_icmp .ge 18, 3), (39, .aload_n 0, 1)]
theorem gdX9_nextWay_l0 : dok cX9_nextWay dX9_nextWay_l0 = true := by decide +kernel
theorem dX9_nextWay_0 : decode cX9_nextWay 0 = .ok (.iconst 0, 1) := dok_at gdX9_nextWay_l0 0 rfl
theorem dX9_nextWay_1 : decode cX9_nextWay 1 = .ok (.istore_n 3, 1) := dok_at gdX9_nextWay_l0 1 rfl
theorem dX9_nextWay_2 : decode cX9_nextWay 2 = .ok (.iload_n 3, 1) := dok_at gdX9_nextWay_l0 2 rfl
theorem dX9_nextWay_3 : decode cX9_nextWay 3 = .ok (.aload_n 1, 1) := dok_at gdX9_nextWay_l0 3 rfl
theorem dX9_nextWay_4 : decode cX9_nextWay 4 = .ok (.getfield 81, 3) := dok_at gdX9_nextWay_l0 4 rfl
theorem dX9_nextWay_7 : decode cX9_nextWay 7 = .ok (.if_icmp .ge 68, 3) := dok_at gdX9_nextWay_l0 5 rfl
theorem dX9_nextWay_10 : decode cX9_nextWay 10 = .ok (.iload_n 2, 1) := dok_at gdX9_nextWay_l0 6 rfl
theorem dX9_nextWay_11 : decode cX9_nextWay 11 = .ok (.iload_n 3, 1) := dok_at gdX9_nextWay_l0 7 rfl
theorem dX9_nextWay_12 : decode cX9_nextWay 12 = .ok (.ishr, 1) := dok_at gdX9_nextWay_l0 8 rfl
theorem dX9_nextWay_13 : decode cX9_nextWay 13 = .ok (.iconst 1, 1) := dok_at gdX9_nextWay_l0 9 rfl
theorem dX9_nextWay_14 : decode cX9_nextWay 14 = .ok (.iand, 1) := dok_at gdX9_nextWay_l0 10 rfl
theorem dX9_nextWay_15 : decode cX9_nextWay 15 = .ok (.ifCond .ne 6, 3) := dok_at gdX9_nextWay_l0 11 rfl
theorem dX9_nextWay_18 : decode cX9_nextWay 18 = .ok (.goto 51, 3) := dok_at gdX9_nextWay_l0 12 rfl
theorem dX9_nextWay_21 : decode cX9_nextWay 21 = .ok (.aload_n 0, 1) := dok_at gdX9_nextWay_l0 13 rfl
theorem dX9_nextWay_22 : decode cX9_nextWay 22 = .ok (.getfield 9, 3) := dok_at gdX9_nextWay_l0 14 rfl
theorem dX9_nextWay_25 : decode cX9_nextWay 25 = .ok (.getfield 84, 3) := dok_at gdX9_nextWay_l0 15 rfl
theorem dX9_nextWay_28 : decode cX9_nextWay 28 = .ok (.iload_n 3, 1) := dok_at gdX9_nextWay_l0 16 rfl
theorem dX9_nextWay_29 : decode cX9_nextWay 29 = .ok (.iaload, 1) := dok_at gdX9_nextWay_l0 17 rfl
theorem dX9_nextWay_30 : decode cX9_nextWay 30 = .ok (.aload_n 1, 1) := dok_at gdX9_nextWay_l0 18 rfl
theorem dX9_nextWay_31 : decode cX9_nextWay 31 = .ok (.iload_n 3, 1) := dok_at gdX9_nextWay_l0 19 rfl
theorem dX9_nextWay_32 : decode cX9_nextWay 32 = .ok (.iconst 1, 1) := dok_at gdX9_nextWay_l0 20 rfl
theorem dX9_nextWay_33 : decode cX9_nextWay 33 = .ok (.invokevirtual 87, 3) := dok_at gdX9_nextWay_l0 21 rfl
theorem dX9_nextWay_36 : decode cX9_nextWay 36 = .ok (.if_icmp .ge 18, 3) := dok_at gdX9_nextWay_l0 22 rfl
theorem dX9_nextWay_39 : decode cX9_nextWay 39 = .ok (.aload_n 0, 1) := dok_at gdX9_nextWay_l0 23 rfl
def dX9_nextWay_l40 : List (Nat × Instr × Nat) := [(40, .getfield 9, 3), (43, .getfield 84, 3), (46, .iload_n 3, 1), (47, .dup2, 1), (48, .iaload, 1), (49, .iconst 1, 1), (50, .iadd, 1), (51, .iastore, 1), (52, .iconst 1, 1), (53, .ireturn, 1), (54, .aload_n 0, 1), (55, .getfield 9, 3), (58, .getfield 84, 3), (61, .iload_n 3, 1), (62, .aload_n 1, 1), (63, .iload_n 3, 1), (64, .iconst 0, 1), (65, .invokevirtual 87, 3), (68, .iastore, 1), (69, .iinc 3 1, 3), (72, .goto (-70), 3), (75, .iconst 0, 1), (76, .ireturn, 1)]
theorem gdX9_nextWay_l40 : dok cX9_nextWay dX9_nextWay_l40 = true := by decide +kernel
theorem dX9_nextWay_40 : decode cX9_nextWay 40 = .ok (.getfield 9, 3) := dok_at gdX9_nextWay_l40 0 rfl
theorem dX9_nextWay_43 : decode cX9_nextWay 43 = .ok (.getfield 84, 3) := dok_at gdX9_nextWay_l40 1 rfl
theorem dX9_nextWay_46 : decode cX9_nextWay 46 = .ok (.iload_n 3, 1) := dok_at gdX9_nextWay_l40 2 rfl
theorem dX9_nextWay_47 : decode cX9_nextWay 47 = .ok (.dup2, 1) := dok_at gdX9_nextWay_l40 3 rfl
theorem dX9_nextWay_48 : decode cX9_nextWay 48 = .ok (.iaload, 1) := dok_at gdX9_nextWay_l40 4 rfl
theorem dX9_nextWay_49 : decode cX9_nextWay 49 = .ok (.iconst 1, 1) := dok_at gdX9_nextWay_l40 5 rfl
theorem dX9_nextWay_50 : decode cX9_nextWay 50 = .ok (.iadd, 1) := dok_at gdX9_nextWay_l40 6 rfl
theorem dX9_nextWay_51 : decode cX9_nextWay 51 = .ok (.iastore, 1) := dok_at gdX9_nextWay_l40 7 rfl
theorem dX9_nextWay_52 : decode cX9_nextWay 52 = .ok (.iconst 1, 1) := dok_at gdX9_nextWay_l40 8 rfl
theorem dX9_nextWay_53 : decode cX9_nextWay 53 = .ok (.ireturn, 1) := dok_at gdX9_nextWay_l40 9 rfl
theorem dX9_nextWay_54 : decode cX9_nextWay 54 = .ok (.aload_n 0, 1) := dok_at gdX9_nextWay_l40 10 rfl
theorem dX9_nextWay_55 : decode cX9_nextWay 55 = .ok (.getfield 9, 3) := dok_at gdX9_nextWay_l40 11 rfl
theorem dX9_nextWay_58 : decode cX9_nextWay 58 = .ok (.getfield 84, 3) := dok_at gdX9_nextWay_l40 12 rfl
theorem dX9_nextWay_61 : decode cX9_nextWay 61 = .ok (.iload_n 3, 1) := dok_at gdX9_nextWay_l40 13 rfl
theorem dX9_nextWay_62 : decode cX9_nextWay 62 = .ok (.aload_n 1, 1) := dok_at gdX9_nextWay_l40 14 rfl
theorem dX9_nextWay_63 : decode cX9_nextWay 63 = .ok (.iload_n 3, 1) := dok_at gdX9_nextWay_l40 15 rfl
theorem dX9_nextWay_64 : decode cX9_nextWay 64 = .ok (.iconst 0, 1) := dok_at gdX9_nextWay_l40 16 rfl
theorem dX9_nextWay_65 : decode cX9_nextWay 65 = .ok (.invokevirtual 87, 3) := dok_at gdX9_nextWay_l40 17 rfl
theorem dX9_nextWay_68 : decode cX9_nextWay 68 = .ok (.iastore, 1) := dok_at gdX9_nextWay_l40 18 rfl
theorem dX9_nextWay_69 : decode cX9_nextWay 69 = .ok (.iinc 3 1, 3) := dok_at gdX9_nextWay_l40 19 rfl
theorem dX9_nextWay_72 : decode cX9_nextWay 72 = .ok (.goto (-70), 3) := dok_at gdX9_nextWay_l40 20 rfl
theorem dX9_nextWay_75 : decode cX9_nextWay 75 = .ok (.iconst 0, 1) := dok_at gdX9_nextWay_l40 21 rfl
theorem dX9_nextWay_76 : decode cX9_nextWay 76 = .ok (.ireturn, 1) := dok_at gdX9_nextWay_l40 22 rfl
def dJ6_bitCount_0f7a4_l0 : List (Nat × Instr × Nat) := [(0, .iload_n 0, 1), (1, .iload_n 0, 1), (2, .iconst 1, 1), (3, .iushr, 1), (4, .ldc_w 265, 3), (7, .iand, 1), (8, .isub, 1), (9, .istore_n 0, 1), (10, .iload_n 0, 1), (11, .ldc_w 266, 3), (14, .iand, 1), (15, .iload_n 0, 1), (16, .iconst 2, 1), (17, .iushr, 1), (18, .ldc_w 266, 3), (21, .iand, 1), (22, .iadd, 1), (23, .istore_n 0, 1), (24, .iload_n 0, 1), (25, .iload_n 0, 1), (26, .iconst 4, 1), (27, .iushr, 1), (28, .iadd, 1), (29, .ldc_w 267, 3)]
theorem gdJ6_bitCount_0f7a4_l0 : dok cJ6_bitCount_0f7a4 dJ6_bitCount_0f7a4_l0 = true := by decide +kernel
theorem dJ6_bitCount_0f7a4_0 : decode cJ6_bitCount_0f7a4 0 = .ok (.iload_n 0, 1) := dok_at gdJ6_bitCount_0f7a4_l0 0 rfl
theorem dJ6_bitCount_0f7a4_1 : decode cJ6_bitCount_0f7a4 1 = .ok (.iload_n 0, 1) := dok_at gdJ6_bitCount_0f7a4_l0 1 rfl
theorem dJ6_bitCount_0f7a4_2 : decode cJ6_bitCount_0f7a4 2 = .ok (.iconst 1, 1) := dok_at gdJ6_bitCount_0f7a4_l0 2 rfl
theorem dJ6_bitCount_0f7a4_3 : decode cJ6_bitCount_0f7a4 3 = .ok (.iushr, 1) := dok_at gdJ6_bitCount_0f7a4_l0 3 rfl
theorem dJ6_bitCount_0f7a4_4 : decode cJ6_bitCount_0f7a4 4 = .ok (.ldc_w 265, 3) := dok_at gdJ6_bitCount_0f7a4_l0 4 rfl
theorem dJ6_bitCount_0f7a4_7 : decode cJ6_bitCount_0f7a4 7 = .ok (.iand, 1) := dok_at gdJ6_bitCount_0f7a4_l0 5 rfl
theorem dJ6_bitCount_0f7a4_8 : decode cJ6_bitCount_0f7a4 8 = .ok (.isub, 1) := dok_at gdJ6_bitCount_0f7a4_l0 6 rfl
theorem dJ6_bitCount_0f7a4_9 : decode cJ6_bitCount_0f7a4 9 = .ok (.istore_n 0, 1) := dok_at gdJ6_bitCount_0f7a4_l0 7 rfl
theorem dJ6_bitCount_0f7a4_10 : decode cJ6_bitCount_0f7a4 10 = .ok (.iload_n 0, 1) := dok_at gdJ6_bitCount_0f7a4_l0 8 rfl
theorem dJ6_bitCount_0f7a4_11 : decode cJ6_bitCount_0f7a4 11 = .ok (.ldc_w 266, 3) := dok_at gdJ6_bitCount_0f7a4_l0 9 rfl
theorem dJ6_bitCount_0f7a4_14 : decode cJ6_bitCount_0f7a4 14 = .ok (.iand, 1) := dok_at gdJ6_bitCount_0f7a4_l0 10 rfl
theorem dJ6_bitCount_0f7a4_15 : decode cJ6_bitCount_0f7a4 15 = .ok (.iload_n 0, 1) := dok_at gdJ6_bitCount_0f7a4_l0 11 rfl
theorem dJ6_bitCount_0f7a4_16 : decode cJ6_bitCount_0f7a4 16 = .ok (.iconst 2, 1) := dok_at gdJ6_bitCount_0f7a4_l0 12 rfl
theorem dJ6_bitCount_0f7a4_17 : decode cJ6_bitCount_0f7a4 17 = .ok (.iushr, 1) := dok_at gdJ6_bitCount_0f7a4_l0 13 rfl
theorem dJ6_bitCount_0f7a4_18 : decode cJ6_bitCount_0f7a4 18 = .ok (.ldc_w 266, 3) := dok_at gdJ6_bitCount_0f7a4_l0 14 rfl
theorem dJ6_bitCount_0f7a4_21 : decode cJ6_bitCount_0f7a4 21 = .ok (.iand, 1) := dok_at gdJ6_bitCount_0f7a4_l0 15 rfl
theorem dJ6_bitCount_0f7a4_22 : decode cJ6_bitCount_0f7a4 22 = .ok (.iadd, 1) := dok_at gdJ6_bitCount_0f7a4_l0 16 rfl
theorem dJ6_bitCount_0f7a4_23 : decode cJ6_bitCount_0f7a4 23 = .ok (.istore_n 0, 1) := dok_at gdJ6_bitCount_0f7a4_l0 17 rfl
theorem dJ6_bitCount_0f7a4_24 : decode cJ6_bitCount_0f7a4 24 = .ok (.iload_n 0, 1) := dok_at gdJ6_bitCount_0f7a4_l0 18 rfl
theorem dJ6_bitCount_0f7a4_25 : decode cJ6_bitCount_0f7a4 25 = .ok (.iload_n 0, 1) := dok_at gdJ6_bitCount_0f7a4_l0 19 rfl
theorem dJ6_bitCount_0f7a4_26 : decode cJ6_bitCount_0f7a4 26 = .ok (.iconst 4, 1) := dok_at gdJ6_bitCount_0f7a4_l0 20 rfl
theorem dJ6_bitCount_0f7a4_27 : decode cJ6_bitCount_0f7a4 27 = .ok (.iushr, 1) := dok_at gdJ6_bitCount_0f7a4_l0 21 rfl
theorem dJ6_bitCount_0f7a4_28 : decode cJ6_bitCount_0f7a4 28 = .ok (.iadd, 1) := dok_at gdJ6_bitCount_0f7a4_l0 22 rfl
theorem dJ6_bitCount_0f7a4_29 : decode cJ6_bitCount_0f7a4 29 = .ok (.ldc_w 267, 3) := dok_at gdJ6_bitCount_0f7a4_l0 23 rfl
def dJ6_bitCount_0f7a4_l32 : List (Nat × Instr × Nat) := [(32, .iand, 1), (33, .istore_n 0, 1), (34, .iload_n 0, 1), (35, .iload_n 0, 1), (36, .bipush 8, 2), (38, .iushr, 1), (39, .iadd, 1), (40, .istore_n 0, 1), (41, .iload_n 0, 1), (42, .iload_n 0, 1), (43, .bipush 16, 2), (45, .iushr, 1), (46, .iadd, 1), (47, .istore_n 0, 1), (48, .iload_n 0, 1), (49, .bipush 63, 2), (51, .iand, 1), (52, .ireturn, 1)]
theorem gdJ6_bitCount_0f7a4_l32 : dok cJ6_bitCount_0f7a4 dJ6_bitCount_0f7a4_l32 = true := by decide +kernel
theorem dJ6_bitCount_0f7a4_32 : decode cJ6_bitCount_0f7a4 32 = .ok (.iand, 1) := dok_at gdJ6_bitCount_0f7a4_l32 0 rfl
theorem dJ6_bitCount_0f7a4_33 : decode cJ6_bitCount_0f7a4 33 = .ok (.istore_n 0, 1) := dok_at gdJ6_bitCount_0f7a4_l32 1 rfl
theorem dJ6_bitCount_0f7a4_34 : decode cJ6_bitCount_0f7a4 34 = .ok (.iload_n 0, 1) := dok_at gdJ6_bitCount_0f7a4_l32 2 rfl
theorem dJ6_bitCount_0f7a4_35 : decode cJ6_bitCount_0f7a4 35 = .ok (.iload_n 0, 1) := dok_at gdJ6_bitCount_0f7a4_l32 3 rfl
theorem dJ6_bitCount_0f7a4_36 : decode cJ6_bitCount_0f7a4 36 = .ok (.bipush 8, 2) := dok_at gdJ6_bitCount_0f7a4_l32 4 rfl
theorem dJ6_bitCount_0f7a4_38 : decode cJ6_bitCount_0f7a4 38 = .ok (.iushr, 1) := dok_at gdJ6_bitCount_0f7a4_l32 5 rfl
theorem dJ6_bitCount_0f7a4_39 : decode cJ6_bitCount_0f7a4 39 = .ok (.iadd, 1) := dok_at gdJ6_bitCount_0f7a4_l32 6 rfl
theorem dJ6_bitCount_0f7a4_40 : decode cJ6_bitCount_0f7a4 40 = .ok (.istore_n 0, 1) := dok_at gdJ6_bitCount_0f7a4_l32 7 rfl
theorem dJ6_bitCount_0f7a4_41 : decode cJ6_bitCount_0f7a4 41 = .ok (.iload_n 0, 1) := dok_at gdJ6_bitCount_0f7a4_l32 8 rfl
theorem dJ6_bitCount_0f7a4_42 : decode cJ6_bitCount_0f7a4 42 = .ok (.iload_n 0, 1) := dok_at gdJ6_bitCount_0f7a4_l32 9 rfl
theorem dJ6_bitCount_0f7a4_43 : decode cJ6_bitCount_0f7a4 43 = .ok (.bipush 16, 2) := dok_at gdJ6_bitCount_0f7a4_l32 10 rfl
theorem dJ6_bitCount_0f7a4_45 : decode cJ6_bitCount_0f7a4 45 = .ok (.iushr, 1) := dok_at gdJ6_bitCount_0f7a4_l32 11 rfl
theorem dJ6_bitCount_0f7a4_46 : decode cJ6_bitCount_0f7a4 46 = .ok (.iadd, 1) := dok_at gdJ6_bitCount_0f7a4_l32 12 rfl
theorem dJ6_bitCount_0f7a4_47 : decode cJ6_bitCount_0f7a4 47 = .ok (.istore_n 0, 1) := dok_at gdJ6_bitCount_0f7a4_l32 13 rfl
theorem dJ6_bitCount_0f7a4_48 : decode cJ6_bitCount_0f7a4 48 = .ok (.iload_n 0, 1) := dok_at gdJ6_bitCount_0f7a4_l32 14 rfl
theorem dJ6_bitCount_0f7a4_49 : decode cJ6_bitCount_0f7a4 49 = .ok (.bipush 63, 2) := dok_at gdJ6_bitCount_0f7a4_l32 15 rfl
theorem dJ6_bitCount_0f7a4_51 : decode cJ6_bitCount_0f7a4 51 = .ok (.iand, 1) := dok_at gdJ6_bitCount_0f7a4_l32 16 rfl
theorem dJ6_bitCount_0f7a4_52 : decode cJ6_bitCount_0f7a4 52 = .ok (.ireturn, 1) := dok_at gdJ6_bitCount_0f7a4_l32 17 rfl
def dJ9_abs_0f7a4_l0 : List (Nat × Instr × Nat) := [(0, .iload_n 0, 1), (1, .ifCond .ge 8, 3), (4, .iload_n 0, 1), (5, .ineg, 1), (6, .goto 4, 3), (9, .iload_n 0, 1), (10, .ireturn, 1)]
theorem gdJ9_abs_0f7a4_l0 : dok cJ9_abs_0f7a4 dJ9_abs_0f7a4_l0 = true := by decide +kernel
theorem dJ9_abs_0f7a4_0 : decode cJ9_abs_0f7a4 0 = .ok (.iload_n 0, 1) := dok_at gdJ9_abs_0f7a4_l0 0 rfl
theorem dJ9_abs_0f7a4_1 : decode cJ9_abs_0f7a4 1 = .ok (.ifCond .ge 8, 3) := dok_at gdJ9_abs_0f7a4_l0 1 rfl
theorem dJ9_abs_0f7a4_4 : decode cJ9_abs_0f7a4 4 = .ok (.iload_n 0, 1) := dok_at gdJ9_abs_0f7a4_l0 2 rfl
theorem dJ9_abs_0f7a4_5 : decode cJ9_abs_0f7a4 5 = .ok (.ineg, 1) := dok_at gdJ9_abs_0f7a4_l0 3 rfl
theorem dJ9_abs_0f7a4_6 : decode cJ9_abs_0f7a4 6 = .ok (.goto 4, 3) := dok_at gdJ9_abs_0f7a4_l0 4 rfl
theorem dJ9_abs_0f7a4_9 : decode cJ9_abs_0f7a4 9 = .ok (.iload_n 0, 1) := dok_at gdJ9_abs_0f7a4_l0 5 rfl
theorem dJ9_abs_0f7a4_10 : decode cJ9_abs_0f7a4 10 = .ok (.ireturn, 1) := dok_at gdJ9_abs_0f7a4_l0 6 rfl
def dJ9_max_7cf53_l0 : List (Nat × Instr × Nat) := [(0, .iload_n 0, 1), (1, .iload_n 1, 1), (2, .if_icmp .lt 7, 3), (5, .iload_n 0, 1), (6, .goto 4, 3), (9, .iload_n 1, 1), (10, .ireturn, 1)]
theorem gdJ9_max_7cf53_l0 : dok cJ9_max_7cf53 dJ9_max_7cf53_l0 = true := by decide +kernel
theorem dJ9_max_7cf53_0 : decode cJ9_max_7cf53 0 = .ok (.iload_n 0, 1) := dok_at gdJ9_max_7cf53_l0 0 rfl
theorem dJ9_max_7cf53_1 : decode cJ9_max_7cf53 1 = .ok (.iload_n 1, 1) := dok_at gdJ9_max_7cf53_l0 1 rfl
theorem dJ9_max_7cf53_2 : decode cJ9_max_7cf53 2 = .ok (.if_icmp .lt 7, 3) := dok_at gdJ9_max_7cf53_l0 2 rfl
theorem dJ9_max_7cf53_5 : decode cJ9_max_7cf53 5 = .ok (.iload_n 0, 1) := dok_at gdJ9_max_7cf53_l0 3 rfl
theorem dJ9_max_7cf53_6 : decode cJ9_max_7cf53 6 = .ok (.goto 4, 3) := dok_at gdJ9_max_7cf53_l0 4 rfl
theorem dJ9_max_7cf53_9 : decode cJ9_max_7cf53 9 = .ok (.iload_n 1, 1) := dok_at gdJ9_max_7cf53_l0 5 rfl
theorem dJ9_max_7cf53_10 : decode cJ9_max_7cf53 10 = .ok (.ireturn, 1) := dok_at gdJ9_max_7cf53_l0 6 rfl
def dJ9_min_7cf53_l0 : List (Nat × Instr × Nat) := [(0, .iload_n 0, 1), (1, .iload_n 1, 1), (2, .if_icmp .gt 7, 3), (5, .iload_n 0, 1), (6, .goto 4, 3), (9, .iload_n 1, 1), (10, .ireturn, 1)]
theorem gdJ9_min_7cf53_l0 : dok cJ9_min_7cf53 dJ9_min_7cf53_l0 = true := by decide +kernel
theorem dJ9_min_7cf53_0 : decode cJ9_min_7cf53 0 = .ok (.iload_n 0, 1) := dok_at gdJ9_min_7cf53_l0 0 rfl
theorem dJ9_min_7cf53_1 : decode cJ9_min_7cf53 1 = .ok (.iload_n 1, 1) := dok_at gdJ9_min_7cf53_l0 1 rfl
theorem dJ9_min_7cf53_2 : decode cJ9_min_7cf53 2 = .ok (.if_icmp .gt 7, 3) := dok_at gdJ9_min_7cf53_l0 2 rfl
theorem dJ9_min_7cf53_5 : decode cJ9_min_7cf53 5 = .ok (.iload_n 0, 1) := dok_at gdJ9_min_7cf53_l0 3 rfl
theorem dJ9_min_7cf53_6 : decode cJ9_min_7cf53 6 = .ok (.goto 4, 3) := dok_at gdJ9_min_7cf53_l0 4 rfl
theorem dJ9_min_7cf53_9 : decode cJ9_min_7cf53 9 = .ok (.iload_n 1, 1) := dok_at gdJ9_min_7cf53_l0 5 rfl
theorem dJ9_min_7cf53_10 : decode cJ9_min_7cf53 10 = .ok (.ireturn, 1) := dok_at gdJ9_min_7cf53_l0 6 rfl
def dJ0_length_8abf5_l0 : List (Nat × Instr × Nat) := [(0, .aload_n 0, 1), (1, .getfield 9, 3), (4, .arraylength, 1), (5, .aload_n 0, 1), (6, .invokevirtual 335, 3), (9, .ishr, 1), (10, .ireturn, 1)]
theorem gdJ0_length_8abf5_l0 : dok cJ0_length_8abf5 dJ0_length_8abf5_l0 = true := by decide +kernel
theorem dJ0_length_8abf5_0 : decode cJ0_length_8abf5 0 = .ok (.aload_n 0, 1) := dok_at gdJ0_length_8abf5_l0 0 rfl
theorem dJ0_length_8abf5_1 : decode cJ0_length_8abf5 1 = .ok (.getfield 9, 3) := dok_at gdJ0_length_8abf5_l0 1 rfl
theorem dJ0_length_8abf5_4 : decode cJ0_length_8abf5 4 = .ok (.arraylength, 1) := dok_at gdJ0_length_8abf5_l0 2 rfl
theorem dJ0_length_8abf5_5 : decode cJ0_length_8abf5 5 = .ok (.aload_n 0, 1) := dok_at gdJ0_length_8abf5_l0 3 rfl
theorem dJ0_length_8abf5_6 : decode cJ0_length_8abf5 6 = .ok (.invokevirtual 335, 3) := dok_at gdJ0_length_8abf5_l0 4 rfl
theorem dJ0_length_8abf5_9 : decode cJ0_length_8abf5 9 = .ok (.ishr, 1) := dok_at gdJ0_length_8abf5_l0 5 rfl
theorem dJ0_length_8abf5_10 : decode cJ0_length_8abf5 10 = .ok (.ireturn, 1) := dok_at gdJ0_length_8abf5_l0 6 rfl
def dJ0_charAt_5068e_l0 : List (Nat × Instr × Nat) := [(0, .aload_n 0, 1), (1, .invokevirtual 492, 3), (4, .ifCond .eq 12, 3), (7, .aload_n 0, 1), (8, .getfield 9, 3), (11, .iload_n 1, 1), (12, .invokestatic 495, 3), (15, .ireturn, 1), (16, .aload_n 0, 1), (17, .getfield 9, 3), (20, .iload_n 1, 1), (21, .invokestatic 498, 3), (24, .ireturn, 1)]
theorem gdJ0_charAt_5068e_l0 : dok cJ0_charAt_5068e dJ0_charAt_5068e_l0 = true := by decide +kernel
theorem dJ0_charAt_5068e_0 : decode cJ0_charAt_5068e 0 = .ok (.aload_n 0, 1) := dok_at gdJ0_charAt_5068e_l0 0 rfl
theorem dJ0_charAt_5068e_1 : decode cJ0_charAt_5068e 1 = .ok (.invokevirtual 492, 3) := dok_at gdJ0_charAt_5068e_l0 1 rfl
theorem dJ0_charAt_5068e_4 : decode cJ0_charAt_5068e 4 = .ok (.ifCond .eq 12, 3) := dok_at gdJ0_charAt_5068e_l0 2 rfl
theorem dJ0_charAt_5068e_7 : decode cJ0_charAt_5068e 7 = .ok (.aload_n 0, 1) := dok_at gdJ0_charAt_5068e_l0 3 rfl
theorem dJ0_charAt_5068e_8 : decode cJ0_charAt_5068e 8 = .ok (.getfield 9, 3) := dok_at gdJ0_charAt_5068e_l0 4 rfl
theorem dJ0_charAt_5068e_11 : decode cJ0_charAt_5068e 11 = .ok (.iload_n 1, 1) := dok_at gdJ0_charAt_5068e_l0 5 rfl
theorem dJ0_charAt_5068e_12 : decode cJ0_charAt_5068e 12 = .ok (.invokestatic 495, 3) := dok_at gdJ0_charAt_5068e_l0 6 rfl
theorem dJ0_charAt_5068e_15 : decode cJ0_charAt_5068e 15 = .ok (.ireturn, 1) := dok_at gdJ0_charAt_5068e_l0 7 rfl
theorem dJ0_charAt_5068e_16 : decode cJ0_charAt_5068e 16 = .ok (.aload_n 0, 1) := dok_at gdJ0_charAt_5068e_l0 8 rfl
theorem dJ0_charAt_5068e_17 : decode cJ0_charAt_5068e 17 = .ok (.getfield 9, 3) := dok_at gdJ0_charAt_5068e_l0 9 rfl
theorem dJ0_charAt_5068e_20 : decode cJ0_charAt_5068e 20 = .ok (.iload_n 1, 1) := dok_at gdJ0_charAt_5068e_l0 10 rfl
theorem dJ0_charAt_5068e_21 : decode cJ0_charAt_5068e 21 = .ok (.invokestatic 498, 3) := dok_at gdJ0_charAt_5068e_l0 11 rfl
theorem dJ0_charAt_5068e_24 : decode cJ0_charAt_5068e 24 = .ok (.ireturn, 1) := dok_at gdJ0_charAt_5068e_l0 12 rfl
def dJ0_coder_7d493_l0 : List (Nat × Instr × Nat) := [(0, .getstatic 38, 3), (3, .ifCond .eq 10, 3), (6, .aload_n 0, 1), (7, .getfield 15, 3), (10, .goto 4, 3), (13, .iconst 1, 1), (14, .ireturn, 1)]
theorem gdJ0_coder_7d493_l0 : dok cJ0_coder_7d493 dJ0_coder_7d493_l0 = true := by decide +kernel
theorem dJ0_coder_7d493_0 : decode cJ0_coder_7d493 0 = .ok (.getstatic 38, 3) := dok_at gdJ0_coder_7d493_l0 0 rfl
theorem dJ0_coder_7d493_3 : decode cJ0_coder_7d493 3 = .ok (.ifCond .eq 10, 3) := dok_at gdJ0_coder_7d493_l0 1 rfl
theorem dJ0_coder_7d493_6 : decode cJ0_coder_7d493 6 = .ok (.aload_n 0, 1) := dok_at gdJ0_coder_7d493_l0 2 rfl
theorem dJ0_coder_7d493_7 : decode cJ0_coder_7d493 7 = .ok (.getfield 15, 3) := dok_at gdJ0_coder_7d493_l0 3 rfl
theorem dJ0_coder_7d493_10 : decode cJ0_coder_7d493 10 = .ok (.goto 4, 3) := dok_at gdJ0_coder_7d493_l0 4 rfl
theorem dJ0_coder_7d493_13 : decode cJ0_coder_7d493 13 = .ok (.iconst 1, 1) := dok_at gdJ0_coder_7d493_l0 5 rfl
theorem dJ0_coder_7d493_14 : decode cJ0_coder_7d493 14 = .ok (.ireturn, 1) := dok_at gdJ0_coder_7d493_l0 6 rfl
def dJ0_isLatin1_aae02_l0 : List (Nat × Instr × Nat) := [(0, .getstatic 38, 3), (3, .ifCond .eq 14, 3), (6, .aload_n 0, 1), (7, .getfield 15, 3), (10, .ifCond .ne 7, 3), (13, .iconst 1, 1), (14, .goto 4, 3), (17, .iconst 0, 1), (18, .ireturn, 1)]
theorem gdJ0_isLatin1_aae02_l0 : dok cJ0_isLatin1_aae02 dJ0_isLatin1_aae02_l0 = true := by decide +kernel
theorem dJ0_isLatin1_aae02_0 : decode cJ0_isLatin1_aae02 0 = .ok (.getstatic 38, 3) := dok_at gdJ0_isLatin1_aae02_l0 0 rfl
theorem dJ0_isLatin1_aae02_3 : decode cJ0_isLatin1_aae02 3 = .ok (.ifCond .eq 14, 3) := dok_at gdJ0_isLatin1_aae02_l0 1 rfl
theorem dJ0_isLatin1_aae02_6 : decode cJ0_isLatin1_aae02 6 = .ok (.aload_n 0, 1) := dok_at gdJ0_isLatin1_aae02_l0 2 rfl
theorem dJ0_isLatin1_aae02_7 : decode cJ0_isLatin1_aae02 7 = .ok (.getfield 15, 3) := dok_at gdJ0_isLatin1_aae02_l0 3 rfl
theorem dJ0_isLatin1_aae02_10 : decode cJ0_isLatin1_aae02 10 = .ok (.ifCond .ne 7, 3) := dok_at gdJ0_isLatin1_aae02_l0 4 rfl
theorem dJ0_isLatin1_aae02_13 : decode cJ0_isLatin1_aae02 13 = .ok (.iconst 1, 1) := dok_at gdJ0_isLatin1_aae02_l0 5 rfl
theorem dJ0_isLatin1_aae02_14 : decode cJ0_isLatin1_aae02 14 = .ok (.goto 4, 3) := dok_at gdJ0_isLatin1_aae02_l0 6 rfl
theorem dJ0_isLatin1_aae02_17 : decode cJ0_isLatin1_aae02 17 = .ok (.iconst 0, 1) := dok_at gdJ0_isLatin1_aae02_l0 7 rfl
theorem dJ0_isLatin1_aae02_18 : decode cJ0_isLatin1_aae02 18 = .ok (.ireturn, 1) := dok_at gdJ0_isLatin1_aae02_l0 8 rfl
def dJ0_checkIndex_df160_l0 : List (Nat × Instr × Nat) := [(0, .iload_n 0, 1), (1, .iload_n 1, 1), (2, .getstatic 1053, 3), (5, .invokestatic 1059, 3), (8, .pop, 1), (9, .return_, 1)]
theorem gdJ0_checkIndex_df160_l0 : dok cJ0_checkIndex_df160 dJ0_checkIndex_df160_l0 = true := by decide +kernel
theorem dJ0_checkIndex_df160_0 : decode cJ0_checkIndex_df160 0 = .ok (.iload_n 0, 1) := dok_at gdJ0_checkIndex_df160_l0 0 rfl
theorem dJ0_checkIndex_df160_1 : decode cJ0_checkIndex_df160 1 = .ok (.iload_n 1, 1) := dok_at gdJ0_checkIndex_df160_l0 1 rfl
theorem dJ0_checkIndex_df160_2 : decode cJ0_checkIndex_df160 2 = .ok (.getstatic 1053, 3) := dok_at gdJ0_checkIndex_df160_l0 2 rfl
theorem dJ0_checkIndex_df160_5 : decode cJ0_checkIndex_df160 5 = .ok (.invokestatic 1059, 3) := dok_at gdJ0_checkIndex_df160_l0 3 rfl
theorem dJ0_checkIndex_df160_8 : decode cJ0_checkIndex_df160 8 = .ok (.pop, 1) := dok_at gdJ0_checkIndex_df160_l0 4 rfl
theorem dJ0_checkIndex_df160_9 : decode cJ0_checkIndex_df160 9 = .ok (.return_, 1) := dok_at gdJ0_checkIndex_df160_l0 5 rfl
def dJ1_charAt_3b067_l0 : List (Nat × Instr × Nat) := [(0, .iload_n 1, 1), (1, .aload_n 0, 1), (2, .arraylength, 1), (3, .invokestatic 9, 3), (6, .aload_n 0, 1), (7, .iload_n 1, 1), (8, .baload, 1), (9, .sipush 255, 3), (12, .iand, 1), (13, .i2c, 1), (14, .ireturn, 1)]
theorem gdJ1_charAt_3b067_l0 : dok cJ1_charAt_3b067 dJ1_charAt_3b067_l0 = true := by decide +kernel
theorem dJ1_charAt_3b067_0 : decode cJ1_charAt_3b067 0 = .ok (.iload_n 1, 1) := dok_at gdJ1_charAt_3b067_l0 0 rfl
theorem dJ1_charAt_3b067_1 : decode cJ1_charAt_3b067 1 = .ok (.aload_n 0, 1) := dok_at gdJ1_charAt_3b067_l0 1 rfl
theorem dJ1_charAt_3b067_2 : decode cJ1_charAt_3b067 2 = .ok (.arraylength, 1) := dok_at gdJ1_charAt_3b067_l0 2 rfl
theorem dJ1_charAt_3b067_3 : decode cJ1_charAt_3b067 3 = .ok (.invokestatic 9, 3) := dok_at gdJ1_charAt_3b067_l0 3 rfl
theorem dJ1_charAt_3b067_6 : decode cJ1_charAt_3b067 6 = .ok (.aload_n 0, 1) := dok_at gdJ1_charAt_3b067_l0 4 rfl
theorem dJ1_charAt_3b067_7 : decode cJ1_charAt_3b067 7 = .ok (.iload_n 1, 1) := dok_at gdJ1_charAt_3b067_l0 5 rfl
theorem dJ1_charAt_3b067_8 : decode cJ1_charAt_3b067 8 = .ok (.baload, 1) := dok_at gdJ1_charAt_3b067_l0 6 rfl
theorem dJ1_charAt_3b067_9 : decode cJ1_charAt_3b067 9 = .ok (.sipush 255, 3) := dok_at gdJ1_charAt_3b067_l0 7 rfl
theorem dJ1_charAt_3b067_12 : decode cJ1_charAt_3b067 12 = .ok (.iand, 1) := dok_at gdJ1_charAt_3b067_l0 8 rfl
theorem dJ1_charAt_3b067_13 : decode cJ1_charAt_3b067 13 = .ok (.i2c, 1) := dok_at gdJ1_charAt_3b067_l0 9 rfl
theorem dJ1_charAt_3b067_14 : decode cJ1_charAt_3b067 14 = .ok (.ireturn, 1) := dok_at gdJ1_charAt_3b067_l0 10 rfl
def dJ2_getChar_3b067_l0 : List (Nat × Instr × Nat) := [(0, .getstatic 44, 3), (3, .ifCond .ne 25, 3), (6, .iload_n 1, 1), (7, .ifCond .lt 11, 3), (10, .iload_n 1, 1), (11, .aload_n 0, 1), (12, .invokestatic 48, 3), (15, .if_icmp .lt 13, 3), (18, .new 52, 3), (21, .dup, 1), (22, .ldc 54, 2), (24, .invokespecial 56, 3), (27, .athrow, 1), (28, .iload_n 1, 1), (29, .iconst 1, 1), (30, .ishl, 1), (31, .istore_n 1, 1), (32, .aload_n 0, 1), (33, .iload_n 1, 1), (34, .iinc 1 1, 3), (37, .baload, 1), (38, .sipush 255, 3), (41, .iand, 1), (42, .getstatic 59, 3)]
theorem gdJ2_getChar_3b067_l0 : dok cJ2_getChar_3b067 dJ2_getChar_3b067_l0 = true := by decide +kernel
theorem dJ2_getChar_3b067_0 : decode cJ2_getChar_3b067 0 = .ok (.getstatic 44, 3) := dok_at gdJ2_getChar_3b067_l0 0 rfl
theorem dJ2_getChar_3b067_3 : decode cJ2_getChar_3b067 3 = .ok (.ifCond .ne 25, 3) := dok_at gdJ2_getChar_3b067_l0 1 rfl
theorem dJ2_getChar_3b067_6 : decode cJ2_getChar_3b067 6 = .ok (.iload_n 1, 1) := dok_at gdJ2_getChar_3b067_l0 2 rfl
theorem dJ2_getChar_3b067_7 : decode cJ2_getChar_3b067 7 = .ok (.ifCond .lt 11, 3) := dok_at gdJ2_getChar_3b067_l0 3 rfl
theorem dJ2_getChar_3b067_10 : decode cJ2_getChar_3b067 10 = .ok (.iload_n 1, 1) := dok_at gdJ2_getChar_3b067_l0 4 rfl
theorem dJ2_getChar_3b067_11 : decode cJ2_getChar_3b067 11 = .ok (.aload_n 0, 1) := dok_at gdJ2_getChar_3b067_l0 5 rfl
theorem dJ2_getChar_3b067_12 : decode cJ2_getChar_3b067 12 = .ok (.invokestatic 48, 3) := dok_at gdJ2_getChar_3b067_l0 6 rfl
theorem dJ2_getChar_3b067_15 : decode cJ2_getChar_3b067 15 = .ok (.if_icmp .lt 13, 3) := dok_at gdJ2_getChar_3b067_l0 7 rfl
theorem dJ2_getChar_3b067_18 : decode cJ2_getChar_3b067 18 = .ok (.new 52, 3) := dok_at gdJ2_getChar_3b067_l0 8 rfl
theorem dJ2_getChar_3b067_21 : decode cJ2_getChar_3b067 21 = .ok (.dup, 1) := dok_at gdJ2_getChar_3b067_l0 9 rfl
theorem dJ2_getChar_3b067_22 : decode cJ2_getChar_3b067 22 = .ok (.ldc 54, 2) := dok_at gdJ2_getChar_3b067_l0 10 rfl
theorem dJ2_getChar_3b067_24 : decode cJ2_getChar_3b067 24 = .ok (.invokespecial 56, 3) := dok_at gdJ2_getChar_3b067_l0 11 rfl
theorem dJ2_getChar_3b067_27 : decode cJ2_getChar_3b067 27 = .ok (.athrow, 1) := dok_at gdJ2_getChar_3b067_l0 12 rfl
theorem dJ2_getChar_3b067_28 : decode cJ2_getChar_3b067 28 = .ok (.iload_n 1, 1) := dok_at gdJ2_getChar_3b067_l0 13 rfl
theorem dJ2_getChar_3b067_29 : decode cJ2_getChar_3b067 29 = .ok (.iconst 1, 1) := dok_at gdJ2_getChar_3b067_l0 14 rfl
theorem dJ2_getChar_3b067_30 : decode cJ2_getChar_3b067 30 = .ok (.ishl, 1) := dok_at gdJ2_getChar_3b067_l0 15 rfl
theorem dJ2_getChar_3b067_31 : decode cJ2_getChar_3b067 31 = .ok (.istore_n 1, 1) := dok_at gdJ2_getChar_3b067_l0 16 rfl
theorem dJ2_getChar_3b067_32 : decode cJ2_getChar_3b067 32 = .ok (.aload_n 0, 1) := dok_at gdJ2_getChar_3b067_l0 17 rfl
theorem dJ2_getChar_3b067_33 : decode cJ2_getChar_3b067 33 = .ok (.iload_n 1, 1) := dok_at gdJ2_getChar_3b067_l0 18 rfl
theorem dJ2_getChar_3b067_34 : decode cJ2_getChar_3b067 34 = .ok (.iinc 1 1, 3) := dok_at gdJ2_getChar_3b067_l0 19 rfl
theorem dJ2_getChar_3b067_37 : decode cJ2_getChar_3b067 37 = .ok (.baload, 1) := dok_at gdJ2_getChar_3b067_l0 20 rfl
theorem dJ2_getChar_3b067_38 : decode cJ2_getChar_3b067 38 = .ok (.sipush 255, 3) := dok_at gdJ2_getChar_3b067_l0 21 rfl
theorem dJ2_getChar_3b067_41 : decode cJ2_getChar_3b067 41 = .ok (.iand, 1) := dok_at gdJ2_getChar_3b067_l0 22 rfl
theorem dJ2_getChar_3b067_42 : decode cJ2_getChar_3b067 42 = .ok (.getstatic 59, 3) := dok_at gdJ2_getChar_3b067_l0 23 rfl
def dJ2_getChar_3b067_l45 : List (Nat × Instr × Nat) := [(45, .ishl, 1), (46, .aload_n 0, 1), (47, .iload_n 1, 1), (48, .baload, 1), (49, .sipush 255, 3), (52, .iand, 1), (53, .getstatic 63, 3), (56, .ishl, 1), (57, .ior, 1), (58, .i2c, 1), (59, .ireturn, 1)]
theorem gdJ2_getChar_3b067_l45 : dok cJ2_getChar_3b067 dJ2_getChar_3b067_l45 = true := by decide +kernel
theorem dJ2_getChar_3b067_45 : decode cJ2_getChar_3b067 45 = .ok (.ishl, 1) := dok_at gdJ2_getChar_3b067_l45 0 rfl
theorem dJ2_getChar_3b067_46 : decode cJ2_getChar_3b067 46 = .ok (.aload_n 0, 1) := dok_at gdJ2_getChar_3b067_l45 1 rfl
theorem dJ2_getChar_3b067_47 : decode cJ2_getChar_3b067 47 = .ok (.iload_n 1, 1) := dok_at gdJ2_getChar_3b067_l45 2 rfl
theorem dJ2_getChar_3b067_48 : decode cJ2_getChar_3b067 48 = .ok (.baload, 1) := dok_at gdJ2_getChar_3b067_l45 3 rfl
theorem dJ2_getChar_3b067_49 : decode cJ2_getChar_3b067 49 = .ok (.sipush 255, 3) := dok_at gdJ2_getChar_3b067_l45 4 rfl
theorem dJ2_getChar_3b067_52 : decode cJ2_getChar_3b067 52 = .ok (.iand, 1) := dok_at gdJ2_getChar_3b067_l45 5 rfl
theorem dJ2_getChar_3b067_53 : decode cJ2_getChar_3b067 53 = .ok (.getstatic 63, 3) := dok_at gdJ2_getChar_3b067_l45 6 rfl
theorem dJ2_getChar_3b067_56 : decode cJ2_getChar_3b067 56 = .ok (.ishl, 1) := dok_at gdJ2_getChar_3b067_l45 7 rfl
theorem dJ2_getChar_3b067_57 : decode cJ2_getChar_3b067 57 = .ok (.ior, 1) := dok_at gdJ2_getChar_3b067_l45 8 rfl
theorem dJ2_getChar_3b067_58 : decode cJ2_getChar_3b067 58 = .ok (.i2c, 1) := dok_at gdJ2_getChar_3b067_l45 9 rfl
theorem dJ2_getChar_3b067_59 : decode cJ2_getChar_3b067 59 = .ok (.ireturn, 1) := dok_at gdJ2_getChar_3b067_l45 10 rfl
def dJ2_length_9d52b_l0 : List (Nat × Instr × Nat) := [(0, .aload_n 0, 1), (1, .arraylength, 1), (2, .iconst 1, 1), (3, .ishr, 1), (4, .ireturn, 1)]
theorem gdJ2_length_9d52b_l0 : dok cJ2_length_9d52b dJ2_length_9d52b_l0 = true := by decide +kernel
theorem dJ2_length_9d52b_0 : decode cJ2_length_9d52b 0 = .ok (.aload_n 0, 1) := dok_at gdJ2_length_9d52b_l0 0 rfl
theorem dJ2_length_9d52b_1 : decode cJ2_length_9d52b 1 = .ok (.arraylength, 1) := dok_at gdJ2_length_9d52b_l0 1 rfl
theorem dJ2_length_9d52b_2 : decode cJ2_length_9d52b 2 = .ok (.iconst 1, 1) := dok_at gdJ2_length_9d52b_l0 2 rfl
theorem dJ2_length_9d52b_3 : decode cJ2_length_9d52b 3 = .ok (.ishr, 1) := dok_at gdJ2_length_9d52b_l0 3 rfl
theorem dJ2_length_9d52b_4 : decode cJ2_length_9d52b 4 = .ok (.ireturn, 1) := dok_at gdJ2_length_9d52b_l0 4 rfl
def dJ2_charAt_3b067_l0 : List (Nat × Instr × Nat) := [(0, .iload_n 1, 1), (1, .aload_n 0, 1), (2, .invokestatic 67, 3), (5, .aload_n 0, 1), (6, .iload_n 1, 1), (7, .invokestatic 71, 3), (10, .ireturn, 1)]
theorem gdJ2_charAt_3b067_l0 : dok cJ2_charAt_3b067 dJ2_charAt_3b067_l0 = true := by decide +kernel
theorem dJ2_charAt_3b067_0 : decode cJ2_charAt_3b067 0 = .ok (.iload_n 1, 1) := dok_at gdJ2_charAt_3b067_l0 0 rfl
theorem dJ2_charAt_3b067_1 : decode cJ2_charAt_3b067 1 = .ok (.aload_n 0, 1) := dok_at gdJ2_charAt_3b067_l0 1 rfl
theorem dJ2_charAt_3b067_2 : decode cJ2_charAt_3b067 2 = .ok (.invokestatic 67, 3) := dok_at gdJ2_charAt_3b067_l0 2 rfl
theorem dJ2_charAt_3b067_5 : decode cJ2_charAt_3b067 5 = .ok (.aload_n 0, 1) := dok_at gdJ2_charAt_3b067_l0 3 rfl
theorem dJ2_charAt_3b067_6 : decode cJ2_charAt_3b067 6 = .ok (.iload_n 1, 1) := dok_at gdJ2_charAt_3b067_l0 4 rfl
theorem dJ2_charAt_3b067_7 : decode cJ2_charAt_3b067 7 = .ok (.invokestatic 71, 3) := dok_at gdJ2_charAt_3b067_l0 5 rfl
theorem dJ2_charAt_3b067_10 : decode cJ2_charAt_3b067 10 = .ok (.ireturn, 1) := dok_at gdJ2_charAt_3b067_l0 6 rfl
def dJ2_checkIndex_2214a_l0 : List (Nat × Instr × Nat) := [(0, .iload_n 0, 1), (1, .aload_n 1, 1), (2, .invokestatic 48, 3), (5, .invokestatic 414, 3), (8, .return_, 1)]
theorem gdJ2_checkIndex_2214a_l0 : dok cJ2_checkIndex_2214a dJ2_checkIndex_2214a_l0 = true := by decide +kernel
theorem dJ2_checkIndex_2214a_0 : decode cJ2_checkIndex_2214a 0 = .ok (.iload_n 0, 1) := dok_at gdJ2_checkIndex_2214a_l0 0 rfl
theorem dJ2_checkIndex_2214a_1 : decode cJ2_checkIndex_2214a 1 = .ok (.aload_n 1, 1) := dok_at gdJ2_checkIndex_2214a_l0 1 rfl
theorem dJ2_checkIndex_2214a_2 : decode cJ2_checkIndex_2214a 2 = .ok (.invokestatic 48, 3) := dok_at gdJ2_checkIndex_2214a_l0 2 rfl
theorem dJ2_checkIndex_2214a_5 : decode cJ2_checkIndex_2214a 5 = .ok (.invokestatic 414, 3) := dok_at gdJ2_checkIndex_2214a_l0 3 rfl
theorem dJ2_checkIndex_2214a_8 : decode cJ2_checkIndex_2214a 8 = .ok (.return_, 1) := dok_at gdJ2_checkIndex_2214a_l0 4 rfl
def dJ7_fill_d0a16_l0 : List (Nat × Instr × Nat) := [(0, .iconst 0, 1), (1, .istore_n 3, 1), (2, .aload_n 0, 1), (3, .arraylength, 1), (4, .istore 4, 2), (6, .iload_n 3, 1), (7, .iload 4, 2), (9, .if_icmp .ge 13, 3), (12, .aload_n 0, 1), (13, .iload_n 3, 1), (14, .lload_n 1, 1), (15, .lastore, 1), (16, .iinc 3 1, 3), (19, .goto (-13), 3), (22, .return_, 1)]
theorem gdJ7_fill_d0a16_l0 : dok cJ7_fill_d0a16 dJ7_fill_d0a16_l0 = true := by decide +kernel
theorem dJ7_fill_d0a16_0 : decode cJ7_fill_d0a16 0 = .ok (.iconst 0, 1) := dok_at gdJ7_fill_d0a16_l0 0 rfl
theorem dJ7_fill_d0a16_1 : decode cJ7_fill_d0a16 1 = .ok (.istore_n 3, 1) := dok_at gdJ7_fill_d0a16_l0 1 rfl
theorem dJ7_fill_d0a16_2 : decode cJ7_fill_d0a16 2 = .ok (.aload_n 0, 1) := dok_at gdJ7_fill_d0a16_l0 2 rfl
theorem dJ7_fill_d0a16_3 : decode cJ7_fill_d0a16 3 = .ok (.arraylength, 1) := dok_at gdJ7_fill_d0a16_l0 3 rfl
theorem dJ7_fill_d0a16_4 : decode cJ7_fill_d0a16 4 = .ok (.istore 4, 2) := dok_at gdJ7_fill_d0a16_l0 4 rfl
theorem dJ7_fill_d0a16_6 : decode cJ7_fill_d0a16 6 = .ok (.iload_n 3, 1) := dok_at gdJ7_fill_d0a16_l0 5 rfl
theorem dJ7_fill_d0a16_7 : decode cJ7_fill_d0a16 7 = .ok (.iload 4, 2) := dok_at gdJ7_fill_d0a16_l0 6 rfl
theorem dJ7_fill_d0a16_9 : decode cJ7_fill_d0a16 9 = .ok (.if_icmp .ge 13, 3) := dok_at gdJ7_fill_d0a16_l0 7 rfl
theorem dJ7_fill_d0a16_12 : decode cJ7_fill_d0a16 12 = .ok (.aload_n 0, 1) := dok_at gdJ7_fill_d0a16_l0 8 rfl
theorem dJ7_fill_d0a16_13 : decode cJ7_fill_d0a16 13 = .ok (.iload_n 3, 1) := dok_at gdJ7_fill_d0a16_l0 9 rfl
theorem dJ7_fill_d0a16_14 : decode cJ7_fill_d0a16 14 = .ok (.lload_n 1, 1) := dok_at gdJ7_fill_d0a16_l0 10 rfl
theorem dJ7_fill_d0a16_15 : decode cJ7_fill_d0a16 15 = .ok (.lastore, 1) := dok_at gdJ7_fill_d0a16_l0 11 rfl
theorem dJ7_fill_d0a16_16 : decode cJ7_fill_d0a16 16 = .ok (.iinc 3 1, 3) := dok_at gdJ7_fill_d0a16_l0 12 rfl
theorem dJ7_fill_d0a16_19 : decode cJ7_fill_d0a16 19 = .ok (.goto (-13), 3) := dok_at gdJ7_fill_d0a16_l0 13 rfl
theorem dJ7_fill_d0a16_22 : decode cJ7_fill_d0a16 22 = .ok (.return_, 1) := dok_at gdJ7_fill_d0a16_l0 14 rfl
def dJ7_fill_53178_l0 : List (Nat × Instr × Nat) := [(0, .iconst 0, 1), (1, .istore_n 2, 1), (2, .aload_n 0, 1), (3, .arraylength, 1), (4, .istore_n 3, 1), (5, .iload_n 2, 1), (6, .iload_n 3, 1), (7, .if_icmp .ge 13, 3), (10, .aload_n 0, 1), (11, .iload_n 2, 1), (12, .iload_n 1, 1), (13, .iastore, 1), (14, .iinc 2 1, 3), (17, .goto (-12), 3), (20, .return_, 1)]
theorem gdJ7_fill_53178_l0 : dok cJ7_fill_53178 dJ7_fill_53178_l0 = true := by decide +kernel
theorem dJ7_fill_53178_0 : decode cJ7_fill_53178 0 = .ok (.iconst 0, 1) := dok_at gdJ7_fill_53178_l0 0 rfl
theorem dJ7_fill_53178_1 : decode cJ7_fill_53178 1 = .ok (.istore_n 2, 1) := dok_at gdJ7_fill_53178_l0 1 rfl
theorem dJ7_fill_53178_2 : decode cJ7_fill_53178 2 = .ok (.aload_n 0, 1) := dok_at gdJ7_fill_53178_l0 2 rfl
theorem dJ7_fill_53178_3 : decode cJ7_fill_53178 3 = .ok (.arraylength, 1) := dok_at gdJ7_fill_53178_l0 3 rfl
theorem dJ7_fill_53178_4 : decode cJ7_fill_53178 4 = .ok (.istore_n 3, 1) := dok_at gdJ7_fill_53178_l0 4 rfl
theorem dJ7_fill_53178_5 : decode cJ7_fill_53178 5 = .ok (.iload_n 2, 1) := dok_at gdJ7_fill_53178_l0 5 rfl
theorem dJ7_fill_53178_6 : decode cJ7_fill_53178 6 = .ok (.iload_n 3, 1) := dok_at gdJ7_fill_53178_l0 6 rfl
theorem dJ7_fill_53178_7 : decode cJ7_fill_53178 7 = .ok (.if_icmp .ge 13, 3) := dok_at gdJ7_fill_53178_l0 7 rfl
theorem dJ7_fill_53178_10 : decode cJ7_fill_53178 10 = .ok (.aload_n 0, 1) := dok_at gdJ7_fill_53178_l0 8 rfl
theorem dJ7_fill_53178_11 : decode cJ7_fill_53178 11 = .ok (.iload_n 2, 1) := dok_at gdJ7_fill_53178_l0 9 rfl
theorem dJ7_fill_53178_12 : decode cJ7_fill_53178 12 = .ok (.iload_n 1, 1) := dok_at gdJ7_fill_53178_l0 10 rfl
theorem dJ7_fill_53178_13 : decode cJ7_fill_53178 13 = .ok (.iastore, 1) := dok_at gdJ7_fill_53178_l0 11 rfl
theorem dJ7_fill_53178_14 : decode cJ7_fill_53178 14 = .ok (.iinc 2 1, 3) := dok_at gdJ7_fill_53178_l0 12 rfl
theorem dJ7_fill_53178_17 : decode cJ7_fill_53178 17 = .ok (.goto (-12), 3) := dok_at gdJ7_fill_53178_l0 13 rfl
theorem dJ7_fill_53178_20 : decode cJ7_fill_53178 20 = .ok (.return_, 1) := dok_at gdJ7_fill_53178_l0 14 rfl
def dJ3_checkIndex_8e157_l0 : List (Nat × Instr × Nat) := [(0, .iload_n 0, 1), (1, .ifCond .lt 8, 3), (4, .iload_n 0, 1), (5, .iload_n 1, 1), (6, .if_icmp .lt 10, 3), (9, .aload_n 2, 1), (10, .iload_n 0, 1), (11, .iload_n 1, 1), (12, .invokestatic 95, 3), (15, .athrow, 1), (16, .iload_n 0, 1), (17, .ireturn, 1)]
theorem gdJ3_checkIndex_8e157_l0 : dok cJ3_checkIndex_8e157 dJ3_checkIndex_8e157_l0 = true := by decide +kernel
theorem dJ3_checkIndex_8e157_0 : decode cJ3_checkIndex_8e157 0 = .ok (.iload_n 0, 1) := dok_at gdJ3_checkIndex_8e157_l0 0 rfl
theorem dJ3_checkIndex_8e157_1 : decode cJ3_checkIndex_8e157 1 = .ok (.ifCond .lt 8, 3) := dok_at gdJ3_checkIndex_8e157_l0 1 rfl
theorem dJ3_checkIndex_8e157_4 : decode cJ3_checkIndex_8e157 4 = .ok (.iload_n 0, 1) := dok_at gdJ3_checkIndex_8e157_l0 2 rfl
theorem dJ3_checkIndex_8e157_5 : decode cJ3_checkIndex_8e157 5 = .ok (.iload_n 1, 1) := dok_at gdJ3_checkIndex_8e157_l0 3 rfl
theorem dJ3_checkIndex_8e157_6 : decode cJ3_checkIndex_8e157 6 = .ok (.if_icmp .lt 10, 3) := dok_at gdJ3_checkIndex_8e157_l0 4 rfl
theorem dJ3_checkIndex_8e157_9 : decode cJ3_checkIndex_8e157 9 = .ok (.aload_n 2, 1) := dok_at gdJ3_checkIndex_8e157_l0 5 rfl
theorem dJ3_checkIndex_8e157_10 : decode cJ3_checkIndex_8e157 10 = .ok (.iload_n 0, 1) := dok_at gdJ3_checkIndex_8e157_l0 6 rfl
theorem dJ3_checkIndex_8e157_11 : decode cJ3_checkIndex_8e157 11 = .ok (.iload_n 1, 1) := dok_at gdJ3_checkIndex_8e157_l0 7 rfl
theorem dJ3_checkIndex_8e157_12 : decode cJ3_checkIndex_8e157 12 = .ok (.invokestatic 95, 3) := dok_at gdJ3_checkIndex_8e157_l0 8 rfl
theorem dJ3_checkIndex_8e157_15 : decode cJ3_checkIndex_8e157 15 = .ok (.athrow, 1) := dok_at gdJ3_checkIndex_8e157_l0 9 rfl
theorem dJ3_checkIndex_8e157_16 : decode cJ3_checkIndex_8e157 16 = .ok (.iload_n 0, 1) := dok_at gdJ3_checkIndex_8e157_l0 10 rfl
theorem dJ3_checkIndex_8e157_17 : decode cJ3_checkIndex_8e157 17 = .ok (.ireturn, 1) := dok_at gdJ3_checkIndex_8e157_l0 11 rfl
